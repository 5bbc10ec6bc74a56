/-! Moments: copies, a tick, the past. -/
theorem r_putz0 {C : hC} {pc : Nat} {L : List (Option hV)} {r : List hV} {S : hS} {o : Option Int32 × hS} {p0 nx a b q idx c : Nat} {v x : Int32} (hf : hFetch C pc = some (p0, .putfield idx, nx, a, b, 2, q, v)) (hx : x = 0 ∨ x = 1) (k : Rn C nx L r (hPut S c b x) o) : Rn C pc L (.inl x :: .inr (some (a, c)) :: r) S o := r_putz hf hx (fun S1 e => by subst e; exact k)
def wNew (w : Nat → Int32) : Nat → Int32 := upd (upd (upd (upd (upd (upd (upd (upd (upd (upd (upd (upd (upd (upd (upd (upd w 0 0) 1 0) 2 90) 3 0) 4 0) 5 0) 6 0) 7 0) 8 0) 9 1) 10 1) 11 0) 12 0) 13 0) 14 0) 15 0
def wCopy (w u : Nat → Int32) : Nat → Int32 := upd (upd (upd (upd (upd (upd (upd (upd (upd (upd (upd (upd (upd (upd (upd (upd w 0 (u 0)) 1 (u 1)) 2 (u 2)) 3 (u 3)) 4 (u 4)) 5 (u 5)) 6 (u 6)) 7 (u 7)) 8 (u 8)) 9 (u 9)) 10 (u 10)) 11 (u 11)) 12 (u 12)) 13 (u 13)) 14 (u 14)) 15 (u 15)
def isB (x : Int32) : Prop := x = 0 ∨ x = 1
set_option maxHeartbeats 4000000 in
set_option maxRecDepth 100000 in
theorem e_wnew (c : Nat) (S : hS) : Ev 45 [.inr (some (8, c))] S (none, hRow S c (wNew (S.2.1 c))) := by
  show Rn hc_X8_startAnew 0 [some (.inr (some (8, c)))] [] S _
  repeat' (first | refine r_retn rfl ?_ | refine r_step rfl rfl ?_ | with_reducible refine r_i_eq (fun c => ?_) (fun c => ?_) | with_reducible refine r_i_ne (fun c => ?_) (fun c => ?_) | with_reducible refine r_i_lt (fun c => ?_) (fun c => ?_) | with_reducible refine r_i_ge (fun c => ?_) (fun c => ?_) | with_reducible refine r_i_gt (fun c => ?_) (fun c => ?_) | with_reducible refine r_i_le (fun c => ?_) (fun c => ?_))
  simp only [hPut_eq, hRow_at, hRow_row, wNew]
set_option maxHeartbeats 4000000 in
set_option maxRecDepth 100000 in
theorem e_wcopy (c d : Nat) (S : hS) (hne : d ≠ c) (b9 : isB (S.2.1 d 9)) (b10 : isB (S.2.1 d 10)) (b15 : isB (S.2.1 d 15)) : Ev 42 [.inr (some (8, c)), .inr (some (8, d))] S (none, hRow S c (wCopy (S.2.1 c) (S.2.1 d))) := by
  show Rn hc_X8_become 0 [some (.inr (some (8, c))), some (.inr (some (8, d)))] [] S _
  repeat' (first | refine r_step rfl rfl ?_ | with_reducible refine r_i_eq (fun c => ?_) (fun c => ?_) | with_reducible refine r_i_ne (fun c => ?_) (fun c => ?_) | with_reducible refine r_i_lt (fun c => ?_) (fun c => ?_) | with_reducible refine r_i_ge (fun c => ?_) (fun c => ?_) | with_reducible refine r_i_gt (fun c => ?_) (fun c => ?_) | with_reducible refine r_i_le (fun c => ?_) (fun c => ?_))
  simp only [hPut_ne hne, hPut_eq, hRow_at, hRow_row, hRow_ne _ _ hne]
  refine r_putz0 rfl b9 ?_
  repeat' (first | refine r_step rfl rfl ?_ | with_reducible refine r_i_eq (fun c => ?_) (fun c => ?_) | with_reducible refine r_i_ne (fun c => ?_) (fun c => ?_) | with_reducible refine r_i_lt (fun c => ?_) (fun c => ?_) | with_reducible refine r_i_ge (fun c => ?_) (fun c => ?_) | with_reducible refine r_i_gt (fun c => ?_) (fun c => ?_) | with_reducible refine r_i_le (fun c => ?_) (fun c => ?_))
  simp only [hPut_ne hne, hPut_eq, hRow_at, hRow_row, hRow_ne _ _ hne]
  refine r_putz0 rfl b10 ?_
  repeat' (first | refine r_step rfl rfl ?_ | with_reducible refine r_i_eq (fun c => ?_) (fun c => ?_) | with_reducible refine r_i_ne (fun c => ?_) (fun c => ?_) | with_reducible refine r_i_lt (fun c => ?_) (fun c => ?_) | with_reducible refine r_i_ge (fun c => ?_) (fun c => ?_) | with_reducible refine r_i_gt (fun c => ?_) (fun c => ?_) | with_reducible refine r_i_le (fun c => ?_) (fun c => ?_))
  simp only [hPut_ne hne, hPut_eq, hRow_at, hRow_row, hRow_ne _ _ hne]
  refine r_putz0 rfl b15 ?_
  refine r_retn rfl ?_
  simp only [hPut_ne hne, hPut_eq, hRow_at, hRow_row, wCopy, hRow_ne _ _ hne]
theorem wCopy_at {w u : Nat → Int32} : ∀ j, j < 16 → wCopy w u j = u j := by
  intro j hj
  match j, hj with
  | 0, _ | 1, _ | 2, _ | 3, _ | 4, _ | 5, _ | 6, _ | 7, _ | 8, _ | 9, _ | 10, _ | 11, _ | 12, _ | 13, _ | 14, _ | 15, _ => rfl
  | n + 16, h => exact absurd h (by omega)
def tNew (t : Nat → Int32) : Nat → Int32 := upd (upd t 1 0) 2 0
theorem e_tnew (c : Nat) (S : hS) : Ev 40 [.inr (some (7, c))] S (none, hRow S c (tNew (S.2.1 c))) := by
  show Rn hc_X7_startAnew 0 [some (.inr (some (7, c)))] [] S _
  repeat' (first | refine r_retn rfl ?_ | refine r_step rfl rfl ?_ | with_reducible refine r_i_eq (fun c => ?_) (fun c => ?_) | with_reducible refine r_i_ne (fun c => ?_) (fun c => ?_) | with_reducible refine r_i_lt (fun c => ?_) (fun c => ?_) | with_reducible refine r_i_ge (fun c => ?_) (fun c => ?_) | with_reducible refine r_i_gt (fun c => ?_) (fun c => ?_) | with_reducible refine r_i_le (fun c => ?_) (fun c => ?_))
  simp only [hPut_eq, hRow_at, hRow_row, tNew]
/-- a copy of a row of 40 -/
theorem e_tcopy (c d ca da : Nat) (S : hS) (h1 : S.2.2 c 0 = some (10040, ca)) (h2 : S.2.2 d 0 = some (10040, da)) (n1 : d ≠ c) (n2 : ca ≠ c) (n3 : d ≠ ca) : Ev 84 [.inr (some (7, c)), .inr (some (7, d))] S (none, hRow (hRow S ca (va_cpy (S.2.1 da) (S.2.1 ca) 0 0 40)) c (upd (upd (S.2.1 c) 1 (S.2.1 d 1)) 2 (S.2.1 d 2))) := by
  show Rn hc_X7_become 0 [some (.inr (some (7, c))), some (.inr (some (7, d)))] [] S _
  refine r_step rfl rfl ?_
  refine r_getr rfl h2 ?_
  iterate 2 refine r_step rfl rfl ?_
  refine r_getr rfl h1 ?_
  iterate 3 refine r_step rfl rfl ?_
  show Rn hc_X7_become 15 _ _ (hRow S ca (va_cpy (S.2.1 da) (S.2.1 ca) 0 0 40)) _
  generalize hV : va_cpy (S.2.1 da) (S.2.1 ca) 0 0 40 = V
  repeat' (first | refine r_retn rfl ?_ | refine r_step rfl rfl ?_ | with_reducible refine r_i_eq (fun c => ?_) (fun c => ?_) | with_reducible refine r_i_ne (fun c => ?_) (fun c => ?_) | with_reducible refine r_i_lt (fun c => ?_) (fun c => ?_) | with_reducible refine r_i_ge (fun c => ?_) (fun c => ?_) | with_reducible refine r_i_gt (fun c => ?_) (fun c => ?_) | with_reducible refine r_i_le (fun c => ?_) (fun c => ?_))
  simp only [hPut_ne n1, hPut_eq, hRow_at, hRow_row, hRow_ne _ _ n1, hRow_ne _ _ n3, hRow_ne _ _ (Ne.symm n2)]
/-- the moment at a place: its wheel, its trace, its row lie behind it -/
def isMom (S : hS) (c : Nat) : Prop := S.2.2 c 0 = some (8, c + 1) ∧ S.2.2 c 1 = some (7, c + 2) ∧ S.2.2 (c + 2) 0 = some (10040, c + 3)
def momEq (S' : hS) (c : Nat) (S : hS) (d : Nat) : Prop := (∀ j, j < 16 → S'.2.1 (c + 1) j = S.2.1 (d + 1) j) ∧ S'.2.1 (c + 2) 1 = S.2.1 (d + 2) 1 ∧ S'.2.1 (c + 2) 2 = S.2.1 (d + 2) 2 ∧ (∀ j, j < 40 → S'.2.1 (c + 3) j = S.2.1 (d + 3) j) ∧ S'.2.1 c 2 = S.2.1 d 2 ∧ S'.2.1 c 3 = S.2.1 d 3
/-- nothing but the cells from a to b changes, and there the numbers alone -/
def hFr (S S' : hS) (P : Nat → Prop) : Prop := S'.1 = S.1 ∧ S'.2.2 = S.2.2 ∧ ∀ p, ¬ P p → S'.2.1 p = S.2.1 p
theorem hFr.trans {S S1 S2 : hS} {P : Nat → Prop} (a : hFr S S1 P) (b : hFr S1 S2 P) : hFr S S2 P := ⟨b.1.trans a.1, b.2.1.trans a.2.1, fun p hp => (b.2.2 p hp).trans (a.2.2 p hp)⟩
theorem hFr.mono {S S1 : hS} {P Q : Nat → Prop} (a : hFr S S1 P) (h : ∀ p, P p → Q p) : hFr S S1 Q := ⟨a.1, a.2.1, fun p hp => a.2.2 p (fun q => hp (h p q))⟩
theorem hFr.rf (S : hS) (P : Nat → Prop) : hFr S S P := ⟨rfl, rfl, fun _ _ => rfl⟩
theorem hFr_row (S : hS) (c : Nat) (f : Nat → Int32) {P : Nat → Prop} (h : P c) : hFr S (hRow S c f) P := ⟨rfl, rfl, fun p hp => hRow_ne S f (fun e => hp (by rw [e]; exact h))⟩
theorem hFr_put (S : hS) (c k : Nat) (x : Int32) {P : Nat → Prop} (h : P c) : hFr S (hPut S c k x) P := hFr_row S c _ h
set_option maxHeartbeats 4000000 in
set_option maxRecDepth 100000 in
theorem e_mcopy (c d : Nat) (S : hS) (hc : isMom S c) (hd : isMom S d) (hap : c + 4 ≤ d ∨ d + 4 ≤ c) (b9 : isB (S.2.1 (d + 1) 9)) (b10 : isB (S.2.1 (d + 1) 10)) (b15 : isB (S.2.1 (d + 1) 15)) : ∃ S', Ev 97 [.inr (some (0, c)), .inr (some (0, d))] S (none, S') ∧ momEq S' c S d ∧ hFr S S' (fun p => c ≤ p ∧ p < c + 4) := by
  obtain ⟨c1, c2, c3⟩ := hc
  obtain ⟨d1, d2, d3⟩ := hd
  refine ⟨hRow (hRow (hRow (hRow S (c + 1) (wCopy (S.2.1 (c + 1)) (S.2.1 (d + 1)))) (c + 3) (va_cpy (S.2.1 (d + 3)) (S.2.1 (c + 3)) 0 0 40)) (c + 2) (upd (upd (S.2.1 (c + 2)) 1 (S.2.1 (d + 2) 1)) 2 (S.2.1 (d + 2) 2))) c (upd (upd (S.2.1 c) 2 (S.2.1 d 2)) 3 (S.2.1 d 3)), ?_, ?_, ?_⟩
  · show Rn hc_X0_become 0 [some (.inr (some (0, c))), some (.inr (some (0, d)))] [] S _
    refine r_step rfl rfl ?_
    refine r_getr rfl c1 ?_
    refine r_step rfl rfl ?_
    refine r_getr rfl d1 ?_
    refine r_callv rfl rfl (e_wcopy _ _ S (by omega) b9 b10 b15) ?_
    refine r_step rfl rfl ?_
    refine r_getr rfl c2 ?_
    refine r_step rfl rfl ?_
    refine r_getr rfl d2 ?_
    refine r_callv rfl rfl (e_tcopy (c + 2) (d + 2) (c + 3) (d + 3) _ c3 d3 (by omega) (by omega) (by omega)) ?_
    have n1 : d + 3 ≠ c + 1 := by omega
    have n2 : c + 3 ≠ c + 1 := by omega
    have n3 : c + 2 ≠ c + 1 := by omega
    have n4 : d + 2 ≠ c + 1 := by omega
    simp only [hRow_ne _ _ n1, hRow_ne _ _ n2, hRow_ne _ _ n3, hRow_ne _ _ n4]
    have m1 : c ≠ c + 1 := by omega
    have m2 : c ≠ c + 2 := by omega
    have m3 : c ≠ c + 3 := by omega
    have k0 : d ≠ c := by omega
    have k1 : d ≠ c + 1 := by omega
    have k2 : d ≠ c + 2 := by omega
    have k3 : d ≠ c + 3 := by omega
    repeat' (first | refine r_retn rfl ?_ | refine r_step rfl rfl ?_ | with_reducible refine r_i_eq (fun c => ?_) (fun c => ?_) | with_reducible refine r_i_ne (fun c => ?_) (fun c => ?_) | with_reducible refine r_i_lt (fun c => ?_) (fun c => ?_) | with_reducible refine r_i_ge (fun c => ?_) (fun c => ?_) | with_reducible refine r_i_gt (fun c => ?_) (fun c => ?_) | with_reducible refine r_i_le (fun c => ?_) (fun c => ?_))
    simp only [hPut_ne k0, hPut_eq, hRow_at, hRow_row, hRow_ne _ _ k0, hRow_ne _ _ k1, hRow_ne _ _ k2, hRow_ne _ _ k3, hRow_ne _ _ m1, hRow_ne _ _ m2, hRow_ne _ _ m3]
  · have a1 : c + 1 ≠ c := by omega
    have a2 : c + 1 ≠ c + 2 := by omega
    have a3 : c + 1 ≠ c + 3 := by omega
    have a4 : c + 2 ≠ c := by omega
    have a5 : c + 3 ≠ c := by omega
    have a6 : c + 3 ≠ c + 2 := by omega
    unfold momEq
    simp only [hRow_at, hRow_ne _ _ a1, hRow_ne _ _ a2, hRow_ne _ _ a3, hRow_ne _ _ a4, hRow_ne _ _ a5, hRow_ne _ _ a6]
    exact ⟨fun j hj => wCopy_at j hj, rfl, rfl, fun j hj => sb_cpy0 hj, rfl, rfl⟩
  · refine (hFr_row _ _ _ ?_).trans ((hFr_row _ _ _ ?_).trans ((hFr_row _ _ _ ?_).trans (hFr_row _ _ _ ?_)))
    all_goals exact ⟨by omega, by omega⟩
def tAdd (t : Nat → Int32) : Nat → Int32 := upd (upd t 1 (if t 1 + 1 = 40 then 0 else t 1 + 1)) 2 (jmin 40 (t 2 + 1))
theorem lt_nI {n m : Nat} (h : n < m) (hm : m < 2 ^ 31) : ¬ nI m ≤ nI n := nI_ge h hm
set_option maxHeartbeats 4000000 in
set_option maxRecDepth 100000 in
theorem e_tadd (c ca : Nat) (x : Int32) (n : Nat) (S : hS) (h9 : S.2.2 c 0 = some (10040, ca)) (hne : ca ≠ c) (hn : S.2.1 c 1 = nI n) (hl : n < 40) : Ev 83 [.inr (some (7, c)), .inl x] S (none, hRow (hRow S ca (upd (S.2.1 ca) n x)) c (tAdd (S.2.1 c))) := by
  show Rn hc_X7_add 0 [some (.inr (some (7, c))), some (.inl x)] [] S _
  have g1 : ¬ nI n < 0 := nI_pos (by omega)
  have g2 : nI n < 40 := nI_lt (b := 40) hl (by decide)
  iterate 3 refine r_step rfl rfl ?_
  refine r_i_lt (fun c => absurd (hn ▸ c) g1) (fun c1 => ?_)
  iterate 4 refine r_step rfl rfl ?_
  refine r_i_lt (fun c2 => ?_) (fun c2 => absurd (hn ▸ g2) c2)
  refine r_step rfl rfl ?_
  refine r_getr rfl h9 ?_
  iterate 3 refine r_step rfl rfl ?_
  refine r_iast rfl n (by rw [hn]; exact nI_toInt (by omega)) ⟨⟨by decide, by decide⟩, hl⟩ (fun S1 e1 => ?_)
  have e2 : S1 = hRow S ca (upd (S.2.1 ca) n x) := e1
  clear e1
  subst e2
  repeat' (first | refine r_retn rfl ?_ | refine r_step rfl rfl ?_ | refine r_call rfl rfl (e_min _ _ _) ?_ | with_reducible refine r_i_eq (fun c => ?_) (fun c => ?_) | with_reducible refine r_i_ne (fun c => ?_) (fun c => ?_) | with_reducible refine r_i_lt (fun c => ?_) (fun c => ?_) | with_reducible refine r_i_ge (fun c => ?_) (fun c => ?_) | with_reducible refine r_i_gt (fun c => ?_) (fun c => ?_) | with_reducible refine r_i_le (fun c => ?_) (fun c => ?_))
  all_goals simp only [tAdd, hPut_eq, hRow_at, hRow_row, hRow_ne _ _ (Ne.symm hne)] at *
  all_goals (clear hn g1 g2; simp only [*, if_true, if_false]; rfl)
set_option maxHeartbeats 4000000 in
set_option maxRecDepth 100000 in
theorem e_tick (c cs n : Nat) (S : hS) (hc : isMom S c) (hcs : cs < c) (hm : isMode (S.2.1 (c + 1) 0)) (hn : S.2.1 (c + 2) 1 = nI n) (hl : n < 40) :
    ∃ S', Ev 114 [.inr (some (0, c)), .inr (some (5, cs))] S (none, S') ∧ hFr S S' (fun p => c ≤ p ∧ p < c + 4) ∧ S'.2.1 (c + 1) = wStep (S.2.1 cs) (S.2.1 (c + 1)) ∧ S'.2.1 (c + 3) = upd (S.2.1 (c + 3)) n (wStep (S.2.1 cs) (S.2.1 (c + 1)) 1) ∧ S'.2.1 (c + 2) = tAdd (S.2.1 (c + 2)) ∧ S'.2.1 c 2 = S.2.1 c 2 + 1 ∧ S'.2.1 c 3 = S.2.1 c 3 + (if ¬ S.2.1 (c + 1) 0 = 5 ∧ wStep (S.2.1 cs) (S.2.1 (c + 1)) 0 = 5 then 1 else 0) := by
  obtain ⟨c1, c2, c3⟩ := hc
  have n1 : cs ≠ c + 1 := by omega
  have a1 : c + 1 ≠ c := by omega
  have a2 : c + 1 ≠ c + 2 := by omega
  have a3 : c + 1 ≠ c + 3 := by omega
  have a4 : c + 2 ≠ c := by omega
  have a5 : c + 3 ≠ c := by omega
  have a6 : c + 3 ≠ c + 2 := by omega
  have a7 : c + 2 ≠ c + 1 := by omega
  have a8 : c + 3 ≠ c + 1 := by omega
  have a9 : c ≠ c + 1 := by omega
  have b1 : c ≠ c + 2 := by omega
  have b2 : c ≠ c + 3 := by omega
  have b3 : c + 2 ≠ c + 3 := by omega
  generalize hw : wStep (S.2.1 cs) (S.2.1 (c + 1)) = w'
  -- from the trip's count on
  have key : ∀ (T : hS) (z : Int32), hFr S T (fun p => c ≤ p ∧ p < c + 4) → T.2.1 (c + 1) = w' → T.2.1 (c + 2) = S.2.1 (c + 2) → T.2.1 (c + 3) = S.2.1 (c + 3) → T.2.1 c 2 = S.2.1 c 2 → T.2.1 c 3 = S.2.1 c 3 + (if ¬ S.2.1 (c + 1) 0 = 5 ∧ w' 0 = 5 then 1 else 0) →
      ∃ S', Rn hc_X0_tick 50 [some (.inr (some (0, c))), some (.inr (some (5, cs))), some (.inl z)] [] T (none, S') ∧ hFr S S' (fun p => c ≤ p ∧ p < c + 4) ∧ S'.2.1 (c + 1) = w' ∧ S'.2.1 (c + 3) = upd (S.2.1 (c + 3)) n (w' 1) ∧ S'.2.1 (c + 2) = tAdd (S.2.1 (c + 2)) ∧ S'.2.1 c 2 = S.2.1 c 2 + 1 ∧ S'.2.1 c 3 = S.2.1 c 3 + (if ¬ S.2.1 (c + 1) 0 = 5 ∧ w' 0 = 5 then 1 else 0) := by
    intro T z f t1 t2 t3 t4 t5
    have r1 : T.2.2 c 0 = some (8, c + 1) := by rw [f.2.1]; exact c1
    have r2 : T.2.2 c 1 = some (7, c + 2) := by rw [f.2.1]; exact c2
    have r3 : T.2.2 (c + 2) 0 = some (10040, c + 3) := by rw [f.2.1]; exact c3
    refine ⟨hPut (hRow (hRow T (c + 3) (upd (T.2.1 (c + 3)) n (T.2.1 (c + 1) 1))) (c + 2) (tAdd (T.2.1 (c + 2)))) c 2 (T.2.1 c 2 + 1), ?_, ?_, ?_, ?_, ?_, ?_, ?_⟩
    · refine r_step rfl rfl ?_
      refine r_getr rfl r2 ?_
      refine r_step rfl rfl ?_
      refine r_getr rfl r1 ?_
      refine r_step rfl rfl ?_
      refine r_callv rfl rfl (e_tadd (c + 2) (c + 3) _ n T r3 a6 (by rw [t2]; exact hn) hl) ?_
      repeat' (first | refine r_retn rfl ?_ | refine r_step rfl rfl ?_ | with_reducible refine r_i_eq (fun c => ?_) (fun c => ?_) | with_reducible refine r_i_ne (fun c => ?_) (fun c => ?_) | with_reducible refine r_i_lt (fun c => ?_) (fun c => ?_) | with_reducible refine r_i_ge (fun c => ?_) (fun c => ?_) | with_reducible refine r_i_gt (fun c => ?_) (fun c => ?_) | with_reducible refine r_i_le (fun c => ?_) (fun c => ?_))
      simp only [hRow_ne _ _ b1, hRow_ne _ _ b2]
    · refine f.trans ((hFr_row _ _ _ ?_).trans ((hFr_row _ _ _ ?_).trans (hFr_put _ _ _ _ ?_)))
      all_goals exact ⟨by omega, by omega⟩
    · rw [hPut_ne a1, hRow_ne _ _ a2, hRow_ne _ _ a3]; exact t1
    · rw [hPut_ne a5, hRow_ne _ _ a6, hRow_at, t3, t1]
    · rw [hPut_ne a4, hRow_at, t2]
    · rw [hPut_at, pk_us, t4]
    · rw [hPut_at, pk_un (by decide), hRow_ne _ _ b1, hRow_ne _ _ b2, t5]
  have hs := e_step (c + 1) cs S n1 hm
  rw [hw] at hs
  have start : ∀ (z : Int32) (o : Option Int32 × hS), (Rn hc_X0_tick 25 [some (.inr (some (0, c))), some (.inr (some (5, cs))), some (.inl z)] [] (hRow S (c + 1) w') o) → Rn hc_X0_tick 16 [some (.inr (some (0, c))), some (.inr (some (5, cs))), none] [.inl z] S o := by
    intro z o k
    iterate 2 refine r_step rfl rfl ?_
    refine r_getr rfl c1 ?_
    refine r_step rfl rfl ?_
    exact r_callv rfl rfl hs k
  have f0 : hFr S (hRow S (c + 1) w') (fun p => c ≤ p ∧ p < c + 4) := hFr_row _ _ _ ⟨by omega, by omega⟩
  have fin : ∀ o, (∀ z : Int32, ((S.2.1 (c + 1) 0 = 5 ∧ z = 1) ∨ (¬ S.2.1 (c + 1) 0 = 5 ∧ z = 0)) → Rn hc_X0_tick 16 [some (.inr (some (0, c))), some (.inr (some (5, cs))), none] [.inl z] S o) → Ev 114 [.inr (some (0, c)), .inr (some (5, cs))] S o := by
    intro o k
    show Rn hc_X0_tick 0 [some (.inr (some (0, c))), some (.inr (some (5, cs))), none] [] S o
    refine r_step rfl rfl ?_
    refine r_getr rfl c1 ?_
    iterate 3 refine r_step rfl rfl ?_
    refine r_i_ne (fun q => ?_) (fun q => ?_)
    · refine r_step rfl rfl ?_
      exact k 0 (Or.inr ⟨q, rfl⟩)
    · iterate 2 refine r_step rfl rfl ?_
      exact k 1 (Or.inl ⟨q, rfl⟩)
  by_cases q0 : S.2.1 (c + 1) 0 = 5
  · obtain ⟨S', k1, k2⟩ := key (hRow S (c + 1) w') 1 f0 (hRow_at _ _ _) (hRow_ne _ _ a7) (hRow_ne _ _ a8) (by rw [hRow_ne _ _ a9]) (by rw [hRow_ne _ _ a9, if_neg (fun h => h.1 q0)]; simp)
    refine ⟨S', fin _ (fun z hz => ?_), k2⟩
    have hz : z = 1 := by
      rcases hz with h | h
      · exact h.2
      · exact absurd q0 h.1
    subst hz
    refine start 1 _ ?_
    iterate 2 refine r_step rfl rfl ?_
    exact k1
  · by_cases q1 : w' 0 = 5
    · obtain ⟨S', k1, k2⟩ := key (hPut (hRow S (c + 1) w') c 3 (S.2.1 c 3 + 1)) 0 (f0.trans (hFr_put _ _ _ _ ⟨by omega, by omega⟩)) (by rw [hPut_ne a1, hRow_at]) (by rw [hPut_ne a4, hRow_ne _ _ a7]) (by rw [hPut_ne a5, hRow_ne _ _ a8]) (by rw [hPut_at, pk_un (by decide), hRow_ne _ _ a9]) (by rw [hPut_at, pk_us, if_pos ⟨q0, q1⟩])
      refine ⟨S', fin _ (fun z hz => ?_), k2⟩
      have hz : z = 0 := by
        rcases hz with h | h
        · exact absurd h.1 q0
        · exact h.2
      subst hz
      refine start 0 _ ?_
      iterate 3 refine r_step rfl rfl ?_
      refine r_getr rfl c1 ?_
      iterate 3 refine r_step rfl rfl ?_
      refine r_i_ne (fun q => absurd (by rw [hRow_at]; exact q1) q) (fun q => ?_)
      iterate 6 refine r_step rfl rfl ?_
      rw [hRow_ne _ _ a9]
      exact k1
    · obtain ⟨S', k1, k2⟩ := key (hRow S (c + 1) w') 0 f0 (hRow_at _ _ _) (hRow_ne _ _ a7) (hRow_ne _ _ a8) (by rw [hRow_ne _ _ a9]) (by rw [hRow_ne _ _ a9, if_neg (fun h => q1 h.2)]; simp)
      refine ⟨S', fin _ (fun z hz => ?_), k2⟩
      have hz : z = 0 := by
        rcases hz with h | h
        · exact absurd h.1 q0
        · exact h.2
      subst hz
      refine start 0 _ ?_
      iterate 3 refine r_step rfl rfl ?_
      refine r_getr rfl c1 ?_
      iterate 3 refine r_step rfl rfl ?_
      refine r_i_ne (fun q => k1) (fun q => absurd (by rw [hRow_at] at q; exact q) q1)
/-- floorMod over small numbers -/
theorem fm_ring40 : ∀ n, n < 40 → ∀ k, k < 40 → jfmod (nI n - 1 - nI k) 40 = nI ((n + 39 - k) % 40) := by decide +kernel
theorem fm_6 : ∀ n, n < 6 → jfmod (nI n) 6 = nI n ∧ jfmod (nI n + 1) 6 = nI ((n + 1) % 6) ∧ jfmod (nI n - 1) 6 = nI ((n + 5) % 6) := by decide +kernel
set_option maxHeartbeats 4000000 in
set_option maxRecDepth 100000 in
theorem e_speedAgo (c ca : Nat) (k : Int32) (n z : Nat) (S : hS) (h9 : S.2.2 c 0 = some (10040, ca)) (hn : S.2.1 c 1 = nI n) (hl : n < 40) (hz : S.2.1 c 2 = nI z) (hzl : z ≤ 40) : Ev 86 [.inr (some (7, c)), .inl k] S (some (if k < 0 then -9 else if k < nI z then S.2.1 ca ((n + 39 - k.toNatClampNeg) % 40) else -9), S) := by
  show Rn hc_X7_speedAgo 0 [some (.inr (some (7, c))), some (.inl k)] [] S _
  iterate 2 refine r_step rfl rfl ?_
  refine r_i_lt (fun c0 => ?_) (fun c0 => ?_)
  · refine r_step rfl rfl ?_
    refine r_reti rfl ?_ rfl
    rw [if_pos c0]
  · rw [if_neg c0]
    iterate 4 refine r_step rfl rfl ?_
    refine r_i_lt (fun c1 => ?_) (fun c1 => ?_)
    · rw [hz] at c1
      rw [if_pos c1]
      obtain ⟨j, hj, rfl⟩ := nI_of c0
      have hjz : j < z := (nI_ltI hj (by omega)).mp c1
      have e1 : (nI j).toNatClampNeg = j := nI_clamp hj
      rw [e1]
      refine r_step rfl rfl ?_
      refine r_getr rfl h9 ?_
      iterate 7 refine r_step rfl rfl ?_
      refine r_call rfl rfl (e_floorMod _ _ _ (by decide)) ?_
      rw [hn, fm_ring40 n hl j (by omega)]
      refine r_iald rfl ((n + 39 - j) % 40) (nI_toInt (by omega)) ⟨⟨by decide, by decide⟩, Nat.mod_lt _ (by decide)⟩ ?_
      exact r_reti rfl rfl rfl
    · rw [hz] at c1
      rw [if_neg c1]
      refine r_step rfl rfl ?_
      exact r_reti rfl rfl rfl
/-- the past: 10 at its place, its six moments from 12 on -/
def isPast (S : hS) : Prop := S.2.2 10 0 = some (30006, 11) ∧ ∀ i, i < 6 → S.2.2 11 i = some (0, 12 + 4 * i) ∧ isMom S (12 + 4 * i)
theorem e_plose (S : hS) : Ev 26 [.inr (some (1, 10))] S (none, hPut S 10 2 0) := by
  show Rn hc_X1_lose 0 [some (.inr (some (1, 10)))] [] S _
  repeat' (first | refine r_retn rfl ?_ | refine r_step rfl rfl ?_ | with_reducible refine r_i_eq (fun c => ?_) (fun c => ?_) | with_reducible refine r_i_ne (fun c => ?_) (fun c => ?_) | with_reducible refine r_i_lt (fun c => ?_) (fun c => ?_) | with_reducible refine r_i_ge (fun c => ?_) (fun c => ?_) | with_reducible refine r_i_gt (fun c => ?_) (fun c => ?_) | with_reducible refine r_i_le (fun c => ?_) (fun c => ?_))
  rfl
theorem isMom.fr {S S' : hS} {c : Nat} {P : Nat → Prop} (h : isMom S c) (f : hFr S S' P) : isMom S' c := by
  unfold isMom
  rw [f.2.1]
  exact h
set_option maxHeartbeats 4000000 in
set_option maxRecDepth 100000 in
theorem e_padd (n : Nat) (S : hS) (hp : isPast S) (hc : isMom S 6) (hn : S.2.1 10 1 = nI n) (hl : n < 6) (b9 : isB (S.2.1 7 9)) (b10 : isB (S.2.1 7 10)) (b15 : isB (S.2.1 7 15)) :
    ∃ S', Ev 120 [.inr (some (1, 10)), .inr (some (0, 6))] S (none, S') ∧ momEq S' (12 + 4 * n) S 6 ∧ hFr S S' (fun p => p = 10 ∨ (12 + 4 * n ≤ p ∧ p < 16 + 4 * n)) ∧ S'.2.1 10 1 = nI ((n + 1) % 6) ∧ S'.2.1 10 2 = jmin 6 (S.2.1 10 2 + 1) := by
  obtain ⟨p1, p2⟩ := hp
  obtain ⟨m1, m2⟩ := p2 n hl
  obtain ⟨S1, k1, k2, k3⟩ := e_mcopy (12 + 4 * n) 6 S m2 hc (Or.inr (by omega)) b9 b10 b15
  have e10 : S1.2.1 10 = S.2.1 10 := k3.2.2 10 (by omega)
  refine ⟨hPut (hPut S1 10 1 (nI ((n + 1) % 6))) 10 2 (jmin 6 (S.2.1 10 2 + 1)), ?_, ?_, ?_, ?_, ?_⟩
  · show Rn hc_X1_add 0 [some (.inr (some (1, 10))), some (.inr (some (0, 6)))] [] S _
    refine r_step rfl rfl ?_
    refine r_getr rfl p1 ?_
    iterate 3 refine r_step rfl rfl ?_
    refine r_call rfl rfl (e_floorMod _ _ _ (by decide)) ?_
    rw [hn, (fm_6 n hl).1]
    refine r_aald rfl n (nI_toInt (by omega)) ⟨⟨by decide, by decide⟩, hl⟩ m1 ?_
    refine r_step rfl rfl ?_
    refine r_callv rfl rfl k1 ?_
    iterate 6 refine r_step rfl rfl ?_
    refine r_call rfl rfl (e_floorMod _ _ _ (by decide)) ?_
    rw [e10, hn, (fm_6 n hl).2.1]
    repeat' (first | refine r_retn rfl ?_ | refine r_step rfl rfl ?_ | refine r_call rfl rfl (e_min _ _ _) ?_ | with_reducible refine r_i_eq (fun c => ?_) (fun c => ?_) | with_reducible refine r_i_ne (fun c => ?_) (fun c => ?_) | with_reducible refine r_i_lt (fun c => ?_) (fun c => ?_) | with_reducible refine r_i_ge (fun c => ?_) (fun c => ?_) | with_reducible refine r_i_gt (fun c => ?_) (fun c => ?_) | with_reducible refine r_i_le (fun c => ?_) (fun c => ?_))
    simp only [hPut_eq, hRow_at, hRow_row, e10]
    rfl
  · obtain ⟨q1, q2, q3, q4, q5, q6⟩ := k2
    refine ⟨fun j hj => ?_, ?_, ?_, fun j hj => ?_, ?_, ?_⟩
    · rw [hPut_ne (by omega), hPut_ne (by omega)]; exact q1 j hj
    · rw [hPut_ne (by omega), hPut_ne (by omega)]; exact q2
    · rw [hPut_ne (by omega), hPut_ne (by omega)]; exact q3
    · rw [hPut_ne (by omega), hPut_ne (by omega)]; exact q4 j hj
    · rw [hPut_ne (by omega), hPut_ne (by omega)]; exact q5
    · rw [hPut_ne (by omega), hPut_ne (by omega)]; exact q6
  · refine (k3.mono (fun p hp => ?_)).trans ((hFr_put _ _ _ _ (Or.inl rfl)).trans (hFr_put _ _ _ _ (Or.inl rfl)))
    exact Or.inr ⟨hp.1, by have := hp.2; omega⟩
  · rw [hPut_at, pk_un (by decide), hPut_at, pk_us]
  · rw [hPut_at, pk_us]
set_option maxHeartbeats 4000000 in
set_option maxRecDepth 100000 in
theorem e_ptake (n z : Nat) (S : hS) (hp : isPast S) (hc : isMom S 6) (hn : S.2.1 10 1 = nI n) (hl : n < 6) (hz : S.2.1 10 2 = nI z) (hz0 : 0 < z) (hz6 : z ≤ 6) (b9 : isB (S.2.1 (13 + 4 * ((n + 5) % 6)) 9)) (b10 : isB (S.2.1 (13 + 4 * ((n + 5) % 6)) 10)) (b15 : isB (S.2.1 (13 + 4 * ((n + 5) % 6)) 15)) :
    ∃ S', Ev 122 [.inr (some (1, 10)), .inr (some (0, 6))] S (none, S') ∧ momEq S' 6 S (12 + 4 * ((n + 5) % 6)) ∧ hFr S S' (fun p => p = 10 ∨ (6 ≤ p ∧ p < 10)) ∧ S'.2.1 10 1 = nI ((n + 5) % 6) ∧ S'.2.1 10 2 = nI (z - 1) := by
  obtain ⟨p1, p2⟩ := hp
  generalize hm9 : (n + 5) % 6 = m at *
  have hml : m < 6 := by rw [← hm9]; exact Nat.mod_lt _ (by decide)
  obtain ⟨m1, m2⟩ := p2 m hml
  have e0 : ∀ p, p ≠ 10 → (hPut S 10 1 (nI m)).2.1 p = S.2.1 p := fun p hp => hPut_ne hp
  obtain ⟨S1, k1, k2, k3⟩ := e_mcopy 6 (12 + 4 * m) (hPut S 10 1 (nI m)) (show isMom S 6 from hc) (show isMom S _ from m2) (Or.inl (by omega)) (by rw [e0 _ (by omega)]; rw [show 12 + 4 * m + 1 = 13 + 4 * m by omega]; exact b9) (by rw [e0 _ (by omega)]; rw [show 12 + 4 * m + 1 = 13 + 4 * m by omega]; exact b10) (by rw [e0 _ (by omega)]; rw [show 12 + 4 * m + 1 = 13 + 4 * m by omega]; exact b15)
  have e10 : S1.2.1 10 = upd (S.2.1 10) 1 (nI m) := by rw [k3.2.2 10 (by omega), hPut_at]
  have g0 : ¬ nI z ≤ 0 := nI_nle hz0 (by omega)
  refine ⟨hPut S1 10 2 (nI (z - 1)), ?_, ?_, ?_, ?_, ?_⟩
  · show Rn hc_X1_takeLatest 0 [some (.inr (some (1, 10))), some (.inr (some (0, 6)))] [] S _
    iterate 3 refine r_step rfl rfl ?_
    refine r_i_le (fun q => absurd (hz ▸ q) g0) (fun q => ?_)
    iterate 6 refine r_step rfl rfl ?_
    refine r_call rfl rfl (e_floorMod _ _ _ (by decide)) ?_
    rw [hn, (fm_6 n hl).2.2, hm9]
    iterate 3 refine r_step rfl rfl ?_
    refine r_getr rfl p1 ?_
    iterate 2 refine r_step rfl rfl ?_
    rw [hPut_at, pk_us]
    refine r_aald rfl m (nI_toInt (by omega)) ⟨⟨by decide, by decide⟩, hml⟩ m1 ?_
    refine r_callv rfl rfl k1 ?_
    repeat' (first | refine r_retn rfl ?_ | refine r_step rfl rfl ?_ | with_reducible refine r_i_eq (fun c => ?_) (fun c => ?_) | with_reducible refine r_i_ne (fun c => ?_) (fun c => ?_) | with_reducible refine r_i_lt (fun c => ?_) (fun c => ?_) | with_reducible refine r_i_ge (fun c => ?_) (fun c => ?_) | with_reducible refine r_i_gt (fun c => ?_) (fun c => ?_) | with_reducible refine r_i_le (fun c => ?_) (fun c => ?_))
    rw [e10, pk_un (by decide), hz]
    have e5 : nI z - 1 = nI (z - 1) := by
      obtain ⟨y, rfl⟩ : ∃ y, z = y + 1 := ⟨z - 1, by omega⟩
      exact nI_pred y
    rw [e5]
  · obtain ⟨q1, q2, q3, q4, q5, q6⟩ := k2
    refine ⟨fun j hj => ?_, ?_, ?_, fun j hj => ?_, ?_, ?_⟩
    · rw [hPut_ne (by omega), q1 j hj, e0 _ (by omega)]
    · rw [hPut_ne (by omega), q2, e0 _ (by omega)]
    · rw [hPut_ne (by omega), q3, e0 _ (by omega)]
    · rw [hPut_ne (by omega), q4 j hj, e0 _ (by omega)]
    · rw [hPut_ne (by omega), q5, e0 _ (by omega)]
    · rw [hPut_ne (by omega), q6, e0 _ (by omega)]
  · refine (hFr_put S 10 1 (nI m) (Or.inl rfl)).trans ((k3.mono (fun p hp => ?_)).trans (hFr_put _ _ _ _ (Or.inl rfl)))
    exact Or.inr ⟨hp.1, by have := hp.2; omega⟩
  · rw [hPut_at, pk_un (by decide), e10, pk_us]
  · rw [hPut_at, pk_us]
