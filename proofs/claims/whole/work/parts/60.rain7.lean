/-! halves, rain. -/
def gOk (g : List (Nat × Nat)) : Prop := ∀ y ∈ g, y.1 < 1000 ∧ 0 < y.2
theorem cl_w : ∀ (d : Nat) (R : List Int32) (c : Nat) (g : List (Nat × Nat)), (∀ y ∈ g, 0 < y.2) → ∀ y ∈ (cl d R c g).2.2, 0 < y.2
  | 0, R, c, g, h => by unfold cl; exact h
  | d + 1, [], c, g, h => h
  | d + 1, [_], c, g, h => h
  | d + 1, [_, _], c, g, h => h
  | d + 1, [_, _, _], c, g, h => h
  | d + 1, x3 :: x2 :: x1 :: x0 :: R, c, g, h => by
    rw [cl_s]
    by_cases k : nab x2 x1 ≤ nab x1 x0 ∧ nab x2 x1 ≤ nab x3 x2
    · rw [if_pos k]
      refine cl_w d _ _ _ (fun y hy => ?_)
      rcases List.mem_cons.1 hy with rfl | hy
      · exact Nat.zero_lt_succ 1
      · exact h y hy
    · rw [if_neg k]; exact h
theorem po_w (t : Nat → Int32) : ∀ n, ∀ y ∈ (po t n).2.2, 0 < y.2
  | 0, y, hy => (nomatch hy)
  | n + 1, y, hy => cl_w 40 _ _ _ (po_w t n) y hy
theorem lg_ok {f : Nat → Int32} {g : List (Nat × Nat)} (h : gOk g) : ∀ m, (∀ i, i ≤ m → bt (f i) 0 999) → gOk (lg f g m)
  | 0, _ => h
  | m + 1, hf => by
    intro y hy
    rcases List.mem_cons.1 hy with rfl | hy
    · exact ⟨nab_lt (hf (m + 1) (by omega)) (hf m (by omega)), Nat.zero_lt_succ 0⟩
    · exact lg_ok h m (fun i hi => hf i (by omega)) y hy
theorem cnt_hi : ∀ {g : List (Nat × Nat)}, gOk g → ∀ n, 1000 ≤ n → cnt g n = 0
  | [], _, _, _ => rfl
  | y :: g, h, n, hn => by
    have a := (h y List.mem_cons_self).1
    show (if y.1 = n then y.2 else 0) + cnt g n = 0
    rw [if_neg (by omega), cnt_hi (fun z hz => h z (List.mem_cons_of_mem _ hz)) n hn]
theorem sum_0 : ∀ k, sumN (fun _ => 0) k = 0
  | 0 => rfl
  | k + 1 => by show sumN (fun _ => 0) k + 0 = 0; rw [sum_0 k]
theorem kd_sum : ∀ {g : List (Nat × Nat)}, gOk g → sumN (fun n => if cnt g n = 0 then 0 else 1) 1000 = kd g
  | [], _ => sum_0 1000
  | y :: g, h => by
    have a := h y List.mem_cons_self
    obtain ⟨n, w⟩ := y
    have a1 : n < 1000 := a.1
    have a2 : 0 < w := a.2
    rw [kd_s, ← kd_sum (fun z hz => h z (List.mem_cons_of_mem _ hz)), Nat.add_comm]
    refine sumN_one (p := n) a1 (fun q _ hq => ?_) ?_
    · show (if cnt ((n, w) :: g) q = 0 then 0 else 1) = if cnt g q = 0 then 0 else 1
      rw [show cnt ((n, w) :: g) q = cnt g q by rw [cnt_s, if_neg (show ¬ n = q from fun e => hq e.symm), Nat.zero_add]]
    · show (if cnt ((n, w) :: g) n = 0 then 0 else 1) = (if cnt g n = 0 then 0 else 1) + (if cnt g n = 0 then 1 else 0)
      rw [show cnt ((n, w) :: g) n = w + cnt g n by rw [cnt_s, if_pos rfl], if_neg (show ¬ w + cnt g n = 0 by omega)]
      by_cases c : cnt g n = 0
      · rw [if_pos c, if_pos c]
      · rw [if_neg c, if_neg c]
theorem tw_sum : ∀ {g : List (Nat × Nat)}, gOk g → sumN (fun n => cnt g n) 1000 = tw g
  | [], _ => sum_0 1000
  | y :: g, h => by
    have a := h y List.mem_cons_self
    obtain ⟨n, w⟩ := y
    have a1 : n < 1000 := a.1
    show _ = w + tw g
    rw [← tw_sum (fun z hz => h z (List.mem_cons_of_mem _ hz)), Nat.add_comm]
    refine sumN_one (p := n) a1 (fun q _ hq => ?_) ?_
    · show cnt ((n, w) :: g) q = cnt g q
      rw [cnt_s, if_neg (fun e => hq e.symm), Nat.zero_add]
    · show cnt ((n, w) :: g) n = cnt g n + w
      rw [cnt_s, if_pos rfl, Nat.add_comm]
theorem best_mx (g : List (Nat × Nat)) (ht : tw g < 1000) : ∀ m, (best (fun n => nI (cnt g n)) m = -9 ∧ ∀ n, n < m → cnt g n = 0) ∨ ∃ n, n < m ∧ best (fun n => nI (cnt g n)) m = nI n ∧ 0 < cnt g n ∧ ∀ k, k < m → 0 < cnt g k → k ≤ n
  | 0 => Or.inl ⟨rfl, fun n hn => absurd hn (Nat.not_lt_zero n)⟩
  | m + 1 => by
    rw [best_s]
    have ct := cnt_tw g m
    by_cases c : cnt g m = 0
    · rw [if_pos (show nI (cnt g m) = 0 by rw [c]; rfl)]
      rcases best_mx g ht m with ⟨a, b⟩ | ⟨n, a, b, d, e⟩
      · refine Or.inl ⟨a, fun n hn => ?_⟩
        by_cases f : n = m
        · rw [f]; exact c
        · exact b n (by omega)
      · refine Or.inr ⟨n, by omega, b, d, fun k hk h0 => ?_⟩
        by_cases f : k = m
        · rw [f] at h0; omega
        · exact e k (by omega) h0
    · rw [if_neg (show ¬ nI (cnt g m) = 0 from fun q => c ((nI_eq (by omega) (by decide)).1 (show nI (cnt g m) = nI 0 from q)))]
      exact Or.inr ⟨m, by omega, rfl, by omega, fun k hk _ => by omega⟩
theorem best_mxP {g : List (Nat × Nat)} (h : gOk g) (ht : tw g < 1000) : mxP g (best (fun n => nI (cnt g n)) 1000) := by
  rcases best_mx g ht 1000 with ⟨a, b⟩ | ⟨n, a, b, d, e⟩
  · refine Or.inl ⟨a, fun n => ?_⟩
    by_cases f : n < 1000
    · exact b n f
    · exact cnt_hi h n (by omega)
  · refine Or.inr ⟨n, a, b, d, fun k h0 => ?_⟩
    by_cases f : k < 1000
    · exact e k f h0
    · rw [cnt_hi h k (by omega)] at h0; omega
set_option maxHeartbeats 4000000 in
set_option maxRecDepth 100000 in
theorem rain_both {S : hS} (h : Rel S) : ∃ (S1 : hS) (g : List (Nat × Nat)) (c y : Nat), Ev 123 [.inr (some (2, 51)), .inr (some (7, 8))] S (none, S1) ∧ hFr S S1 (fun p => 51 ≤ p ∧ p ≤ 55) ∧ S1.2.1 51 1 = nI c ∧ S1.2.1 51 7 = nI y ∧ hvC S1 g ∧ g.length ≤ 40 ∧ gOk g ∧ tw g < 1000 ∧ (∀ T, hLay T → T.2.1 58 = S.2.1 58 → T.2.1 66 = S.2.1 66 → ∃ T1, Ev 104 [.inr (some (10, 57))] T (none, T1) ∧ hFr T T1 (fun p => p = 57 ∨ (66 ≤ p ∧ p ≤ 69)) ∧ (∀ j, j ≠ 18 → j ≠ 20 → j ≠ 22 → T1.2.1 57 j = T.2.1 57 j) ∧ T1.2.1 57 18 = nI c ∧ T1.2.1 57 22 = nI y ∧ hvM T1 g) := by
  have hL := h.1
  obtain ⟨⟨h1', h2', h3', h4', n, z, g1, g2, g3, g4, g5⟩, hi⟩ := h.2.2.2.1
  have hx : ∀ i, i < z → bt (S.2.1 58 (19 + i)) 0 999 := fun i hi2 => hi.2.2.2.2 i (by omega)
  have hsp : spd S z (fun i => S.2.1 58 (19 + i)) := ⟨n, g1, g3, show S.2.1 8 2 = nI z by rw [← g4]; exact h4', g5⟩
  obtain ⟨S1, t, f, a1, a2, a3, a4, a5, a6, a7⟩ := e_pour z g2 (fun i => S.2.1 58 (19 + i)) (S.2.1 66) hx S hL hsp
  have hbt := tn_bt (uP_bt z (S.2.1 66) 0 hx (fun j hj => absurd hj (by omega)))
  have hlen := Nat.le_trans (tn_len (uP (fun i => S.2.1 58 (19 + i)) z (S.2.1 66) 0).1 (uP (fun i => S.2.1 58 (19 + i)) z (S.2.1 66) 0).2) (uP_n (fun i => S.2.1 58 (19 + i)) z (S.2.1 66) 0)
  have mod : ∀ T, hLay T → T.2.1 58 = S.2.1 58 → T.2.1 66 = S.2.1 66 → _ := fun T hT e1 e2 => e_rains z g2 (fun i => S.2.1 58 (19 + i)) hx T hT (by rw [e1]; exact g4) (fun i _ => by rw [e1])
  have mod2 : ∀ T, hLay T → T.2.1 58 = S.2.1 58 → T.2.1 66 = S.2.1 66 → ∃ S' t f, Ev 104 [.inr (some (10, 57))] T (none, S') ∧ hFr T S' (fun p => p = 57 ∨ (66 ≤ p ∧ p ≤ 69)) ∧ (∀ j, j ≠ 18 → j ≠ 20 → j ≠ 22 → S'.2.1 57 j = T.2.1 57 j) ∧ rL t (tn (uP (fun i => S.2.1 58 (19 + i)) z (S.2.1 66) 0).1 (uP (fun i => S.2.1 58 (19 + i)) z (S.2.1 66) 0).2) ∧ S'.2.1 57 18 = nI (tn (uP (fun i => S.2.1 58 (19 + i)) z (S.2.1 66) 0).1 (uP (fun i => S.2.1 58 (19 + i)) z (S.2.1 66) 0).2).length ∧ rL f (po t (tn (uP (fun i => S.2.1 58 (19 + i)) z (S.2.1 66) 0).1 (uP (fun i => S.2.1 58 (19 + i)) z (S.2.1 66) 0).2).length).1 ∧ S'.2.1 57 22 = nI (po t (tn (uP (fun i => S.2.1 58 (19 + i)) z (S.2.1 66) 0).1 (uP (fun i => S.2.1 58 (19 + i)) z (S.2.1 66) 0).2).length).2.1 ∧ hvM S' (lgOf t f (tn (uP (fun i => S.2.1 58 (19 + i)) z (S.2.1 66) 0).1 (uP (fun i => S.2.1 58 (19 + i)) z (S.2.1 66) 0).2).length) := by
    intro T hT e1 e2
    have k := mod T hT e1 e2
    rw [e2] at k
    exact k
  generalize hTL : tn (uP (fun i => S.2.1 58 (19 + i)) z (S.2.1 66) 0).1 (uP (fun i => S.2.1 58 (19 + i)) z (S.2.1 66) 0).2 = TL at *
  have ht : ∀ i, i < TL.length → bt (t i) 0 999 := fun i hi => hbt _ (rL_mem a3 i hi)
  obtain ⟨q1, q2, q3, q4, q5⟩ := gd_po TL.length ht
  have qw := po_w t TL.length
  refine ⟨S1, lgOf t f TL.length, TL.length, (po t TL.length).2.1, a1, a2, a4, a6, a7, ?_, ?_, ?_, ?_⟩
  · unfold lgOf
    rw [lg_len]
    omega
  · unfold lgOf
    by_cases c : (po t TL.length).1.length = 0
    · rw [c]; exact fun y hy => ⟨q4 y hy, qw y hy⟩
    · exact lg_ok (fun y hy => ⟨q4 y hy, qw y hy⟩) _ (fun i hi => q1 _ (rL_mem a5 i (by omega)))
  · unfold lgOf
    rw [lg_tw]
    omega
  · intro T hT e1 e2
    obtain ⟨T1, t', f', b1, b2, b3, b4, b5, b6, b7, b8⟩ := mod2 T hT e1 e2
    have eP : po t' TL.length = po t TL.length := po_c _ (fun i hi => rL_eq b4 a3 i hi)
    rw [eP] at b6 b7
    refine ⟨T1, b1, b2, b3, b5, b7, ?_⟩
    have eG : lgOf t' f' TL.length = lgOf t f TL.length := by
      unfold lgOf
      rw [eP]
      by_cases c : (po t TL.length).1.length = 0
      · rw [c]; rfl
      · exact lg_c _ _ (fun i hi => rL_eq b6 a5 i (by omega))
    rw [← eG]
    exact b8
