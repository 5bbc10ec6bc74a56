/-! The loops of both readers, step by step. -/
def rdL (p t : Nat) (l4 : Option hV) : List (Option hV) := [some (.inr (some (3, 4))), some (.inr (some (6, 2))), some (.inl (nI p)), some (.inl (nI t)), l4]
theorem rd_tk {b : Nat → Int32} {n p t : Nat} {T T' : hS} {x : Int32} (l4 : Option hV) (h : cT b n T) (hp : p < n) (ht : t ≤ p) (k : Ev 124 [.inr (some (3, 4)), .inr (some (6, 2)), .inl (nI p), .inl (nI (tkE b n p))] T (some x, T')) (o : Option Int32 × hS) (q : Rn hc_X3_read 59 (rdL p t (some (.inl (nI (tkE b n p))))) [.inl x] T' o) : Rn hc_X3_read 30 (rdL p t l4) [] T o := by
  have h80 := h.2.1
  show Rn hc_X3_read 30 [some (.inr (some (3, 4))), some (.inr (some (6, 2))), some (.inl (nI p)), some (.inl (nI t)), l4] [] T o
  iterate 3 refine r_step rfl rfl ?_
  refine r_i_ge (fun q => absurd q (lt_lit (N := 80) rfl (by decide) (by omega))) (fun _ => ?_)
  iterate 4 refine r_step rfl rfl ?_
  rw [h.2.2.1]
  refine r_i_ge (fun q => absurd q (nI_ge hp (by omega))) (fun _ => ?_)
  iterate 2 refine r_step rfl rfl ?_
  refine r_call rfl rfl (e_behindToken h p hp) ?_
  iterate 5 refine r_step rfl rfl ?_
  refine r_call rfl rfl k ?_
  exact q
theorem rd_no {b : Nat → Int32} {n p t : Nat} {T T' : hS} (l4 : Option hV) (h : cT b n T) (hp : p < n) (ht : t ≤ p) (k : Ev 124 [.inr (some (3, 4)), .inr (some (6, 2)), .inl (nI p), .inl (nI (tkE b n p))] T (some 0, T')) : Rn hc_X3_read 30 (rdL p t l4) [] T (some (-10 - nI p), T') := by
  refine rd_tk l4 h hp ht k _ ?_
  show Rn hc_X3_read 59 [some (.inr (some (3, 4))), some (.inr (some (6, 2))), some (.inl (nI p)), some (.inl (nI t)), some (.inl (nI (tkE b n p)))] [.inl 0] T' _
  iterate 4 refine r_step rfl rfl ?_
  exact r_reti rfl rfl rfl
theorem rd_go {b : Nat → Int32} {n p t : Nat} {T T' : hS} (l4 : Option hV) (h : cT b n T) (hp : p < n) (ht : t ≤ p) (f : hFr T T' (fun p => p = 4 ∨ p = 5)) (k : Ev 124 [.inr (some (3, 4)), .inr (some (6, 2)), .inl (nI p), .inl (nI (tkE b n p))] T (some 1, T')) (o : Option Int32 × hS) (q : Rn hc_X3_read 30 (rdL (bl b (n - tkE b n p) (tkE b n p)) (t + 1) (some (.inl (nI (tkE b n p))))) [] T' o) : Rn hc_X3_read 30 (rdL p t l4) [] T o := by
  refine rd_tk l4 h hp ht k _ ?_
  show Rn hc_X3_read 59 [some (.inr (some (3, 4))), some (.inr (some (6, 2))), some (.inl (nI p)), some (.inl (nI t)), some (.inl (nI (tkE b n p)))] [.inl 1] T' _
  iterate 3 refine r_step rfl rfl ?_
  refine r_call rfl rfl (e_behindBlanks (h.fr f) (tkE b n p) (tkE_le hp).2) ?_
  iterate 3 refine r_step rfl rfl ?_
  show Rn hc_X3_read 30 [some (.inr (some (3, 4))), some (.inr (some (6, 2))), some (.inl (nI (bl b (n - tkE b n p) (tkE b n p)))), some (.inl (nI t + 1)), some (.inl (nI (tkE b n p)))] [] T' _
  rw [nI_s1]
  exact q
theorem rd_out {b : Nat → Int32} {n t : Nat} {T : hS} (l4 : Option hV) (h : cT b n T) (o : Option Int32 × hS) (q : Rn hc_X3_read 80 (rdL n t l4) [] T o) : Rn hc_X3_read 30 (rdL n t l4) [] T o := by
  have h80 := h.2.1
  have q' : Rn hc_X3_read 80 [some (.inr (some (3, 4))), some (.inr (some (6, 2))), some (.inl (nI n)), some (.inl (nI t)), l4] [] T o := q
  show Rn hc_X3_read 30 [some (.inr (some (3, 4))), some (.inr (some (6, 2))), some (.inl (nI n)), some (.inl (nI t)), l4] [] T o
  iterate 3 refine r_step rfl rfl ?_
  refine r_i_ge (fun _ => q') (fun _ => ?_)
  iterate 4 refine r_step rfl rfl ?_
  rw [h.2.2.1]
  exact r_i_ge (fun _ => q') (fun w => absurd (nI_le (Nat.le_refl n) (by omega)) w)
theorem rd_bad {b : Nat → Int32} {n t : Nat} {T : hS} (l4 : Option hV) (h : cT b n T) (ha : ¬ T.2.1 4 1 = 0) : Rn hc_X3_read 30 (rdL n t l4) [] T (some (-10 - nI n), T) := by
  refine rd_out l4 h _ ?_
  show Rn hc_X3_read 80 [some (.inr (some (3, 4))), some (.inr (some (6, 2))), some (.inl (nI n)), some (.inl (nI t)), l4] [] T _
  iterate 3 refine r_step rfl rfl ?_
  refine r_i_eq (fun w => absurd w ha) (fun _ => ?_)
  iterate 4 refine r_step rfl rfl ?_
  rw [h.2.2.1]
  exact r_reti rfl rfl rfl
/-- the settings at the end -/
def fin1 (told : Int32) (c : Nat → Int32) : Nat → Int32 := upd c 1 (if bit told 0 = 1 ∧ ¬ bit told 1 = 1 then c 0 + 30 else c 1)
theorem rd_end {b : Nat → Int32} {n t : Nat} {T : hS} (l4 : Option hV) (h : cT b n T) (ha : T.2.1 4 1 = 0) : ∃ T', hFr T T' (fun p => p = 4 ∨ p = 5) ∧ (∀ j, T'.2.1 5 j = fin1 (T.2.1 4 3) (T.2.1 5) j) ∧ Rn hc_X3_read 30 (rdL n t l4) [] T (some (T.2.1 4 4), T') := by
  have hL := h.1
  have start : ∀ o, Rn hc_X3_read 100 [some (.inr (some (3, 4))), some (.inr (some (6, 2))), some (.inl (nI n)), some (.inl (nI t)), l4] [.inl (b01 (T.2.1 4 3) 0)] T o → Rn hc_X3_read 30 (rdL n t l4) [] T o := by
    intro o q
    refine rd_out l4 h _ ?_
    show Rn hc_X3_read 80 [some (.inr (some (3, 4))), some (.inr (some (6, 2))), some (.inl (nI n)), some (.inl (nI t)), l4] [] T _
    iterate 3 refine r_step rfl rfl ?_
    rw [ha]
    refine r_i_eq (fun _ => ?_) (fun w => absurd rfl w)
    iterate 2 refine r_step rfl rfl ?_
    exact r_call rfl rfl (e_isTold 0 T) q
  have out : Rn hc_X3_read 128 [some (.inr (some (3, 4))), some (.inr (some (6, 2))), some (.inl (nI n)), some (.inl (nI t)), l4] [] T (some (T.2.1 4 4), T) := by
    iterate 2 refine r_step rfl rfl ?_
    exact r_reti rfl rfl rfl
  have stay : ¬ (bit (T.2.1 4 3) 0 = 1 ∧ ¬ bit (T.2.1 4 3) 1 = 1) → ∀ j, T.2.1 5 j = fin1 (T.2.1 4 3) (T.2.1 5) j := by
    intro w j
    unfold fin1
    rw [if_neg w]
    by_cases c : j = 1
    · rw [c, pk_us]
    · rw [pk_un c]
  by_cases c0 : bit (T.2.1 4 3) 0 = 1
  · by_cases c1 : bit (T.2.1 4 3) 1 = 1
    · refine ⟨T, hFr.rf _ _, stay (fun w => w.2 c1), start _ ?_⟩
      refine r_step rfl rfl ?_
      refine r_i_eq (fun w => absurd c0 (b01_z.1 w)) (fun _ => ?_)
      iterate 2 refine r_step rfl rfl ?_
      refine r_call rfl rfl (e_isTold 1 T) ?_
      refine r_step rfl rfl ?_
      exact r_i_ne (fun _ => out) (fun w => absurd c1 (b01_z.1 w))
    · refine ⟨hPut T 5 1 (T.2.1 5 0 + 30), hFr_put _ _ _ _ (Or.inr rfl), fun j => ?_, start _ ?_⟩
      · unfold fin1
        rw [hPut_at, if_pos ⟨c0, c1⟩]
      · refine r_step rfl rfl ?_
        refine r_i_eq (fun w => absurd c0 (b01_z.1 w)) (fun _ => ?_)
        iterate 2 refine r_step rfl rfl ?_
        refine r_call rfl rfl (e_isTold 1 T) ?_
        rw [b01_z.2 c1]
        iterate 2 refine r_step rfl rfl ?_
        refine r_getr rfl (rv_4_0 hL) ?_
        refine r_step rfl rfl ?_
        refine r_getr rfl (rv_4_0 hL) ?_
        iterate 6 refine r_step rfl rfl ?_
        exact r_reti rfl (by rw [hPut_ne (by decide)]) rfl
  · refine ⟨T, hFr.rf _ _, stay (fun w => c0 w.1), start _ ?_⟩
    rw [b01_z.2 c0]
    refine r_step rfl rfl ?_
    exact out
theorem tl_fault (l1 : Option hV) (f : Nat) (hf : f < 2147483648) (U : hS) (h : U.2.1 57 13 = nI f) : Rn hc_X10_tells 21 [some (.inr (some (10, 57))), l1] [] U (some (-10 - nI f), U) := by
  iterate 4 refine r_step rfl rfl ?_
  rw [h]
  refine r_i_ne (fun _ => ?_) (fun w => absurd w (nI_n9 hf))
  iterate 4 refine r_step rfl rfl ?_
  rw [h]
  refine r_i_eq (fun w => absurd w (nI_n9 hf)) (fun _ => ?_)
  iterate 4 refine r_step rfl rfl ?_
  rw [h]
  exact r_reti rfl rfl rfl
theorem tl_item {b : Nat → Int32} {n p i : Nat} {U V : hS} (pn : p < n) (hs : nSt b n p U) (hf : U.2.1 57 13 = -9) (k : Ev 133 [.inr (some (10, 57))] U (none, V)) (o : Option Int32 × hS) (q : Rn hc_X10_tells 21 [some (.inr (some (10, 57))), some (.inl (nI (i + 1)))] [] V o) : Rn hc_X10_tells 21 [some (.inr (some (10, 57))), some (.inl (nI i))] [] U o := by
  iterate 4 refine r_step rfl rfl ?_
  rw [hf]
  refine r_i_ne (fun w => absurd rfl w) (fun _ => ?_)
  iterate 4 refine r_step rfl rfl ?_
  rw [hs.2.1]
  refine r_i_eq (fun w => absurd w (tk_two pn)) (fun _ => ?_)
  refine r_step rfl rfl ?_
  refine r_callv rfl rfl k ?_
  iterate 2 refine r_step rfl rfl ?_
  show Rn hc_X10_tells 21 [some (.inr (some (10, 57))), some (.inl (nI i + 1))] [] V o
  rw [nI_s1]
  exact q
theorem tl_last {b : Nat → Int32} {n : Nat} (l1 : Option hV) {U : hS} (hs : nSt b n n U) (hf : U.2.1 57 13 = -9) (o : Option Int32 × hS) (q : Rn hc_X10_tells 65 [some (.inr (some (10, 57))), l1] [] U o) : Rn hc_X10_tells 21 [some (.inr (some (10, 57))), l1] [] U o := by
  iterate 4 refine r_step rfl rfl ?_
  rw [hf]
  refine r_i_ne (fun w => absurd rfl w) (fun _ => ?_)
  iterate 4 refine r_step rfl rfl ?_
  rw [hs.2.1, tk_n]
  refine r_i_eq (fun _ => ?_) (fun w => absurd rfl w)
  iterate 4 refine r_step rfl rfl ?_
  rw [hf]
  exact r_i_eq (fun _ => q) (fun w => absurd rfl w)
theorem tl_bits : ∀ m, m < 64 → ∀ k, k < 6 → tlK (nI m) k = nI (m ||| 2 ^ k) ∧ (m ||| 2 ^ k) < 64 ∧ (bit (tlK (nI m) k) 0 = 1 ↔ (k = 0 ∨ bit (nI m) 0 = 1)) ∧ (bit (tlK (nI m) k) 1 = 1 ↔ (k = 1 ∨ bit (nI m) 1 = 1)) := by decide +kernel
def mR (told : Int32) (c m : Nat → Int32) : Prop := (∀ j, j < 6 → j ≠ 1 → m j = c j) ∧ m 1 = if bit told 0 = 1 ∧ ¬ bit told 1 = 1 then c 0 + 30 else c 1
theorem mR_fin {told : Int32} {c m : Nat → Int32} (h : mR told c m) : ∀ j, j < 6 → m j = fin1 told c j := by
  intro j hj
  unfold fin1
  by_cases e : j = 1
  · rw [e, pk_us]; exact h.2
  · rw [pk_un e]; exact h.1 j hj e
theorem mR_put {tm k : Nat} (htm : tm < 64) (hk : k ≤ 5) {c m : Nat → Int32} (v : Int32) (h : mR (nI tm) c m) (g : gdL (nI tm) k) : mR (tlK (nI tm) k) (upd c k v) (upd (upd m k v) 1 (if k = 0 then v + 30 else upd m k v 1)) := by
  obtain ⟨-, -, b0, b1⟩ := tl_bits tm htm k (by omega)
  obtain ⟨h1', h2'⟩ := h
  refine ⟨fun j hj hj1 => ?_, ?_⟩
  · rw [pk_un hj1]
    by_cases e : j = k
    · rw [e, pk_us, pk_us]
    · rw [pk_un e, pk_un e]; exact h1' j hj hj1
  · rw [pk_us]
    by_cases k0 : k = 0
    · subst k0
      rw [if_pos rfl, if_pos ⟨b0.2 (Or.inl rfl), fun w => (b1.1 w).elim (by omega) (fun w => g.2 ⟨rfl, w⟩)⟩, pk_us]
    · rw [if_neg k0]
      by_cases k1 : k = 1
      · subst k1
        rw [if_neg (fun w => w.2 (b1.2 (Or.inl rfl))), pk_us, pk_us]
      · rw [pk_un (fun e => k1 e.symm), pk_un (fun e => k1 e.symm), pk_un (fun e => k0 e.symm), h2']
        have e0 : bit (tlK (nI tm) k) 0 = 1 ↔ bit (nI tm) 0 = 1 := ⟨fun w => (b0.1 w).elim (fun w => absurd w k0) id, fun w => b0.2 (Or.inr w)⟩
        have e1 : bit (tlK (nI tm) k) 1 = 1 ↔ bit (nI tm) 1 = 1 := ⟨fun w => (b1.1 w).elim (fun w => absurd w k1) id, fun w => b1.2 (Or.inr w)⟩
        by_cases q : bit (nI tm) 0 = 1 ∧ ¬ bit (nI tm) 1 = 1
        · rw [if_pos q, if_pos ⟨e0.2 q.1, fun w => q.2 (e1.1 w)⟩]
        · rw [if_neg q, if_neg (fun w => q ⟨e0.1 w.1, fun z => w.2 (e1.2 z)⟩)]
theorem ok_put {c : Nat → Int32} {k : Nat} {v : Int32} (h : okSet c) (hk : k ≤ 5) (hm : mIn v (rLo c k) (rHi k) = 1) : okSet (upd c k v) := by
  rcases mIn_iff (v := v) (lo := rLo c k) (hi := rHi k) with ⟨e, -⟩ | ⟨-, g1, g2⟩
  · rw [e] at hm; exact absurd hm (by decide)
  obtain ⟨a0, a1, a2, a3, a4, a5⟩ := h
  match k, hk, g1, g2 with
  | 0, _, g1, g2 => exact ⟨⟨g1, g2⟩, a1, a2, a3, a4, a5⟩
  | 1, _, g1, g2 =>
    have l1 : (1 : Int32).toInt = 1 := rfl
    have l2 : (200 : Int32).toInt = 200 := rfl
    have g1' : (c 0 + 1).toInt ≤ v.toInt := g1
    have g2' : v.toInt ≤ (200 : Int32).toInt := g2
    obtain ⟨p1, p2⟩ := a0
    rw [i_add (by omega) (by omega)] at g1'
    exact ⟨⟨p1, p2⟩, ⟨by show 41 ≤ v.toInt; omega, by show v.toInt ≤ 200; omega⟩, a2, a3, a4, a5⟩
  | 2, _, g1, g2 => exact ⟨a0, a1, ⟨g1, g2⟩, a3, a4, a5⟩
  | 3, _, g1, g2 => exact ⟨a0, a1, a2, ⟨g1, g2⟩, a4, a5⟩
  | 4, _, g1, g2 => exact ⟨a0, a1, a2, a3, ⟨g1, g2⟩, a5⟩
  | 5, _, g1, g2 => exact ⟨a0, a1, a2, a3, a4, ⟨g1, g2⟩⟩
  | n + 6, h, _, _ => exact absurd h (by omega)
theorem ok_fin {told : Int32} {c : Nat → Int32} (h : okSet c) : okSet (fin1 told c) := by
  obtain ⟨a0, a1, a2, a3, a4, a5⟩ := h
  refine ⟨a0, ?_, a2, a3, a4, a5⟩
  unfold fin1
  rw [pk_us]
  by_cases q : bit told 0 = 1 ∧ ¬ bit told 1 = 1
  · rw [if_pos q]
    obtain ⟨p1, p2⟩ := a0
    have l1 : (30 : Int32).toInt = 30 := rfl
    unfold bt
    rw [i_add (by omega) (by omega)]
    omega
  · rw [if_neg q]; exact a1
