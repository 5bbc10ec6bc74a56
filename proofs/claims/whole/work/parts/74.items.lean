/-! The model's items, piece by piece. -/
theorem fig_s {x : Int32} (h : ¬ mIn x 48 57 = 0) : sOf x = -1 ∧ ¬ x = 59 := by
  rcases mIn_iff (v := x) (lo := 48) (hi := 57) with ⟨e, -⟩ | ⟨-, h1', h2'⟩
  · exact absurd e h
  · have l1 : (48 : Int32).toInt = 48 := rfl
    have l2 : (57 : Int32).toInt = 57 := rfl
    refine ⟨sOf_out (by omega), fun e => ?_⟩
    rw [e] at h2'
    exact absurd h2' (by decide)
theorem tk_lt {b : Nat → Int32} {n p : Nat} (hp : p < n) : tk b n p = if mIn (b p) 48 57 = 0 then (if b p = 59 ∨ ¬ sOf (b p) = -1 then b p else 3) else (if 255 < mv b p (nL b n p) ∨ (b p = 48 ∧ 1 < nL b n p) then 3 else 1) := if_neg (by omega)
theorem tk_one {b : Nat → Int32} {n p : Nat} (hp : p < n) : tk b n p = 1 ↔ okN b n p := by
  rw [tk_lt hp]
  unfold okN
  by_cases c : mIn (b p) 48 57 = 0
  · rw [if_pos c]
    refine ⟨fun e => ?_, fun e => absurd c e.1⟩
    exfalso
    by_cases d : b p = 59 ∨ ¬ sOf (b p) = -1
    · rw [if_pos d] at e
      rw [e] at d
      exact absurd d (by decide)
    · rw [if_neg d] at e
      exact absurd e (by decide)
  · rw [if_neg c]
    by_cases d : 255 < mv b p (nL b n p) ∨ (b p = 48 ∧ 1 < nL b n p)
    · rw [if_pos d]
      exact ⟨fun e => absurd e (by decide), fun e => absurd d (fun d => d.elim e.2.1 e.2.2)⟩
    · rw [if_neg d]
      exact ⟨fun _ => ⟨c, fun q => d (Or.inl q), fun q => d (Or.inr q)⟩, fun _ => rfl⟩
theorem tk_59 {b : Nat → Int32} {n p : Nat} (hp : p < n) : tk b n p = 59 ↔ b p = 59 := by
  rw [tk_lt hp]
  by_cases c : mIn (b p) 48 57 = 0
  · rw [if_pos c]
    by_cases d : b p = 59 ∨ ¬ sOf (b p) = -1
    · rw [if_pos d]
    · rw [if_neg d]
      exact ⟨fun e => absurd e (by decide), fun e => absurd (Or.inl e) d⟩
  · rw [if_neg c]
    refine ⟨fun e => ?_, fun e => absurd e (fig_s c).2⟩
    exfalso
    by_cases d : 255 < mv b p (nL b n p) ∨ (b p = 48 ∧ 1 < nL b n p)
    · rw [if_pos d] at e; exact absurd e (by decide)
    · rw [if_neg d] at e; exact absurd e (by decide)
theorem tk_two {b : Nat → Int32} {n p : Nat} (hp : p < n) : ¬ tk b n p = 2 := by
  rw [tk_lt hp]
  by_cases c : mIn (b p) 48 57 = 0
  · rw [if_pos c]
    by_cases d : b p = 59 ∨ ¬ sOf (b p) = -1
    · rw [if_pos d]
      intro e
      rw [e] at d
      exact absurd d (by decide)
    · rw [if_neg d]; decide
  · rw [if_neg c]
    by_cases d : 255 < mv b p (nL b n p) ∨ (b p = 48 ∧ 1 < nL b n p)
    · rw [if_pos d]; decide
    · rw [if_neg d]; decide
theorem tk_w {b : Nat → Int32} {n p : Nat} (hp : p < n) : wOf (tk b n p) = wOf (b p) := by
  rw [tk_lt hp]
  by_cases c : mIn (b p) 48 57 = 0
  · rw [if_pos c]
    by_cases d : b p = 59 ∨ ¬ sOf (b p) = -1
    · rw [if_pos d]
    · rw [if_neg d, wOf_9.2 (show sOf (b p) = -1 by
        by_cases e : sOf (b p) = -1
        · exact e
        · exact absurd (Or.inr e) d)]
      decide
  · rw [if_neg c, wOf_9.2 (fig_s c).1]
    by_cases d : 255 < mv b p (nL b n p) ∨ (b p = 48 ∧ 1 < nL b n p)
    · rw [if_pos d]; decide
    · rw [if_neg d]; decide
theorem tk_n (b : Nat → Int32) (n : Nat) : tk b n n = 2 := if_pos rfl
theorem wOf_k {x : Int32} {k : Nat} (hk : k ≤ 5) (h : sOf x = nI k) : wOf x = nI k := by
  unfold wOf
  rw [h, if_neg (fun e => absurd (congrArg Int32.toInt e) (by rw [ti (by omega), show (-1 : Int32).toInt = -1 from rfl]; omega))]
theorem nI_n9 {k : Nat} (hk : k < 2147483648) : ¬ nI k = -9 := fun e => absurd (congrArg Int32.toInt e) (by rw [ti hk, show (-9 : Int32).toInt = -9 from rfl]; omega)
theorem e_must1 {b : Nat → Int32} {n : Nat} {U : hS} (h : mT b n U) (q : Nat) (hq : q ≤ n) (ha : U.2.1 57 9 = nI q) (hf : U.2.1 57 13 = -9) : ∃ U', Ev 117 [.inr (some (10, 57)), .inl 1] U (none, U') ∧ mFr U U' ∧ nSt b n (bl b (n - q) q) U' := by
  obtain ⟨U', a, f, s⟩ := e_next h q hq ha
  refine ⟨U', ?_, f, s⟩
  show Rn hc_X10_must 0 [some (.inr (some (10, 57))), some (.inl 1)] [] U _
  iterate 6 refine r_step rfl rfl ?_
  rw [hf]
  refine r_i_ne (fun q => absurd rfl q) (fun _ => ?_)
  refine r_step rfl rfl ?_
  refine r_callv rfl rfl a ?_
  exact r_retn rfl rfl
theorem e_must0 {U : hS} (p : Nat) (hp : p < 2147483648) (hs : U.2.1 57 10 = nI p) (hf : U.2.1 57 13 = -9) : Ev 117 [.inr (some (10, 57)), .inl 0] U (none, hPut U 57 13 (nI p)) := by
  show Rn hc_X10_must 0 [some (.inr (some (10, 57))), some (.inl 0)] [] U _
  iterate 6 refine r_step rfl rfl ?_
  rw [hf]
  refine r_i_ne (fun q => absurd rfl q) (fun _ => ?_)
  iterate 4 refine r_step rfl rfl ?_
  rw [hs]
  iterate 4 refine r_step rfl rfl ?_
  rw [hPut_at, pk_us]
  exact r_i_ne (fun _ => r_retn rfl rfl) (fun q => absurd q (nI_n9 hp))
theorem e_mustF {U : hS} (p : Nat) (hp : p < 2147483648) (hf : U.2.1 57 13 = nI p) (x : Int32) : Ev 117 [.inr (some (10, 57)), .inl x] U (none, U) := by
  have out : Rn hc_X10_must 21 [some (.inr (some (10, 57))), some (.inl x)] [] U (none, U) := by
    iterate 4 refine r_step rfl rfl ?_
    rw [hf]
    exact r_i_ne (fun _ => r_retn rfl rfl) (fun q => absurd q (nI_n9 hp))
  show Rn hc_X10_must 0 [some (.inr (some (10, 57))), some (.inl x)] [] U _
  iterate 2 refine r_step rfl rfl ?_
  refine r_i_ne (fun _ => out) (fun _ => ?_)
  iterate 4 refine r_step rfl rfl ?_
  rw [hf]
  exact r_i_ne (fun _ => out) (fun q => absurd q (nI_n9 hp))
theorem e_leastOf (k : Nat) (hk : k ≤ 5) (U : hS) (hL : hLay U) : Ev 12 [.inr (some (10, 57)), .inl (nI k)] U (some (rLo (U.2.1 65) k), U) := by
  show Rn hc_X10_leastOf 0 [some (.inr (some (10, 57))), some (.inl (nI k))] [] U _
  match k, hk with
  | 0, _ => (iterate 4 refine r_step rfl rfl ?_); exact r_reti rfl rfl rfl
  | 1, _ =>
    iterate 6 refine r_step rfl rfl ?_
    refine r_getr rfl (rv_57_14 hL) ?_
    refine r_step rfl rfl ?_
    refine r_iald rfl 0 rfl ⟨⟨by decide, by decide⟩, by decide⟩ ?_
    iterate 3 refine r_step rfl rfl ?_
    exact r_reti rfl rfl rfl
  | 2, _ => (iterate 10 refine r_step rfl rfl ?_); exact r_reti rfl rfl rfl
  | 3, _ => (iterate 13 refine r_step rfl rfl ?_); exact r_reti rfl rfl rfl
  | 4, _ => (iterate 16 refine r_step rfl rfl ?_); exact r_reti rfl rfl rfl
  | 5, _ => (iterate 15 refine r_step rfl rfl ?_); exact r_reti rfl rfl rfl
  | n + 6, h => exact absurd h (by omega)
theorem e_mostOf (k : Nat) (hk : k ≤ 5) (U : hS) : Ev 13 [.inl (nI k)] U (some (rHi k), U) := by
  show Rn hc_X10_mostOf 0 [some (.inl (nI k))] [] U _
  match k, hk with
  | 0, _ => (iterate 4 refine r_step rfl rfl ?_); exact r_reti rfl rfl rfl
  | 1, _ => (iterate 7 refine r_step rfl rfl ?_); exact r_reti rfl rfl rfl
  | 2, _ => (iterate 10 refine r_step rfl rfl ?_); exact r_reti rfl rfl rfl
  | 3, _ => (iterate 13 refine r_step rfl rfl ?_); exact r_reti rfl rfl rfl
  | 4, _ => (iterate 16 refine r_step rfl rfl ?_); exact r_reti rfl rfl rfl
  | 5, _ => (iterate 15 refine r_step rfl rfl ?_); exact r_reti rfl rfl rfl
  | n + 6, h => exact absurd h (by omega)
def mF2 (U U' : hS) : Prop := hFr U U' (fun p => p = 57 ∨ p = 65) ∧ ∀ j, (j ≤ 8 ∨ j = 14 ∨ 16 ≤ j) → U'.2.1 57 j = U.2.1 57 j
theorem mF2.trans {U V W : hS} (a : mF2 U V) (b : mF2 V W) : mF2 U W := ⟨a.1.trans b.1, fun j hj => (b.2 j hj).trans (a.2 j hj)⟩
theorem mF2.rf (U : hS) : mF2 U U := ⟨hFr.rf _ _, fun _ _ => rfl⟩
theorem mFr.to2 {U V : hS} (a : mFr U V) : mF2 U V := ⟨a.1.mono (fun p hp => Or.inl hp), fun j hj => a.2 j (by omega)⟩
theorem mF2.put (U : hS) (k : Nat) (x : Int32) (h : (9 ≤ k ∧ k ≤ 13) ∨ k = 15) : mF2 U (hPut U 57 k x) := ⟨hFr_put _ _ _ _ (Or.inl rfl), fun j hj => by rw [hPut_at, pk_un (by omega)]⟩
theorem mF2.put65 (U : hS) (k : Nat) (x : Int32) : mF2 U (hPut U 65 k x) := ⟨hFr_put _ _ _ _ (Or.inr rfl), fun j hj => by rw [hPut_ne (by decide)]⟩
theorem mT.f2 {b : Nat → Int32} {n : Nat} {U U' : hS} (h : mT b n U) (f : mF2 U U') : mT b n U' := by
  obtain ⟨a, c, d, e⟩ := h
  exact ⟨a.fr f.1, c, by rw [f.2 8 (by omega)]; exact d, by rw [f.1.2.2 64 (by decide)]; exact e⟩
/-- the end of an item: its fault is known already -/
theorem ri_end {U : hS} (p : Nat) (hp : p < 2147483648) (hf : U.2.1 57 13 = nI p) (l1 l2 : Option hV) : Rn hc_X10_readsItem 132 [some (.inr (some (10, 57))), l1, l2] [] U (none, U) := by
  iterate 5 refine r_step rfl rfl ?_
  refine r_i_ne (fun _ => ?_) (fun _ => ?_)
  · refine r_step rfl rfl ?_
    refine r_callv rfl rfl (e_mustF p hp hf _) ?_
    exact r_retn rfl rfl
  · iterate 2 refine r_step rfl rfl ?_
    refine r_callv rfl rfl (e_mustF p hp hf _) ?_
    exact r_retn rfl rfl
