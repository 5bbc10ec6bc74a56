/-! Rows of the machine for the instructions that need a word of their own. -/
def hRow (S : hS) (c : Nat) (f : Nat → Int32) : hS := (S.1, va_up S.2.1 c f, S.2.2)
theorem hRow_at (S : hS) (c : Nat) (f : Nat → Int32) : (hRow S c f).2.1 c = f := va_up_self _ _ _
theorem hRow_ne (S : hS) {c d : Nat} (f : Nat → Int32) (h : d ≠ c) : (hRow S c f).2.1 d = S.2.1 d := va_up_ne _ _ h
theorem hRow_row (S : hS) (c : Nat) (f g : Nat → Int32) : hRow (hRow S c f) c g = hRow S c g := by
  unfold hRow
  refine Prod.ext rfl (Prod.ext ?_ rfl)
  funext p
  by_cases h : p = c
  · subst h; exact (va_up_self _ _ _).trans (va_up_self _ _ _).symm
  · exact (va_up_ne _ _ h).trans ((va_up_ne _ _ h).trans (va_up_ne _ _ h).symm)
theorem hRow_self (S : hS) (c : Nat) : hRow S c (S.2.1 c) = S := by
  unfold hRow
  refine Prod.ext rfl (Prod.ext ?_ rfl)
  funext p
  by_cases h : p = c
  · subst h; exact va_up_self _ _ _
  · exact va_up_ne _ _ h
theorem hRow_comm (S : hS) {c d : Nat} (f g : Nat → Int32) (h : c ≠ d) : hRow (hRow S c f) d g = hRow (hRow S d g) c f := by
  unfold hRow
  refine Prod.ext rfl (Prod.ext ?_ rfl)
  funext p
  show va_up (va_up S.2.1 c f) d g p = va_up (va_up S.2.1 d g) c f p
  by_cases hd : p = d
  · subst hd
    rw [va_up_self, va_up_ne _ _ (fun e => h e.symm), va_up_self]
  · by_cases hc : p = c
    · subst hc; rw [va_up_ne _ _ hd, va_up_self, va_up_self]
    · rw [va_up_ne _ _ hd, va_up_ne _ _ hc, va_up_ne _ _ hc, va_up_ne _ _ hd]
theorem hPut_eq (S : hS) (c k : Nat) (x : Int32) : hPut S c k x = hRow S c (upd (S.2.1 c) k x) := rfl
theorem hPut_row (S : hS) (c k : Nat) (f : Nat → Int32) (x : Int32) : hPut (hRow S c f) c k x = hRow S c (upd f k x) := by rw [hPut_eq, hRow_at, hRow_row]
theorem hRow_k (S : hS) (c : Nat) (f : Nat → Int32) : (hRow S c f).1 = S.1 := rfl
theorem hRow_r (S : hS) (c : Nat) (f : Nat → Int32) : (hRow S c f).2.2 = S.2.2 := rfl
theorem hPut_k (S : hS) (c k : Nat) (x : Int32) : (hPut S c k x).1 = S.1 := rfl
theorem hPut_r (S : hS) (c k : Nat) (x : Int32) : (hPut S c k x).2.2 = S.2.2 := rfl
section
variable {C : hC} {pc : Nat} {L : List (Option hV)} {r st : List hV} {S : hS} {o : Option Int32 × hS} {p0 nx a b d q : Nat} {v : Int32}
theorem r_stepS {e : hE} {pc' : Nat} {L' : List (Option hV)} {st' : List hV} {S' : hS} (hf : hFetch C pc = some e) (ha : hAct e L st S = some (.inl (pc', L', st', S'))) (k : ∀ S1, S1 = S' → Rn C pc' L' st' S1 o) : Rn C pc L st S o := r_step hf ha (k _ rfl)
/-- the value on the stack gets a name -/
theorem r_top {x : Int32} (k : ∀ y, y = x → Rn C pc L (.inl y :: r) S o) : Rn C pc L (.inl x :: r) S o := k x rfl
theorem r_getr {idx c : Nat} {w : Nat × Nat} (hf : hFetch C pc = some (p0, .getfield idx, nx, a, b, 1, q, v)) (hw : S.2.2 c b = some w) (k : Rn C nx L (.inr (some w) :: r) S o) : Rn C pc L (.inr (some (a, c)) :: r) S o := by
  refine r_step hf ?_ k
  show hr (.inr (some (a, c)) :: r) (fun k c r => if k = a then some (.inl (nx, L, .inr (S.2.2 c b) :: r, S)) else none) = _
  unfold hr
  dsimp only
  rw [if_pos rfl, hw]
theorem r_iald {i : Int32} {k c : Nat} (hf : hFetch C pc = some (p0, .iaload, nx, a, b, d, q, v)) (j : Nat) (hi : i.toInt = (j : Int)) (hj : (10000 ≤ k ∧ k < 20000) ∧ j < k % 10000) (kk : Rn C nx L (.inl (S.2.1 c j) :: r) S o) : Rn C pc L (.inl i :: .inr (some (k, c)) :: r) S o := by
  refine r_step hf ?_ kk
  show hir (.inl i :: .inr (some (k, c)) :: r) (fun i k c r => if (10000 ≤ k ∧ k < 20000) ∧ 0 ≤ i.toInt ∧ i.toInt < ((k % 10000 : Nat) : Int) then some (.inl (nx, L, .inl (S.2.1 c i.toNatClampNeg) :: r, S)) else none) = _
  unfold hir
  dsimp only
  rw [if_pos ⟨hj.1, by omega, by omega⟩]
  have e : i.toNatClampNeg = j := by show i.toInt.toNat = j; omega
  rw [e]
theorem r_bald {i : Int32} {k c : Nat} (hf : hFetch C pc = some (p0, .baload, nx, a, b, d, q, v)) (j : Nat) (hi : i.toInt = (j : Int)) (hj : (20000 ≤ k ∧ k < 30000) ∧ j < k % 10000) (kk : Rn C nx L (.inl (S.2.1 c j) :: r) S o) : Rn C pc L (.inl i :: .inr (some (k, c)) :: r) S o := by
  refine r_step hf ?_ kk
  show hir (.inl i :: .inr (some (k, c)) :: r) (fun i k c r => if (20000 ≤ k ∧ k < 30000) ∧ 0 ≤ i.toInt ∧ i.toInt < ((k % 10000 : Nat) : Int) then some (.inl (nx, L, .inl (S.2.1 c i.toNatClampNeg) :: r, S)) else none) = _
  unfold hir
  dsimp only
  rw [if_pos ⟨hj.1, by omega, by omega⟩]
  have e : i.toNatClampNeg = j := by show i.toInt.toNat = j; omega
  rw [e]
theorem r_aald {i : Int32} {k c : Nat} {w : Nat × Nat} (hf : hFetch C pc = some (p0, .aaload, nx, a, b, d, q, v)) (j : Nat) (hi : i.toInt = (j : Int)) (hj : (30000 ≤ k ∧ k < 40000) ∧ j < k % 10000) (hw : S.2.2 c j = some w) (kk : Rn C nx L (.inr (some w) :: r) S o) : Rn C pc L (.inl i :: .inr (some (k, c)) :: r) S o := by
  refine r_step hf ?_ kk
  show hir (.inl i :: .inr (some (k, c)) :: r) (fun i k c r => if (30000 ≤ k ∧ k < 40000) ∧ 0 ≤ i.toInt ∧ i.toInt < ((k % 10000 : Nat) : Int) then some (.inl (nx, L, .inr (S.2.2 c i.toNatClampNeg) :: r, S)) else none) = _
  unfold hir
  dsimp only
  rw [if_pos ⟨hj.1, by omega, by omega⟩]
  have e : i.toNatClampNeg = j := by show i.toInt.toNat = j; omega
  rw [e, hw]
theorem r_iast {i x : Int32} {k c : Nat} (hf : hFetch C pc = some (p0, .iastore, nx, a, b, d, q, v)) (j : Nat) (hi : i.toInt = (j : Int)) (hj : (10000 ≤ k ∧ k < 20000) ∧ j < k % 10000) (kk : ∀ S1, S1 = hPut S c j x → Rn C nx L r S1 o) : Rn C pc L (.inl x :: .inl i :: .inr (some (k, c)) :: r) S o := by
  refine r_step hf ?_ (kk _ rfl)
  dsimp only [hAct]
  rw [if_pos ⟨hj.1, by omega, by omega⟩]
  have e : i.toNatClampNeg = j := by show i.toInt.toNat = j; omega
  rw [e]
theorem r_bast {i x : Int32} {k c : Nat} (hf : hFetch C pc = some (p0, .bastore, nx, a, b, d, q, v)) (j : Nat) (hi : i.toInt = (j : Int)) (hj : (20000 ≤ k ∧ k < 30000) ∧ j < k % 10000) (hx : x = 0 ∨ x = 1) (kk : ∀ S1, S1 = hPut S c j x → Rn C nx L r S1 o) : Rn C pc L (.inl x :: .inl i :: .inr (some (k, c)) :: r) S o := by
  refine r_step hf ?_ (kk _ rfl)
  dsimp only [hAct]
  rw [if_pos ⟨hj.1, by omega, by omega⟩, if_pos hx]
  have e : i.toNatClampNeg = j := by show i.toInt.toNat = j; omega
  rw [e]
/-- a boolean field -/
theorem r_putz {idx c : Nat} {x : Int32} (hf : hFetch C pc = some (p0, .putfield idx, nx, a, b, 2, q, v)) (hx : x = 0 ∨ x = 1) (k : ∀ S1, S1 = hPut S c b x → Rn C nx L r S1 o) : Rn C pc L (.inl x :: .inr (some (a, c)) :: r) S o := by
  refine r_step hf ?_ (k _ rfl)
  show (if a = a then (if x = 0 ∨ x = 1 then (some (.inl (nx, L, r, hPut S c b x)) : Option hA) else none) else none) = _
  rw [if_pos rfl, if_pos hx]
theorem r_div {x y : Int32} (hf : hFetch C pc = some (p0, .idiv, nx, a, b, d, q, v)) (hy : ¬ y = 0) (k : Rn C nx L (.inl (x / y) :: r) S o) : Rn C pc L (.inl y :: .inl x :: r) S o := by
  refine r_step hf ?_ k
  show h2 (.inl y :: .inl x :: r) (fun x y r => if y = 0 then none else some (.inl (nx, L, .inl (x / y) :: r, S))) = _
  unfold h2
  dsimp only
  rw [if_neg hy]
theorem r_rem {x y : Int32} (hf : hFetch C pc = some (p0, .irem, nx, a, b, d, q, v)) (hy : ¬ y = 0) (k : Rn C nx L (.inl (x - x / y * y) :: r) S o) : Rn C pc L (.inl y :: .inl x :: r) S o := by
  refine r_step hf ?_ k
  show h2 (.inl y :: .inl x :: r) (fun x y r => if y = 0 then none else some (.inl (nx, L, .inl (x - x / y * y) :: r, S))) = _
  unfold h2
  dsimp only
  rw [if_neg hy]
theorem r_reti {x y : Int32} {S' : hS} (hf : hFetch C pc = some (p0, .ireturn, nx, a, b, 0, q, v)) (hx : x = y) (hS : S = S') : Rn C pc L [.inl x] S (some y, S') := by
  subst hx; subst hS
  exact r_ret hf rfl
theorem r_retz {x y : Int32} {S' : hS} (hf : hFetch C pc = some (p0, .ireturn, nx, a, b, 2, q, v)) (hz : x = 0 ∨ x = 1) (hx : x = y) (hS : S = S') : Rn C pc L [.inl x] S (some y, S') := by
  subst hx; subst hS
  refine r_ret hf ?_
  dsimp only [hAct]
  rw [if_pos rfl, if_pos hz]
theorem r_retn {S' : hS} (hf : hFetch C pc = some (p0, .return_, nx, a, b, d, q, v)) (hS : S = S') : Rn C pc L [] S (none, S') := by
  subst hS
  exact r_ret hf rfl
theorem r_tsw {dd lo hi : Int} {offs : Array Int} {x : Int32} (t : Nat) (hf : hFetch C pc = some (p0, .tableswitch dd lo hi offs, nx, a, b, d, q, v)) (ht : hTs p0 dd lo hi offs x = t) (k : Rn C t L r S o) : Rn C pc L (.inl x :: r) S o := by
  subst ht
  exact r_step hf rfl k
theorem r_lsw {dd : Int} {ps : Array (Int × Int)} {x : Int32} (t : Nat) (hf : hFetch C pc = some (p0, .lookupswitch dd ps, nx, a, b, d, q, v)) (ht : hLs p0 dd ps x = t) (k : Rn C t L r S o) : Rn C pc L (.inl x :: r) S o := by
  subst ht
  exact r_step hf rfl k
end
/-- a table's switch, where the number isn't in it -/
theorem hTs_out {pc : Nat} {d lo hi : Int} {offs : Array Int} {x : Int32} (h : x.toInt < lo ∨ hi < x.toInt) : hTs pc d lo hi offs x = ((pc : Int) + d).toNat := by unfold hTs; rw [if_pos h]
theorem r_ifn {C : hC} {c : Prop} {i : Decidable (¬ c)} {p q : Nat} {L : List (Option hV)} {st : List hV} {S : hS} {o : Option Int32 × hS} (kt : ¬ c → Rn C p L st S o) (kf : c → Rn C q L st S o) : Rn C (if ¬ c then p else q) L st S o := by
  by_cases h : ¬ c
  · rw [if_pos h]; exact kt h
  · rw [if_neg h]; exact kf (Classical.byContradiction h)
theorem r_i_eq {C : hC} {x y : Int32} {p q : Nat} {L : List (Option hV)} {st : List hV} {S : hS} {o : Option Int32 × hS} (kt : x = y → Rn C p L st S o) (kf : ¬ (x = y) → Rn C q L st S o) : Rn C (hIf .eq x y p q) L st S o := r_if kt kf
theorem r_i_lt {C : hC} {x y : Int32} {p q : Nat} {L : List (Option hV)} {st : List hV} {S : hS} {o : Option Int32 × hS} (kt : x < y → Rn C p L st S o) (kf : ¬ (x < y) → Rn C q L st S o) : Rn C (hIf .lt x y p q) L st S o := r_if kt kf
theorem r_i_ge {C : hC} {x y : Int32} {p q : Nat} {L : List (Option hV)} {st : List hV} {S : hS} {o : Option Int32 × hS} (kt : y ≤ x → Rn C p L st S o) (kf : ¬ (y ≤ x) → Rn C q L st S o) : Rn C (hIf .ge x y p q) L st S o := r_if kt kf
theorem r_i_gt {C : hC} {x y : Int32} {p q : Nat} {L : List (Option hV)} {st : List hV} {S : hS} {o : Option Int32 × hS} (kt : y < x → Rn C p L st S o) (kf : ¬ (y < x) → Rn C q L st S o) : Rn C (hIf .gt x y p q) L st S o := r_if kt kf
theorem r_i_le {C : hC} {x y : Int32} {p q : Nat} {L : List (Option hV)} {st : List hV} {S : hS} {o : Option Int32 × hS} (kt : x ≤ y → Rn C p L st S o) (kf : ¬ (x ≤ y) → Rn C q L st S o) : Rn C (hIf .le x y p q) L st S o := r_if kt kf
theorem r_i_ne {C : hC} {x y : Int32} {p q : Nat} {L : List (Option hV)} {st : List hV} {S : hS} {o : Option Int32 × hS} (kt : ¬ x = y → Rn C p L st S o) (kf : x = y → Rn C q L st S o) : Rn C (hIf .ne x y p q) L st S o := r_ifn kt kf
