/-! The machine's steps are the JVM's. -/
def hBase : List Cond := lw_tbl.filter goodWord
def hNest : Cond → Bool
  | .fieldLinkNest .. => true
  | .methodLinkNest .. => true
  | _ => false
/-- what is known of a method's body: the code, the tables' words, the classes -/
def hX (D : va_G) (cs : ClassId × ClassId × ClassId) (h0 n0 : Nat) (I : hI) (p : Program) (R : Room) (s : State) (m : MethodId) (args : Array Value) (meth : Method) (c0 : Code) : Prop :=
  (p.tables.exec = Jvm.exec ∧ c0.code = I.2.1 ∧ meth.sig.returnType = I.2.2.2.1 ∧ c0.maxLocals = I.2.2.1 ∧ s.vm.findClass I.1.cls = some m.cls ∧ (∀ w ∈ hBase, w.before args s = true) ∧ meth.locks = false ∧ meth.name = I.1.name) ∧ va_K D vwCl (hTys cs) s ∧ (∀ w ∈ lw_tbl, hNest w = true → va_Nw w s) ∧ va_AO "HeldBlades$Moment" s ∧ s.heap.size = h0 + n0 ∧ R.frames = I.2.2.2.2.1 ∧ R.locals = 40 * I.2.2.2.2.1
def hSl (K : List Nat) : Nat := (K.map fun k => if k < 11 then hNf.getD k 0 else k % 10000).sum
theorem hSl_push (K : List Nat) (k : Nat) : hSl (K ++ [k]) = hSl K + (if k < 11 then hNf.getD k 0 else k % 10000) := by simp [hSl]
/-- a place of the method's body from which the JVM comes to Q -/
def hG (D : va_G) (cs : ClassId × ClassId × ClassId) (h0 n0 z0 : Nat) (I : hI) (p : Program) (l : Launch) (e : Env) (R : Room) (s : State) (m : MethodId) (args : Array Value) (below : List Frame) (meth : Method) (c0 : Code) (Q : State → Prop) (pc : Nat) (L : List (Option hV)) (st : List hV) (S : hS) : Prop :=
  ∀ (H : Heap) (locs : List Loc) (cells slots : Nat) (ls : Array Slot), hLc h0 ls I.2.2.1 L → va_P D vwCl (hWd h0 cs S) H → va_S (fun q => h0 ≤ q) s.heap H locs → n0 + cells = S.1.length → z0 + slots = hSl S.1 → W p l e R s m args below meth c0 H locs cells slots Q (F0 m pc ls (st.map (hvv h0)))
def okv (S : hS) (v : hV) : Prop := match v with
  | .inr (some q) => S.1[q.2]? = some q.1
  | _ => True
def okS (S : hS) : Prop := ∀ (c j : Nat) (q : Nat × Nat), S.2.2 c j = some q → S.1[q.2]? = some q.1
def okF (S : hS) (L : List (Option hV)) (st : List hV) : Prop := okS S ∧ (∀ (k : Nat) (v : hV), L[k]? = some (some v) → okv S v) ∧ ∀ v ∈ st, okv S v
theorem okv_i (S : hS) (x : Int32) : okv S (.inl x) := trivial
theorem okF.push {S : hS} {L : List (Option hV)} {st : List hV} {v : hV} (h : okF S L st) (hv : okv S v) : okF S L (v :: st) := ⟨h.1, h.2.1, fun w hw => by
  rcases List.mem_cons.mp hw with rfl | hw
  · exact hv
  · exact h.2.2 w hw⟩
theorem okF.tail {S : hS} {L : List (Option hV)} {st : List hV} {v : hV} (h : okF S L (v :: st)) : okF S L st := ⟨h.1, h.2.1, fun w hw => h.2.2 w (List.mem_cons_of_mem _ hw)⟩
theorem okF.head {S : hS} {L : List (Option hV)} {st : List hV} {v : hV} (h : okF S L (v :: st)) : okv S v := h.2.2 v List.mem_cons_self
theorem okF.store {S : hS} {L : List (Option hV)} {st : List hV} {v : hV} (a : Nat) (h : okF S L st) (hv : okv S v) : okF S (L.set a (some v)) st := ⟨h.1, fun k w hw => by
  rw [List.getElem?_set] at hw
  split at hw
  · split at hw
    · cases hw; exact hv
    · cases hw
  · exact h.2.1 k w hw, h.2.2⟩
theorem okv.mono {S S' : hS} {v : hV} (hp : S.1 <+: S'.1) (h : okv S v) : okv S' v := by
  rcases v with x | _ | q
  · trivial
  · trivial
  · obtain ⟨t, ht⟩ := hp
    have h : S.1[q.2]? = some q.1 := h
    show S'.1[q.2]? = some q.1
    rw [← ht, List.getElem?_append_left (List.getElem?_eq_some_iff.mp h).1]; exact h
/-- the numbers change, the kinds and the references don't -/
theorem okF.same {S S' : hS} {L : List (Option hV)} {st : List hV} (h : okF S L st) (h1 : S'.1 = S.1) (h2 : S'.2.2 = S.2.2) : okF S' L st := by
  have hv : ∀ v, okv S v → okv S' v := fun v hv => hv.mono (by rw [h1]; exact List.prefix_refl _)
  exact ⟨fun c j q hq => by rw [h1]; exact h.1 c j q (by rw [← h2]; exact hq), fun k v hk => hv v (h.2.1 k v hk), fun v hm => hv v (h.2.2 v hm)⟩
theorem hWord {args : Array Value} {s : State} {q : Nat} {w : Cond} (hts : ∀ w ∈ hBase, w.before args s = true) (h : lw_tbl[q]? = some w) (hg : goodWord w = true) : w.before args s = true := hts w (List.mem_filter.mpr ⟨List.mem_of_getElem? h, hg⟩)
theorem h1_some {st : List hV} {f : Int32 → List hV → Option hA} {A : hA} (h : h1 st f = some A) : ∃ x r, st = .inl x :: r ∧ f x r = some A := by
  unfold h1 at h
  split at h
  · exact ⟨_, _, rfl, h⟩
  · cases h
theorem h2_some {st : List hV} {f : Int32 → Int32 → List hV → Option hA} {A : hA} (h : h2 st f = some A) : ∃ x y r, st = .inl y :: .inl x :: r ∧ f x y r = some A := by
  unfold h2 at h
  split at h
  · exact ⟨_, _, _, rfl, h⟩
  · cases h
theorem hr_some {st : List hV} {f : Nat → Nat → List hV → Option hA} {A : hA} (h : hr st f = some A) : ∃ k c r, st = .inr (some (k, c)) :: r ∧ f k c r = some A := by
  unfold hr at h
  split at h
  · exact ⟨_, _, _, rfl, h⟩
  · cases h
theorem hir_some {st : List hV} {f : Int32 → Nat → Nat → List hV → Option hA} {A : hA} (h : hir st f = some A) : ∃ i k c r, st = .inl i :: .inr (some (k, c)) :: r ∧ f i k c r = some A := by
  unfold hir at h
  split at h
  · exact ⟨_, _, _, _, rfl, h⟩
  · cases h
/-- the class numbers, their fields' words -/
def hTy (k : Nat) : Nat → FieldType := match k with
  | 0 => tyX0
  | 1 => tyX1
  | 2 => tyX2
  | 3 => tyX3
  | 4 => tyX4
  | 5 => tyX5
  | 6 => tyX6
  | 7 => tyX7
  | 8 => tyX8
  | 9 => tyX9
  | _ => tyX10
theorem hCls {a : Nat} (h : a < 11) : vwCl[a]? = some (hR a, hT a, hNf.getD a 0) ∧ (∀ w ∈ u_ws (hR a) (hT a) (hNf.getD a 0), w ∈ hBase) ∧ (∀ k, k < hNf.getD a 0 → parseFieldDescriptor (hT a k).2.2.1 = some (hTy a k)) ∧ (∀ x, x < hNf.getD a 0 → ∀ y, y < hNf.getD a 0 → x ≠ y → (hT a x).2.1 ≠ (hT a y).2.1) ∧ (∀ j, j < hNf.getD a 0 → defaultValue (hTy a j) = if hRef a j = true then .null else .int 0) ∧ Cond.instantiable (hR a) (hNf.getD a 0) ∈ hBase ∧ Cond.initialized (hR a) ∈ hBase := by
  have good : ∀ {C : String} {T : u_T} {N : Nat}, (∀ w ∈ u_ws C T N, w ∈ lw_tbl) → (u_ws C T N).all goodWord = true → ∀ w ∈ u_ws C T N, w ∈ hBase := fun h1 h2 w hw => List.mem_filter.mpr ⟨h1 w hw, List.all_eq_true.mp h2 w hw⟩
  match a, h with
  | 0, _ => exact ⟨rfl, good hin_X0 (by decide +kernel), tyX0_ok, nmX0, by decide +kernel, by decide +kernel, by decide +kernel⟩
  | 1, _ => exact ⟨rfl, good hin_X1 (by decide +kernel), tyX1_ok, nmX1, by decide +kernel, by decide +kernel, by decide +kernel⟩
  | 2, _ => exact ⟨rfl, good hin_X2 (by decide +kernel), tyX2_ok, nmX2, by decide +kernel, by decide +kernel, by decide +kernel⟩
  | 3, _ => exact ⟨rfl, good hin_X3 (by decide +kernel), tyX3_ok, nmX3, by decide +kernel, by decide +kernel, by decide +kernel⟩
  | 4, _ => exact ⟨rfl, good hin_X4 (by decide +kernel), tyX4_ok, nmX4, by decide +kernel, by decide +kernel, by decide +kernel⟩
  | 5, _ => exact ⟨rfl, good hin_X5 (by decide +kernel), tyX5_ok, nmX5, by decide +kernel, by decide +kernel, by decide +kernel⟩
  | 6, _ => exact ⟨rfl, good hin_X6 (by decide +kernel), tyX6_ok, nmX6, by decide +kernel, by decide +kernel, by decide +kernel⟩
  | 7, _ => exact ⟨rfl, good hin_X7 (by decide +kernel), tyX7_ok, nmX7, by decide +kernel, by decide +kernel, by decide +kernel⟩
  | 8, _ => exact ⟨rfl, good hin_X8 (by decide +kernel), tyX8_ok, nmX8, by decide +kernel, by decide +kernel, by decide +kernel⟩
  | 9, _ => exact ⟨rfl, good hin_X9 (by decide +kernel), tyX9_ok, nmX9, by decide +kernel, by decide +kernel, by decide +kernel⟩
  | 10, _ => exact ⟨rfl, good hin_X10 (by decide +kernel), tyX10_ok, nmX10, by decide +kernel, by decide +kernel, by decide +kernel⟩
  | n + 11, h => exact absurd h (by omega)
theorem hB_nar {x : Int32} (h : x = 0 ∨ x = 1) : narrow .boolean (.int x) = .int x ∧ fits .boolean (.int x) = true ∧ vp_nar .boolean x = x := by
  rcases h with rfl | rfl <;> exact ⟨by decide, by decide, by decide⟩
