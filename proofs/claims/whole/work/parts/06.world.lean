/-! The machine's states as worlds of the kit. -/
def hvv (h0 : Nat) : hV → Value
  | .inl x => .int x
  | .inr o => va_rf (o.map fun q => h0 + q.2)
theorem hvv_cat (h0 : Nat) (v : hV) : (hvv h0 v).category = 1 := by
  rcases v with x | _ | q <;> rfl
def hFs (h0 k c : Nat) (S : hS) : List Value := (List.range (hNf.getD k 0)).map fun j => if hRef k j = true then va_rf ((S.2.2 c j).map fun q => h0 + q.2) else .int (S.2.1 c j)
def hCel (h0 : Nat) (cs : ClassId × ClassId × ClassId) (k c : Nat) (S : hS) : va_E := if k < 11 then .inr (k, hFs h0 k c S) else if k < 20000 then .inl (cs.1, k % 10000, .inl (S.2.1 c)) else if k < 30000 then .inl (cs.2.1, k % 10000, .inl (S.2.1 c)) else .inl (cs.2.2, k % 10000, .inr (.inr (.inr (.inr fun j => (S.2.2 c j).map fun q => h0 + q.2))))
def hWd (h0 : Nat) (cs : ClassId × ClassId × ClassId) (S : hS) : va_W := (List.range S.1.length).map fun c => (h0 + c, hCel h0 cs (S.1.getD c 0) c S)
def hTys (cs : ClassId × ClassId × ClassId) : List (ClassId × FieldType) := [(cs.1, .int), (cs.2.1, .boolean), (cs.2.2, .object "HeldBlades$Moment")]
theorem hCel_o {h0 k c : Nat} {cs : ClassId × ClassId × ClassId} {S : hS} (h : k < 11) : hCel h0 cs k c S = .inr (k, hFs h0 k c S) := by unfold hCel; rw [if_pos h]
theorem hCel_i {h0 k c : Nat} {cs : ClassId × ClassId × ClassId} {S : hS} (h : 10000 ≤ k) (h2 : k < 20000) : hCel h0 cs k c S = .inl (cs.1, k % 10000, .inl (S.2.1 c)) := by unfold hCel; rw [if_neg (by omega), if_pos h2]
theorem hCel_z {h0 k c : Nat} {cs : ClassId × ClassId × ClassId} {S : hS} (h : 20000 ≤ k) (h2 : k < 30000) : hCel h0 cs k c S = .inl (cs.2.1, k % 10000, .inl (S.2.1 c)) := by unfold hCel; rw [if_neg (by omega), if_neg (by omega), if_pos h2]
theorem hCel_q {h0 k c : Nat} {cs : ClassId × ClassId × ClassId} {S : hS} (h : 30000 ≤ k) : hCel h0 cs k c S = .inl (cs.2.2, k % 10000, .inr (.inr (.inr (.inr fun j => (S.2.2 c j).map fun q => h0 + q.2)))) := by unfold hCel; rw [if_neg (by omega), if_neg (by omega), if_neg (by omega)]
theorem hCel_congr {h0 k c : Nat} {cs : ClassId × ClassId × ClassId} {S S' : hS} (h1 : S'.2.1 c = S.2.1 c) (h2 : S'.2.2 c = S.2.2 c) : hCel h0 cs k c S' = hCel h0 cs k c S := by
  unfold hCel hFs
  rw [h1, h2]
theorem hWd_len (h0 : Nat) (cs : ClassId × ClassId × ClassId) (S : hS) : (hWd h0 cs S).length = S.1.length := by simp [hWd]
theorem hWd_at {h0 k c : Nat} {cs : ClassId × ClassId × ClassId} {S : hS} (h : S.1[c]? = some k) : (hWd h0 cs S)[c]? = some (h0 + c, hCel h0 cs k c S) := by
  have hl : c < S.1.length := (List.getElem?_eq_some_iff.mp h).1
  have hg : S.1.getD c 0 = k := by rw [List.getD_eq_getElem?_getD, h]; rfl
  unfold hWd
  rw [List.getElem?_map, List.getElem?_range hl]
  show some (h0 + c, hCel h0 cs (S.1.getD c 0) c S) = _
  rw [hg]
theorem hWd_fst {h0 i : Nat} {cs : ClassId × ClassId × ClassId} {S : hS} {p : Nat × va_E} (h : (hWd h0 cs S)[i]? = some p) : p.1 = h0 + i ∧ i < S.1.length := by
  have hl : i < S.1.length := by rw [← hWd_len h0 cs S]; exact (List.getElem?_eq_some_iff.mp h).1
  unfold hWd at h
  rw [List.getElem?_map, List.getElem?_range hl] at h
  have h := Option.some.inj h
  rw [← h]
  exact ⟨rfl, hl⟩
theorem hWd_D (h0 : Nat) (cs : ClassId × ClassId × ClassId) (S : hS) : va_D (fun q => h0 ≤ q) (hWd h0 cs S) := by
  refine ⟨fun i j p q hi hj hpq => ?_, fun k q hk => ?_⟩
  · have h1 := (hWd_fst hi).1
    have h2 := (hWd_fst hj).1
    omega
  · have h1 := (hWd_fst hk).1
    show h0 ≤ q.1
    omega
theorem hWd_set {h0 k c : Nat} {cs : ClassId × ClassId × ClassId} {S S' : hS} (hc : S.1[c]? = some k) (h1 : S'.1 = S.1) (h2 : ∀ d, d ≠ c → S'.2.1 d = S.2.1 d) (h3 : ∀ d, d ≠ c → S'.2.2 d = S.2.2 d) : (hWd h0 cs S).set c (h0 + c, hCel h0 cs k c S') = hWd h0 cs S' := by
  apply List.ext_getElem?
  intro i
  have hl : c < S.1.length := (List.getElem?_eq_some_iff.mp hc).1
  rw [List.getElem?_set]
  by_cases hi : c = i
  · subst hi
    rw [if_pos rfl, if_pos (by rw [hWd_len]; exact hl)]
    exact (hWd_at (by rw [h1]; exact hc)).symm
  · rw [if_neg hi]
    by_cases hil : i < S.1.length
    · obtain ⟨q, hq⟩ : ∃ q, S.1[i]? = some q := ⟨_, List.getElem?_eq_getElem hil⟩
      rw [hWd_at hq, hWd_at (S := S') (by rw [h1]; exact hq), hCel_congr (h2 i (fun e => hi e.symm)) (h3 i (fun e => hi e.symm))]
    · rw [List.getElem?_eq_none (by rw [hWd_len]; omega), List.getElem?_eq_none (by rw [hWd_len, h1]; omega)]
theorem hNew_at {S : hS} {k c q : Nat} (h : S.1[c]? = some q) : (hNew S k).1[c]? = some q := by
  have hl : c < S.1.length := (List.getElem?_eq_some_iff.mp h).1
  show (S.1 ++ [k])[c]? = some q
  rw [List.getElem?_append_left hl]; exact h
theorem hNew_last (S : hS) (k : Nat) : (hNew S k).1[S.1.length]? = some k := by
  show (S.1 ++ [k])[S.1.length]? = some k
  rw [List.getElem?_append_right (Nat.le_refl _)]; simp
theorem hWd_new (h0 : Nat) (cs : ClassId × ClassId × ClassId) (S : hS) (k : Nat) : hWd h0 cs (hNew S k) = hWd h0 cs S ++ [(h0 + S.1.length, hCel h0 cs k S.1.length (hNew S k))] := by
  apply List.ext_getElem?
  intro i
  have hlen : (hNew S k).1.length = S.1.length + 1 := by show (S.1 ++ [k]).length = _; simp
  rcases Nat.lt_trichotomy i S.1.length with hi | hi | hi
  · obtain ⟨q, hq⟩ : ∃ q, S.1[i]? = some q := ⟨_, List.getElem?_eq_getElem hi⟩
    rw [List.getElem?_append_left (by rw [hWd_len]; exact hi), hWd_at hq, hWd_at (hNew_at hq), hCel_congr (va_up_ne _ _ (by omega)) (va_up_ne _ _ (by omega))]
  · subst hi
    rw [List.getElem?_append_right (by rw [hWd_len]; exact Nat.le_refl _), hWd_at (hNew_last S k), hWd_len]
    simp
  · rw [List.getElem?_eq_none (by rw [hWd_len, hlen]; omega), List.getElem?_eq_none (by simp [hWd_len]; omega)]
/-- a cell that has come lies behind the others -/
theorem hWd_fresh {h0 q : Nat} {cs : ClassId × ClassId × ClassId} {S : hS} {e : va_E} (hD : va_D (fun q => h0 ≤ q) (hWd h0 cs S ++ [(q, e)])) (hlt : q < h0 + S.1.length + 1) : q = h0 + S.1.length := by
  have hlast : (hWd h0 cs S ++ [(q, e)])[S.1.length]? = some (q, e) := by
    rw [List.getElem?_append_right (by rw [hWd_len]; exact Nat.le_refl _), hWd_len]; simp
  have hge : h0 ≤ q := hD.2 _ _ hlast
  rcases Nat.lt_or_ge q (h0 + S.1.length) with h | h
  · exfalso
    have hi : q - h0 < S.1.length := by omega
    obtain ⟨r, hr⟩ : ∃ r, S.1[q - h0]? = some r := ⟨_, List.getElem?_eq_getElem hi⟩
    have h1 : (hWd h0 cs S ++ [(q, e)])[q - h0]? = some (h0 + (q - h0), hCel h0 cs r (q - h0) S) := by
      rw [List.getElem?_append_left (by rw [hWd_len]; exact hi)]; exact hWd_at hr
    have := hD.1 _ _ _ _ h1 hlast (by show h0 + (q - h0) = q; omega)
    omega
  · omega
theorem hFs_len (h0 k c : Nat) (S : hS) : (hFs h0 k c S).length = hNf.getD k 0 := by simp [hFs]
theorem hFs_at {h0 k c j : Nat} {S : hS} (hj : j < hNf.getD k 0) : (hFs h0 k c S)[j]? = some (if hRef k j = true then va_rf ((S.2.2 c j).map fun q => h0 + q.2) else .int (S.2.1 c j)) := by
  unfold hFs
  rw [List.getElem?_map, List.getElem?_range hj]; rfl
theorem hFs_put {h0 k c j : Nat} {S : hS} {x : Int32} (hr : hRef k j = false) : (hFs h0 k c S).set j (.int x) = hFs h0 k c (hPut S c j x) := by
  apply List.ext_getElem?
  intro i
  rw [List.getElem?_set]
  by_cases hl : i < hNf.getD k 0
  · rw [hFs_at hl, hFs_at hl]
    by_cases hi : j = i
    · subst hi
      rw [if_pos rfl, if_pos (by rw [hFs_len]; exact hl), if_neg (by rw [hr]; decide)]
      show _ = some (Value.int (va_up S.2.1 c (upd (S.2.1 c) j x) c j))
      rw [va_up_self, pk_us]
    · rw [if_neg hi]
      have e1 : (hPut S c j x).2.1 c i = S.2.1 c i := by
        show va_up S.2.1 c (upd (S.2.1 c) j x) c i = _
        rw [va_up_self, pk_un (fun e => hi e.symm)]
      rw [e1]; rfl
  · have e1 : (hFs h0 k c (hPut S c j x))[i]? = none := List.getElem?_eq_none (by rw [hFs_len]; omega)
    have e2 : (hFs h0 k c S)[i]? = none := List.getElem?_eq_none (by rw [hFs_len]; omega)
    rw [e1, e2]
    by_cases hi : j = i
    · subst hi; rw [if_pos rfl, if_neg (by rw [hFs_len]; exact hl)]
    · rw [if_neg hi]
theorem hFs_putR {h0 k c j : Nat} {S : hS} {x : Nat × Nat} (hr : hRef k j = true) : (hFs h0 k c S).set j (.ref (h0 + x.2)) = hFs h0 k c (hPutR S c j x) := by
  apply List.ext_getElem?
  intro i
  rw [List.getElem?_set]
  by_cases hl : i < hNf.getD k 0
  · rw [hFs_at hl, hFs_at hl]
    by_cases hi : j = i
    · subst hi
      rw [if_pos rfl, if_pos (by rw [hFs_len]; exact hl), if_pos hr]
      have e1 : (hPutR S c j x).2.2 c j = some x := by
        show va_up S.2.2 c (va_up (S.2.2 c) j (some x)) c j = _
        rw [va_up_self, va_up_self]
      rw [e1]; rfl
    · rw [if_neg hi]
      have e1 : (hPutR S c j x).2.2 c i = S.2.2 c i := by
        show va_up S.2.2 c (va_up (S.2.2 c) j (some x)) c i = _
        rw [va_up_self, va_up_ne _ _ (fun e => hi e.symm)]
      rw [e1]; rfl
  · have e1 : (hFs h0 k c (hPutR S c j x))[i]? = none := List.getElem?_eq_none (by rw [hFs_len]; omega)
    have e2 : (hFs h0 k c S)[i]? = none := List.getElem?_eq_none (by rw [hFs_len]; omega)
    rw [e1, e2]
    by_cases hi : j = i
    · subst hi; rw [if_pos rfl, if_neg (by rw [hFs_len]; exact hl)]
    · rw [if_neg hi]
/-- the locals -/
def hLc (h0 : Nat) (ls : Array Slot) (n : Nat) (L : List (Option hV)) : Prop := ls.size = n ∧ lv_wf ls ∧ ∀ (k : Nat) (v : hV), L[k]? = some (some v) → ls[k]? = some (.val (hvv h0 v))
def hPr (h0 : Nat) (L : List (Option hV)) : List (Nat × Value) := (List.range L.length).filterMap fun k => match L[k]? with
  | some (some v) => some (k, hvv h0 v)
  | _ => none
theorem hPr_mem {h0 : Nat} {L : List (Option hV)} {q : Nat × Value} (h : q ∈ hPr h0 L) : ∃ v, L[q.1]? = some (some v) ∧ q.2 = hvv h0 v := by
  obtain ⟨k, -, hk⟩ := List.mem_filterMap.mp h
  split at hk
  · rename_i v hv
    cases hk
    exact ⟨v, hv, rfl⟩
  · cases hk
theorem hPr_of {h0 : Nat} {L : List (Option hV)} {k : Nat} {v : hV} (h : L[k]? = some (some v)) : (k, hvv h0 v) ∈ hPr h0 L := by
  refine List.mem_filterMap.mpr ⟨k, List.mem_range.mpr (List.getElem?_eq_some_iff.mp h).1, ?_⟩
  rw [h]
theorem hLc_has {h0 : Nat} {ls : Array Slot} {n : Nat} {L : List (Option hV)} (h : hLc h0 ls n L) : lv_has ls n (hPr h0 L) := ⟨h.1, h.2.1, fun q hq => by
  obtain ⟨v, h1, h2⟩ := hPr_mem hq
  rw [h2]; exact h.2.2 _ _ h1⟩
theorem hLc_set {h0 : Nat} {ls : Array Slot} {n a : Nat} {L : List (Option hV)} {v : hV} (h : lv_has ls n ((a, hvv h0 v) :: (hPr h0 L).filter (fun q => !(q.1 == a) && !(q.1 + 1 == a && q.2.category == 2)))) : hLc h0 ls n (L.set a (some v)) := by
  refine ⟨h.1, h.2.1, fun k w hk => ?_⟩
  rw [List.getElem?_set] at hk
  by_cases hka : a = k
  · subst hka
    rw [if_pos rfl] at hk
    split at hk
    · cases hk
      exact h.2.2 (a, hvv h0 v) List.mem_cons_self
    · cases hk
  · rw [if_neg hka] at hk
    refine h.2.2 (k, hvv h0 w) (List.mem_cons_of_mem _ (List.mem_filter.mpr ⟨hPr_of hk, ?_⟩))
    have e1 : (k == a) = false := by simp; exact fun e => hka e.symm
    simp [e1, hvv_cat]
theorem hArgs_mem {h0 : Nat} : ∀ (as : List hV) (i k : Nat) (v : hV), as[k]? = some v → (i + k, hvv h0 v) ∈ lv_args i (as.map (hvv h0))
  | [], i, k, v, h => by simp at h
  | a :: as, i, 0, v, h => by
    simp at h
    subst h
    exact List.mem_cons_self
  | a :: as, i, k + 1, v, h => by
    simp at h
    have := hArgs_mem (h0 := h0) as (i + 1) k v h
    show _ ∈ (i, hvv h0 a) :: lv_args (if (hvv h0 a).category = 2 then i + 2 else i + 1) (as.map (hvv h0))
    rw [hvv_cat, if_neg (by decide)]
    rw [show i + (k + 1) = i + 1 + k by omega]
    exact List.mem_cons_of_mem _ this
theorem hArgs_len (h0 : Nat) (as : List hV) : (lg_sl (as.map (hvv h0))).length = as.length := by
  induction as with
  | nil => rfl
  | cons a as ih =>
    show (List.flatMap _ (hvv h0 a :: as.map (hvv h0))).length = _
    rw [List.flatMap_cons, hvv_cat, if_neg (by decide)]
    simp only [List.length_append, List.length_cons, List.length_nil]
    unfold lg_sl at ih
    omega
theorem hLc_entry {h0 n : Nat} {as : List hV} (hn : as.length ≤ n) : hLc h0 ((lg_sl (as.map (hvv h0)) ++ List.replicate (n - (lg_sl (as.map (hvv h0))).length) Slot.unset).toArray) n (hInit n as) := by
  have h := lv_entry (as.map (hvv h0)) (n := n) (by rw [hArgs_len]; exact hn)
  refine ⟨h.1, h.2.1, fun k v hk => ?_⟩
  unfold hInit at hk
  by_cases hl : k < as.length
  · rw [List.getElem?_append_left (by simp; exact hl), List.getElem?_map] at hk
    cases ha : as[k]? with
    | none => rw [ha] at hk; cases hk
    | some w =>
      rw [ha] at hk
      cases hk
      have := h.2.2 _ (hArgs_mem (h0 := h0) as 0 k v ha)
      simpa using this
  · rw [List.getElem?_append_right (by simp; omega), List.getElem?_replicate] at hk
    split at hk <;> cases hk
