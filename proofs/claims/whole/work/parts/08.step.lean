/-! What one step of the machine is on the JVM. -/
theorem hSum (h0 : Nat) (r : List hV) : ((r.map (hvv h0)).map fun v => v.category).sum = r.length := by
  induction r with
  | nil => rfl
  | cons a r ih =>
    show (hvv h0 a).category + ((r.map (hvv h0)).map fun v => v.category).sum = r.length + 1
    rw [ih, hvv_cat]; omega
theorem hWd_o {h0 a c : Nat} {cs : ClassId × ClassId × ClassId} {S : hS} (h : S.1[c]? = some a) (ha : a < 11) : (hWd h0 cs S)[c]? = some (h0 + c, .inr (a, hFs h0 a c S)) := by rw [hWd_at h, hCel_o ha]
theorem hWd_i {h0 a c : Nat} {cs : ClassId × ClassId × ClassId} {S : hS} (h : S.1[c]? = some a) (h1 : 10000 ≤ a) (h2 : a < 20000) : (hWd h0 cs S)[c]? = some (h0 + c, .inl (cs.1, a % 10000, .inl (S.2.1 c))) := by rw [hWd_at h, hCel_i h1 h2]
theorem hWd_z {h0 a c : Nat} {cs : ClassId × ClassId × ClassId} {S : hS} (h : S.1[c]? = some a) (h1 : 20000 ≤ a) (h2 : a < 30000) : (hWd h0 cs S)[c]? = some (h0 + c, .inl (cs.2.1, a % 10000, .inl (S.2.1 c))) := by rw [hWd_at h, hCel_z h1 h2]
theorem hWd_q {h0 a c : Nat} {cs : ClassId × ClassId × ClassId} {S : hS} (h : S.1[c]? = some a) (h1 : 30000 ≤ a) : (hWd h0 cs S)[c]? = some (h0 + c, .inl (cs.2.2, a % 10000, .inr (.inr (.inr (.inr fun j => (S.2.2 c j).map fun q => h0 + q.2))))) := by rw [hWd_at h, hCel_q h1]
theorem hPut_ne {S : hS} {c k d : Nat} {x : Int32} (h : d ≠ c) : (hPut S c k x).2.1 d = S.2.1 d := va_up_ne _ _ h
theorem hPut_at {S : hS} {c k : Nat} {x : Int32} : (hPut S c k x).2.1 c = upd (S.2.1 c) k x := va_up_self _ _ _
theorem hPutR_ne {S : hS} {c k d : Nat} {x : Nat × Nat} (h : d ≠ c) : (hPutR S c k x).2.2 d = S.2.2 d := va_up_ne _ _ h
theorem hPutR_at {S : hS} {c k : Nat} {x : Nat × Nat} : (hPutR S c k x).2.2 c = va_up (S.2.2 c) k (some x) := va_up_self _ _ _
theorem hWd_put {h0 a c b : Nat} {cs : ClassId × ClassId × ClassId} {S : hS} {x : Int32} (h : S.1[c]? = some a) (ha : a < 11) (hr : hRef a b = false) : (hWd h0 cs S).set c (h0 + c, .inr (a, (hFs h0 a c S).set b (.int x))) = hWd h0 cs (hPut S c b x) := by
  rw [hFs_put hr, ← hCel_o (cs := cs) ha]
  exact hWd_set h rfl (fun d hd => hPut_ne hd) (fun d hd => rfl)
theorem hWd_putR {h0 a c b : Nat} {cs : ClassId × ClassId × ClassId} {S : hS} {x : Nat × Nat} (h : S.1[c]? = some a) (ha : a < 11) (hr : hRef a b = true) : (hWd h0 cs S).set c (h0 + c, .inr (a, (hFs h0 a c S).set b (.ref (h0 + x.2)))) = hWd h0 cs (hPutR S c b x) := by
  rw [hFs_putR hr, ← hCel_o (cs := cs) ha]
  exact hWd_set h rfl (fun d hd => rfl) (fun d hd => hPutR_ne hd)
theorem hWd_iast {h0 a c j : Nat} {cs : ClassId × ClassId × ClassId} {S : hS} {x : Int32} (h : S.1[c]? = some a) (h1 : 10000 ≤ a) (h2 : a < 20000) : (hWd h0 cs S).set c (h0 + c, .inl (cs.1, a % 10000, .inl (upd (S.2.1 c) j x))) = hWd h0 cs (hPut S c j x) := by
  rw [← hPut_at, ← hCel_i (h0 := h0) (c := c) (cs := cs) (S := hPut S c j x) h1 h2]
  exact hWd_set h rfl (fun d hd => hPut_ne hd) (fun d hd => rfl)
theorem hWd_zast {h0 a c j : Nat} {cs : ClassId × ClassId × ClassId} {S : hS} {x : Int32} (h : S.1[c]? = some a) (h1 : 20000 ≤ a) (h2 : a < 30000) : (hWd h0 cs S).set c (h0 + c, .inl (cs.2.1, a % 10000, .inl (upd (S.2.1 c) j x))) = hWd h0 cs (hPut S c j x) := by
  rw [← hPut_at, ← hCel_z (h0 := h0) (c := c) (cs := cs) (S := hPut S c j x) h1 h2]
  exact hWd_set h rfl (fun d hd => hPut_ne hd) (fun d hd => rfl)
theorem hWd_qast {h0 a c j : Nat} {cs : ClassId × ClassId × ClassId} {S : hS} {x : Nat × Nat} (h : S.1[c]? = some a) (h1 : 30000 ≤ a) : (hWd h0 cs S).set c (h0 + c, .inl (cs.2.2, a % 10000, .inr (.inr (.inr (.inr (va_up (fun j => (S.2.2 c j).map fun q => h0 + q.2) j (some (h0 + x.2)))))))) = hWd h0 cs (hPutR S c j x) := by
  have e : (va_up (fun j => (S.2.2 c j).map fun q => h0 + q.2) j (some (h0 + x.2))) = fun j' => ((hPutR S c j x).2.2 c j').map fun q => h0 + q.2 := by
    funext j'
    rw [hPutR_at]
    by_cases hj : j' = j
    · subst hj; rw [va_up_self, va_up_self]; rfl
    · rw [va_up_ne _ _ hj, va_up_ne _ _ hj]
  rw [e, ← hCel_q (h0 := h0) (c := c) (cs := cs) (S := hPutR S c j x) h1]
  exact hWd_set h rfl (fun d hd => rfl) (fun d hd => hPutR_ne hd)
theorem hWd_cpy {h0 a c : Nat} {cs : ClassId × ClassId × ClassId} {S : hS} {f : Nat → Int32} (h : S.1[c]? = some a) (h1 : 10000 ≤ a) (h2 : a < 20000) : (hWd h0 cs S).set c (h0 + c, .inl (cs.1, a % 10000, .inl f)) = hWd h0 cs (S.1, va_up S.2.1 c f, S.2.2) := by
  have e : f = (S.1, va_up S.2.1 c f, S.2.2).2.1 c := (va_up_self _ _ _).symm
  rw [show (.inl (cs.1, a % 10000, .inl f) : va_E) = hCel h0 cs a c (S.1, va_up S.2.1 c f, S.2.2) by rw [hCel_i h1 h2, ← e]]
  exact hWd_set h rfl (fun d hd => va_up_ne _ _ hd) (fun d hd => rfl)
theorem hLs_nn (pc : Nat) : ∀ (l : List (Int × Int)) (d x : Int), 0 ≤ (pc : Int) + d → (∀ o ∈ l, 0 ≤ (pc : Int) + o.2) → 0 ≤ (pc : Int) + Op.lookupswitch.offset l d x
  | [], d, x, hd, _ => by simpa [Op.lookupswitch.offset] using hd
  | (a, o) :: r, d, x, hd, h => by
    have h1 := hLs_nn pc r d x hd (fun o ho => h o (List.mem_cons_of_mem _ ho))
    have h2 := h (a, o) List.mem_cons_self
    show 0 ≤ (pc : Int) + (if a = x then o else Op.lookupswitch.offset r d x)
    split
    · exact h2
    · exact h1
theorem hLastLt {D : va_G} {cl : List vw_C} {ws : va_W} {q : Nat} {e : va_E} {H : Heap} (h : va_P D cl (ws ++ [(q, e)]) H) : q < H.size := (h ws.length (q, e) (by simp)).lt
theorem hPre (S : hS) (k : Nat) : S.1 <+: (hNew S k).1 := ⟨[k], rfl⟩
theorem okF.new {S : hS} {L : List (Option hV)} {st : List hV} (h : okF S L st) (k : Nat) : okF (hNew S k) L (.inr (some (k, S.1.length)) :: st) := by
  refine okF.push ⟨fun c j q hq => ?_, fun i v hi => (h.2.1 i v hi).mono (hPre S k), fun v hm => (h.2.2 v hm).mono (hPre S k)⟩ (hNew_last S k)
  have hq : va_up S.2.2 S.1.length (fun _ => none) c j = some q := hq
  by_cases hc : c = S.1.length
  · subst hc; rw [va_up_self] at hq; cases hq
  · rw [va_up_ne _ _ hc] at hq; exact hNew_at (h.1 c j q hq)
theorem okF.putR {S : hS} {L : List (Option hV)} {st : List hV} {c k : Nat} {x : Nat × Nat} (h : okF S L st) (hx : S.1[x.2]? = some x.1) : okF (hPutR S c k x) L st := by
  refine ⟨fun c' j q hq => ?_, h.2.1, h.2.2⟩
  have hq : va_up S.2.2 c (va_up (S.2.2 c) k (some x)) c' j = some q := hq
  show S.1[q.2]? = some q.1
  by_cases hc : c' = c
  · subst hc
    rw [va_up_self] at hq
    by_cases hj : j = k
    · subst hj; rw [va_up_self] at hq; cases hq; exact hx
    · rw [va_up_ne _ _ hj] at hq; exact h.1 _ _ _ hq
  · rw [va_up_ne _ _ hc] at hq; exact h.1 _ _ _ hq
theorem hSize {p : Program} {l : Launch} {e : Env} {R : Room} {s : State} {m : MethodId} {args : Array Value} {below : List Frame} {meth : Method} {c : Code} {H : Heap} {locs : List Loc} {cells slots : Nat} {Q : State → Prop} {g : JFrame} (k : H.size ≤ s.heap.size + cells → W p l e R s m args below meth c H locs cells slots Q g) : W p l e R s m args below meth c H locs cells slots Q g := fun T hT X => k (by rw [← hT]; exact X.heapSize) T hT X
set_option maxHeartbeats 4000000 in
set_option maxRecDepth 100000 in
theorem hStep {D : va_G} {cs : ClassId × ClassId × ClassId} {h0 n0 z0 : Nat} {I : hI} {p : Program} {l : Launch} {e : Env} {R : Room} {s : State} {m : MethodId} {args : Array Value} {below : List Frame} {meth : Method} {c0 : Code} {Q : State → Prop} {E : hE} {L : List (Option hV)} {st : List hV} {S : hS} {pc' : Nat} {L' : List (Option hV)} {st' : List hV} {S1 : hS} (hx : hX D cs h0 n0 I p R s m args meth c0) (hc : hChkE I E = true) (ha : hAct E L st S = some (.inl (pc', L', st', S1))) (ok : okF S L st) :
    okF S1 L' st' ∧ S.1 <+: S1.1 ∧ (S1.1.length ≤ n0 + R.cells → hSl S1.1 ≤ z0 + R.slots → hG D cs h0 n0 z0 I p l e R s m args below meth c0 Q pc' L' st' S1 → hG D cs h0 n0 z0 I p l e R s m args below meth c0 Q E.1 L st S) := by
  obtain ⟨pc, i, nx, a, b, d, q, v⟩ := E
  simp only [hChkE, Bool.and_eq_true, decide_eq_true_eq] at hc
  obtain ⟨hd, hc⟩ := hc
  try dsimp only at hd
  obtain ⟨⟨hx1, hb, hret, hml, hown, hts, hlk, hnm⟩, hK, hN, hAO, hsz, hfr, hlo⟩ := hx
  have hA : ∀ q : Nat, s.heap.size ≤ q → (fun q => h0 ≤ q) q := fun q hq => by show h0 ≤ q; omega
  cases i with
  | iconst n => 
    simp only [hChkI, Bool.and_eq_true, decide_eq_true_eq] at hc
    obtain ⟨h1, rfl⟩ := hc
    rw [Nat.add_sub_cancel_left] at hd
    dsimp only [hAct] at ha
    cases ha
    exact ⟨ok.push trivial, List.prefix_refl _, fun _ _ k H locs cells slots ls hl hP hS hn hz => lv_iconst hx1 hb hd h1 (k H locs cells slots ls hl hP hS hn hz)⟩
  | bipush n => 
    simp only [hChkI, Bool.and_eq_true, decide_eq_true_eq] at hc
    obtain ⟨h1, rfl⟩ := hc
    rw [Nat.add_sub_cancel_left] at hd
    dsimp only [hAct] at ha
    cases ha
    exact ⟨ok.push trivial, List.prefix_refl _, fun _ _ k H locs cells slots ls hl hP hS hn hz => lv_bipush hx1 hb hd h1 (k H locs cells slots ls hl hP hS hn hz)⟩
  | sipush n => 
    simp only [hChkI, Bool.and_eq_true, decide_eq_true_eq] at hc
    obtain ⟨h1, rfl⟩ := hc
    rw [Nat.add_sub_cancel_left] at hd
    dsimp only [hAct] at ha
    cases ha
    exact ⟨ok.push trivial, List.prefix_refl _, fun _ _ k H locs cells slots ls hl hP hS hn hz => lv_sipush hx1 hb hd h1 (k H locs cells slots ls hl hP hS hn hz)⟩
  | ldc n => 
    simp only [hChkI, Bool.and_eq_true, decide_eq_true_eq] at hc
    obtain ⟨h1, rfl⟩ := hc
    rw [Nat.add_sub_cancel_left] at hd
    dsimp only [hAct] at ha
    cases ha
    exact ⟨ok.push trivial, List.prefix_refl _, fun _ _ k H locs cells slots ls hl hP hS hn hz => lv_ldc hx1 hb hown (hWord hts h1 rfl) hd (k H locs cells slots ls hl hP hS hn hz)⟩
  | ldc_w n => 
    simp only [hChkI, Bool.and_eq_true, decide_eq_true_eq] at hc
    obtain ⟨h1, rfl⟩ := hc
    rw [Nat.add_sub_cancel_left] at hd
    dsimp only [hAct] at ha
    cases ha
    exact ⟨ok.push trivial, List.prefix_refl _, fun _ _ k H locs cells slots ls hl hP hS hn hz => lv_ldcw hx1 hb hown (hWord hts h1 rfl) hd (k H locs cells slots ls hl hP hS hn hz)⟩
  | iload_n k => 
    simp only [hChkI, Bool.and_eq_true, decide_eq_true_eq] at hc
    obtain ⟨rfl, rfl⟩ := hc
    rw [Nat.add_sub_cancel_left] at hd
    dsimp only [hAct] at ha
    split at ha
    · rename_i x hxL
      cases ha
      exact ⟨ok.push trivial, List.prefix_refl _, fun _ _ k H locs cells slots ls hl hP hS hn hz => lv_iload_n hx1 hb hd rfl (hl.2.2 _ _ hxL) (k H locs cells slots ls hl hP hS hn hz)⟩
    · cases ha
  | iload k => 
    simp only [hChkI, Bool.and_eq_true, decide_eq_true_eq] at hc
    obtain ⟨rfl, rfl⟩ := hc
    rw [Nat.add_sub_cancel_left] at hd
    dsimp only [hAct] at ha
    split at ha
    · rename_i x hxL
      cases ha
      exact ⟨ok.push trivial, List.prefix_refl _, fun _ _ k H locs cells slots ls hl hP hS hn hz => lv_iload hx1 hb hd (hl.2.2 _ _ hxL) (k H locs cells slots ls hl hP hS hn hz)⟩
    · cases ha
  | aload_n k => 
    simp only [hChkI, Bool.and_eq_true, decide_eq_true_eq] at hc
    obtain ⟨rfl, rfl⟩ := hc
    rw [Nat.add_sub_cancel_left] at hd
    dsimp only [hAct] at ha
    split at ha
    · rename_i x hxL
      cases ha
      exact ⟨ok.push (ok.2.1 _ _ hxL), List.prefix_refl _, fun _ _ k H locs cells slots ls hl hP hS hn hz => lv_aload_n hx1 hb hd rfl (hl.2.2 _ _ hxL) (k H locs cells slots ls hl hP hS hn hz)⟩
    · cases ha
  | istore_n k => 
    simp only [hChkI, Bool.and_eq_true, decide_eq_true_eq] at hc
    obtain ⟨⟨rfl, rfl⟩, h3⟩ := hc
    rw [Nat.add_sub_cancel_left] at hd
    dsimp only [hAct] at ha
    split at ha
    · rename_i x r
      cases ha
      exact ⟨ok.tail.store _ ok.head, List.prefix_refl _, fun _ _ k H locs cells slots ls hl hP hS hn hz => lv_istore_n hx1 hb hd rfl (hLc_has hl) h3 rfl (fun ls1 hl1 => k H locs cells slots ls1 (hLc_set (v := .inl x) hl1) hP hS hn hz)⟩
    · cases ha
  | istore k => 
    simp only [hChkI, Bool.and_eq_true, decide_eq_true_eq] at hc
    obtain ⟨⟨rfl, rfl⟩, h3⟩ := hc
    rw [Nat.add_sub_cancel_left] at hd
    dsimp only [hAct] at ha
    split at ha
    · rename_i x r
      cases ha
      exact ⟨ok.tail.store _ ok.head, List.prefix_refl _, fun _ _ k H locs cells slots ls hl hP hS hn hz => lv_istore hx1 hb hd (hLc_has hl) h3 rfl (fun ls1 hl1 => k H locs cells slots ls1 (hLc_set (v := .inl x) hl1) hP hS hn hz)⟩
    · cases ha
  | astore_n k => 
    simp only [hChkI, Bool.and_eq_true, decide_eq_true_eq] at hc
    obtain ⟨⟨rfl, rfl⟩, h3⟩ := hc
    rw [Nat.add_sub_cancel_left] at hd
    dsimp only [hAct] at ha
    split at ha
    · rename_i x r
      cases ha
      exact ⟨ok.tail.store _ ok.head, List.prefix_refl _, fun _ _ k H locs cells slots ls hl hP hS hn hz => lv_astore_n hx1 hb hd rfl (hLc_has hl) h3 rfl (fun ls1 hl1 => k H locs cells slots ls1 (hLc_set (v := .inr (some x)) hl1) hP hS hn hz)⟩
    · cases ha
  | iinc k n => 
    simp only [hChkI, Bool.and_eq_true, decide_eq_true_eq] at hc
    obtain ⟨⟨⟨rfl, h1⟩, rfl⟩, h3⟩ := hc
    rw [Nat.add_sub_cancel_left] at hd
    dsimp only [hAct] at ha
    split at ha
    · rename_i x hxL
      cases ha
      refine ⟨ok.store _ trivial, List.prefix_refl _, fun _ _ kk H locs cells slots ls hl hP hS hn hz => ?_⟩
      obtain ⟨j, hj⟩ := List.getElem?_of_mem (hPr_of (h0 := h0) hxL)
      exact lv_iinc (x := x) (v := x + v) hx1 hb hd (hLc_has hl) hj (by rw [h1]) h3 rfl (fun ls1 hl1 => kk H locs cells slots ls1 (hLc_set (v := .inl (x + v)) hl1) hP hS hn hz)
    · cases ha
  | iadd => 
    simp only [hChkI, Bool.and_eq_true, decide_eq_true_eq] at hc
    subst hc
    rw [Nat.add_sub_cancel_left] at hd
    dsimp only [hAct] at ha
    obtain ⟨x, y, r, rfl, ha9⟩ := h2_some ha
    clear ha
    have ha := ha9
    clear ha9
    cases ha
    exact ⟨ok.tail.tail.push trivial, List.prefix_refl _, fun _ _ k H locs cells slots ls hl hP hS hn hz => lv_iadd hx1 hb hd (k H locs cells slots ls hl hP hS hn hz)⟩
  | isub => 
    simp only [hChkI, Bool.and_eq_true, decide_eq_true_eq] at hc
    subst hc
    rw [Nat.add_sub_cancel_left] at hd
    dsimp only [hAct] at ha
    obtain ⟨x, y, r, rfl, ha9⟩ := h2_some ha
    clear ha
    have ha := ha9
    clear ha9
    cases ha
    exact ⟨ok.tail.tail.push trivial, List.prefix_refl _, fun _ _ k H locs cells slots ls hl hP hS hn hz => lv_isub hx1 hb hd (k H locs cells slots ls hl hP hS hn hz)⟩
  | imul => 
    simp only [hChkI, Bool.and_eq_true, decide_eq_true_eq] at hc
    subst hc
    rw [Nat.add_sub_cancel_left] at hd
    dsimp only [hAct] at ha
    obtain ⟨x, y, r, rfl, ha9⟩ := h2_some ha
    clear ha
    have ha := ha9
    clear ha9
    cases ha
    exact ⟨ok.tail.tail.push trivial, List.prefix_refl _, fun _ _ k H locs cells slots ls hl hP hS hn hz => lv_imul hx1 hb hd (k H locs cells slots ls hl hP hS hn hz)⟩
  | iand => 
    simp only [hChkI, Bool.and_eq_true, decide_eq_true_eq] at hc
    subst hc
    rw [Nat.add_sub_cancel_left] at hd
    dsimp only [hAct] at ha
    obtain ⟨x, y, r, rfl, ha9⟩ := h2_some ha
    clear ha
    have ha := ha9
    clear ha9
    cases ha
    exact ⟨ok.tail.tail.push trivial, List.prefix_refl _, fun _ _ k H locs cells slots ls hl hP hS hn hz => lv_iand hx1 hb hd (k H locs cells slots ls hl hP hS hn hz)⟩
  | ior => 
    simp only [hChkI, Bool.and_eq_true, decide_eq_true_eq] at hc
    subst hc
    rw [Nat.add_sub_cancel_left] at hd
    dsimp only [hAct] at ha
    obtain ⟨x, y, r, rfl, ha9⟩ := h2_some ha
    clear ha
    have ha := ha9
    clear ha9
    cases ha
    exact ⟨ok.tail.tail.push trivial, List.prefix_refl _, fun _ _ k H locs cells slots ls hl hP hS hn hz => lv_ior hx1 hb hd (k H locs cells slots ls hl hP hS hn hz)⟩
  | ixor => 
    simp only [hChkI, Bool.and_eq_true, decide_eq_true_eq] at hc
    subst hc
    rw [Nat.add_sub_cancel_left] at hd
    dsimp only [hAct] at ha
    obtain ⟨x, y, r, rfl, ha9⟩ := h2_some ha
    clear ha
    have ha := ha9
    clear ha9
    cases ha
    exact ⟨ok.tail.tail.push trivial, List.prefix_refl _, fun _ _ k H locs cells slots ls hl hP hS hn hz => lv_ixor hx1 hb hd (k H locs cells slots ls hl hP hS hn hz)⟩
  | ishl => 
    simp only [hChkI, Bool.and_eq_true, decide_eq_true_eq] at hc
    subst hc
    rw [Nat.add_sub_cancel_left] at hd
    dsimp only [hAct] at ha
    obtain ⟨x, y, r, rfl, ha9⟩ := h2_some ha
    clear ha
    have ha := ha9
    clear ha9
    cases ha
    exact ⟨ok.tail.tail.push trivial, List.prefix_refl _, fun _ _ k H locs cells slots ls hl hP hS hn hz => lv_ishl hx1 hb hd (k H locs cells slots ls hl hP hS hn hz)⟩
  | ishr => 
    simp only [hChkI, Bool.and_eq_true, decide_eq_true_eq] at hc
    subst hc
    rw [Nat.add_sub_cancel_left] at hd
    dsimp only [hAct] at ha
    obtain ⟨x, y, r, rfl, ha9⟩ := h2_some ha
    clear ha
    have ha := ha9
    clear ha9
    cases ha
    exact ⟨ok.tail.tail.push trivial, List.prefix_refl _, fun _ _ k H locs cells slots ls hl hP hS hn hz => lv_ishr hx1 hb hd (k H locs cells slots ls hl hP hS hn hz)⟩
  | iushr => 
    simp only [hChkI, Bool.and_eq_true, decide_eq_true_eq] at hc
    subst hc
    rw [Nat.add_sub_cancel_left] at hd
    dsimp only [hAct] at ha
    obtain ⟨x, y, r, rfl, ha9⟩ := h2_some ha
    clear ha
    have ha := ha9
    clear ha9
    cases ha
    exact ⟨ok.tail.tail.push trivial, List.prefix_refl _, fun _ _ k H locs cells slots ls hl hP hS hn hz => lv_iushr hx1 hb hd rfl (k H locs cells slots ls hl hP hS hn hz)⟩
  | ineg => 
    simp only [hChkI, Bool.and_eq_true, decide_eq_true_eq] at hc
    subst hc
    rw [Nat.add_sub_cancel_left] at hd
    dsimp only [hAct] at ha
    obtain ⟨x, r, rfl, ha9⟩ := h1_some ha
    clear ha
    have ha := ha9
    clear ha9
    cases ha
    exact ⟨ok.tail.push trivial, List.prefix_refl _, fun _ _ k H locs cells slots ls hl hP hS hn hz => lv_ineg hx1 hb hd (k H locs cells slots ls hl hP hS hn hz)⟩
  | idiv => 
    simp only [hChkI, Bool.and_eq_true, decide_eq_true_eq] at hc
    subst hc
    rw [Nat.add_sub_cancel_left] at hd
    dsimp only [hAct] at ha
    obtain ⟨x, y, r, rfl, ha9⟩ := h2_some ha
    clear ha
    have ha := ha9
    clear ha9
    split at ha
    · cases ha
    · rename_i hy
      cases ha
      exact ⟨ok.tail.tail.push trivial, List.prefix_refl _, fun _ _ k H locs cells slots ls hl hP hS hn hz => lv_idiv hx1 hb hd hy (k H locs cells slots ls hl hP hS hn hz)⟩
  | irem => 
    simp only [hChkI, Bool.and_eq_true, decide_eq_true_eq] at hc
    subst hc
    rw [Nat.add_sub_cancel_left] at hd
    dsimp only [hAct] at ha
    obtain ⟨x, y, r, rfl, ha9⟩ := h2_some ha
    clear ha
    have ha := ha9
    clear ha9
    split at ha
    · cases ha
    · rename_i hy
      cases ha
      exact ⟨ok.tail.tail.push trivial, List.prefix_refl _, fun _ _ k H locs cells slots ls hl hP hS hn hz => lv_irem hx1 hb hd hy (k H locs cells slots ls hl hP hS hn hz)⟩
  | dup => 
    simp only [hChkI, Bool.and_eq_true, decide_eq_true_eq] at hc
    subst hc
    rw [Nat.add_sub_cancel_left] at hd
    dsimp only [hAct] at ha
    split at ha
    · rename_i x r
      cases ha
      exact ⟨ok.push ok.head, List.prefix_refl _, fun _ _ k H locs cells slots ls hl hP hS hn hz => lv_dup hx1 hb hd (hvv_cat _ _) (k H locs cells slots ls hl hP hS hn hz)⟩
    · cases ha
  | dup2 => 
    simp only [hChkI, Bool.and_eq_true, decide_eq_true_eq] at hc
    subst hc
    rw [Nat.add_sub_cancel_left] at hd
    dsimp only [hAct] at ha
    split at ha
    · rename_i x y r
      cases ha
      exact ⟨(ok.push ok.tail.head).push ok.head, List.prefix_refl _, fun _ _ k H locs cells slots ls hl hP hS hn hz => lv_dup2_11 hx1 hb hd (hvv_cat _ _) (hvv_cat _ _) (k H locs cells slots ls hl hP hS hn hz)⟩
    · cases ha
  | if_icmp cc off => 
    simp only [hChkI, Bool.and_eq_true, decide_eq_true_eq] at hc
    obtain ⟨h1, rfl⟩ := hc
    rw [Nat.add_sub_cancel_left] at hd
    dsimp only [hAct] at ha
    obtain ⟨x, y, r, rfl, ha9⟩ := h2_some ha
    clear ha
    have ha := ha9
    clear ha9
    cases ha
    refine ⟨ok.tail.tail, List.prefix_refl _, fun _ _ k H locs cells slots ls hl hP hS hn hz => ?_⟩
    have k := k H locs cells slots ls hl hP hS hn hz
    unfold hIf at k
    cases cc with
    | eq => exact lv_icmp_eq hx1 hb hd h1 (fun h => by rw [if_pos h] at k; exact k) (fun h => by rw [if_neg h] at k; exact k)
    | ne => exact lv_icmp_ne hx1 hb hd h1 (fun h => by rw [if_pos h] at k; exact k) (fun h => by rw [if_neg (show ¬ ¬ x = y from fun g => g h)] at k; exact k)
    | lt => exact lv_icmp_lt hx1 hb hd h1 (fun h => by rw [if_pos h] at k; exact k) (fun h => by rw [if_neg h] at k; exact k)
    | ge => exact lv_icmp_ge hx1 hb hd h1 (fun h => by rw [if_pos h] at k; exact k) (fun h => by rw [if_neg h] at k; exact k)
    | gt => exact lv_icmp_gt hx1 hb hd h1 (fun h => by rw [if_pos h] at k; exact k) (fun h => by rw [if_neg h] at k; exact k)
    | le => exact lv_icmp_le hx1 hb hd h1 (fun h => by rw [if_pos h] at k; exact k) (fun h => by rw [if_neg h] at k; exact k)
  | ifCond cc off => 
    simp only [hChkI, Bool.and_eq_true, decide_eq_true_eq] at hc
    obtain ⟨h1, rfl⟩ := hc
    rw [Nat.add_sub_cancel_left] at hd
    dsimp only [hAct] at ha
    obtain ⟨x, r, rfl, ha9⟩ := h1_some ha
    clear ha
    have ha := ha9
    clear ha9
    cases ha
    refine ⟨ok.tail, List.prefix_refl _, fun _ _ k H locs cells slots ls hl hP hS hn hz => ?_⟩
    have k := k H locs cells slots ls hl hP hS hn hz
    unfold hIf at k
    cases cc with
    | eq => exact lv_if_eq hx1 hb hd h1 (fun h => by rw [if_pos h] at k; exact k) (fun h => by rw [if_neg h] at k; exact k)
    | ne => exact lv_if_ne hx1 hb hd h1 (fun h => by rw [if_pos h] at k; exact k) (fun h => by rw [if_neg (show ¬ ¬ x = 0 from fun g => g h)] at k; exact k)
    | lt => exact lv_if_lt hx1 hb hd h1 (fun h => by rw [if_pos h] at k; exact k) (fun h => by rw [if_neg h] at k; exact k)
    | ge => exact lv_if_ge hx1 hb hd h1 (fun h => by rw [if_pos h] at k; exact k) (fun h => by rw [if_neg h] at k; exact k)
    | gt => exact lv_if_gt hx1 hb hd h1 (fun h => by rw [if_pos h] at k; exact k) (fun h => by rw [if_neg h] at k; exact k)
    | le => exact lv_if_le hx1 hb hd h1 (fun h => by rw [if_pos h] at k; exact k) (fun h => by rw [if_neg h] at k; exact k)
  | goto off => 
    simp only [hChkI, Bool.and_eq_true, decide_eq_true_eq] at hc
    obtain ⟨h1, rfl⟩ := hc
    rw [Nat.add_sub_cancel_left] at hd
    dsimp only [hAct] at ha
    cases ha
    exact ⟨ok, List.prefix_refl _, fun _ _ k H locs cells slots ls hl hP hS hn hz => lv_goto hx1 hb hd h1 (k H locs cells slots ls hl hP hS hn hz)⟩
  | tableswitch dd lo hi offs => 
    simp only [hChkI, Bool.and_eq_true, decide_eq_true_eq, Array.all_eq_true] at hc
    obtain ⟨⟨g1, g2⟩, g3⟩ := hc
    dsimp only [hAct] at ha
    obtain ⟨x, r, rfl, ha9⟩ := h1_some ha
    clear ha
    have ha := ha9
    clear ha9
    cases ha
    refine ⟨ok.tail, List.prefix_refl _, fun _ _ k H locs cells slots ls hl hP hS hn hz => ?_⟩
    have k := k H locs cells slots ls hl hP hS hn hz
    unfold hTs at k
    by_cases hh : x.toInt < lo ∨ hi < x.toInt
    · rw [if_pos hh] at k
      exact lv_tableOut hx1 hb hd hh (Int.toNat_of_nonneg g2).symm k
    · rw [if_neg hh] at k
      have hlt : (x.toInt - lo).toNat < offs.size := by omega
      rw [Array.getElem?_eq_getElem hlt] at k
      have h5 := g3 _ hlt
      exact lv_tableIn hx1 hb hd (fun h => hh (Or.inl h)) (fun h => hh (Or.inr h)) (Array.getElem?_eq_getElem hlt) (Int.toNat_of_nonneg h5).symm k
  | lookupswitch dd ps => 
    simp only [hChkI, Bool.and_eq_true, decide_eq_true_eq] at hc
    obtain ⟨⟨g1, g2⟩, g3⟩ := hc
    dsimp only [hAct] at ha
    obtain ⟨x, r, rfl, ha9⟩ := h1_some ha
    clear ha
    have ha := ha9
    clear ha9
    cases ha
    refine ⟨ok.tail, List.prefix_refl _, fun _ _ k H locs cells slots ls hl hP hS hn hz => ?_⟩
    have k := k H locs cells slots ls hl hP hS hn hz
    unfold hLs at k
    exact lv_lookup hx1 hb hd g1 rfl (Int.toNat_of_nonneg (hLs_nn pc ps.toList dd x.toInt g2 (fun o ho => by have := List.all_eq_true.mp g3 o ho; simpa using this))).symm k
  | getfield idx => 
    simp only [hChkI, Bool.and_eq_true, Bool.or_eq_true, decide_eq_true_eq] at hc
    obtain ⟨⟨⟨⟨g1, g2⟩, g3⟩, g4⟩, rfl⟩ := hc
    rw [Nat.add_sub_cancel_left] at hd
    obtain ⟨c1, c2, c3, c4, -⟩ := hCls g1
    have key : ∀ (c : Nat) (r : List hV) (w : hV), S.1[c]? = some a → (hFs h0 a c S)[b]? = some (hvv h0 w) → hG D cs h0 n0 z0 I p l e R s m args below meth c0 Q (pc + 3) L (w :: r) S → hG D cs h0 n0 z0 I p l e R s m args below meth c0 Q pc L (.inr (some (a, c)) :: r) S := by
      intro c r w hk hv k H locs cells slots ls hl hP hS hn hz
      rcases g3 with g3 | g3
      · exact va_get (D := D) (ci := a) (C := hR a) (T := hT a) (N := hNf.getD a 0) hx1 hb hts c2 hown hK hP c (hWd_o hk g1) c1 b g2 (hWord hts g3 rfl) (fun _ h9 => h9) hv hd (k H locs cells slots ls hl hP hS hn hz)
      · exact va_getN (D := D) (ci := a) (C := hR a) (T := hT a) (N := hNf.getD a 0) hx1 hb hts c2 hown hK hP c (hWd_o hk g1) c1 b g2 (va_Nw.use rfl (hN _ (List.mem_of_getElem? g3) rfl)) (fun _ h9 => h9) hv hd (k H locs cells slots ls hl hP hS hn hz)
    dsimp only [hAct] at ha
    by_cases hrf : hRef a b = true
    · rw [if_pos hrf] at g4
      subst g4
      try dsimp only at ha
      obtain ⟨k, c, r, rfl, ha9⟩ := hr_some ha
      clear ha
      have ha := ha9
      clear ha9
      split at ha
      · rename_i hka
        subst hka
        cases ha
        refine ⟨ok.tail.push ?_, List.prefix_refl _, fun _ _ kk => key c r _ ok.head (by rw [hFs_at g2, if_pos hrf]; rfl) kk⟩
        cases hq : S.2.2 c b with
        | none => trivial
        | some q9 => exact ok.1 _ _ _ hq
      · cases ha
    · rw [if_neg hrf] at g4
      subst g4
      try dsimp only at ha
      obtain ⟨k, c, r, rfl, ha9⟩ := hr_some ha
      clear ha
      have ha := ha9
      clear ha9
      split at ha
      · rename_i hka
        subst hka
        cases ha
        exact ⟨ok.tail.push trivial, List.prefix_refl _, fun _ _ kk => key c r _ ok.head (by rw [hFs_at g2, if_neg hrf]; rfl) kk⟩
      · cases ha
  | putfield idx => 
    simp only [hChkI, Bool.and_eq_true, decide_eq_true_eq] at hc
    obtain ⟨⟨⟨g1, g2⟩, rfl⟩, g3⟩ := hc
    rw [Nat.add_sub_cancel_left] at hd
    obtain ⟨c1, c2, c3, c4, -⟩ := hCls g1
    have key : ∀ (c : Nat) (r : List hV) (x : Int32) (ty : FieldType), hRef a b = false → (lw_tbl[q]? = some (.fieldLink I.1.cls idx (hT a b).1 (hT a b).2.1 (hT a b).2.2.1) ∨ lw_tbl[q]? = some (.fieldLinkNest I.1.cls idx (hT a b).1 (hT a b).2.1 (hT a b).2.2.1 "HeldBlades")) → (hT a b).2.2.2 = false → parseFieldDescriptor (hT a b).2.2.1 = some ty → narrow ty (.int x) = .int x → fits ty (.int x) = true → S.1[c]? = some a → hG D cs h0 n0 z0 I p l e R s m args below meth c0 Q (pc + 3) L r (hPut S c b x) → hG D cs h0 n0 z0 I p l e R s m args below meth c0 Q pc L (.inl x :: .inr (some (a, c)) :: r) S := by
      intro c r x ty hrf g3 hfin hty hna hfi hk k H locs cells slots ls hl hP hS hn hz
      rcases g3 with g3 | g3
      · exact va_put (D := D) (ci := a) (C := hR a) (T := hT a) (N := hNf.getD a 0) hx1 hb hts c2 (hTy a) c3 c4 hown hK hP (hWd_D h0 cs S) hS c (hWd_o hk g1) c1 b g2 (hWord hts g3 rfl) (fun _ h9 => h9) hfin hty hna hfi (by rw [hFs_len]; exact g2) hd (fun H1 locs1 hP1 _ hS1 => by have hP1 : va_P D vwCl (List.set (hWd h0 cs S) c (h0 + c, .inr (a, (hFs h0 a c S).set b (.int x)))) H1 := hP1; rw [hWd_put hk g1 hrf] at hP1; exact k H1 locs1 cells slots ls hl hP1 hS1 hn hz)
      · exact va_putN (D := D) (ci := a) (C := hR a) (T := hT a) (N := hNf.getD a 0) hx1 hb hts c2 (hTy a) c3 c4 hown hK hP (hWd_D h0 cs S) hS c (hWd_o hk g1) c1 b g2 (va_Nw.use rfl (hN _ (List.mem_of_getElem? g3) rfl)) (fun _ h9 => h9) hfin hty hna hfi (by rw [hFs_len]; exact g2) hd (fun H1 locs1 hP1 _ hS1 => by have hP1 : va_P D vwCl (List.set (hWd h0 cs S) c (h0 + c, .inr (a, (hFs h0 a c S).set b (.int x)))) H1 := hP1; rw [hWd_put hk g1 hrf] at hP1; exact k H1 locs1 cells slots ls hl hP1 hS1 hn hz)
    dsimp only [hAct] at ha
    split at ha
    · simp only [Bool.and_eq_true, Bool.or_eq_true, Bool.not_eq_true', decide_eq_true_eq] at g3
      obtain ⟨⟨⟨f1, f2⟩, f3⟩, f4⟩ := g3
      split at ha
      · rename_i hka
        subst hka
        cases ha
        exact ⟨ok.tail.tail.same rfl rfl, List.prefix_refl _, fun _ _ kk => key _ _ _ _ f1 f2 f3 f4 rfl rfl ok.tail.head kk⟩
      · cases ha
    · simp only [Bool.and_eq_true, decide_eq_true_eq] at g3
      obtain ⟨⟨⟨⟨⟨f1, f2⟩, f3⟩, f4⟩, f5⟩, f6⟩ := g3
      rename_i x k c r
      split at ha
      · rename_i hka
        subst hka
        cases ha
        refine ⟨ok.tail.tail.putR ok.head, List.prefix_refl _, fun _ _ kk H locs cells slots ls hl hP hS hn hz => ?_⟩
        obtain ⟨ty, hty, hna, hfi⟩ : ∃ ty, parseFieldDescriptor (hT k b).2.2.1 = some ty ∧ narrow ty (.ref (h0 + x.2)) = .ref (h0 + x.2) ∧ fits ty (.ref (h0 + x.2)) = true := by
          unfold hRefT at f6
          split at f6
          · rename_i z hz; exact ⟨_, hz, rfl, rfl⟩
          · rename_i z hz; exact ⟨_, hz, rfl, rfl⟩
          · cases f6
        exact va_putF (D := D) (ci := k) (v := .ref (h0 + x.2)) (C := hR k) (T := hT k) (N := hNf.getD k 0) hx1 hb hts c2 (hTy k) c3 c4 hown hK hP (hWd_D h0 cs S) hS c (hWd_o ok.tail.head g1) c1 b g2 (hWord hts f2 rfl) (fun _ h9 => h9) f3 (hnm.trans f5) f4 hty hna hfi (by rw [hFs_len]; exact g2) hd (fun H1 locs1 hP1 _ hS1 => by rw [hWd_putR ok.tail.head g1 f1] at hP1; exact kk H1 locs1 cells slots ls hl hP1 hS1 hn hz)
      · cases ha
    · simp only [Bool.and_eq_true, Bool.or_eq_true, Bool.not_eq_true', decide_eq_true_eq] at g3
      obtain ⟨⟨⟨f1, f2⟩, f3⟩, f4⟩ := g3
      split at ha
      · rename_i hka
        subst hka
        split at ha
        · rename_i hbx
          cases ha
          exact ⟨ok.tail.tail.same rfl rfl, List.prefix_refl _, fun _ _ kk => key _ _ _ _ f1 f2 f3 f4 (hB_nar hbx).1 (hB_nar hbx).2.1 ok.tail.head kk⟩
        · cases ha
      · cases ha
    · cases ha
  | iaload => 
    simp only [hChkI, Bool.and_eq_true, decide_eq_true_eq] at hc
    subst hc
    rw [Nat.add_sub_cancel_left] at hd
    dsimp only [hAct] at ha
    obtain ⟨i, k, c, r, rfl, ha9⟩ := hir_some ha
    clear ha
    have ha := ha9
    clear ha9
    split at ha
    · rename_i hi
      cases ha
      refine ⟨ok.tail.tail.push ?_, List.prefix_refl _, fun _ _ kk H locs cells slots ls hl hP hS hn hz => va_iald hx1 hb hK hP c 0 (hWd_i ok.tail.head hi.1.1 hi.1.2) rfl (vp_in_iff.mpr ⟨hi.2.1, hi.2.2⟩) hd (kk H locs cells slots ls hl hP hS hn hz)⟩
      trivial
    · cases ha
  | baload => 
    simp only [hChkI, Bool.and_eq_true, decide_eq_true_eq] at hc
    subst hc
    rw [Nat.add_sub_cancel_left] at hd
    dsimp only [hAct] at ha
    obtain ⟨i, k, c, r, rfl, ha9⟩ := hir_some ha
    clear ha
    have ha := ha9
    clear ha9
    split at ha
    · rename_i hi
      cases ha
      refine ⟨ok.tail.tail.push ?_, List.prefix_refl _, fun _ _ kk H locs cells slots ls hl hP hS hn hz => va_zald hx1 hb hK hP c 1 (hWd_z ok.tail.head hi.1.1 hi.1.2) rfl (vp_in_iff.mpr ⟨hi.2.1, hi.2.2⟩) hd (kk H locs cells slots ls hl hP hS hn hz)⟩
      trivial
    · cases ha
  | aaload => 
    simp only [hChkI, Bool.and_eq_true, decide_eq_true_eq] at hc
    subst hc
    rw [Nat.add_sub_cancel_left] at hd
    dsimp only [hAct] at ha
    obtain ⟨i, k, c, r, rfl, ha9⟩ := hir_some ha
    clear ha
    have ha := ha9
    clear ha9
    split at ha
    · rename_i hi
      cases ha
      refine ⟨ok.tail.tail.push ?_, List.prefix_refl _, fun _ _ kk H locs cells slots ls hl hP hS hn hz => va_aldq (C := "HeldBlades$Moment") hx1 hb hK hP c 2 (hWd_q ok.tail.head hi.1.1) rfl (vp_in_iff.mpr ⟨hi.2.1, hi.2.2⟩) hd (kk H locs cells slots ls hl hP hS hn hz)⟩
      cases hq : S.2.2 c i.toNatClampNeg with
      | none => trivial
      | some q9 => exact ok.1 _ _ _ hq
    · cases ha
  | iastore => 
    simp only [hChkI, Bool.and_eq_true, decide_eq_true_eq] at hc
    subst hc
    rw [Nat.add_sub_cancel_left] at hd
    dsimp only [hAct] at ha
    split at ha
    · rename_i x i k c r
      split at ha
      · rename_i hi
        cases ha
        exact ⟨ok.tail.tail.tail.same rfl rfl, List.prefix_refl _, fun _ _ kk H locs cells slots ls hl hP hS hn hz => va_iast hx1 hb hK hP (hWd_D h0 cs S) hS c 0 (hWd_i ok.tail.tail.head hi.1.1 hi.1.2) rfl (vp_in_iff.mpr ⟨hi.2.1, hi.2.2⟩) hd (fun H1 locs1 hP1 _ hS1 => by rw [hWd_iast ok.tail.tail.head hi.1.1 hi.1.2] at hP1; exact kk H1 locs1 cells slots ls hl hP1 hS1 hn hz)⟩
      · cases ha
    · cases ha
  | bastore => 
    simp only [hChkI, Bool.and_eq_true, decide_eq_true_eq] at hc
    subst hc
    rw [Nat.add_sub_cancel_left] at hd
    dsimp only [hAct] at ha
    split at ha
    · rename_i x i k c r
      split at ha
      · rename_i hi
        split at ha
        · rename_i hbx
          cases ha
          exact ⟨ok.tail.tail.tail.same rfl rfl, List.prefix_refl _, fun _ _ kk H locs cells slots ls hl hP hS hn hz => va_zast hx1 hb hK hP (hWd_D h0 cs S) hS c 1 (hWd_z ok.tail.tail.head hi.1.1 hi.1.2) rfl (vp_in_iff.mpr ⟨hi.2.1, hi.2.2⟩) hd (fun H1 locs1 hP1 _ hS1 => by rw [(hB_nar hbx).2.2, hWd_zast ok.tail.tail.head hi.1.1 hi.1.2] at hP1; exact kk H1 locs1 cells slots ls hl hP1 hS1 hn hz)⟩
        · cases ha
      · cases ha
    · cases ha
  | aastore => 
    simp only [hChkI, Bool.and_eq_true, decide_eq_true_eq] at hc
    subst hc
    rw [Nat.add_sub_cancel_left] at hd
    dsimp only [hAct] at ha
    split at ha
    · rename_i x i k c r
      split at ha
      · rename_i hi
        cases ha
        exact ⟨ok.tail.tail.tail.putR ok.head, List.prefix_refl _, fun _ _ kk H locs cells slots ls hl hP hS hn hz => va_astq (r := (RX0, TX0, 4)) hx1 hb hK hP (hWd_D h0 cs S) hS c 2 x 0 (hWd_q ok.tail.tail.head hi.1.1) rfl (hWd_o ok.head (by decide)) rfl (vp_in_iff.mpr ⟨hi.2.1, hi.2.2⟩) hd (fun H1 locs1 hP1 _ hS1 => by rw [hWd_qast (x := (0, x)) ok.tail.tail.head hi.1.1] at hP1; exact kk H1 locs1 cells slots ls hl hP1 hS1 hn hz)⟩
      · cases ha
    · cases ha
  | arraylength => 
    simp only [hChkI, Bool.and_eq_true, decide_eq_true_eq] at hc
    subst hc
    rw [Nat.add_sub_cancel_left] at hd
    dsimp only [hAct] at ha
    obtain ⟨k, c, r, rfl, ha9⟩ := hr_some ha
    clear ha
    have ha := ha9
    clear ha9
    split at ha
    · rename_i hk
      cases ha
      refine ⟨ok.tail.push trivial, List.prefix_refl _, fun _ _ kk H locs cells slots ls hl hP hS hn hz => ?_⟩
      have kk := kk H locs cells slots ls hl hP hS hn hz
      by_cases h1 : k < 20000
      · exact va_alen hx1 hb hK hP c 0 (hWd_i ok.head hk.1 h1) rfl rfl hd kk
      · by_cases h2 : k < 30000
        · exact va_alen hx1 hb hK hP c 1 (hWd_z ok.head (by omega) h2) rfl rfl hd kk
        · exact va_alen hx1 hb hK hP c 2 (hWd_q ok.head (by omega)) rfl rfl hd kk
    · cases ha
  | new idx => 
    simp only [hChkI, Bool.and_eq_true, decide_eq_true_eq] at hc
    obtain ⟨⟨g1, g2⟩, rfl⟩ := hc
    rw [Nat.add_sub_cancel_left] at hd
    dsimp only [hAct, hPush] at ha
    cases ha
    obtain ⟨c1, c2, c3, c4, c5, c6, c7⟩ := hCls g1
    refine ⟨ok.new a, hPre S a, fun q1 q2 kk H locs cells slots ls hl hP hS hn hz => ?_⟩
    have hlen : (hNew S a).1.length = S.1.length + 1 := by show (S.1 ++ [a]).length = _; simp
    have hsl : hSl (hNew S a).1 = hSl S.1 + hNf.getD a 0 := by show hSl (S.1 ++ [a]) = _; rw [hSl_push, if_pos g1]
    refine va_new (ci := a) (fs := hFs h0 a S.1.length (hNew S a)) (C := hR a) (T := hT a) (N := hNf.getD a 0) hx1 hb hts c2 (hTy a) c3 hown (hWord hts g2 rfl) (hts _ c6) (hts _ c7) hK hP (hWd_D h0 cs S) hS hA c1 (fun j hj => ?_) (by omega) (by omega) hd (fun q9 H1 hP1 hD1 hS1 => ?_)
    · rw [c5 j hj]
      unfold vp_V
      rw [List.getD_eq_getElem?_getD, hFs_at hj]
      have e1 : (hNew S a).2.2 S.1.length = fun _ => none := va_up_self _ _ _
      have e2 : (hNew S a).2.1 S.1.length = fun _ => 0 := va_up_self _ _ _
      rw [e1, e2]; rfl
    · refine hSize (fun hs9 => ?_)
      have hq : q9 = h0 + S.1.length := hWd_fresh hD1 (by have h9 := hLastLt hP1; omega)
      subst hq
      rw [← hCel_o (cs := cs) g1, ← hWd_new] at hP1
      exact kk H1 locs (cells + 1) (slots + hNf.getD a 0) ls hl hP1 hS1 (by omega) (by omega)
  | newarray at9 => 
    cases at9 with
    | int =>
      simp only [hChkI, Bool.and_eq_true, decide_eq_true_eq] at hc
      obtain ⟨rfl, rfl⟩ := hc
      rw [Nat.add_sub_cancel_left] at hd
      dsimp only [hAct] at ha
      obtain ⟨n, r, rfl, ha9⟩ := h1_some ha
      clear ha
      have ha := ha9
      clear ha9
      split at ha
      · rename_i hn9
        dsimp only [hPush] at ha
        cases ha
        have hnn : ¬ n < 0 := fun h => by have := Int32.lt_iff_toInt_lt.mp h; simp at this; omega
        have hcl : n.toNatClampNeg < 10000 := by have : n.toNatClampNeg = n.toInt.toNat := rfl; omega
        generalize hN9 : n.toNatClampNeg = N at hcl ⊢
        refine ⟨ok.tail.new (10000 + N), hPre S _, fun q1 q2 kk H locs cells slots ls hl hP hS hn hz => ?_⟩
        have hlen : (hNew S (10000 + N)).1.length = S.1.length + 1 := by show (S.1 ++ [_]).length = _; simp
        have hsl : hSl (hNew S (10000 + N)).1 = hSl S.1 + N := by show hSl (S.1 ++ [_]) = _; rw [hSl_push, if_neg (by omega)]; omega
        have hby : N * componentBytes .int ≤ 536870912 := by
          have h4 : componentBytes .int ≤ 4 := by decide
          have h5 := Nat.mul_le_mul_left N h4
          omega
        refine va_newa (atype := .int) (ty := .int) (a0 := (N, .inl fun _ => 0)) hx1 hb (hts _ (by decide +kernel)) rfl hK hP (hWd_D h0 cs S) hS hA (fun cA => rfl) hnn hN9 hby (by omega) (by omega) hd (fun q9 cA H1 hK1 hP1 hD1 hS1 => ?_)
        have ecA : cA = cs.1 := by
          have e1 := (hK.2 0 _ rfl).2
          have e2 := (hK1.2 3 _ rfl).2
          have e3 : (some cA : Option ClassId) = some cs.1 := e2.symm.trans e1
          exact Option.some.inj e3
        subst ecA
        refine hSize (fun hs9 => ?_)
        have hq : q9 = h0 + S.1.length := hWd_fresh hD1 (by have h9 := hLastLt hP1; omega)
        subst hq
        have ec : (.inl (cs.1, N, .inl fun _ => 0) : va_E) = hCel h0 cs (10000 + N) S.1.length (hNew S (10000 + N)) := by
          have e2 : (hNew S (10000 + N)).2.1 S.1.length = fun _ => 0 := va_up_self _ _ _
          rw [hCel_i (by omega) (by omega), e2, show (10000 + N) % 10000 = N by omega]
        rw [ec, ← hWd_new] at hP1
        exact kk H1 locs (cells + 1) (slots + N) ls hl hP1 hS1 (by omega) (by omega)
      · cases ha
    | boolean =>
      simp only [hChkI, Bool.and_eq_true, decide_eq_true_eq] at hc
      obtain ⟨rfl, rfl⟩ := hc
      rw [Nat.add_sub_cancel_left] at hd
      dsimp only [hAct] at ha
      obtain ⟨n, r, rfl, ha9⟩ := h1_some ha
      clear ha
      have ha := ha9
      clear ha9
      split at ha
      · rename_i hn9
        dsimp only [hPush] at ha
        cases ha
        have hnn : ¬ n < 0 := fun h => by have := Int32.lt_iff_toInt_lt.mp h; simp at this; omega
        have hcl : n.toNatClampNeg < 10000 := by have : n.toNatClampNeg = n.toInt.toNat := rfl; omega
        generalize hN9 : n.toNatClampNeg = N at hcl ⊢
        refine ⟨ok.tail.new (20000 + N), hPre S _, fun q1 q2 kk H locs cells slots ls hl hP hS hn hz => ?_⟩
        have hlen : (hNew S (20000 + N)).1.length = S.1.length + 1 := by show (S.1 ++ [_]).length = _; simp
        have hsl : hSl (hNew S (20000 + N)).1 = hSl S.1 + N := by show hSl (S.1 ++ [_]) = _; rw [hSl_push, if_neg (by omega)]; omega
        have hby : N * componentBytes .boolean ≤ 536870912 := by
          have h4 : componentBytes .boolean ≤ 4 := by decide
          have h5 := Nat.mul_le_mul_left N h4
          omega
        refine va_newa (atype := .boolean) (ty := .boolean) (a0 := (N, .inl fun _ => 0)) hx1 hb (hts _ (by decide +kernel)) rfl hK hP (hWd_D h0 cs S) hS hA (fun cA => rfl) hnn hN9 hby (by omega) (by omega) hd (fun q9 cA H1 hK1 hP1 hD1 hS1 => ?_)
        have ecA : cA = cs.2.1 := by
          have e1 := (hK.2 1 _ rfl).2
          have e2 := (hK1.2 3 _ rfl).2
          have e3 : (some cA : Option ClassId) = some cs.2.1 := e2.symm.trans e1
          exact Option.some.inj e3
        subst ecA
        refine hSize (fun hs9 => ?_)
        have hq : q9 = h0 + S.1.length := hWd_fresh hD1 (by have h9 := hLastLt hP1; omega)
        subst hq
        have ec : (.inl (cs.2.1, N, .inl fun _ => 0) : va_E) = hCel h0 cs (20000 + N) S.1.length (hNew S (20000 + N)) := by
          have e2 : (hNew S (20000 + N)).2.1 S.1.length = fun _ => 0 := va_up_self _ _ _
          rw [hCel_z (by omega) (by omega), e2, show (20000 + N) % 10000 = N by omega]
        rw [ec, ← hWd_new] at hP1
        exact kk H1 locs (cells + 1) (slots + N) ls hl hP1 hS1 (by omega) (by omega)
      · cases ha
    | _ => cases hc
  | anewarray idx => 
    simp only [hChkI, Bool.and_eq_true, decide_eq_true_eq] at hc
    obtain ⟨g2, rfl⟩ := hc
    rw [Nat.add_sub_cancel_left] at hd
    dsimp only [hAct] at ha
    obtain ⟨n, r, rfl, ha9⟩ := h1_some ha
    clear ha
    have ha := ha9
    clear ha9
    split at ha
    · rename_i hn9
      dsimp only [hPush] at ha
      cases ha
      have hnn : ¬ n < 0 := fun h => by have := Int32.lt_iff_toInt_lt.mp h; simp at this; omega
      have hcl : n.toNatClampNeg < 10000 := by have : n.toNatClampNeg = n.toInt.toNat := rfl; omega
      generalize hN9 : n.toNatClampNeg = N at hcl ⊢
      refine ⟨ok.tail.new (30000 + N), hPre S _, fun q1 q2 kk H locs cells slots ls hl hP hS hn hz => ?_⟩
      have hlen : (hNew S (30000 + N)).1.length = S.1.length + 1 := by show (S.1 ++ [_]).length = _; simp
      have hsl : hSl (hNew S (30000 + N)).1 = hSl S.1 + N := by show hSl (S.1 ++ [_]) = _; rw [hSl_push, if_neg (by omega)]; omega
      refine va_newq (C := "HeldBlades$Moment") hx1 hb hown (hWord hts g2 rfl) hAO hK hP (hWd_D h0 cs S) hS hA hnn hN9 (by omega) (by omega) (by omega) hd (fun q9 cA H1 hK1 hP1 hD1 hS1 => ?_)
      have ecA : cA = cs.2.2 := by
        obtain ⟨_, _, _, _, _, e1⟩ := (hK.2 2 _ rfl).2
        obtain ⟨_, _, _, _, _, e2⟩ := (hK1.2 3 _ rfl).2
        exact Option.some.inj (e2.symm.trans e1)
      subst ecA
      refine hSize (fun hs9 => ?_)
      have hq : q9 = h0 + S.1.length := hWd_fresh hD1 (by have h9 := hLastLt hP1; omega)
      subst hq
      have ec : (.inl (cs.2.2, N, .inr (.inr (.inr (.inr fun _ => none)))) : va_E) = hCel h0 cs (30000 + N) S.1.length (hNew S (30000 + N)) := by
        have e2 : (hNew S (30000 + N)).2.2 S.1.length = fun _ => none := va_up_self _ _ _
        rw [hCel_q (by omega), e2, show (30000 + N) % 10000 = N by omega]; rfl
      rw [ec, ← hWd_new] at hP1
      exact kk H1 locs (cells + 1) (slots + N) ls hl hP1 hS1 (by omega) (by omega)
    · cases ha
  | invokestatic idx => 
    simp only [hChkI, Bool.and_eq_true, decide_eq_true_eq] at hc
    obtain ⟨rfl, hc⟩ := hc
    rw [Nat.add_sub_cancel_left] at hd
    dsimp only [hAct] at ha
    split at ha
    · rename_i h9
      rw [if_pos h9] at hc
      simp only [Bool.and_eq_true, decide_eq_true_eq] at hc
      obtain ⟨g1, g2⟩ := hc
      split at ha
      · rename_i n dp k1 c1 sp k0 c2 r
        split at ha
        · rename_i hh
          obtain ⟨⟨⟨a1, a2⟩, ⟨a3, a4⟩, a5⟩, ⟨b1, b2, b3⟩, d1, d2⟩ := hh
          subst a5
          cases ha
          have nn : ∀ z : Int32, 0 ≤ z.toInt → ¬ z < 0 := fun z hz h => by have := Int32.lt_iff_toInt_lt.mp h; simp at this; omega
          have o2 := ok.tail.tail.head
          have o4 := ok.tail.tail.tail.tail.head
          refine ⟨ok.tail.tail.tail.tail.tail.same rfl rfl, List.prefix_refl _, fun _ _ kk H locs cells slots ls hl hP hS hn hz => ?_⟩
          have hnw : (List.map (fun v => Value.category v) (List.map (hvv h0) ([] : List hV))).sum + (nativeFrameWords "java/lang/System" "arraycopy" 5 + 11) ≤ R.locals := by
            have h4 : nativeFrameWords "java/lang/System" "arraycopy" 5 + 11 ≤ 40 := by decide
            have e0 : (List.map (fun v => Value.category v) (List.map (hvv h0) ([] : List hV))).sum = 0 := rfl
            rw [e0]; omega
          exact va_copyi (ty := .int) hx1 hb (by rw [hml]; exact hl.1.symm) hown (hWord hts g1 rfl) (hts _ (by decide +kernel)) (hts _ (by decide +kernel)) (hts _ (by decide +kernel)) hK hP (hWd_D h0 cs S) hS c2 c1 0 0 (hWd_i o4 a3 a4) (hWd_i o2 a1 a2) rfl rfl rfl (nn _ b1) (nn _ b2) (nn _ b3) d1 d2 (fun _ _ => rfl) (by omega) hnw hd (fun H1 locs1 hP1 _ hS1 => by rw [hWd_cpy o2 a1 a2] at hP1; exact kk H1 locs1 cells slots ls hl hP1 hS1 hn hz)
        · cases ha
      · cases ha
    · split at ha <;> cases ha
  | invokespecial idx => 
    simp only [hChkI, Bool.and_eq_true, decide_eq_true_eq] at hc
    obtain ⟨rfl, hc⟩ := hc
    rw [Nat.add_sub_cancel_left] at hd
    dsimp only [hAct] at ha
    split at ha
    · rename_i h9
      rw [if_pos h9] at hc
      simp only [Bool.and_eq_true, decide_eq_true_eq] at hc
      obtain ⟨g1, g2⟩ := hc
      split at ha
      · rename_i x r
        split at ha
        · rename_i hh
          cases ha
          refine ⟨ok.tail, List.prefix_refl _, fun _ _ kk H locs cells slots ls hl hP hS hn hz => ?_⟩
          refine W.objInit hx1 hb hown (hWord hts g1 rfl) (hts _ (by decide +kernel)) (hts _ (by decide +kernel)) rfl (by rw [hml]; exact hl.1) rfl hd (by omega) (Nat.le_trans (Nat.add_le_add_right (lv_room (by rw [hSum]; exact hh)) 12) (by omega)) (kk H locs cells slots ls hl hP hS hn hz)
        · cases ha
      · cases ha
    · split at ha
      · split at ha <;> cases ha
      · cases ha
  | invokevirtual idx => 
    dsimp only [hAct] at ha
    split at ha
    · split at ha <;> cases ha
    · cases ha
  | ireturn => 
    dsimp only [hAct] at ha
    split at ha
    · split at ha
      · split at ha <;> cases ha
      · cases ha
    · cases ha
  | return_ => 
    dsimp only [hAct] at ha
    split at ha <;> cases ha
  | aload k => cases hc
  | _ => cases ha
