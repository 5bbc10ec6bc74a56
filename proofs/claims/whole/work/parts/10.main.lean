/-! Calls, and the whole: what the machine runs, the JVM runs. -/
theorem hArgL : hInf.all (fun J => match (parseMethodDescriptor J.1.desc).map (fun d => d.parameters.length) with
  | some n => decide (n + (if J.2.2.2.2.2.2.2.2.2 = 0 then 0 else 1) ≤ J.2.2.1)
  | none => true) = true := by decide +kernel
/-- what the tables say of a callee -/
theorem hCee {I J : hI} {a b q idx d kind : Nat} {v : Int32} (hc : hChkC I a b q idx d kind v = true) (hJ : hInf[a]? = some J) : J.2.2.2.2.1 < I.2.2.2.2.1 ∧ (lw_tbl[q]? = some (.methodLink I.1.cls idx J.1) ∨ lw_tbl[q]? = some (.methodLinkNest I.1.cls idx J.1 "HeldBlades")) ∧ (parseMethodDescriptor J.1.desc).map (fun d => d.parameters.length) = some b ∧ J.2.2.2.2.2.2.2.2.2 = kind ∧ (kind = 0 ∨ (d < 11 ∧ J.1.cls = hR d)) := by
  unfold hChkC at hc
  rw [hJ] at hc
  simp only [Bool.and_eq_true, Bool.or_eq_true, decide_eq_true_eq] at hc
  obtain ⟨⟨⟨⟨⟨c1, c2⟩, c3⟩, c4⟩, c5⟩, -⟩ := hc
  exact ⟨c1, c2, c3, c4, c5⟩
theorem hCeeE {I : hI} {a b q idx d kind : Nat} {v : Int32} (hc : hChkC I a b q idx d kind v = true) : ∃ J, hInf[a]? = some J := by
  unfold hChkC at hc
  cases h : hInf[a]? with
  | none => rw [h] at hc; cases hc
  | some J => exact ⟨J, rfl⟩
theorem hCeeL {J : hI} {a b : Nat} (hJ : hInf[a]? = some J) (hb : (parseMethodDescriptor J.1.desc).map (fun d => d.parameters.length) = some b) : b + (if J.2.2.2.2.2.2.2.2.2 = 0 then 0 else 1) ≤ J.2.2.1 := by
  have h := List.all_eq_true.mp hArgL J (List.mem_of_getElem? hJ)
  rw [hb] at h
  simpa using h
/-- what a method's own words are -/
theorem hOwn {a : Nat} {J : hI} (hJ : hInf[a]? = some J) : plainFor J.1 = true ∧ Cond.code J.1 J.2.1 J.2.2.1 J.2.2.2.1 ∈ hBase ∧ Cond.initialized J.1.cls ∈ hBase ∧ J.1.cls ≠ "java/lang/invoke/MethodHandle" ∧ J.1.cls ≠ "java/lang/invoke/VarHandle" ∧ J.2.2.1 ≤ 20 ∧ (J.2.2.2.2.2.2.2.2.2 = 0 → Cond.static J.1 ∈ hBase) ∧ (J.2.2.2.2.2.2.2.2.2 = 1 → Cond.instanceMethod J.1 ∈ hBase ∧ Cond.selects J.1.cls J.1 J.1 ∈ hBase) ∧ (J.2.2.2.2.2.2.2.2.2 = 2 → Cond.instanceMethod J.1 ∈ hBase ∧ J.1.name = "<init>" ∧ J.2.2.2.1 = none) := by
  have hm := hAll hJ
  simp only [hChkM, Bool.and_eq_true] at hm
  have hw := hm.1.2
  simp only [hChkW, Bool.and_eq_true, decide_eq_true_eq] at hw
  obtain ⟨⟨⟨⟨⟨⟨w1, w2⟩, w3⟩, w4⟩, w5⟩, w6⟩, w7⟩ := hw
  refine ⟨w3, hIn w1 rfl, hIn w2 rfl, w4, w5, w6, fun h => ?_, fun h => ?_, fun h => ?_⟩
  · rw [h] at w7
    exact hIn (of_decide_eq_true w7) rfl
  · rw [h] at w7
    simp only [Bool.and_eq_true, decide_eq_true_eq] at w7
    exact ⟨hIn w7.1 rfl, hIn w7.2 rfl⟩
  · rw [h] at w7
    simp only [Bool.and_eq_true, decide_eq_true_eq] at w7
    exact ⟨hIn w7.1.1 rfl, w7.1.2, w7.2⟩
theorem goodIn_s8 {own : String} {idx : Nat} {y : MethodName} {ws : List Cond} (a : Cond.methodLink own idx y ∈ hBase) (b : Cond.static y ∈ hBase) (c : Cond.initialized y.cls ∈ hBase) (h : GoodIn hBase ws) : GoodIn hBase (va_wsS own idx y ws) := by
  have g : ∀ w ∈ [Cond.methodLink own idx y, Cond.static y, Cond.initialized y.cls], w ∈ hBase := by
    intro w hw
    simp only [List.mem_cons, List.not_mem_nil, or_false] at hw
    rcases hw with rfl | rfl | rfl
    · exact a
    · exact b
    · exact c
  intro w hw
  unfold va_wsS at hw
  rcases List.mem_append.mp hw with hw | hw
  · exact hGood g w hw
  · exact h w hw
theorem goodIn_v8 {own : String} {idx : Nat} {y : MethodName} {ws : List Cond} (a : Cond.methodLink own idx y ∈ hBase) (b : Cond.instanceMethod y ∈ hBase) (c : Cond.selects y.cls y y ∈ hBase) (d : Cond.initialized y.cls ∈ hBase) (h : GoodIn hBase ws) : GoodIn hBase (wsV own idx y.cls y ws) := by
  have g : ∀ w ∈ [Cond.methodLink own idx y, Cond.instanceMethod y, Cond.selects y.cls y y, Cond.initialized y.cls], w ∈ hBase := by
    intro w hw
    simp only [List.mem_cons, List.not_mem_nil, or_false] at hw
    rcases hw with rfl | rfl | rfl | rfl
    · exact a
    · exact b
    · exact c
    · exact d
  intro w hw
  unfold wsV at hw
  rcases List.mem_append.mp hw with hw | hw
  · exact hGood g w hw
  · exact h w hw
theorem hFin {p : Program} {l : Launch} {e : Env} {R : Room} {s : State} {m : MethodId} {args : Array Value} {below : List Frame} {meth : Method} {c : Code} {H : Heap} {locs : List Loc} {cells slots : Nat} {Q : State → Prop} {pc : Nat} {ls : Array Slot} {st0 : List Value} {a : Array Value} {mc ms : Nat} {D : va_G} {cs : ClassId × ClassId × ClassId} {h0 : Nat} {o : Option Int32} {S1 : hS} {r : List hV}
    (hr : va_Run p l e R s m args below meth c H locs cells slots mc ms (F0 m pc ls st0) (r.map (hvv h0)) (hQ D cs h0 o S1 a) (fun q => h0 ≤ q)) (hS : va_S (fun q => h0 ≤ q) s.heap H locs)
    (k : ∀ (H1 : Heap) (locs1 : List Loc), va_P D vwCl (hWd h0 cs S1) H1 → va_S (fun q => h0 ≤ q) s.heap H1 locs1 → W p l e R s m args below meth c H1 locs1 (cells + mc) (slots + ms) Q (F0 m (pc + 3) ls ((o.toList.map Sum.inl ++ r).map (hvv h0)))) : W p l e R s m args below meth c H locs cells slots Q (F0 m pc ls st0) := by
  cases o with
  | none => exact va_callv (a := a) hr hS (fun _ _ h => h) (fun _ h => h) (fun u t H1 locs1 ht hvm hw hB hz1 hk1 hS1 => k H1 locs1 (by rw [← ht]; exact hB) hS1)
  | some x => exact va_calli (a := a) hr hS (fun _ _ h => h) (fun _ h => h) (fun z u t H1 locs1 ht hvm hw hB hz1 hk1 hS1 => by subst hw; exact k H1 locs1 (by rw [← ht]; exact hB) hS1)
theorem hTake (st : List hV) (b : Nat) (h0 : Nat) : st.map (hvv h0) = (((st.take b).reverse).map (hvv h0)).reverse ++ (st.drop b).map (hvv h0) := by
  rw [← List.map_reverse, List.reverse_reverse, ← List.map_append, List.take_append_drop]
set_option maxHeartbeats 4000000 in
/-- a call's arguments -/
theorem hCallP {I : hI} {E : hE} {L : List (Option hV)} {st : List hV} {S : hS} {y : Nat} {as : List hV} {nx : Nat} {r : List hV} {vf : Bool} (hc : hChkE I E = true) (ha : hAct E L st S = some (.inr (.inl (y, as, nx, r, vf)))) (ok : okF S L st) : ∃ J, hInf[y]? = some J ∧ as.length ≤ J.2.2.1 ∧ (∀ v ∈ as, okv S v) ∧ (∀ v ∈ r, okv S v) := by
  obtain ⟨pc, i, nx', a, b, d, q, v⟩ := E
  simp only [hChkE, Bool.and_eq_true, decide_eq_true_eq] at hc
  obtain ⟨hd, hc⟩ := hc
  have okT : ∀ v ∈ (st.take b).reverse, okv S v := fun v hv => ok.2.2 v (List.mem_of_mem_take (List.mem_reverse.mp hv))
  have okD : ∀ v ∈ st.drop b, okv S v := fun v hv => ok.2.2 v (List.mem_of_mem_drop hv)
  cases i with
  | invokestatic idx =>
    simp only [hChkI, Bool.and_eq_true, decide_eq_true_eq] at hc
    obtain ⟨-, hc⟩ := hc
    dsimp only [hAct] at ha
    split at ha
    · split at ha
      · split at ha <;> cases ha
      · cases ha
    · rename_i h9
      rw [if_neg h9] at hc
      split at ha
      · rename_i hh
        cases ha
        obtain ⟨J, hJ⟩ := hCeeE hc
        obtain ⟨-, -, c3, c4, -⟩ := hCee hc hJ
        have h5 := hCeeL hJ c3
        rw [if_pos c4] at h5
        exact ⟨J, hJ, by rw [List.length_reverse, hh.1]; omega, okT, okD⟩
      · cases ha
  | invokevirtual idx =>
    simp only [hChkI, Bool.and_eq_true, decide_eq_true_eq] at hc
    obtain ⟨-, hc⟩ := hc
    dsimp only [hAct] at ha
    split at ha
    · rename_i k c r' hdr
      split at ha
      · rename_i hh
        cases ha
        obtain ⟨J, hJ⟩ := hCeeE hc
        obtain ⟨-, -, c3, c4, -⟩ := hCee hc hJ
        have h5 := hCeeL hJ c3
        rw [if_neg (by rw [c4]; decide)] at h5
        refine ⟨J, hJ, by rw [List.length_cons, List.length_reverse, hh.2.1]; omega, fun v hv => ?_, fun v hv => okD v (by rw [hdr]; exact List.mem_cons_of_mem _ hv)⟩
        rcases List.mem_cons.mp hv with rfl | hv
        · exact okD _ (by rw [hdr]; exact List.mem_cons_self)
        · exact okT v hv
      · cases ha
    · cases ha
  | invokespecial idx =>
    simp only [hChkI, Bool.and_eq_true, decide_eq_true_eq] at hc
    obtain ⟨-, hc⟩ := hc
    dsimp only [hAct] at ha
    split at ha
    · split at ha
      · split at ha <;> cases ha
      · cases ha
    · rename_i h9
      rw [if_neg h9] at hc
      split at ha
      · rename_i k c r' hdr
        split at ha
        · rename_i hh
          cases ha
          obtain ⟨J, hJ⟩ := hCeeE hc
          obtain ⟨-, -, c3, c4, -⟩ := hCee hc hJ
          have h5 := hCeeL hJ c3
          rw [if_neg (by rw [c4]; decide)] at h5
          refine ⟨J, hJ, by rw [List.length_cons, List.length_reverse, hh.2.1]; omega, fun v hv => ?_, fun v hv => okD v (by rw [hdr]; exact List.mem_cons_of_mem _ hv)⟩
          rcases List.mem_cons.mp hv with rfl | hv
          · exact okD _ (by rw [hdr]; exact List.mem_cons_self)
          · exact okT v hv
        · cases ha
      · cases ha
  | _ =>
    exfalso
    first
      | (cases ha; done)
      | (dsimp only [hAct] at ha; obtain ⟨_, _, _, _, ha9⟩ := h2_some ha; first | (cases ha9; done) | (split at ha9 <;> cases ha9))
      | (dsimp only [hAct] at ha; obtain ⟨_, _, _, ha9⟩ := h1_some ha; first | (cases ha9; done) | (dsimp only [hPush] at ha9; split at ha9 <;> cases ha9))
      | (dsimp only [hAct] at ha; obtain ⟨_, _, _, _, ha9⟩ := hr_some ha; first | (cases ha9; done) | (split at ha9 <;> cases ha9))
      | (dsimp only [hAct] at ha; obtain ⟨_, _, _, _, _, ha9⟩ := hir_some ha; first | (cases ha9; done) | (split at ha9 <;> cases ha9))
      | (dsimp only [hAct] at ha; split at ha <;> (obtain ⟨_, _, _, _, ha9⟩ := hr_some ha; split at ha9 <;> cases ha9))
      | (dsimp only [hAct] at ha; split at ha <;> first | (cases ha; done) | (split at ha <;> first | (cases ha; done) | (split at ha <;> cases ha)))
set_option maxHeartbeats 4000000 in
/-- a call on the JVM -/
theorem hCall {D : va_G} {cs : ClassId × ClassId × ClassId} {h0 n0 z0 : Nat} {I : hI} {p : Program} {l : Launch} {e : Env} {R : Room} {s : State} {m : MethodId} {args : Array Value} {below : List Frame} {meth : Method} {c0 : Code} {Q : State → Prop} {E : hE} {L : List (Option hV)} {st : List hV} {S S1 : hS} {y : Nat} {as : List hV} {nx : Nat} {r : List hV} {vf : Bool} {o : Option Int32} {J : hI} {mc ms : Nat} (hx : hX D cs h0 n0 I p R s m args meth c0) (hc : hChkE I E = true) (ha : hAct E L st S = some (.inr (.inl (y, as, nx, r, vf)))) (ok : okF S L st) (hJ : hInf[y]? = some J)
    (hM : Met l J.1 (hWs J) (hRm J mc ms) (va_Pc (as.map (hvv h0)) (hHp D cs h0 S)) (hQ D cs h0 o S1) mc ms (fun q => h0 ≤ q)) (e1 : S.1.length + mc = S1.1.length) (e2 : hSl S.1 + ms = hSl S1.1) (e3 : S1.1.length ≤ n0 + R.cells) (e4 : hSl S1.1 ≤ z0 + R.slots)
    (k : hG D cs h0 n0 z0 I p l e R s m args below meth c0 Q nx L (o.toList.map Sum.inl ++ r) S1) : hG D cs h0 n0 z0 I p l e R s m args below meth c0 Q E.1 L st S := by
  obtain ⟨pc, i, nx', a, b, d, q, v⟩ := E
  simp only [hChkE, Bool.and_eq_true, decide_eq_true_eq] at hc
  obtain ⟨hd, hc⟩ := hc
  obtain ⟨⟨hx1, hb, hret, hml, hown, hts, hlk, hnm⟩, hK, hN, hAO, hsz, hfr, hlo⟩ := hx
  have okD : ∀ v ∈ st.drop b, okv S v := fun v hv => ok.2.2 v (List.mem_of_mem_drop hv)
  obtain ⟨o1, o2, o3, o4, o5, o6, o7, o8, o9⟩ := hOwn hJ
  have hGd : GoodIn hBase (hWs J) := hGood (fun w hw => by
    rcases List.mem_cons.mp hw with rfl | hw
    · exact o2
    · exact hw)
  have hPre : ∀ {H : Heap} {locs : List Loc} {cells : Nat}, va_P D vwCl (hWd h0 cs S) H → va_S (fun q => h0 ≤ q) s.heap H locs → n0 + cells = S.1.length → H.size ≤ s.heap.size + cells → ∀ U : State, U.heap = H → s.WarmedH U.vm → va_Pc (as.map (hvv h0)) (hHp D cs h0 S) (as.map (hvv h0)).toArray U := by
    intro H locs cells hP hS hn hs U hU hW
    exact ⟨rfl, by rw [hU]; exact hHs hP hS hsz hn hs, by rw [hU]; exact hP, va_K.moved hW.alike hK, hNwarm hW hN, va_AO.moved hW.alike hAO⟩
  cases i with
  | invokestatic idx =>
    simp only [hChkI, Bool.and_eq_true, decide_eq_true_eq] at hc
    obtain ⟨rfl, hc⟩ := hc
    rw [Nat.add_sub_cancel_left] at hd
    dsimp only [hAct] at ha
    split at ha
    · split at ha
      · split at ha <;> cases ha
      · cases ha
    · rename_i h9
      rw [if_neg h9] at hc
      split at ha
      · rename_i hh
        cases ha
        obtain ⟨c1, c2, c3, c4, -⟩ := hCee hc hJ
        intro H locs cells slots ls hl hP hS hn hz
        refine hSize (fun hs9 => ?_)
        have hR : (hRm J mc ms).frames + 1 ≤ R.frames ∧ 8 + (J.2.2.1 + 11) + (hRm J mc ms).locals ≤ R.locals := by
          refine ⟨?_, ?_⟩
          · show J.2.2.2.2.1 + 1 ≤ R.frames; omega
          · show 8 + (J.2.2.1 + 11) + 40 * J.2.2.2.2.1 ≤ R.locals; omega
        refine hFin (a := (((st.take b).reverse).map (hvv h0)).toArray) ?_ hS (fun H1 locs1 hP1 hS1 => k H1 locs1 (cells + mc) (slots + ms) ls hl hP1 hS1 (by omega) (by omega))
        rcases c2 with c2 | c2
        · exact va_runS (As := (st.take b).reverse.map (hvv h0)) (rest := (st.drop b).map (hvv h0)) ⟨hx1, hb, hml, hown, hts⟩ hM (va_cwS b hts (goodIn_s8 (hIn c2 rfl) (o7 c4) o3 hGd) rfl rfl rfl ⟨o4, o5, c3⟩ hR) ⟨hBlind, hPre hP hS hn hs9⟩ rfl (by rw [List.length_map, List.length_reverse]; exact hh.1) hl.1 (hTake st b h0) (lv_room (by rw [hSum]; exact hh.2)) hd ⟨by omega, by omega⟩
        · exact va_runSN (As := (st.take b).reverse.map (hvv h0)) (rest := (st.drop b).map (hvv h0)) (host := "HeldBlades") ⟨hx1, hb, hml, hown, hts⟩ hM ⟨va_cnB b hts hGd rfl rfl rfl (hN _ (List.mem_of_getElem? c2) rfl) (hts _ o3) ⟨o4, o5, c3⟩ hR, hts _ (o7 c4), trivial⟩ ⟨hBlind, hPre hP hS hn hs9⟩ rfl (by rw [List.length_map, List.length_reverse]; exact hh.1) hl.1 (hTake st b h0) (lv_room (by rw [hSum]; exact hh.2)) hd ⟨by omega, by omega⟩
      · cases ha
  | invokevirtual idx =>
    simp only [hChkI, Bool.and_eq_true, decide_eq_true_eq] at hc
    obtain ⟨rfl, hc⟩ := hc
    rw [Nat.add_sub_cancel_left] at hd
    dsimp only [hAct] at ha
    split at ha
    · rename_i k9 c r' hdr
      split at ha
      · rename_i hh
        cases ha
        obtain ⟨c1, c2, c3, c4, c5⟩ := hCee hc hJ
        have c5 : d < 11 ∧ J.1.cls = hR d := by
          rcases c5 with h | h
          · cases h
          · exact h
        intro H locs cells slots ls hl hP hS hn hz
        refine hSize (fun hs9 => ?_)
        have hR' : (hRm J mc ms).frames + 1 ≤ R.frames ∧ 8 + (J.2.2.1 + 11) + (hRm J mc ms).locals ≤ R.locals := by
          refine ⟨?_, ?_⟩
          · show J.2.2.2.2.1 + 1 ≤ R.frames; omega
          · show 8 + (J.2.2.1 + 11) + 40 * J.2.2.2.2.1 ≤ R.locals; omega
        have hkd := hh.1
        subst hkd
        have hrc : S.1[c]? = some k9 := okD (.inr (some (k9, c))) (by rw [hdr]; exact List.mem_cons_self)
        have hst : st.map (hvv h0) = (((st.take b).reverse).map (hvv h0)).reverse ++ .ref (h0 + c) :: r.map (hvv h0) := by rw [hTake st b h0, hdr]; rfl
        have hcell := va_recv hK hP (hCls c5.1).1 (hWd_o hrc c5.1)
        refine hFin (a := (Value.ref (h0 + c) :: ((st.take b).reverse).map (hvv h0)).toArray) ?_ hS (fun H1 locs1 hP1 hS1 => k H1 locs1 (cells + mc) (slots + ms) ls hl hP1 hS1 (by omega) (by omega))
        rcases c2 with c2 | c2
        · exact va_runV (C := J.1.cls) (b := h0 + c) (As := (st.take b).reverse.map (hvv h0)) (rest := r.map (hvv h0)) ⟨hx1, hb, hml, hown, hts⟩ hM (cwV b hts (goodIn_v8 (hIn c2 rfl) (o8 c4).1 (o8 c4).2 o3 hGd) rfl rfl rfl ⟨rfl, o4, o5, c3⟩ hR') ⟨hBlind, by rw [c5.2]; exact hcell, hPre hP hS hn hs9⟩ rfl (by rw [List.length_map, List.length_reverse]; exact hh.2.1) hl.1 hst (lv_room (by rw [hSum]; exact hh.2.2)) hd ⟨by omega, by omega⟩
        · exact va_runVN (C := J.1.cls) (b := h0 + c) (As := (st.take b).reverse.map (hvv h0)) (rest := r.map (hvv h0)) (host := "HeldBlades") ⟨hx1, hb, hml, hown, hts⟩ hM ⟨va_cnB b hts hGd rfl rfl rfl (hN _ (List.mem_of_getElem? c2) rfl) (hts _ o3) ⟨o4, o5, c3⟩ hR', hts _ (o8 c4).1, hts _ (o8 c4).2⟩ ⟨hBlind, by rw [c5.2]; exact hcell, hPre hP hS hn hs9⟩ rfl (by rw [List.length_map, List.length_reverse]; exact hh.2.1) hl.1 hst (lv_room (by rw [hSum]; exact hh.2.2)) hd ⟨by omega, by omega⟩
      · cases ha
    · cases ha
  | invokespecial idx =>
    simp only [hChkI, Bool.and_eq_true, decide_eq_true_eq] at hc
    obtain ⟨rfl, hc⟩ := hc
    rw [Nat.add_sub_cancel_left] at hd
    dsimp only [hAct] at ha
    split at ha
    · split at ha
      · split at ha <;> cases ha
      · cases ha
    · rename_i h9
      rw [if_neg h9] at hc
      split at ha
      · rename_i k9 c r' hdr
        split at ha
        · rename_i hh
          cases ha
          obtain ⟨c1, c2, c3, c4, c5⟩ := hCee hc hJ
          obtain ⟨p1, p2, p3⟩ := o9 c4
          intro H locs cells slots ls hl hP hS hn hz
          refine hSize (fun hs9 => ?_)
          have hR' : (hRm J mc ms).frames + 1 ≤ R.frames ∧ 8 + (J.2.2.1 + 11) + (hRm J mc ms).locals ≤ R.locals := by
            refine ⟨?_, ?_⟩
            · show J.2.2.2.2.1 + 1 ≤ R.frames; omega
            · show 8 + (J.2.2.1 + 11) + 40 * J.2.2.2.2.1 ≤ R.locals; omega
          have hst : st.map (hvv h0) = (((st.take b).reverse).map (hvv h0)).reverse ++ .ref (h0 + c) :: r.map (hvv h0) := by rw [hTake st b h0, hdr]; rfl
          have hws : hWs J = Cond.code J.1 J.2.1 J.2.2.1 none :: hBase := by unfold hWs; rw [p3]
          refine hFin (a := (Value.ref (h0 + c) :: ((st.take b).reverse).map (hvv h0)).toArray) ?_ hS (fun H1 locs1 hP1 hS1 => k H1 locs1 (cells + mc) (slots + ms) ls hl hP1 hS1 (by omega) (by omega))
          rcases c2 with c2 | c2
          · exact va_runI (b := h0 + c) (As := (st.take b).reverse.map (hvv h0)) (rest := r.map (hvv h0)) ⟨hx1, hb, hml, hown, hts⟩ hM (cwI b hts hGd hws rfl rfl (hts _ o3) (hWord hts c2 rfl) (hts _ p1) p2 ⟨o4, o5, c3⟩ hR') ⟨hBlind, hPre hP hS hn hs9⟩ rfl (by rw [List.length_map, List.length_reverse]; exact hh.2.1) hl.1 hst (lv_room (by rw [hSum]; exact hh.2.2)) hd ⟨by omega, by omega⟩
          · exact va_runIN (b := h0 + c) (As := (st.take b).reverse.map (hvv h0)) (rest := r.map (hvv h0)) (host := "HeldBlades") ⟨hx1, hb, hml, hown, hts⟩ hM ⟨va_cnB b hts hGd hws rfl rfl (hN _ (List.mem_of_getElem? c2) rfl) (hts _ o3) ⟨o4, o5, c3⟩ hR', p2, hts _ p1⟩ ⟨hBlind, hPre hP hS hn hs9⟩ rfl (by rw [List.length_map, List.length_reverse]; exact hh.2.1) hl.1 hst (lv_room (by rw [hSum]; exact hh.2.2)) hd ⟨by omega, by omega⟩
        · cases ha
      · cases ha
  | _ =>
    exfalso
    first
      | (cases ha; done)
      | (dsimp only [hAct] at ha; obtain ⟨_, _, _, _, ha9⟩ := h2_some ha; first | (cases ha9; done) | (split at ha9 <;> cases ha9))
      | (dsimp only [hAct] at ha; obtain ⟨_, _, _, ha9⟩ := h1_some ha; first | (cases ha9; done) | (dsimp only [hPush] at ha9; split at ha9 <;> cases ha9))
      | (dsimp only [hAct] at ha; obtain ⟨_, _, _, _, ha9⟩ := hr_some ha; first | (cases ha9; done) | (split at ha9 <;> cases ha9))
      | (dsimp only [hAct] at ha; obtain ⟨_, _, _, _, _, ha9⟩ := hir_some ha; first | (cases ha9; done) | (split at ha9 <;> cases ha9))
      | (dsimp only [hAct] at ha; split at ha <;> (obtain ⟨_, _, _, _, ha9⟩ := hr_some ha; split at ha9 <;> cases ha9))
      | (dsimp only [hAct] at ha; split at ha <;> first | (cases ha; done) | (split at ha <;> first | (cases ha; done) | (split at ha <;> cases ha)))
set_option maxHeartbeats 4000000 in
/-- a return on the JVM -/
theorem hRet {D : va_G} {cs : ClassId × ClassId × ClassId} {h0 n0 z0 : Nat} {I : hI} {p : Program} {l : Launch} {e : Env} {R : Room} {s : State} {m : MethodId} {args : Array Value} {below : List Frame} {meth : Method} {c0 : Code} {E : hE} {L : List (Option hV)} {st : List hV} {S : hS} {o : Option Int32} (hx : hX D cs h0 n0 I p R s m args meth c0) (hc : hChkE I E = true) (ha : hAct E L st S = some (.inr (.inr o))) (k1 : n0 + R.cells = S.1.length) (k2 : z0 + R.slots = hSl S.1) : hG D cs h0 n0 z0 I p l e R s m args below meth c0 (MQ below (hQ D cs h0 o S) args s R.cells R.slots (fun q => h0 ≤ q)) E.1 L st S := by
  obtain ⟨pc, i, nx', a, b, d, q, v⟩ := E
  simp only [hChkE, Bool.and_eq_true, decide_eq_true_eq] at hc
  obtain ⟨hd, hc⟩ := hc
  obtain ⟨⟨hx1, hb, hret, hml, hown, hts, hlk, hnm⟩, hK, hN, hAO, hsz, hfr, hlo⟩ := hx
  cases i with
  | ireturn =>
    simp only [hChkI, Bool.and_eq_true, decide_eq_true_eq] at hc
    obtain ⟨rfl, hc⟩ := hc
    rw [Nat.add_sub_cancel_left] at hd
    dsimp only [hAct] at ha
    split at ha
    · rename_i x
      split at ha
      · rename_i hd2
        subst hd2
        try dsimp only at hc
        have hc := of_decide_eq_true hc
        split at ha
        · rename_i hbx
          cases ha
          intro H locs cells slots ls hl hP hS hn hz
          have e1 : cells = R.cells := by omega
          have e2 : slots = R.slots := by omega
          subst e1; subst e2
          exact W.zret (v := x) hx1 hb (hret.trans hc) (hB_nar hbx).1 (fun t ht hW => ⟨⟨x, (), rfl, rfl, by show va_P _ _ _ t.heap; rw [ht]; exact hP⟩, hS.F ht⟩) hS.2.2 hd hlk
        · cases ha
      · rename_i hd2
        cases ha
        have hc : I.2.2.2.1 = some .int := by
          split at hc
          · exact of_decide_eq_true hc
          · exact absurd rfl hd2
          · cases hc
        intro H locs cells slots ls hl hP hS hn hz
        have e1 : cells = R.cells := by omega
        have e2 : slots = R.slots := by omega
        subst e1; subst e2
        exact W.iret (v := x) hx1 hb (hret.trans hc) (fun t ht hW => ⟨⟨x, (), rfl, rfl, by show va_P _ _ _ t.heap; rw [ht]; exact hP⟩, hS.F ht⟩) hS.2.2 hd hlk
    · cases ha
  | return_ =>
    simp only [hChkI, Bool.and_eq_true, decide_eq_true_eq] at hc
    obtain ⟨rfl, hc⟩ := hc
    rw [Nat.add_sub_cancel_left] at hd
    dsimp only [hAct] at ha
    split at ha
    · cases ha
      intro H locs cells slots ls hl hP hS hn hz
      have e1 : cells = R.cells := by omega
      have e2 : slots = R.slots := by omega
      subst e1; subst e2
      exact W.vret hx1 hb (hret.trans hc) (fun t ht hW => ⟨⟨(), rfl, trivial, by show va_P _ _ _ t.heap; rw [ht]; exact hP⟩, hS.F ht⟩) hS.2.2 hd hlk
    · cases ha
  | _ =>
    exfalso
    first
      | (cases ha; done)
      | (dsimp only [hAct] at ha; obtain ⟨_, _, _, _, ha9⟩ := h2_some ha; first | (cases ha9; done) | (split at ha9 <;> cases ha9))
      | (dsimp only [hAct] at ha; obtain ⟨_, _, _, ha9⟩ := h1_some ha; first | (cases ha9; done) | (dsimp only [hPush] at ha9; split at ha9 <;> cases ha9))
      | (dsimp only [hAct] at ha; obtain ⟨_, _, _, _, ha9⟩ := hr_some ha; first | (cases ha9; done) | (split at ha9 <;> cases ha9))
      | (dsimp only [hAct] at ha; obtain ⟨_, _, _, _, _, ha9⟩ := hir_some ha; first | (cases ha9; done) | (split at ha9 <;> cases ha9))
      | (dsimp only [hAct] at ha; split at ha <;> (obtain ⟨_, _, _, _, ha9⟩ := hr_some ha; split at ha9 <;> cases ha9))
      | (dsimp only [hAct] at ha; split at ha <;> first | (cases ha; done) | (split at ha <;> first | (cases ha; done) | (split at ha <;> cases ha)))
set_option maxHeartbeats 4000000 in
/-- WHAT THE MACHINE RUNS, THE JVM RUNS -/
theorem hSound : ∀ (n y : Nat) (I : hI), hInf[y]? = some I → ∀ (pc : Nat) (L : List (Option hV)) (st : List hV) (S : hS) (o : Option Int32) (S' : hS), hRun n (hcod y) pc L st S = some (o, S') → okF S L st → (okS S' ∧ S.1 <+: S'.1) ∧ ∀ (D : va_G) (cs : ClassId × ClassId × ClassId) (h0 n0 z0 : Nat) (p : Program) (l : Launch) (e : Env) (R : Room) (s : State) (m : MethodId) (args : Array Value) (below : List Frame) (meth : Method) (c0 : Code), hX D cs h0 n0 I p R s m args meth c0 → n0 + R.cells = S'.1.length → z0 + R.slots = hSl S'.1 → hG D cs h0 n0 z0 I p l e R s m args below meth c0 (MQ below (hQ D cs h0 o S') args s R.cells R.slots (fun q => h0 ≤ q)) pc L st S := by
  intro n
  induction n with
  | zero => intro y I hI pc L st S o S' h; cases h
  | succ n ih =>
    intro y I hI pc L st S o S' h ok
    rw [hRun] at h
    cases hf : hFetch (hcod y) pc with
    | none => rw [hf] at h; cases h
    | some E =>
      rw [hf] at h
      dsimp only at h
      obtain ⟨hch, hpc⟩ := hAllE hI hf
      cases ha : hAct E L st S with
      | none => rw [ha] at h; cases h
      | some A =>
        rw [ha] at h
        rcases A with ⟨pc', L', st', S1⟩ | ⟨y', as, nx, r, vf⟩ | o'
        · have ok1 := hOk hch ha ok
          have i1 := ih y I hI pc' L' st' S1 o S' h ok1.1
          refine ⟨⟨i1.1.1, ok1.2.trans i1.1.2⟩, fun D cs h0 n0 z0 p l e R s m args below meth c0 hx k1 k2 => ?_⟩
          rw [← hpc]
          exact (hStep hx hch ha ok).2.2 (by rw [k1]; exact i1.1.2.length_le) (by rw [k2]; exact hSl_mono i1.1.2) (i1.2 D cs h0 n0 z0 p l e R s m args below meth c0 hx k1 k2)
        · dsimp only at h
          obtain ⟨J, hJ, jl, ja, jr⟩ := hCallP hch ha ok
          cases hc : hRun n (hcod y') 0 (hInit (hcod y').1 as) [] S with
          | none => rw [hc] at h; cases h
          | some q =>
            rw [hc] at h
            obtain ⟨o1, S1⟩ := q
            have hmx : (hcod y').1 = J.2.2.1 := by
              have hm := hAll hJ
              simp only [hChkM, Bool.and_eq_true, decide_eq_true_eq] at hm
              exact hm.1.1
            have okc : okF S (hInit (hcod y').1 as) [] := by
              refine ⟨ok.1, fun k v hk => ?_, fun v hv => absurd hv List.not_mem_nil⟩
              unfold hInit at hk
              have hk := List.mem_of_getElem? hk
              rcases List.mem_append.mp hk with hk | hk
              · obtain ⟨w, hw, e⟩ := List.mem_map.mp hk
                cases e
                exact ja _ hw
              · cases (List.mem_replicate.mp hk).2
            have i1 := ih y' J hJ 0 _ [] S o1 S1 hc okc
            have h : hRun n (hcod y) nx L (o1.toList.map Sum.inl ++ r) S1 = some (o, S') := by
              cases o1 with
              | none =>
                dsimp only at h
                split at h
                · cases h
                · exact h
              | some x =>
                dsimp only at h
                split at h
                · exact h
                · cases h
            have ok2 : okF S1 L (o1.toList.map Sum.inl ++ r) := by
              refine ⟨i1.1.1, fun k v hk => (ok.2.1 k v hk).mono i1.1.2, fun v hv => ?_⟩
              rcases List.mem_append.mp hv with hv | hv
              · obtain ⟨w, -, e⟩ := List.mem_map.mp hv
                rw [← e]; trivial
              · exact (jr v hv).mono i1.1.2
            have i2 := ih y I hI nx L _ S1 o S' h ok2
            refine ⟨⟨i2.1.1, i1.1.2.trans i2.1.2⟩, fun D cs h0 n0 z0 p l e R s m args below meth c0 hx k1 k2 => ?_⟩
            obtain ⟨mc, hmc⟩ : ∃ mc, S.1.length + mc = S1.1.length := ⟨_, Nat.add_sub_cancel' i1.1.2.length_le⟩
            obtain ⟨ms, hms⟩ : ∃ ms, hSl S.1 + ms = hSl S1.1 := ⟨_, Nat.add_sub_cancel' (hSl_mono i1.1.2)⟩
            have hM : Met l J.1 (hWs J) (hRm J mc ms) (va_Pc (as.map (hvv h0)) (hHp D cs h0 S)) (hQ D cs h0 o1 S1) mc ms (fun q => h0 ≤ q) := by
              refine hMet (hOwn hJ).1 jl hmc hms (fun p e R s m args below meth c0 r1 r2 hx => ?_)
              subst r1; subst r2
              have i3 := i1.2 D cs h0 S.1.length (hSl S.1) p l e R s m args below meth c0 hx hmc hms
              rw [hmx] at i3
              exact i3
            rw [← hpc]
            exact hCall hx hch ha ok hJ hM hmc hms (by rw [k1]; exact i2.1.2.length_le) (by rw [k2]; exact hSl_mono i2.1.2) (i2.2 D cs h0 n0 z0 p l e R s m args below meth c0 hx k1 k2)
        · cases h
          refine ⟨⟨ok.1, List.prefix_refl _⟩, fun D cs h0 n0 z0 p l e R s m args below meth c0 hx k1 k2 => ?_⟩
          rw [← hpc]
          exact hRet hx hch ha k1 k2
