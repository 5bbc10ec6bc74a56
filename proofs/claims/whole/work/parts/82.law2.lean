/-! What the law knows at its entry; what it makes. -/
theorem law_ctx {s : State} {args : Array Value} (hts : ∀ w ∈ lw_tbl, w.before args s = true) : (∀ w ∈ hBase, w.before args s = true) ∧ ∃ (D : va_G) (cs : ClassId × ClassId × ClassId), va_K D vwCl (hTys cs) s ∧ (∀ w ∈ lw_tbl, hNest w = true → va_Nw w s) ∧ va_AO "HeldBlades$Moment" s := by
  have htB : ∀ w ∈ hBase, w.before args s = true := fun w hw => hts w (List.mem_filter.mp hw).1
  have hao : va_AO "HeldBlades$Moment" s := va_AO.of (A := args) (hts (Cond.arrayOver (.object "HeldBlades$Moment")) (by decide +kernel))
  obtain ⟨cI, kI, compI, i1, i2, i3⟩ := Cond.arrayClass_spec (hts (Cond.arrayClass .int) (by decide +kernel))
  obtain ⟨cZ, kZ, compZ, z1, z2, z3⟩ := Cond.arrayClass_spec (hts (Cond.arrayClass .boolean) (by decide +kernel))
  obtain ⟨compM, cM, kM, m1, m2, m3, m4, m5⟩ := Cond.arrayOver_spec hao
  have hk : ∀ a : Nat, ∃ q : ClassId × (Nat → Nat), ∀ x : vw_C, vwCl[a]? = some x → u_Kn s x.1 x.2.1 x.2.2 q.1 q.2 := by
    intro a
    by_cases h : a < 11
    · have hc := hCls h
      obtain ⟨cC, iS, hK⟩ := u_known (ws := hBase) htB hc.2.1 (htB _ hc.2.2.2.2.2.1)
      refine ⟨(cC, iS), fun x hx => ?_⟩
      rw [hc.1] at hx
      cases hx
      exact hK
    · refine ⟨(0, fun _ => 0), fun x hx => ?_⟩
      have : a < vwCl.length := (List.getElem?_eq_some_iff.mp hx).1
      exact absurd this (by show ¬ a < 11; exact h)
  refine ⟨htB, (fun a => (hk a).choose.1, fun a => (hk a).choose.2), (cI, cZ, cM), ⟨fun c q hq => (hk c).choose_spec q hq, fun k q hq => ?_⟩, fun w hw hn => ?_, hao⟩
  · match k, hq with
    | 0, hq => cases hq; exact ⟨fun n z => ⟨(fun k h => by cases h), kI, i2, compI, i3⟩, i1⟩
    | 1, hq => cases hq; exact ⟨fun n z => ⟨(fun k h => by cases h), kZ, z2, compZ, z3⟩, z1⟩
    | 2, hq => cases hq; exact ⟨fun n z => ⟨(fun k h => by cases h), kM, m3, compM, m4⟩, kM, compM, m3, m4, m1, m5⟩
    | n + 3, hq => cases hq
  · cases w <;> first | (cases hn; done) | exact va_Nw.of rfl (hts _ hw)
/-- the world before anything is made -/
def hE0 : hS := ([], fun _ _ => 0, fun _ _ => none)
theorem hE0_new : hNew hE0 9 = hI0 := by
  unfold hNew hE0 hI0
  refine Prod.ext rfl (Prod.ext ?_ ?_)
  · funext p
    show va_up (fun (_ _ : Nat) => (0 : Int32)) 0 (fun _ => 0) p = fun _ => 0
    by_cases h : p = 0
    · rw [h]; exact va_up_self _ _ _
    · exact va_up_ne _ _ h
  · funext p
    show va_up (fun (_ _ : Nat) => (none : Option (Nat × Nat))) 0 (fun _ => none) p = fun _ => none
    by_cases h : p = 0
    · rw [h]; exact va_up_self _ _ _
    · exact va_up_ne _ _ h
set_option maxHeartbeats 4000000 in
theorem lawNew {D : va_G} {cs : ClassId × ClassId × ClassId} {p : Program} {l : Launch} {e : Env} {s : State} {m : MethodId} {args : Array Value} {below : List Frame} {meth : Method} {c0 : Code} {Q : State → Prop} (hx : lawX D cs p s m args c0) {a idx : Nat} {S : hS} (ha : a < 11) (hcl : Cond.classLink R_law idx (hR a) ∈ hBase) {pc : Nat} {ls : Array Slot} {st : List Value} {H : Heap} {locs : List Loc} {cells slots : Nat} (hP : va_P D vwCl (hWd s.heap.size cs S) H) (hS : va_S (fun q => s.heap.size ≤ q) s.heap H locs) (hn : cells = S.1.length) (hz : slots = hSl S.1) (hroom : S.1.length + 1 ≤ 600000 ∧ hSl S.1 + hNf.getD a 0 ≤ 7302250) (hd : decode code pc = .ok (.new idx, 3))
    (k : ∀ (H1 : Heap) (locs1 : List Loc), va_P D vwCl (hWd s.heap.size cs (hNew S a)) H1 → va_S (fun q => s.heap.size ≤ q) s.heap H1 locs1 → W p l e room_1 s m args below meth c0 H1 locs1 (cells + 1) (slots + hNf.getD a 0) Q (F0 m (pc + 3) ls (.ref (s.heap.size + S.1.length) :: st))) : W p l e room_1 s m args below meth c0 H locs cells slots Q (F0 m pc ls st) := by
  obtain ⟨⟨hx1, hb, hml, hown, hts⟩, hK, hN, hAO⟩ := hx
  obtain ⟨c1, c2, c3, c4, c5, c6, c7⟩ := hCls ha
  refine va_new (ci := a) (fs := hFs s.heap.size a S.1.length (hNew S a)) (C := hR a) (T := hT a) (N := hNf.getD a 0) hx1 hb hts c2 (hTy a) c3 hown (hts _ hcl) (hts _ c6) (hts _ c7) hK hP (hWd_D s.heap.size cs S) hS (fun q hq => hq) c1 (fun j hj => ?_) (by show cells + 1 ≤ 600000; omega) (by show slots + hNf.getD a 0 ≤ 7302250; omega) hd (fun q9 H1 hP1 hD1 hS1 => ?_)
  · rw [c5 j hj]
    unfold vp_V
    rw [List.getD_eq_getElem?_getD, hFs_at hj]
    have e1 : (hNew S a).2.2 S.1.length = fun _ => none := va_up_self _ _ _
    have e2 : (hNew S a).2.1 S.1.length = fun _ => 0 := va_up_self _ _ _
    rw [e1, e2]; rfl
  · refine hSize (fun hs9 => ?_)
    have hq : q9 = s.heap.size + S.1.length := hWd_fresh hD1 (by have h9 := hLastLt hP1; omega)
    subst hq
    rw [← hCel_o (cs := cs) ha, ← hWd_new] at hP1
    exact k H1 _ hP1 hS1
set_option maxHeartbeats 4000000 in
theorem lawI {D : va_G} {cs : ClassId × ClassId × ClassId} {p : Program} {l : Launch} {e : Env} {s : State} {m : MethodId} {args : Array Value} {below : List Frame} {meth : Method} {c0 : Code} {Q : State → Prop} (hx : lawX D cs p s m args c0) {y idx d c mc ms : Nat} {J : hI} {r : List hV} {S S1 : hS} (hM : lawM y idx d 2 0 J) (hrc : S.1[c]? = some d) (hok : okS S) (hE : Ev y [.inr (some (d, c))] S (none, S1)) (e1 : S.1.length + mc = S1.1.length) (e2 : hSl S.1 + ms = hSl S1.1) (hrr : r.length ≤ 8) {pc : Nat} {ls : Array Slot} {H : Heap} {locs : List Loc} {cells slots : Nat} (hl : ls.size = 4) (hP : va_P D vwCl (hWd s.heap.size cs S) H) (hS : va_S (fun q => s.heap.size ≤ q) s.heap H locs) (hn : cells = S.1.length) (hz : slots = hSl S.1) (hroom : S1.1.length ≤ 600000 ∧ hSl S1.1 ≤ 7302250) (hd : decode code pc = .ok (.invokespecial idx, 3))
    (k : ∀ (H1 : Heap) (locs1 : List Loc), va_P D vwCl (hWd s.heap.size cs S1) H1 → va_S (fun q => s.heap.size ≤ q) s.heap H1 locs1 → W p l e room_1 s m args below meth c0 H1 locs1 (cells + mc) (slots + ms) Q (F0 m (pc + 3) ls (r.map (hvv s.heap.size)))) : W p l e room_1 s m args below meth c0 H locs cells slots Q (F0 m pc ls (.ref (s.heap.size + c) :: r.map (hvv s.heap.size))) := by
  obtain ⟨⟨hx1, hb, hml, hown, hts⟩, hK, hN, hAO⟩ := hx
  obtain ⟨hJ, c4, c5a, c5b, hlink, c3, hR'⟩ := hM
  obtain ⟨o1, o2, o3, o4, o5, o6, o7, o8, o9⟩ := hOwn hJ
  obtain ⟨p1, p2, p3⟩ := o9 c4
  have hGd : GoodIn hBase (hWs J) := hGood (fun w hw => by
    rcases List.mem_cons.mp hw with rfl | hw
    · exact o2
    · exact hw)
  have h5 := hCeeL hJ c3
  rw [if_neg (by rw [c4]; decide)] at h5
  have ja : ∀ v ∈ [(.inr (some (d, c)) : hV)], okv S v := by
    intro v hv
    rcases List.mem_cons.mp hv with rfl | hv
    · exact hrc
    · exact absurd hv List.not_mem_nil
  have hMt := (hMetE (l := l) (D := D) (cs := cs) (h0 := s.heap.size) hJ hE (by show 1 ≤ _; omega) ja hok).2 mc ms e1 e2
  have hws : hWs J = Cond.code J.1 J.2.1 J.2.2.1 none :: hBase := by unfold hWs; rw [p3]
  refine hSize (fun hs9 => ?_)
  refine hFin (o := none) (r := r) (a := (Value.ref (s.heap.size + c) :: ([] : List Value)).toArray) (mc := mc) (ms := ms) ?_ hS (fun H1 locs1 hP1 hS1 => k H1 locs1 hP1 hS1)
  exact va_runI (b := s.heap.size + c) (As := []) (rest := r.map (hvv s.heap.size)) ⟨hx1, hb, hml, hown, hts⟩ hMt (cwI 0 hts hGd hws rfl rfl (hts _ o3) (hts _ hlink) (hts _ p1) p2 ⟨o4, o5, c3⟩ hR') ⟨hBlind, lawPre (as := [.inr (some (d, c))]) hK hN hAO hP hS hn hs9⟩ rfl rfl hl rfl (lv_room (by rw [hSum]; exact hrr)) hd ⟨by show cells + mc ≤ 600000; omega, by show slots + ms ≤ 7302250; omega⟩
theorem law_mid {yC iC yM iM : Nat} {JC JM : hI} {as : List Int32} {S S1 S2 : hS} {r r' : Option Int32} (mC : lawM yC iC 9 1 as.length JC) (mM : lawM yM iM 10 1 as.length JM) (hok : okS S) (hR1 : S.1 = hLam) (hR2 : S2.1 = hLam) (E1 : Ev yC (.inr (some (9, 0)) :: as.map Sum.inl) S (r, S1)) (E2 : Ev yM (.inr (some (10, 57)) :: as.map Sum.inl) S1 (r', S2)) : S1.1 = hLam ∧ okS S1 ∧ okS S2 := by
  have jj : ∀ {y i d n : Nat} {J : hI}, lawM y i d 1 n J → n + 1 ≤ J.2.2.1 := by
    intro y i d n J hM
    obtain ⟨hJ, c4, c5a, c5b, hlink, c3, hR'⟩ := hM
    have h5 := hCeeL hJ c3
    rw [if_neg (by rw [c4]; decide)] at h5
    exact h5
  have ja : ∀ (T : hS) (d c : Nat), T.1[c]? = some d → ∀ v ∈ ((.inr (some (d, c)) : hV) :: as.map Sum.inl), okv T v := by
    intro T d c hc v hv
    rcases List.mem_cons.mp hv with rfl | hv
    · exact hc
    · obtain ⟨w, -, e⟩ := List.mem_map.mp hv
      rw [← e]; trivial
  obtain ⟨hl1, -⟩ := hMetE (l := launch0) (D := (fun _ => 0, fun _ _ => 0)) (cs := (0, 0, 0)) (h0 := 0) mC.1 E1 (by rw [List.length_cons, List.length_map]; exact jj mC) (ja S 9 0 (by rw [hR1]; rfl)) hok
  have p57 : S1.1[57]? = some 10 := by
    obtain ⟨t, ht⟩ := hl1.2
    rw [← ht, hR1]
    rfl
  obtain ⟨hl2, -⟩ := hMetE (l := launch0) (D := (fun _ => 0, fun _ _ => 0)) (cs := (0, 0, 0)) (h0 := 0) mM.1 E2 (by rw [List.length_cons, List.length_map]; exact jj mM) (ja S1 10 57 p57) hl1.1
  refine ⟨?_, hl1.1, hl2.1⟩
  have q1 := hl1.2
  have q2 := hl2.2
  rw [hR1] at q1
  rw [hR2] at q2
  exact (q1.eq_of_length (Nat.le_antisymm q1.length_le q2.length_le)).symm
