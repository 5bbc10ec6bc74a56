/-! The law's calls. -/
theorem hMetE {l : Launch} {D : va_G} {cs : ClassId × ClassId × ClassId} {h0 y : Nat} {J : hI} {S S1 : hS} {as : List hV} {o : Option Int32} (hJ : hInf[y]? = some J) (hE : Ev y as S (o, S1)) (jl : as.length ≤ J.2.2.1) (ja : ∀ v ∈ as, okv S v) (hok : okS S) : (okS S1 ∧ S.1 <+: S1.1) ∧ ∀ mc ms, S.1.length + mc = S1.1.length → hSl S.1 + ms = hSl S1.1 → Met l J.1 (hWs J) (hRm J mc ms) (va_Pc (as.map (hvv h0)) (hHp D cs h0 S)) (hQ D cs h0 o S1) mc ms (fun q => h0 ≤ q) := by
  obtain ⟨n, hc⟩ := hE
  have hmx : (hcod y).1 = J.2.2.1 := by
    have hm := hAll hJ
    simp only [hChkM, Bool.and_eq_true, decide_eq_true_eq] at hm
    exact hm.1.1
  have okc : okF S (hInit (hcod y).1 as) [] := by
    refine ⟨hok, fun k v hk => ?_, fun v hv => absurd hv List.not_mem_nil⟩
    unfold hInit at hk
    have hk := List.mem_of_getElem? hk
    rcases List.mem_append.mp hk with hk | hk
    · obtain ⟨w, hw, e⟩ := List.mem_map.mp hk
      cases e
      exact ja _ hw
    · cases (List.mem_replicate.mp hk).2
  have i1 := hSound n y J hJ 0 _ [] S o S1 hc okc
  refine ⟨i1.1, fun mc ms hmc hms => ?_⟩
  refine hMet (hOwn hJ).1 jl hmc hms (fun p e R s m args below meth c0 r1 r2 hx => ?_)
  subst r1; subst r2
  have i3 := i1.2 D cs h0 S.1.length (hSl S.1) p l e R s m args below meth c0 hx hmc hms
  rw [hmx] at i3
  exact i3
/-- what is known in the law's body -/
def lawX (D : va_G) (cs : ClassId × ClassId × ClassId) (p : Program) (s : State) (m : MethodId) (args : Array Value) (c0 : Code) : Prop :=
  (p.tables.exec = Jvm.exec ∧ c0.code = code ∧ c0.maxLocals = 4 ∧ s.vm.findClass R_law = some m.cls ∧ (∀ w ∈ hBase, w.before args s = true)) ∧ va_K D vwCl (hTys cs) s ∧ (∀ w ∈ lw_tbl, hNest w = true → va_Nw w s) ∧ va_AO "HeldBlades$Moment" s
/-- what is known of a method that the law calls -/
def lawM (y idx d kind np : Nat) (J : hI) : Prop := hInf[y]? = some J ∧ J.2.2.2.2.2.2.2.2.2 = kind ∧ d < 11 ∧ J.1.cls = hR d ∧ Cond.methodLink R_law idx J.1 ∈ hBase ∧ (parseMethodDescriptor J.1.desc).map (fun d => d.parameters.length) = some np ∧ (J.2.2.2.2.1 + 1 ≤ room_1.frames ∧ 8 + (J.2.2.1 + 11) + 40 * J.2.2.2.2.1 ≤ room_1.locals)
theorem lawPre {D : va_G} {cs : ClassId × ClassId × ClassId} {s : State} {as : List hV} {S : hS} {H : Heap} {locs : List Loc} {cells : Nat} (hK : va_K D vwCl (hTys cs) s) (hN : ∀ w ∈ lw_tbl, hNest w = true → va_Nw w s) (hAO : va_AO "HeldBlades$Moment" s) (hP : va_P D vwCl (hWd s.heap.size cs S) H) (hS : va_S (fun q => s.heap.size ≤ q) s.heap H locs) (hn : cells = S.1.length) (hs : H.size ≤ s.heap.size + cells) : ∀ U : State, U.heap = H → s.WarmedH U.vm → va_Pc (as.map (hvv s.heap.size)) (hHp D cs s.heap.size S) (as.map (hvv s.heap.size)).toArray U := by
  intro U hU hW
  exact ⟨rfl, by rw [hU]; exact hHs (n0 := 0) hP hS rfl (by omega) hs, by rw [hU]; exact hP, va_K.moved hW.alike hK, hNwarm hW hN, va_AO.moved hW.alike hAO⟩
set_option maxHeartbeats 4000000 in
theorem lawV {D : va_G} {cs : ClassId × ClassId × ClassId} {p : Program} {l : Launch} {e : Env} {s : State} {m : MethodId} {args : Array Value} {below : List Frame} {meth : Method} {c0 : Code} {Q : State → Prop} (hx : lawX D cs p s m args c0) {y idx d c : Nat} {J : hI} {as rr : List Int32} {S S1 : hS} {x : Int32} (hM : lawM y idx d 1 as.length J) (hrc : S.1[c]? = some d) (hok : okS S) (hE : Ev y (.inr (some (d, c)) :: as.map Sum.inl) S (some x, S1)) (hlen : S1.1 = S.1) (hrr : rr.length ≤ 8) {pc : Nat} {ls : Array Slot} {H : Heap} {locs : List Loc} {cells slots : Nat} (hl : ls.size = 4) (hP : va_P D vwCl (hWd s.heap.size cs S) H) (hS : va_S (fun q => s.heap.size ≤ q) s.heap H locs) (hn : cells = S.1.length) (hz : slots = hSl S.1) (hroom : S.1.length ≤ 600000 ∧ hSl S.1 ≤ 7302250) (hd : decode code pc = .ok (.invokevirtual idx, 3))
    (k : ∀ (H1 : Heap) (locs1 : List Loc), va_P D vwCl (hWd s.heap.size cs S1) H1 → va_S (fun q => s.heap.size ≤ q) s.heap H1 locs1 → W p l e room_1 s m args below meth c0 H1 locs1 cells slots Q (F0 m (pc + 3) ls (((x :: rr).map Sum.inl).map (hvv s.heap.size)))) : W p l e room_1 s m args below meth c0 H locs cells slots Q (F0 m pc ls (((as.map Sum.inl).map (hvv s.heap.size)).reverse ++ .ref (s.heap.size + c) :: (rr.map Sum.inl).map (hvv s.heap.size))) := by
  obtain ⟨⟨hx1, hb, hml, hown, hts⟩, hK, hN, hAO⟩ := hx
  obtain ⟨hJ, c4, c5a, c5b, hlink, c3, hR'⟩ := hM
  obtain ⟨o1, o2, o3, o4, o5, o6, o7, o8, o9⟩ := hOwn hJ
  have hGd : GoodIn hBase (hWs J) := hGood (fun w hw => by
    rcases List.mem_cons.mp hw with rfl | hw
    · exact o2
    · exact hw)
  have h5 := hCeeL hJ c3
  rw [if_neg (by rw [c4]; decide)] at h5
  have jl : ((.inr (some (d, c)) : hV) :: as.map Sum.inl).length ≤ J.2.2.1 := by rw [List.length_cons, List.length_map]; omega
  have ja : ∀ v ∈ ((.inr (some (d, c)) : hV) :: as.map Sum.inl), okv S v := by
    intro v hv
    rcases List.mem_cons.mp hv with rfl | hv
    · exact hrc
    · obtain ⟨w, -, e⟩ := List.mem_map.mp hv
      rw [← e]; trivial
  have hMt := (hMetE (l := l) (D := D) (cs := cs) (h0 := s.heap.size) hJ hE jl ja hok).2 0 0 (by rw [hlen]; rfl) (by rw [hlen]; rfl)
  refine hSize (fun hs9 => ?_)
  have hcell := va_recv hK hP (hCls c5a).1 (hWd_o hrc c5a)
  refine hFin (o := some x) (r := rr.map Sum.inl) (a := (Value.ref (s.heap.size + c) :: (as.map Sum.inl).map (hvv s.heap.size)).toArray) (mc := 0) (ms := 0) ?_ hS (fun H1 locs1 hP1 hS1 => k H1 locs1 hP1 hS1)
  exact va_runV (C := J.1.cls) (b := s.heap.size + c) (As := (as.map Sum.inl).map (hvv s.heap.size)) (rest := (rr.map Sum.inl).map (hvv s.heap.size)) ⟨hx1, hb, hml, hown, hts⟩ hMt (cwV as.length hts (goodIn_v8 hlink (o8 c4).1 (o8 c4).2 o3 hGd) rfl rfl rfl ⟨rfl, o4, o5, c3⟩ hR') ⟨hBlind, by rw [c5b]; exact hcell, lawPre (as := .inr (some (d, c)) :: as.map Sum.inl) hK hN hAO hP hS hn hs9⟩ rfl (by rw [List.length_map, List.length_map]) hl rfl (lv_room (by rw [hSum, List.length_map]; exact hrr)) hd ⟨by show cells + 0 ≤ 600000; omega, by show slots + 0 ≤ 7302250; omega⟩
