/-! The law, all of it. -/
theorem d_sw : decode code 32 = .ok (.tableswitch 614 0 23 #[112, 135, 148, 161, 194, 217, 240, 263, 276, 299, 312, 335, 358, 381, 404, 417, 440, 463, 506, 519, 532, 545, 568, 591], 112) := by decide +kernel
set_option maxHeartbeats 4000000 in
theorem law_loop {D : va_G} {cs : ClassId × ClassId × ClassId} {p : Program} {l : Launch} {e : Env} {s : State} {m : MethodId} {below : List Frame} {meth : Method} {c0 : Code} {b L : Nat} {xs : Nat → Int32} (hx : lawX D cs p s m #[Value.ref b] c0) (hr : meth.sig.returnType = ret) (hlocks : meth.locks = false) (hX : va_X b L xs s s.heap) (hbl : b < s.heap.size) (hL : L ≤ 2048) : ∀ (n i : Nat) (x3 : Int32) (S : hS) (ls : Array Slot) (H : Heap) (locs : List Loc), L ≤ i + 4 * n → i ≤ L + 4 → x3 = nI i → Rel S → okS S → lv_has ls 4 (lwL b s x3) → va_P D vwCl (hWd s.heap.size cs S) H → va_S (fun q => s.heap.size ≤ q) s.heap H locs → W p l e room_1 s m #[Value.ref b] below meth c0 H locs 72 (hSl hLam) (lw_Z below #[Value.ref b] s) (F0 m 18 ls []) := by
  have hx1 := hx.1.1
  have hb := hx.1.2.1
  have hbA : ¬ (fun q : Nat => s.heap.size ≤ q) b := Nat.not_le.mpr hbl
  have l4 : (4 : Int32).toInt = 4 := rfl
  intro n
  induction n with
  | zero =>
    intro i x3 S ls H locs hn hi e3 hR hok hl hP hSS
    refine lv_iload_n hx1 hb (show decode code 18 = .ok (.iload_n 3, 1) by decide +kernel) rfl (lv_at hl 0 rfl) ?_
    refine lv_aload_n hx1 hb (show decode code 19 = .ok (.aload_n 0, 1) by decide +kernel) rfl (lv_at hl 3 rfl) ?_
    refine va_slen hx1 hb hX hbl hbA hSS (show decode code 20 = .ok (.arraylength, 1) by decide +kernel) ?_
    refine lv_iconst (v := 4) hx1 hb (show decode code 21 = .ok (.iconst 4, 1) by decide +kernel) (by decide) ?_
    refine lv_isub hx1 hb (show decode code 22 = .ok (.isub, 1) by decide +kernel) ?_
    refine lv_icmp_gt (tgt := 652) hx1 hb (show decode code 23 = .ok (.if_icmp .gt 629, 3) by decide +kernel) (by decide) (fun _ => ?_) (fun q => ?_)
    · refine lv_iconst (v := 1) hx1 hb (show decode code 652 = .ok (.iconst 1, 1) by decide +kernel) (by decide) ?_
      refine va_forget (fun q hq => hSS.2.2 q hq) ?_
      refine W.widen (k := 600000) (n := 7302250) (by decide) (by decide +kernel) ?_
      exact lw_ret hx1 hb hr hlocks (show decode code 653 = .ok (.ireturn, 1) by decide +kernel)
    · exfalso
      apply q
      show nI L - 4 < x3
      rw [e3, i_lt, i_sub (by rw [ti (by omega), l4]; omega) (by rw [ti (by omega), l4]; omega), ti (by omega), ti (by omega), l4]
      omega
  | succ n ih =>
    intro i x3 S ls H locs hn hi e3 hR hok hl hP hSS
    refine lv_iload_n hx1 hb (show decode code 18 = .ok (.iload_n 3, 1) by decide +kernel) rfl (lv_at hl 0 rfl) ?_
    refine lv_aload_n hx1 hb (show decode code 19 = .ok (.aload_n 0, 1) by decide +kernel) rfl (lv_at hl 3 rfl) ?_
    refine va_slen hx1 hb hX hbl hbA hSS (show decode code 20 = .ok (.arraylength, 1) by decide +kernel) ?_
    refine lv_iconst (v := 4) hx1 hb (show decode code 21 = .ok (.iconst 4, 1) by decide +kernel) (by decide) ?_
    refine lv_isub hx1 hb (show decode code 22 = .ok (.isub, 1) by decide +kernel) ?_
    refine lv_icmp_gt (tgt := 652) hx1 hb (show decode code 23 = .ok (.if_icmp .gt 629, 3) by decide +kernel) (by decide) (fun _ => ?_) (fun q => ?_)
    · refine lv_iconst (v := 1) hx1 hb (show decode code 652 = .ok (.iconst 1, 1) by decide +kernel) (by decide) ?_
      refine va_forget (fun q hq => hSS.2.2 q hq) ?_
      refine W.widen (k := 600000) (n := 7302250) (by decide) (by decide +kernel) ?_
      exact lw_ret hx1 hb hr hlocks (show decode code 653 = .ok (.ireturn, 1) by decide +kernel)
    · have hi4 : i + 4 ≤ L := by
        have q' : ¬ nI L - 4 < x3 := q
        rw [e3, i_lt, i_sub (by rw [ti (by omega), l4]; omega) (by rw [ti (by omega), l4]; omega), ti (by omega), ti (by omega), l4] at q'
        omega
      have k : ∀ (S2 : hS) (H1 : Heap) (locs1 : List Loc), Rel S2 → okS S2 → va_P D vwCl (hWd s.heap.size cs S2) H1 → va_S (fun q => s.heap.size ≤ q) s.heap H1 locs1 → W p l e room_1 s m #[Value.ref b] below meth c0 H1 locs1 72 (hSl hLam) (lw_Z below #[Value.ref b] s) (F0 m 646 ls []) := by
        intro S2 H1 locs1 r2 o2 p2 s2
        refine lv_iinc (v := x3 + 4) (lv' := lwL b s (x3 + 4)) hx1 hb (show decode code 646 = .ok (.iinc 3 4, 3) by decide +kernel) hl (k := 0) rfl rfl (by decide) rfl (fun ls' hl' => ?_)
        refine lv_goto (tgt := 18) hx1 hb (show decode code 649 = .ok (.goto (-631), 3) by decide +kernel) (by decide) ?_
        exact ih (i + 4) (x3 + 4) S2 ls' H1 locs1 (by omega) (by omega) (by rw [e3]; exact add_lit (x := 4) (b := 4) rfl) r2 o2 hl' p2 s2
      refine lv_aload_n hx1 hb (show decode code 26 = .ok (.aload_n 0, 1) by decide +kernel) rfl (lv_at hl 3 rfl) ?_
      refine lv_iload_n hx1 hb (show decode code 27 = .ok (.iload_n 3, 1) by decide +kernel) rfl (lv_at hl 0 rfl) ?_
      refine va_sld hx1 hb hX hbl hbA hSS (by rw [e3]; exact vp_in_nI (by omega) (by omega)) (show decode code 28 = .ok (.iaload, 1) by decide +kernel) ?_
      refine lv_bipush (v := 31) hx1 hb (show decode code 29 = .ok (.bipush 31, 2) by decide +kernel) (by decide) ?_
      refine lv_iand hx1 hb (show decode code 31 = .ok (.iand, 1) by decide +kernel) ?_
      refine lv_topi (fun v _ => ?_)
      by_cases hv : v.toInt < 0 ∨ 23 < v.toInt
      · exact lv_tableOut (tgt := 646) hx1 hb d_sw hv (by decide) (k S H locs hR hok hP hSS)
      · obtain ⟨w, hw, rfl⟩ := bt_nI (hi := 23) (x := v) ⟨by omega, by omega⟩ (by decide)
        match w, hw with
        | 0, _ => exact lv_tableIn (off := 112) (tgt := 144) hx1 hb d_sw (by decide) (by decide) (by decide) (by decide) (lw_b0 hx hX hbl hL hR hok e3 hi4 hl hP hSS k)
        | 1, _ => exact lv_tableIn (off := 135) (tgt := 167) hx1 hb d_sw (by decide) (by decide) (by decide) (by decide) (lw_b1 hx hX hbl hL hR hok e3 hi4 hl hP hSS k)
        | 2, _ => exact lv_tableIn (off := 148) (tgt := 180) hx1 hb d_sw (by decide) (by decide) (by decide) (by decide) (lw_b2 hx hX hbl hL hR hok e3 hi4 hl hP hSS k)
        | 3, _ => exact lv_tableIn (off := 161) (tgt := 193) hx1 hb d_sw (by decide) (by decide) (by decide) (by decide) (lw_b3 hx hX hbl hL hR hok e3 hi4 hl hP hSS k)
        | 4, _ => exact lv_tableIn (off := 194) (tgt := 226) hx1 hb d_sw (by decide) (by decide) (by decide) (by decide) (lw_b4 hx hX hbl hL hR hok e3 hi4 hl hP hSS k)
        | 5, _ => exact lv_tableIn (off := 217) (tgt := 249) hx1 hb d_sw (by decide) (by decide) (by decide) (by decide) (lw_b5 hx hX hbl hL hR hok e3 hi4 hl hP hSS k)
        | 6, _ => exact lv_tableIn (off := 240) (tgt := 272) hx1 hb d_sw (by decide) (by decide) (by decide) (by decide) (lw_b6 hx hX hbl hL hR hok e3 hi4 hl hP hSS k)
        | 7, _ => exact lv_tableIn (off := 263) (tgt := 295) hx1 hb d_sw (by decide) (by decide) (by decide) (by decide) (lw_b7 hx hX hbl hL hR hok e3 hi4 hl hP hSS k)
        | 8, _ => exact lv_tableIn (off := 276) (tgt := 308) hx1 hb d_sw (by decide) (by decide) (by decide) (by decide) (lw_b8 hx hX hbl hL hR hok e3 hi4 hl hP hSS k)
        | 9, _ => exact lv_tableIn (off := 299) (tgt := 331) hx1 hb d_sw (by decide) (by decide) (by decide) (by decide) (lw_b9 hx hX hbl hL hR hok e3 hi4 hl hP hSS k)
        | 10, _ => exact lv_tableIn (off := 312) (tgt := 344) hx1 hb d_sw (by decide) (by decide) (by decide) (by decide) (lw_b10 hx hX hbl hL hR hok e3 hi4 hl hP hSS k)
        | 11, _ => exact lv_tableIn (off := 335) (tgt := 367) hx1 hb d_sw (by decide) (by decide) (by decide) (by decide) (lw_b11 hx hX hbl hL hR hok e3 hi4 hl hP hSS k)
        | 12, _ => exact lv_tableIn (off := 358) (tgt := 390) hx1 hb d_sw (by decide) (by decide) (by decide) (by decide) (lw_b12 hx hX hbl hL hR hok e3 hi4 hl hP hSS k)
        | 13, _ => exact lv_tableIn (off := 381) (tgt := 413) hx1 hb d_sw (by decide) (by decide) (by decide) (by decide) (lw_b13 hx hX hbl hL hR hok e3 hi4 hl hP hSS k)
        | 14, _ => exact lv_tableIn (off := 404) (tgt := 436) hx1 hb d_sw (by decide) (by decide) (by decide) (by decide) (lw_b14 hx hX hbl hL hR hok e3 hi4 hl hP hSS k)
        | 15, _ => exact lv_tableIn (off := 417) (tgt := 449) hx1 hb d_sw (by decide) (by decide) (by decide) (by decide) (lw_b15 hx hX hbl hL hR hok e3 hi4 hl hP hSS k)
        | 16, _ => exact lv_tableIn (off := 440) (tgt := 472) hx1 hb d_sw (by decide) (by decide) (by decide) (by decide) (lw_b16 hx hX hbl hL hR hok e3 hi4 hl hP hSS k)
        | 17, _ => exact lv_tableIn (off := 463) (tgt := 495) hx1 hb d_sw (by decide) (by decide) (by decide) (by decide) (lw_b17 hx hX hbl hL hR hok e3 hi4 hl hP hSS k)
        | 18, _ => exact lv_tableIn (off := 506) (tgt := 538) hx1 hb d_sw (by decide) (by decide) (by decide) (by decide) (lw_b18 hx hX hbl hL hR hok e3 hi4 hl hP hSS k)
        | 19, _ => exact lv_tableIn (off := 519) (tgt := 551) hx1 hb d_sw (by decide) (by decide) (by decide) (by decide) (lw_b19 hx hX hbl hL hR hok e3 hi4 hl hP hSS k)
        | 20, _ => exact lv_tableIn (off := 532) (tgt := 564) hx1 hb d_sw (by decide) (by decide) (by decide) (by decide) (lw_b20 hx hX hbl hL hR hok e3 hi4 hl hP hSS k)
        | 21, _ => exact lv_tableIn (off := 545) (tgt := 577) hx1 hb d_sw (by decide) (by decide) (by decide) (by decide) (lw_b21 hx hX hbl hL hR hok e3 hi4 hl hP hSS k)
        | 22, _ => exact lv_tableIn (off := 568) (tgt := 600) hx1 hb d_sw (by decide) (by decide) (by decide) (by decide) (lw_b22 hx hX hbl hL hR hok e3 hi4 hl hP hSS k)
        | 23, _ => exact lv_tableIn (off := 591) (tgt := 623) hx1 hb d_sw (by decide) (by decide) (by decide) (by decide) (lw_b23 hx hX hbl hL hR hok e3 hi4 hl hP hSS k)
        | n + 24, h => exact absurd h (by omega)
theorem room_ok : hSl hLam ≤ 7302250 ∧ hLam.length ≤ 600000 := ⟨by decide +kernel, by decide⟩
theorem cl_9 : Cond.classLink R_law 7 (hR 9) ∈ hBase := by decide +kernel
theorem cl_10 : Cond.classLink R_law 10 (hR 10) ∈ hBase := by decide +kernel
set_option maxHeartbeats 4000000 in
set_option maxRecDepth 100000 in
/-- from the entry, for every script of at most 2048 ints, the law comes to its end with true -/
theorem whole_start {p : Program} {e : Env} {s : State} {m : MethodId} {below : List Frame} {meth : Method} {c : Code} (l : Launch) (hflags : l.flags = flags0) {b L : Nat} {xs : Nat → Int32} (hL : L ≤ 2048) (C0 : lw_At p s m meth c b L xs) : W p l e room_1 s m #[Value.ref b] below meth c s.heap [] 0 0 (lw_Z below #[Value.ref b] s) (entryFrame m ([Value.ref b] : List Value).toArray 4) := by
  obtain ⟨hx1, hb, hr, hml, hown, hts, hX, hbl, hlocks, hgv⟩ := id C0
  obtain ⟨htB, D, cs, hK, hN, hAO⟩ := law_ctx hts
  have hx : lawX D cs p s m #[Value.ref b] c := ⟨⟨hx1, hb, hml, hown, htB⟩, hK, hN, hAO⟩
  obtain ⟨S1, S2, E1, len1, E2, lam2, rv2, iv2⟩ := hMade2
  have hl := lv_entry ([.ref b]) (n := 4) (Nat.le_of_ble_eq_true rfl)
  rw [lg_entry_eq]
  generalize (lg_sl ([.ref b]) ++ List.replicate (4 - (lg_sl ([.ref b])).length) Slot.unset).toArray = ls at hl ⊢
  have hl : lv_has ls 4 [(0, .ref b)] := hl
  have hSS : va_S (fun q : Nat => s.heap.size ≤ q) s.heap s.heap [] := va_S.rf
  have hP : va_P D vwCl (hWd s.heap.size cs hE0) s.heap := fun k q h => by cases h
  have ok0 : okS hI0 := fun c j q h => by cases h
  have jI : ∀ (T : hS) (d c : Nat), T.1[c]? = some d → ∀ v ∈ [(.inr (some (d, c)) : hV)], okv T v := by
    intro T d c hc v hv
    rcases List.mem_cons.mp hv with rfl | hv
    · exact hc
    · exact absurd hv List.not_mem_nil
  obtain ⟨ok1, pre1⟩ := (hMetE (l := l) (D := D) (cs := cs) (h0 := 0) lm_X9_init.1 E1 (by decide) (jI hI0 9 0 rfl) ok0).1
  have okN1 : okS (hNew S1 10) := (okF.new (L := []) (st := []) ⟨ok1, (fun k v h => by cases h), fun v h => absurd h List.not_mem_nil⟩ 10).1
  have at57 : (hNew S1 10).1[57]? = some 10 := by rw [← len1]; exact hNew_last S1 10
  obtain ⟨ok2, pre2⟩ := (hMetE (l := l) (D := D) (cs := cs) (h0 := 0) lm_X10_init.1 E2 (by decide) (jI (hNew S1 10) 10 57 at57) okN1).1
  have rel2 : Rel S2 := rel_made lam2 rv2 iv2
  have preN : S1.1 <+: (hNew S1 10).1 := ⟨[10], rfl⟩
  have m1 := hSl_mono pre2
  have m0 := hSl_mono preN
  rw [lam2] at m1
  have rm := room_ok
  have lenN : (hNew S1 10).1.length = 58 := by show (S1.1 ++ [10]).length = 58; rw [List.length_append, len1]; rfl
  have slN : hSl (hNew S1 10).1 = hSl S1.1 + 26 := by show hSl (S1.1 ++ [10]) = _; rw [hSl_push]; rfl
  have len2 : S2.1.length = 72 := by rw [lam2]; rfl
  refine lawNew (a := 9) (S := hE0) hx (by decide) cl_9 hP hSS rfl rfl ⟨by decide, by decide⟩ (show decode code 0 = .ok (.new 7, 3) by decide +kernel) (fun H1 locs1 hP1 hS1 => ?_)
  rw [hE0_new] at hP1
  refine lv_dup hx1 hb (show decode code 3 = .ok (.dup, 1) by decide +kernel) rfl ?_
  refine lawI (c := 0) (mc := 56) (ms := hSl S1.1 - 10) (r := [.inr (some (9, 0))]) hx lm_X9_init rfl ok0 E1 (by rw [len1]; rfl) (by have h10 : hSl hI0.1 = 10 := rfl; have := hSl_mono pre1; omega) (by decide) hl.1 hP1 hS1 rfl rfl ⟨by rw [len1]; decide, by omega⟩ (show decode code 4 = .ok (.invokespecial 9, 3) by decide +kernel) (fun H2 locs2 hP2 hS2 => ?_)
  have c2 : 0 + 1 + 56 = S1.1.length := by rw [len1]
  have z2 : 0 + hNf.getD 9 0 + (hSl S1.1 - 10) = hSl S1.1 := by
    have h10 : hSl hI0.1 = 10 := rfl
    have h10' : hNf.getD 9 0 = 10 := rfl
    have := hSl_mono pre1
    omega
  rw [c2, z2]
  refine lv_astore_n (x := s.heap.size + 0) (lv' := [(1, .ref (s.heap.size + 0)), (0, .ref b)]) hx1 hb (show decode code 7 = .ok (.astore_n 1, 1) by decide +kernel) rfl hl (by decide) rfl (fun ls hl => ?_)
  refine lawNew (a := 10) (S := S1) hx (by decide) cl_10 hP2 hS2 rfl rfl ⟨by omega, by show hSl S1.1 + 26 ≤ 7302250; omega⟩ (show decode code 8 = .ok (.new 10, 3) by decide +kernel) (fun H3 locs3 hP3 hS3 => ?_)
  rw [len1]
  refine lv_dup hx1 hb (show decode code 11 = .ok (.dup, 1) by decide +kernel) rfl ?_
  refine lawI (c := 57) (mc := 14) (ms := hSl hLam - hSl (hNew S1 10).1) (r := [.inr (some (10, 57))]) hx lm_X10_init at57 okN1 E2 (by rw [lenN, len2]) (by rw [lam2]; omega) (by decide) hl.1 hP3 hS3 (by rw [lenN]) (by rw [slN]; rfl) ⟨by rw [len2]; decide, by rw [lam2]; omega⟩ (show decode code 12 = .ok (.invokespecial 12, 3) by decide +kernel) (fun H4 locs4 hP4 hS4 => ?_)
  have c4 : 57 + 1 + 14 = 72 := rfl
  have z4 : hSl S1.1 + hNf.getD 10 0 + (hSl hLam - hSl (hNew S1 10).1) = hSl hLam := by
    have h26 : hNf.getD 10 0 = 26 := rfl
    omega
  rw [c4, z4]
  refine lv_astore_n (x := s.heap.size + 57) (lv' := [(2, .ref (s.heap.size + 57)), (1, .ref (s.heap.size + 0)), (0, .ref b)]) hx1 hb (show decode code 15 = .ok (.astore_n 2, 1) by decide +kernel) rfl hl (by decide) rfl (fun ls hl => ?_)
  refine lv_iconst (v := 0) hx1 hb (show decode code 16 = .ok (.iconst 0, 1) by decide +kernel) (by decide) ?_
  refine lv_istore_n (lv' := lwL b s 0) hx1 hb (show decode code 17 = .ok (.istore_n 3, 1) by decide +kernel) rfl hl (by decide) rfl (fun ls hl => ?_)
  exact law_loop hx hr hlocks hX hbl hL L 0 0 S2 ls H4 locs4 (by omega) (by omega) rfl rel2 ok2 hl hP4 hS4
