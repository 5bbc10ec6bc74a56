/-! The law, case by case. -/
set_option maxHeartbeats 4000000 in
theorem lw_b12 {D : va_G} {cs : ClassId × ClassId × ClassId} {p : Program} {l : Launch} {e : Env} {s : State} {m : MethodId} {below : List Frame} {meth : Method} {c0 : Code} {Q : State → Prop} {b L : Nat} {xs : Nat → Int32} (hx : lawX D cs p s m #[Value.ref b] c0) (hX : va_X b L xs s s.heap) (hbl : b < s.heap.size) (hL : L ≤ 2048) {S : hS} (hR : Rel S) (hok : okS S) {x3 : Int32} {i : Nat} (e3 : x3 = nI i) (hi : i + 4 ≤ L) {ls : Array Slot} {H : Heap} {locs : List Loc} (hl : lv_has ls 4 (lwL b s x3)) (hP : va_P D vwCl (hWd s.heap.size cs S) H) (hSS : va_S (fun q => s.heap.size ≤ q) s.heap H locs) (k : ∀ (S2 : hS) (H1 : Heap) (locs1 : List Loc), Rel S2 → okS S2 → va_P D vwCl (hWd s.heap.size cs S2) H1 → va_S (fun q => s.heap.size ≤ q) s.heap H1 locs1 → W p l e room_1 s m #[Value.ref b] below meth c0 H1 locs1 72 (hSl hLam) Q (F0 m 646 ls [])) : W p l e room_1 s m #[Value.ref b] below meth c0 H locs 72 (hSl hLam) Q (F0 m 390 ls []) := by
  obtain ⟨r, S1, S2, E1, E2, R2⟩ := a_record hR (xs (x3 + 1).toNatClampNeg)
  obtain ⟨g1, g2, g3⟩ := law_mid (as := [(xs (x3 + 1).toNatClampNeg)]) lm_X9_record lm_X10_record hok hR.1.1 R2.1.1 E1 E2
  have hx1 := hx.1.1
  have hb := hx.1.2.1
  have hbA : ¬ (fun q : Nat => s.heap.size ≤ q) b := Nat.not_le.mpr hbl
  have n1 : vp_in (x3 + 1) L := by rw [e3, show nI i + 1 = nI (i + 1) from add_lit (x := 1) (b := 1) rfl]; exact vp_in_nI (by omega) (by omega)
  refine lv_aload_n hx1 hb (show decode code 390 = .ok (.aload_n 1, 1) by decide +kernel) rfl (lv_at hl 2 rfl) ?_
  refine lv_aload_n hx1 hb (show decode code 391 = .ok (.aload_n 0, 1) by decide +kernel) rfl (lv_at hl 3 rfl) ?_
  refine lv_iload_n hx1 hb (show decode code 392 = .ok (.iload_n 3, 1) by decide +kernel) rfl (lv_at hl 0 rfl) ?_
  refine lv_iconst (v := 1) hx1 hb (show decode code 393 = .ok (.iconst 1, 1) by decide +kernel) (by decide) ?_
  refine lv_iadd hx1 hb (show decode code 394 = .ok (.iadd, 1) by decide +kernel) ?_
  refine va_sld hx1 hb hX hbl hbA hSS n1 (show decode code 395 = .ok (.iaload, 1) by decide +kernel) ?_
  refine lawV (y := 113) (c := 0) (as := [(xs (x3 + 1).toNatClampNeg)]) (rr := []) hx lm_X9_record (by rw [hR.1.1]; rfl) hok E1 (g1.trans hR.1.1.symm) (by decide) hl.1 hP hSS (by rw [hR.1.1]; rfl) (by rw [hR.1.1]) (by rw [hR.1.1]; exact ⟨by decide, by decide +kernel⟩) (show decode code 396 = .ok (.invokevirtual 64, 3) by decide +kernel) (fun H1 locs1 hP1 hS1 => ?_)
  show W p l e room_1 s m #[Value.ref b] below meth c0 H1 locs1 72 (hSl hLam) Q (F0 m 399 ls [.int r])
  refine lv_aload_n hx1 hb (show decode code 399 = .ok (.aload_n 2, 1) by decide +kernel) rfl (lv_at hl 1 rfl) ?_
  refine lv_aload_n hx1 hb (show decode code 400 = .ok (.aload_n 0, 1) by decide +kernel) rfl (lv_at hl 3 rfl) ?_
  refine lv_iload_n hx1 hb (show decode code 401 = .ok (.iload_n 3, 1) by decide +kernel) rfl (lv_at hl 0 rfl) ?_
  refine lv_iconst (v := 1) hx1 hb (show decode code 402 = .ok (.iconst 1, 1) by decide +kernel) (by decide) ?_
  refine lv_iadd hx1 hb (show decode code 403 = .ok (.iadd, 1) by decide +kernel) ?_
  refine va_sld hx1 hb hX hbl hbA hS1 n1 (show decode code 404 = .ok (.iaload, 1) by decide +kernel) ?_
  refine lawV (y := 18) (c := 57) (as := [(xs (x3 + 1).toNatClampNeg)]) (rr := [r]) hx lm_X10_record (by rw [g1]; rfl) g2 E2 (R2.1.1.trans g1.symm) (show 1 ≤ 8 by decide) hl.1 hP1 hS1 (by rw [g1]; rfl) (by rw [g1]) (by rw [g1]; exact ⟨by decide, by decide +kernel⟩) (show decode code 405 = .ok (.invokevirtual 67, 3) by decide +kernel) (fun H2 locs2 hP2 hS2 => ?_)
  show W p l e room_1 s m #[Value.ref b] below meth c0 H2 locs2 72 (hSl hLam) Q (F0 m 408 ls [.int r, .int r])
  exact lv_icmp_eq (tgt := 646) hx1 hb (show decode code 408 = .ok (.if_icmp .eq 238, 3) by decide +kernel) (by decide) (fun _ => k S2 H2 locs2 R2 g3 hP2 hS2) (fun q => absurd rfl q)
set_option maxHeartbeats 4000000 in
theorem lw_b13 {D : va_G} {cs : ClassId × ClassId × ClassId} {p : Program} {l : Launch} {e : Env} {s : State} {m : MethodId} {below : List Frame} {meth : Method} {c0 : Code} {Q : State → Prop} {b L : Nat} {xs : Nat → Int32} (hx : lawX D cs p s m #[Value.ref b] c0) (hX : va_X b L xs s s.heap) (hbl : b < s.heap.size) (hL : L ≤ 2048) {S : hS} (hR : Rel S) (hok : okS S) {x3 : Int32} {i : Nat} (e3 : x3 = nI i) (hi : i + 4 ≤ L) {ls : Array Slot} {H : Heap} {locs : List Loc} (hl : lv_has ls 4 (lwL b s x3)) (hP : va_P D vwCl (hWd s.heap.size cs S) H) (hSS : va_S (fun q => s.heap.size ≤ q) s.heap H locs) (k : ∀ (S2 : hS) (H1 : Heap) (locs1 : List Loc), Rel S2 → okS S2 → va_P D vwCl (hWd s.heap.size cs S2) H1 → va_S (fun q => s.heap.size ≤ q) s.heap H1 locs1 → W p l e room_1 s m #[Value.ref b] below meth c0 H1 locs1 72 (hSl hLam) Q (F0 m 646 ls [])) : W p l e room_1 s m #[Value.ref b] below meth c0 H locs 72 (hSl hLam) Q (F0 m 413 ls []) := by
  obtain ⟨r, S1, S2, E1, E2, R2⟩ := a_gust hR (xs (x3 + 1).toNatClampNeg)
  obtain ⟨g1, g2, g3⟩ := law_mid (as := [(xs (x3 + 1).toNatClampNeg)]) lm_X9_gust lm_X10_gust hok hR.1.1 R2.1.1 E1 E2
  have hx1 := hx.1.1
  have hb := hx.1.2.1
  have hbA : ¬ (fun q : Nat => s.heap.size ≤ q) b := Nat.not_le.mpr hbl
  have n1 : vp_in (x3 + 1) L := by rw [e3, show nI i + 1 = nI (i + 1) from add_lit (x := 1) (b := 1) rfl]; exact vp_in_nI (by omega) (by omega)
  refine lv_aload_n hx1 hb (show decode code 413 = .ok (.aload_n 1, 1) by decide +kernel) rfl (lv_at hl 2 rfl) ?_
  refine lv_aload_n hx1 hb (show decode code 414 = .ok (.aload_n 0, 1) by decide +kernel) rfl (lv_at hl 3 rfl) ?_
  refine lv_iload_n hx1 hb (show decode code 415 = .ok (.iload_n 3, 1) by decide +kernel) rfl (lv_at hl 0 rfl) ?_
  refine lv_iconst (v := 1) hx1 hb (show decode code 416 = .ok (.iconst 1, 1) by decide +kernel) (by decide) ?_
  refine lv_iadd hx1 hb (show decode code 417 = .ok (.iadd, 1) by decide +kernel) ?_
  refine va_sld hx1 hb hX hbl hbA hSS n1 (show decode code 418 = .ok (.iaload, 1) by decide +kernel) ?_
  refine lawV (y := 139) (c := 0) (as := [(xs (x3 + 1).toNatClampNeg)]) (rr := []) hx lm_X9_gust (by rw [hR.1.1]; rfl) hok E1 (g1.trans hR.1.1.symm) (by decide) hl.1 hP hSS (by rw [hR.1.1]; rfl) (by rw [hR.1.1]) (by rw [hR.1.1]; exact ⟨by decide, by decide +kernel⟩) (show decode code 419 = .ok (.invokevirtual 68, 3) by decide +kernel) (fun H1 locs1 hP1 hS1 => ?_)
  show W p l e room_1 s m #[Value.ref b] below meth c0 H1 locs1 72 (hSl hLam) Q (F0 m 422 ls [.int r])
  refine lv_aload_n hx1 hb (show decode code 422 = .ok (.aload_n 2, 1) by decide +kernel) rfl (lv_at hl 1 rfl) ?_
  refine lv_aload_n hx1 hb (show decode code 423 = .ok (.aload_n 0, 1) by decide +kernel) rfl (lv_at hl 3 rfl) ?_
  refine lv_iload_n hx1 hb (show decode code 424 = .ok (.iload_n 3, 1) by decide +kernel) rfl (lv_at hl 0 rfl) ?_
  refine lv_iconst (v := 1) hx1 hb (show decode code 425 = .ok (.iconst 1, 1) by decide +kernel) (by decide) ?_
  refine lv_iadd hx1 hb (show decode code 426 = .ok (.iadd, 1) by decide +kernel) ?_
  refine va_sld hx1 hb hX hbl hbA hS1 n1 (show decode code 427 = .ok (.iaload, 1) by decide +kernel) ?_
  refine lawV (y := 157) (c := 57) (as := [(xs (x3 + 1).toNatClampNeg)]) (rr := [r]) hx lm_X10_gust (by rw [g1]; rfl) g2 E2 (R2.1.1.trans g1.symm) (show 1 ≤ 8 by decide) hl.1 hP1 hS1 (by rw [g1]; rfl) (by rw [g1]) (by rw [g1]; exact ⟨by decide, by decide +kernel⟩) (show decode code 428 = .ok (.invokevirtual 71, 3) by decide +kernel) (fun H2 locs2 hP2 hS2 => ?_)
  show W p l e room_1 s m #[Value.ref b] below meth c0 H2 locs2 72 (hSl hLam) Q (F0 m 431 ls [.int r, .int r])
  exact lv_icmp_eq (tgt := 646) hx1 hb (show decode code 431 = .ok (.if_icmp .eq 215, 3) by decide +kernel) (by decide) (fun _ => k S2 H2 locs2 R2 g3 hP2 hS2) (fun q => absurd rfl q)
set_option maxHeartbeats 4000000 in
theorem lw_b14 {D : va_G} {cs : ClassId × ClassId × ClassId} {p : Program} {l : Launch} {e : Env} {s : State} {m : MethodId} {below : List Frame} {meth : Method} {c0 : Code} {Q : State → Prop} {b L : Nat} {xs : Nat → Int32} (hx : lawX D cs p s m #[Value.ref b] c0) (hX : va_X b L xs s s.heap) (hbl : b < s.heap.size) (hL : L ≤ 2048) {S : hS} (hR : Rel S) (hok : okS S) {x3 : Int32} {i : Nat} (e3 : x3 = nI i) (hi : i + 4 ≤ L) {ls : Array Slot} {H : Heap} {locs : List Loc} (hl : lv_has ls 4 (lwL b s x3)) (hP : va_P D vwCl (hWd s.heap.size cs S) H) (hSS : va_S (fun q => s.heap.size ≤ q) s.heap H locs) (k : ∀ (S2 : hS) (H1 : Heap) (locs1 : List Loc), Rel S2 → okS S2 → va_P D vwCl (hWd s.heap.size cs S2) H1 → va_S (fun q => s.heap.size ≤ q) s.heap H1 locs1 → W p l e room_1 s m #[Value.ref b] below meth c0 H1 locs1 72 (hSl hLam) Q (F0 m 646 ls [])) : W p l e room_1 s m #[Value.ref b] below meth c0 H locs 72 (hSl hLam) Q (F0 m 436 ls []) := by
  obtain ⟨r, S1, S2, E1, E2, R2⟩ := a_dip hR 
  obtain ⟨g1, g2, g3⟩ := law_mid (as := []) lm_X9_dip lm_X10_dip hok hR.1.1 R2.1.1 E1 E2
  have hx1 := hx.1.1
  have hb := hx.1.2.1
  have hbA : ¬ (fun q : Nat => s.heap.size ≤ q) b := Nat.not_le.mpr hbl
  refine lv_aload_n hx1 hb (show decode code 436 = .ok (.aload_n 1, 1) by decide +kernel) rfl (lv_at hl 2 rfl) ?_
  refine lawV (y := 137) (c := 0) (as := []) (rr := []) hx lm_X9_dip (by rw [hR.1.1]; rfl) hok E1 (g1.trans hR.1.1.symm) (by decide) hl.1 hP hSS (by rw [hR.1.1]; rfl) (by rw [hR.1.1]) (by rw [hR.1.1]; exact ⟨by decide, by decide +kernel⟩) (show decode code 437 = .ok (.invokevirtual 72, 3) by decide +kernel) (fun H1 locs1 hP1 hS1 => ?_)
  show W p l e room_1 s m #[Value.ref b] below meth c0 H1 locs1 72 (hSl hLam) Q (F0 m 440 ls [.int r])
  refine lv_aload_n hx1 hb (show decode code 440 = .ok (.aload_n 2, 1) by decide +kernel) rfl (lv_at hl 1 rfl) ?_
  refine lawV (y := 156) (c := 57) (as := []) (rr := [r]) hx lm_X10_dip (by rw [g1]; rfl) g2 E2 (R2.1.1.trans g1.symm) (show 1 ≤ 8 by decide) hl.1 hP1 hS1 (by rw [g1]; rfl) (by rw [g1]) (by rw [g1]; exact ⟨by decide, by decide +kernel⟩) (show decode code 441 = .ok (.invokevirtual 75, 3) by decide +kernel) (fun H2 locs2 hP2 hS2 => ?_)
  show W p l e room_1 s m #[Value.ref b] below meth c0 H2 locs2 72 (hSl hLam) Q (F0 m 444 ls [.int r, .int r])
  exact lv_icmp_eq (tgt := 646) hx1 hb (show decode code 444 = .ok (.if_icmp .eq 202, 3) by decide +kernel) (by decide) (fun _ => k S2 H2 locs2 R2 g3 hP2 hS2) (fun q => absurd rfl q)
set_option maxHeartbeats 4000000 in
theorem lw_b15 {D : va_G} {cs : ClassId × ClassId × ClassId} {p : Program} {l : Launch} {e : Env} {s : State} {m : MethodId} {below : List Frame} {meth : Method} {c0 : Code} {Q : State → Prop} {b L : Nat} {xs : Nat → Int32} (hx : lawX D cs p s m #[Value.ref b] c0) (hX : va_X b L xs s s.heap) (hbl : b < s.heap.size) (hL : L ≤ 2048) {S : hS} (hR : Rel S) (hok : okS S) {x3 : Int32} {i : Nat} (e3 : x3 = nI i) (hi : i + 4 ≤ L) {ls : Array Slot} {H : Heap} {locs : List Loc} (hl : lv_has ls 4 (lwL b s x3)) (hP : va_P D vwCl (hWd s.heap.size cs S) H) (hSS : va_S (fun q => s.heap.size ≤ q) s.heap H locs) (k : ∀ (S2 : hS) (H1 : Heap) (locs1 : List Loc), Rel S2 → okS S2 → va_P D vwCl (hWd s.heap.size cs S2) H1 → va_S (fun q => s.heap.size ≤ q) s.heap H1 locs1 → W p l e room_1 s m #[Value.ref b] below meth c0 H1 locs1 72 (hSl hLam) Q (F0 m 646 ls [])) : W p l e room_1 s m #[Value.ref b] below meth c0 H locs 72 (hSl hLam) Q (F0 m 449 ls []) := by
  obtain ⟨r, S1, S2, E1, E2, R2⟩ := a_halves hR (xs (x3 + 1).toNatClampNeg)
  obtain ⟨g1, g2, g3⟩ := law_mid (as := [(xs (x3 + 1).toNatClampNeg)]) lm_X9_halves lm_X10_halves hok hR.1.1 R2.1.1 E1 E2
  have hx1 := hx.1.1
  have hb := hx.1.2.1
  have hbA : ¬ (fun q : Nat => s.heap.size ≤ q) b := Nat.not_le.mpr hbl
  have n1 : vp_in (x3 + 1) L := by rw [e3, show nI i + 1 = nI (i + 1) from add_lit (x := 1) (b := 1) rfl]; exact vp_in_nI (by omega) (by omega)
  refine lv_aload_n hx1 hb (show decode code 449 = .ok (.aload_n 1, 1) by decide +kernel) rfl (lv_at hl 2 rfl) ?_
  refine lv_aload_n hx1 hb (show decode code 450 = .ok (.aload_n 0, 1) by decide +kernel) rfl (lv_at hl 3 rfl) ?_
  refine lv_iload_n hx1 hb (show decode code 451 = .ok (.iload_n 3, 1) by decide +kernel) rfl (lv_at hl 0 rfl) ?_
  refine lv_iconst (v := 1) hx1 hb (show decode code 452 = .ok (.iconst 1, 1) by decide +kernel) (by decide) ?_
  refine lv_iadd hx1 hb (show decode code 453 = .ok (.iadd, 1) by decide +kernel) ?_
  refine va_sld hx1 hb hX hbl hbA hSS n1 (show decode code 454 = .ok (.iaload, 1) by decide +kernel) ?_
  refine lawV (y := 140) (c := 0) (as := [(xs (x3 + 1).toNatClampNeg)]) (rr := []) hx lm_X9_halves (by rw [hR.1.1]; rfl) hok E1 (g1.trans hR.1.1.symm) (by decide) hl.1 hP hSS (by rw [hR.1.1]; rfl) (by rw [hR.1.1]) (by rw [hR.1.1]; exact ⟨by decide, by decide +kernel⟩) (show decode code 455 = .ok (.invokevirtual 76, 3) by decide +kernel) (fun H1 locs1 hP1 hS1 => ?_)
  show W p l e room_1 s m #[Value.ref b] below meth c0 H1 locs1 72 (hSl hLam) Q (F0 m 458 ls [.int r])
  refine lv_aload_n hx1 hb (show decode code 458 = .ok (.aload_n 2, 1) by decide +kernel) rfl (lv_at hl 1 rfl) ?_
  refine lv_aload_n hx1 hb (show decode code 459 = .ok (.aload_n 0, 1) by decide +kernel) rfl (lv_at hl 3 rfl) ?_
  refine lv_iload_n hx1 hb (show decode code 460 = .ok (.iload_n 3, 1) by decide +kernel) rfl (lv_at hl 0 rfl) ?_
  refine lv_iconst (v := 1) hx1 hb (show decode code 461 = .ok (.iconst 1, 1) by decide +kernel) (by decide) ?_
  refine lv_iadd hx1 hb (show decode code 462 = .ok (.iadd, 1) by decide +kernel) ?_
  refine va_sld hx1 hb hX hbl hbA hS1 n1 (show decode code 463 = .ok (.iaload, 1) by decide +kernel) ?_
  refine lawV (y := 132) (c := 57) (as := [(xs (x3 + 1).toNatClampNeg)]) (rr := [r]) hx lm_X10_halves (by rw [g1]; rfl) g2 E2 (R2.1.1.trans g1.symm) (show 1 ≤ 8 by decide) hl.1 hP1 hS1 (by rw [g1]; rfl) (by rw [g1]) (by rw [g1]; exact ⟨by decide, by decide +kernel⟩) (show decode code 464 = .ok (.invokevirtual 79, 3) by decide +kernel) (fun H2 locs2 hP2 hS2 => ?_)
  show W p l e room_1 s m #[Value.ref b] below meth c0 H2 locs2 72 (hSl hLam) Q (F0 m 467 ls [.int r, .int r])
  exact lv_icmp_eq (tgt := 646) hx1 hb (show decode code 467 = .ok (.if_icmp .eq 179, 3) by decide +kernel) (by decide) (fun _ => k S2 H2 locs2 R2 g3 hP2 hS2) (fun q => absurd rfl q)
set_option maxHeartbeats 4000000 in
theorem lw_b16 {D : va_G} {cs : ClassId × ClassId × ClassId} {p : Program} {l : Launch} {e : Env} {s : State} {m : MethodId} {below : List Frame} {meth : Method} {c0 : Code} {Q : State → Prop} {b L : Nat} {xs : Nat → Int32} (hx : lawX D cs p s m #[Value.ref b] c0) (hX : va_X b L xs s s.heap) (hbl : b < s.heap.size) (hL : L ≤ 2048) {S : hS} (hR : Rel S) (hok : okS S) {x3 : Int32} {i : Nat} (e3 : x3 = nI i) (hi : i + 4 ≤ L) {ls : Array Slot} {H : Heap} {locs : List Loc} (hl : lv_has ls 4 (lwL b s x3)) (hP : va_P D vwCl (hWd s.heap.size cs S) H) (hSS : va_S (fun q => s.heap.size ≤ q) s.heap H locs) (k : ∀ (S2 : hS) (H1 : Heap) (locs1 : List Loc), Rel S2 → okS S2 → va_P D vwCl (hWd s.heap.size cs S2) H1 → va_S (fun q => s.heap.size ≤ q) s.heap H1 locs1 → W p l e room_1 s m #[Value.ref b] below meth c0 H1 locs1 72 (hSl hLam) Q (F0 m 646 ls [])) : W p l e room_1 s m #[Value.ref b] below meth c0 H locs 72 (hSl hLam) Q (F0 m 472 ls []) := by
  obtain ⟨r, S1, S2, E1, E2, R2⟩ := a_rain hR (xs (x3 + 1).toNatClampNeg)
  obtain ⟨g1, g2, g3⟩ := law_mid (as := [(xs (x3 + 1).toNatClampNeg)]) lm_X9_rain lm_X10_rain hok hR.1.1 R2.1.1 E1 E2
  have hx1 := hx.1.1
  have hb := hx.1.2.1
  have hbA : ¬ (fun q : Nat => s.heap.size ≤ q) b := Nat.not_le.mpr hbl
  have n1 : vp_in (x3 + 1) L := by rw [e3, show nI i + 1 = nI (i + 1) from add_lit (x := 1) (b := 1) rfl]; exact vp_in_nI (by omega) (by omega)
  refine lv_aload_n hx1 hb (show decode code 472 = .ok (.aload_n 1, 1) by decide +kernel) rfl (lv_at hl 2 rfl) ?_
  refine lv_aload_n hx1 hb (show decode code 473 = .ok (.aload_n 0, 1) by decide +kernel) rfl (lv_at hl 3 rfl) ?_
  refine lv_iload_n hx1 hb (show decode code 474 = .ok (.iload_n 3, 1) by decide +kernel) rfl (lv_at hl 0 rfl) ?_
  refine lv_iconst (v := 1) hx1 hb (show decode code 475 = .ok (.iconst 1, 1) by decide +kernel) (by decide) ?_
  refine lv_iadd hx1 hb (show decode code 476 = .ok (.iadd, 1) by decide +kernel) ?_
  refine va_sld hx1 hb hX hbl hbA hSS n1 (show decode code 477 = .ok (.iaload, 1) by decide +kernel) ?_
  refine lawV (y := 144) (c := 0) (as := [(xs (x3 + 1).toNatClampNeg)]) (rr := []) hx lm_X9_rain (by rw [hR.1.1]; rfl) hok E1 (g1.trans hR.1.1.symm) (by decide) hl.1 hP hSS (by rw [hR.1.1]; rfl) (by rw [hR.1.1]) (by rw [hR.1.1]; exact ⟨by decide, by decide +kernel⟩) (show decode code 478 = .ok (.invokevirtual 80, 3) by decide +kernel) (fun H1 locs1 hP1 hS1 => ?_)
  show W p l e room_1 s m #[Value.ref b] below meth c0 H1 locs1 72 (hSl hLam) Q (F0 m 481 ls [.int r])
  refine lv_aload_n hx1 hb (show decode code 481 = .ok (.aload_n 2, 1) by decide +kernel) rfl (lv_at hl 1 rfl) ?_
  refine lv_aload_n hx1 hb (show decode code 482 = .ok (.aload_n 0, 1) by decide +kernel) rfl (lv_at hl 3 rfl) ?_
  refine lv_iload_n hx1 hb (show decode code 483 = .ok (.iload_n 3, 1) by decide +kernel) rfl (lv_at hl 0 rfl) ?_
  refine lv_iconst (v := 1) hx1 hb (show decode code 484 = .ok (.iconst 1, 1) by decide +kernel) (by decide) ?_
  refine lv_iadd hx1 hb (show decode code 485 = .ok (.iadd, 1) by decide +kernel) ?_
  refine va_sld hx1 hb hX hbl hbA hS1 n1 (show decode code 486 = .ok (.iaload, 1) by decide +kernel) ?_
  refine lawV (y := 119) (c := 57) (as := [(xs (x3 + 1).toNatClampNeg)]) (rr := [r]) hx lm_X10_rain (by rw [g1]; rfl) g2 E2 (R2.1.1.trans g1.symm) (show 1 ≤ 8 by decide) hl.1 hP1 hS1 (by rw [g1]; rfl) (by rw [g1]) (by rw [g1]; exact ⟨by decide, by decide +kernel⟩) (show decode code 487 = .ok (.invokevirtual 83, 3) by decide +kernel) (fun H2 locs2 hP2 hS2 => ?_)
  show W p l e room_1 s m #[Value.ref b] below meth c0 H2 locs2 72 (hSl hLam) Q (F0 m 490 ls [.int r, .int r])
  exact lv_icmp_eq (tgt := 646) hx1 hb (show decode code 490 = .ok (.if_icmp .eq 156, 3) by decide +kernel) (by decide) (fun _ => k S2 H2 locs2 R2 g3 hP2 hS2) (fun q => absurd rfl q)
set_option maxHeartbeats 4000000 in
theorem lw_b17 {D : va_G} {cs : ClassId × ClassId × ClassId} {p : Program} {l : Launch} {e : Env} {s : State} {m : MethodId} {below : List Frame} {meth : Method} {c0 : Code} {Q : State → Prop} {b L : Nat} {xs : Nat → Int32} (hx : lawX D cs p s m #[Value.ref b] c0) (hX : va_X b L xs s s.heap) (hbl : b < s.heap.size) (hL : L ≤ 2048) {S : hS} (hR : Rel S) (hok : okS S) {x3 : Int32} {i : Nat} (e3 : x3 = nI i) (hi : i + 4 ≤ L) {ls : Array Slot} {H : Heap} {locs : List Loc} (hl : lv_has ls 4 (lwL b s x3)) (hP : va_P D vwCl (hWd s.heap.size cs S) H) (hSS : va_S (fun q => s.heap.size ≤ q) s.heap H locs) (k : ∀ (S2 : hS) (H1 : Heap) (locs1 : List Loc), Rel S2 → okS S2 → va_P D vwCl (hWd s.heap.size cs S2) H1 → va_S (fun q => s.heap.size ≤ q) s.heap H1 locs1 → W p l e room_1 s m #[Value.ref b] below meth c0 H1 locs1 72 (hSl hLam) Q (F0 m 646 ls [])) : W p l e room_1 s m #[Value.ref b] below meth c0 H locs 72 (hSl hLam) Q (F0 m 495 ls []) := by
  obtain ⟨r, S1, S2, E1, E2, R2⟩ := a_sees hR (xs (x3 + 1).toNatClampNeg) (xs (x3 + 2).toNatClampNeg) (xs (x3 + 3).toNatClampNeg)
  obtain ⟨g1, g2, g3⟩ := law_mid (as := [(xs (x3 + 1).toNatClampNeg), (xs (x3 + 2).toNatClampNeg), (xs (x3 + 3).toNatClampNeg)]) lm_X9_sees lm_X10_sees hok hR.1.1 R2.1.1 E1 E2
  have hx1 := hx.1.1
  have hb := hx.1.2.1
  have hbA : ¬ (fun q : Nat => s.heap.size ≤ q) b := Nat.not_le.mpr hbl
  have n1 : vp_in (x3 + 1) L := by rw [e3, show nI i + 1 = nI (i + 1) from add_lit (x := 1) (b := 1) rfl]; exact vp_in_nI (by omega) (by omega)
  have n2 : vp_in (x3 + 2) L := by rw [e3, show nI i + 2 = nI (i + 2) from add_lit (x := 2) (b := 2) rfl]; exact vp_in_nI (by omega) (by omega)
  have n3 : vp_in (x3 + 3) L := by rw [e3, show nI i + 3 = nI (i + 3) from add_lit (x := 3) (b := 3) rfl]; exact vp_in_nI (by omega) (by omega)
  refine lv_aload_n hx1 hb (show decode code 495 = .ok (.aload_n 1, 1) by decide +kernel) rfl (lv_at hl 2 rfl) ?_
  refine lv_aload_n hx1 hb (show decode code 496 = .ok (.aload_n 0, 1) by decide +kernel) rfl (lv_at hl 3 rfl) ?_
  refine lv_iload_n hx1 hb (show decode code 497 = .ok (.iload_n 3, 1) by decide +kernel) rfl (lv_at hl 0 rfl) ?_
  refine lv_iconst (v := 1) hx1 hb (show decode code 498 = .ok (.iconst 1, 1) by decide +kernel) (by decide) ?_
  refine lv_iadd hx1 hb (show decode code 499 = .ok (.iadd, 1) by decide +kernel) ?_
  refine va_sld hx1 hb hX hbl hbA hSS n1 (show decode code 500 = .ok (.iaload, 1) by decide +kernel) ?_
  refine lv_aload_n hx1 hb (show decode code 501 = .ok (.aload_n 0, 1) by decide +kernel) rfl (lv_at hl 3 rfl) ?_
  refine lv_iload_n hx1 hb (show decode code 502 = .ok (.iload_n 3, 1) by decide +kernel) rfl (lv_at hl 0 rfl) ?_
  refine lv_iconst (v := 2) hx1 hb (show decode code 503 = .ok (.iconst 2, 1) by decide +kernel) (by decide) ?_
  refine lv_iadd hx1 hb (show decode code 504 = .ok (.iadd, 1) by decide +kernel) ?_
  refine va_sld hx1 hb hX hbl hbA hSS n2 (show decode code 505 = .ok (.iaload, 1) by decide +kernel) ?_
  refine lv_aload_n hx1 hb (show decode code 506 = .ok (.aload_n 0, 1) by decide +kernel) rfl (lv_at hl 3 rfl) ?_
  refine lv_iload_n hx1 hb (show decode code 507 = .ok (.iload_n 3, 1) by decide +kernel) rfl (lv_at hl 0 rfl) ?_
  refine lv_iconst (v := 3) hx1 hb (show decode code 508 = .ok (.iconst 3, 1) by decide +kernel) (by decide) ?_
  refine lv_iadd hx1 hb (show decode code 509 = .ok (.iadd, 1) by decide +kernel) ?_
  refine va_sld hx1 hb hX hbl hbA hSS n3 (show decode code 510 = .ok (.iaload, 1) by decide +kernel) ?_
  refine lawV (y := 94) (c := 0) (as := [(xs (x3 + 1).toNatClampNeg), (xs (x3 + 2).toNatClampNeg), (xs (x3 + 3).toNatClampNeg)]) (rr := []) hx lm_X9_sees (by rw [hR.1.1]; rfl) hok E1 (g1.trans hR.1.1.symm) (by decide) hl.1 hP hSS (by rw [hR.1.1]; rfl) (by rw [hR.1.1]) (by rw [hR.1.1]; exact ⟨by decide, by decide +kernel⟩) (show decode code 511 = .ok (.invokevirtual 84, 3) by decide +kernel) (fun H1 locs1 hP1 hS1 => ?_)
  show W p l e room_1 s m #[Value.ref b] below meth c0 H1 locs1 72 (hSl hLam) Q (F0 m 514 ls [.int r])
  refine lv_aload_n hx1 hb (show decode code 514 = .ok (.aload_n 2, 1) by decide +kernel) rfl (lv_at hl 1 rfl) ?_
  refine lv_aload_n hx1 hb (show decode code 515 = .ok (.aload_n 0, 1) by decide +kernel) rfl (lv_at hl 3 rfl) ?_
  refine lv_iload_n hx1 hb (show decode code 516 = .ok (.iload_n 3, 1) by decide +kernel) rfl (lv_at hl 0 rfl) ?_
  refine lv_iconst (v := 1) hx1 hb (show decode code 517 = .ok (.iconst 1, 1) by decide +kernel) (by decide) ?_
  refine lv_iadd hx1 hb (show decode code 518 = .ok (.iadd, 1) by decide +kernel) ?_
  refine va_sld hx1 hb hX hbl hbA hS1 n1 (show decode code 519 = .ok (.iaload, 1) by decide +kernel) ?_
  refine lv_aload_n hx1 hb (show decode code 520 = .ok (.aload_n 0, 1) by decide +kernel) rfl (lv_at hl 3 rfl) ?_
  refine lv_iload_n hx1 hb (show decode code 521 = .ok (.iload_n 3, 1) by decide +kernel) rfl (lv_at hl 0 rfl) ?_
  refine lv_iconst (v := 2) hx1 hb (show decode code 522 = .ok (.iconst 2, 1) by decide +kernel) (by decide) ?_
  refine lv_iadd hx1 hb (show decode code 523 = .ok (.iadd, 1) by decide +kernel) ?_
  refine va_sld hx1 hb hX hbl hbA hS1 n2 (show decode code 524 = .ok (.iaload, 1) by decide +kernel) ?_
  refine lv_aload_n hx1 hb (show decode code 525 = .ok (.aload_n 0, 1) by decide +kernel) rfl (lv_at hl 3 rfl) ?_
  refine lv_iload_n hx1 hb (show decode code 526 = .ok (.iload_n 3, 1) by decide +kernel) rfl (lv_at hl 0 rfl) ?_
  refine lv_iconst (v := 3) hx1 hb (show decode code 527 = .ok (.iconst 3, 1) by decide +kernel) (by decide) ?_
  refine lv_iadd hx1 hb (show decode code 528 = .ok (.iadd, 1) by decide +kernel) ?_
  refine va_sld hx1 hb hX hbl hbA hS1 n3 (show decode code 529 = .ok (.iaload, 1) by decide +kernel) ?_
  refine lawV (y := 68) (c := 57) (as := [(xs (x3 + 1).toNatClampNeg), (xs (x3 + 2).toNatClampNeg), (xs (x3 + 3).toNatClampNeg)]) (rr := [r]) hx lm_X10_sees (by rw [g1]; rfl) g2 E2 (R2.1.1.trans g1.symm) (show 1 ≤ 8 by decide) hl.1 hP1 hS1 (by rw [g1]; rfl) (by rw [g1]) (by rw [g1]; exact ⟨by decide, by decide +kernel⟩) (show decode code 530 = .ok (.invokevirtual 88, 3) by decide +kernel) (fun H2 locs2 hP2 hS2 => ?_)
  show W p l e room_1 s m #[Value.ref b] below meth c0 H2 locs2 72 (hSl hLam) Q (F0 m 533 ls [.int r, .int r])
  exact lv_icmp_eq (tgt := 646) hx1 hb (show decode code 533 = .ok (.if_icmp .eq 113, 3) by decide +kernel) (by decide) (fun _ => k S2 H2 locs2 R2 g3 hP2 hS2) (fun q => absurd rfl q)
