/-! The law, case by case. -/
set_option maxHeartbeats 4000000 in
theorem lw_b18 {D : va_G} {cs : ClassId × ClassId × ClassId} {p : Program} {l : Launch} {e : Env} {s : State} {m : MethodId} {below : List Frame} {meth : Method} {c0 : Code} {Q : State → Prop} {b L : Nat} {xs : Nat → Int32} (hx : lawX D cs p s m #[Value.ref b] c0) (hX : va_X b L xs s s.heap) (hbl : b < s.heap.size) (hL : L ≤ 2048) {S : hS} (hR : Rel S) (hok : okS S) {x3 : Int32} {i : Nat} (e3 : x3 = nI i) (hi : i + 4 ≤ L) {ls : Array Slot} {H : Heap} {locs : List Loc} (hl : lv_has ls 4 (lwL b s x3)) (hP : va_P D vwCl (hWd s.heap.size cs S) H) (hSS : va_S (fun q => s.heap.size ≤ q) s.heap H locs) (k : ∀ (S2 : hS) (H1 : Heap) (locs1 : List Loc), Rel S2 → okS S2 → va_P D vwCl (hWd s.heap.size cs S2) H1 → va_S (fun q => s.heap.size ≤ q) s.heap H1 locs1 → W p l e room_1 s m #[Value.ref b] below meth c0 H1 locs1 72 (hSl hLam) Q (F0 m 646 ls [])) : W p l e room_1 s m #[Value.ref b] below meth c0 H locs 72 (hSl hLam) Q (F0 m 538 ls []) := by
  obtain ⟨r, S1, S2, E1, E2, R2⟩ := a_forget hR 
  obtain ⟨g1, g2, g3⟩ := law_mid (as := []) lm_X9_forget lm_X10_forget hok hR.1.1 R2.1.1 E1 E2
  have hx1 := hx.1.1
  have hb := hx.1.2.1
  have hbA : ¬ (fun q : Nat => s.heap.size ≤ q) b := Nat.not_le.mpr hbl
  refine lv_aload_n hx1 hb (show decode code 538 = .ok (.aload_n 1, 1) by decide +kernel) rfl (lv_at hl 2 rfl) ?_
  refine lawV (y := 51) (c := 0) (as := []) (rr := []) hx lm_X9_forget (by rw [hR.1.1]; rfl) hok E1 (g1.trans hR.1.1.symm) (by decide) hl.1 hP hSS (by rw [hR.1.1]; rfl) (by rw [hR.1.1]) (by rw [hR.1.1]; exact ⟨by decide, by decide +kernel⟩) (show decode code 539 = .ok (.invokevirtual 89, 3) by decide +kernel) (fun H1 locs1 hP1 hS1 => ?_)
  show W p l e room_1 s m #[Value.ref b] below meth c0 H1 locs1 72 (hSl hLam) Q (F0 m 542 ls [.int r])
  refine lv_aload_n hx1 hb (show decode code 542 = .ok (.aload_n 2, 1) by decide +kernel) rfl (lv_at hl 1 rfl) ?_
  refine lawV (y := 9) (c := 57) (as := []) (rr := [r]) hx lm_X10_forget (by rw [g1]; rfl) g2 E2 (R2.1.1.trans g1.symm) (show 1 ≤ 8 by decide) hl.1 hP1 hS1 (by rw [g1]; rfl) (by rw [g1]) (by rw [g1]; exact ⟨by decide, by decide +kernel⟩) (show decode code 543 = .ok (.invokevirtual 92, 3) by decide +kernel) (fun H2 locs2 hP2 hS2 => ?_)
  show W p l e room_1 s m #[Value.ref b] below meth c0 H2 locs2 72 (hSl hLam) Q (F0 m 546 ls [.int r, .int r])
  exact lv_icmp_eq (tgt := 646) hx1 hb (show decode code 546 = .ok (.if_icmp .eq 100, 3) by decide +kernel) (by decide) (fun _ => k S2 H2 locs2 R2 g3 hP2 hS2) (fun q => absurd rfl q)
set_option maxHeartbeats 4000000 in
theorem lw_b19 {D : va_G} {cs : ClassId × ClassId × ClassId} {p : Program} {l : Launch} {e : Env} {s : State} {m : MethodId} {below : List Frame} {meth : Method} {c0 : Code} {Q : State → Prop} {b L : Nat} {xs : Nat → Int32} (hx : lawX D cs p s m #[Value.ref b] c0) (hX : va_X b L xs s s.heap) (hbl : b < s.heap.size) (hL : L ≤ 2048) {S : hS} (hR : Rel S) (hok : okS S) {x3 : Int32} {i : Nat} (e3 : x3 = nI i) (hi : i + 4 ≤ L) {ls : Array Slot} {H : Heap} {locs : List Loc} (hl : lv_has ls 4 (lwL b s x3)) (hP : va_P D vwCl (hWd s.heap.size cs S) H) (hSS : va_S (fun q => s.heap.size ≤ q) s.heap H locs) (k : ∀ (S2 : hS) (H1 : Heap) (locs1 : List Loc), Rel S2 → okS S2 → va_P D vwCl (hWd s.heap.size cs S2) H1 → va_S (fun q => s.heap.size ≤ q) s.heap H1 locs1 → W p l e room_1 s m #[Value.ref b] below meth c0 H1 locs1 72 (hSl hLam) Q (F0 m 646 ls [])) : W p l e room_1 s m #[Value.ref b] below meth c0 H locs 72 (hSl hLam) Q (F0 m 551 ls []) := by
  obtain ⟨r, S1, S2, E1, E2, R2⟩ := a_which hR 
  obtain ⟨g1, g2, g3⟩ := law_mid (as := []) lm_X9_which lm_X10_which hok hR.1.1 R2.1.1 E1 E2
  have hx1 := hx.1.1
  have hb := hx.1.2.1
  have hbA : ¬ (fun q : Nat => s.heap.size ≤ q) b := Nat.not_le.mpr hbl
  refine lv_aload_n hx1 hb (show decode code 551 = .ok (.aload_n 1, 1) by decide +kernel) rfl (lv_at hl 2 rfl) ?_
  refine lawV (y := 161) (c := 0) (as := []) (rr := []) hx lm_X9_which (by rw [hR.1.1]; rfl) hok E1 (g1.trans hR.1.1.symm) (by decide) hl.1 hP hSS (by rw [hR.1.1]; rfl) (by rw [hR.1.1]) (by rw [hR.1.1]; exact ⟨by decide, by decide +kernel⟩) (show decode code 552 = .ok (.invokevirtual 93, 3) by decide +kernel) (fun H1 locs1 hP1 hS1 => ?_)
  show W p l e room_1 s m #[Value.ref b] below meth c0 H1 locs1 72 (hSl hLam) Q (F0 m 555 ls [.int r])
  refine lv_aload_n hx1 hb (show decode code 555 = .ok (.aload_n 2, 1) by decide +kernel) rfl (lv_at hl 1 rfl) ?_
  refine lawV (y := 162) (c := 57) (as := []) (rr := [r]) hx lm_X10_which (by rw [g1]; rfl) g2 E2 (R2.1.1.trans g1.symm) (show 1 ≤ 8 by decide) hl.1 hP1 hS1 (by rw [g1]; rfl) (by rw [g1]) (by rw [g1]; exact ⟨by decide, by decide +kernel⟩) (show decode code 556 = .ok (.invokevirtual 96, 3) by decide +kernel) (fun H2 locs2 hP2 hS2 => ?_)
  show W p l e room_1 s m #[Value.ref b] below meth c0 H2 locs2 72 (hSl hLam) Q (F0 m 559 ls [.int r, .int r])
  exact lv_icmp_eq (tgt := 646) hx1 hb (show decode code 559 = .ok (.if_icmp .eq 87, 3) by decide +kernel) (by decide) (fun _ => k S2 H2 locs2 R2 g3 hP2 hS2) (fun q => absurd rfl q)
set_option maxHeartbeats 4000000 in
theorem lw_b20 {D : va_G} {cs : ClassId × ClassId × ClassId} {p : Program} {l : Launch} {e : Env} {s : State} {m : MethodId} {below : List Frame} {meth : Method} {c0 : Code} {Q : State → Prop} {b L : Nat} {xs : Nat → Int32} (hx : lawX D cs p s m #[Value.ref b] c0) (hX : va_X b L xs s s.heap) (hbl : b < s.heap.size) (hL : L ≤ 2048) {S : hS} (hR : Rel S) (hok : okS S) {x3 : Int32} {i : Nat} (e3 : x3 = nI i) (hi : i + 4 ≤ L) {ls : Array Slot} {H : Heap} {locs : List Loc} (hl : lv_has ls 4 (lwL b s x3)) (hP : va_P D vwCl (hWd s.heap.size cs S) H) (hSS : va_S (fun q => s.heap.size ≤ q) s.heap H locs) (k : ∀ (S2 : hS) (H1 : Heap) (locs1 : List Loc), Rel S2 → okS S2 → va_P D vwCl (hWd s.heap.size cs S2) H1 → va_S (fun q => s.heap.size ≤ q) s.heap H1 locs1 → W p l e room_1 s m #[Value.ref b] below meth c0 H1 locs1 72 (hSl hLam) Q (F0 m 646 ls [])) : W p l e room_1 s m #[Value.ref b] below meth c0 H locs 72 (hSl hLam) Q (F0 m 564 ls []) := by
  obtain ⟨r, S1, S2, E1, E2, R2⟩ := a_ask hR 
  obtain ⟨g1, g2, g3⟩ := law_mid (as := []) lm_X9_ask lm_X10_ask hok hR.1.1 R2.1.1 E1 E2
  have hx1 := hx.1.1
  have hb := hx.1.2.1
  have hbA : ¬ (fun q : Nat => s.heap.size ≤ q) b := Nat.not_le.mpr hbl
  refine lv_aload_n hx1 hb (show decode code 564 = .ok (.aload_n 1, 1) by decide +kernel) rfl (lv_at hl 2 rfl) ?_
  refine lawV (y := 160) (c := 0) (as := []) (rr := []) hx lm_X9_ask (by rw [hR.1.1]; rfl) hok E1 (g1.trans hR.1.1.symm) (by decide) hl.1 hP hSS (by rw [hR.1.1]; rfl) (by rw [hR.1.1]) (by rw [hR.1.1]; exact ⟨by decide, by decide +kernel⟩) (show decode code 565 = .ok (.invokevirtual 97, 3) by decide +kernel) (fun H1 locs1 hP1 hS1 => ?_)
  show W p l e room_1 s m #[Value.ref b] below meth c0 H1 locs1 72 (hSl hLam) Q (F0 m 568 ls [.int r])
  refine lv_aload_n hx1 hb (show decode code 568 = .ok (.aload_n 2, 1) by decide +kernel) rfl (lv_at hl 1 rfl) ?_
  refine lawV (y := 163) (c := 57) (as := []) (rr := [r]) hx lm_X10_ask (by rw [g1]; rfl) g2 E2 (R2.1.1.trans g1.symm) (show 1 ≤ 8 by decide) hl.1 hP1 hS1 (by rw [g1]; rfl) (by rw [g1]) (by rw [g1]; exact ⟨by decide, by decide +kernel⟩) (show decode code 569 = .ok (.invokevirtual 100, 3) by decide +kernel) (fun H2 locs2 hP2 hS2 => ?_)
  show W p l e room_1 s m #[Value.ref b] below meth c0 H2 locs2 72 (hSl hLam) Q (F0 m 572 ls [.int r, .int r])
  exact lv_icmp_eq (tgt := 646) hx1 hb (show decode code 572 = .ok (.if_icmp .eq 74, 3) by decide +kernel) (by decide) (fun _ => k S2 H2 locs2 R2 g3 hP2 hS2) (fun q => absurd rfl q)
set_option maxHeartbeats 4000000 in
theorem lw_b21 {D : va_G} {cs : ClassId × ClassId × ClassId} {p : Program} {l : Launch} {e : Env} {s : State} {m : MethodId} {below : List Frame} {meth : Method} {c0 : Code} {Q : State → Prop} {b L : Nat} {xs : Nat → Int32} (hx : lawX D cs p s m #[Value.ref b] c0) (hX : va_X b L xs s s.heap) (hbl : b < s.heap.size) (hL : L ≤ 2048) {S : hS} (hR : Rel S) (hok : okS S) {x3 : Int32} {i : Nat} (e3 : x3 = nI i) (hi : i + 4 ≤ L) {ls : Array Slot} {H : Heap} {locs : List Loc} (hl : lv_has ls 4 (lwL b s x3)) (hP : va_P D vwCl (hWd s.heap.size cs S) H) (hSS : va_S (fun q => s.heap.size ≤ q) s.heap H locs) (k : ∀ (S2 : hS) (H1 : Heap) (locs1 : List Loc), Rel S2 → okS S2 → va_P D vwCl (hWd s.heap.size cs S2) H1 → va_S (fun q => s.heap.size ≤ q) s.heap H1 locs1 → W p l e room_1 s m #[Value.ref b] below meth c0 H1 locs1 72 (hSl hLam) Q (F0 m 646 ls [])) : W p l e room_1 s m #[Value.ref b] below meth c0 H locs 72 (hSl hLam) Q (F0 m 577 ls []) := by
  obtain ⟨r, S1, S2, E1, E2, R2⟩ := a_keep hR (xs (x3 + 1).toNatClampNeg)
  obtain ⟨g1, g2, g3⟩ := law_mid (as := [(xs (x3 + 1).toNatClampNeg)]) lm_X9_keep lm_X10_keep hok hR.1.1 R2.1.1 E1 E2
  have hx1 := hx.1.1
  have hb := hx.1.2.1
  have hbA : ¬ (fun q : Nat => s.heap.size ≤ q) b := Nat.not_le.mpr hbl
  have n1 : vp_in (x3 + 1) L := by rw [e3, show nI i + 1 = nI (i + 1) from add_lit (x := 1) (b := 1) rfl]; exact vp_in_nI (by omega) (by omega)
  refine lv_aload_n hx1 hb (show decode code 577 = .ok (.aload_n 1, 1) by decide +kernel) rfl (lv_at hl 2 rfl) ?_
  refine lv_aload_n hx1 hb (show decode code 578 = .ok (.aload_n 0, 1) by decide +kernel) rfl (lv_at hl 3 rfl) ?_
  refine lv_iload_n hx1 hb (show decode code 579 = .ok (.iload_n 3, 1) by decide +kernel) rfl (lv_at hl 0 rfl) ?_
  refine lv_iconst (v := 1) hx1 hb (show decode code 580 = .ok (.iconst 1, 1) by decide +kernel) (by decide) ?_
  refine lv_iadd hx1 hb (show decode code 581 = .ok (.iadd, 1) by decide +kernel) ?_
  refine va_sld hx1 hb hX hbl hbA hSS n1 (show decode code 582 = .ok (.iaload, 1) by decide +kernel) ?_
  refine lawV (y := 127) (c := 0) (as := [(xs (x3 + 1).toNatClampNeg)]) (rr := []) hx lm_X9_keep (by rw [hR.1.1]; rfl) hok E1 (g1.trans hR.1.1.symm) (by decide) hl.1 hP hSS (by rw [hR.1.1]; rfl) (by rw [hR.1.1]) (by rw [hR.1.1]; exact ⟨by decide, by decide +kernel⟩) (show decode code 583 = .ok (.invokevirtual 101, 3) by decide +kernel) (fun H1 locs1 hP1 hS1 => ?_)
  show W p l e room_1 s m #[Value.ref b] below meth c0 H1 locs1 72 (hSl hLam) Q (F0 m 586 ls [.int r])
  refine lv_aload_n hx1 hb (show decode code 586 = .ok (.aload_n 2, 1) by decide +kernel) rfl (lv_at hl 1 rfl) ?_
  refine lv_aload_n hx1 hb (show decode code 587 = .ok (.aload_n 0, 1) by decide +kernel) rfl (lv_at hl 3 rfl) ?_
  refine lv_iload_n hx1 hb (show decode code 588 = .ok (.iload_n 3, 1) by decide +kernel) rfl (lv_at hl 0 rfl) ?_
  refine lv_iconst (v := 1) hx1 hb (show decode code 589 = .ok (.iconst 1, 1) by decide +kernel) (by decide) ?_
  refine lv_iadd hx1 hb (show decode code 590 = .ok (.iadd, 1) by decide +kernel) ?_
  refine va_sld hx1 hb hX hbl hbA hS1 n1 (show decode code 591 = .ok (.iaload, 1) by decide +kernel) ?_
  refine lawV (y := 66) (c := 57) (as := [(xs (x3 + 1).toNatClampNeg)]) (rr := [r]) hx lm_X10_keep (by rw [g1]; rfl) g2 E2 (R2.1.1.trans g1.symm) (show 1 ≤ 8 by decide) hl.1 hP1 hS1 (by rw [g1]; rfl) (by rw [g1]) (by rw [g1]; exact ⟨by decide, by decide +kernel⟩) (show decode code 592 = .ok (.invokevirtual 104, 3) by decide +kernel) (fun H2 locs2 hP2 hS2 => ?_)
  show W p l e room_1 s m #[Value.ref b] below meth c0 H2 locs2 72 (hSl hLam) Q (F0 m 595 ls [.int r, .int r])
  exact lv_icmp_eq (tgt := 646) hx1 hb (show decode code 595 = .ok (.if_icmp .eq 51, 3) by decide +kernel) (by decide) (fun _ => k S2 H2 locs2 R2 g3 hP2 hS2) (fun q => absurd rfl q)
set_option maxHeartbeats 4000000 in
theorem lw_b22 {D : va_G} {cs : ClassId × ClassId × ClassId} {p : Program} {l : Launch} {e : Env} {s : State} {m : MethodId} {below : List Frame} {meth : Method} {c0 : Code} {Q : State → Prop} {b L : Nat} {xs : Nat → Int32} (hx : lawX D cs p s m #[Value.ref b] c0) (hX : va_X b L xs s s.heap) (hbl : b < s.heap.size) (hL : L ≤ 2048) {S : hS} (hR : Rel S) (hok : okS S) {x3 : Int32} {i : Nat} (e3 : x3 = nI i) (hi : i + 4 ≤ L) {ls : Array Slot} {H : Heap} {locs : List Loc} (hl : lv_has ls 4 (lwL b s x3)) (hP : va_P D vwCl (hWd s.heap.size cs S) H) (hSS : va_S (fun q => s.heap.size ≤ q) s.heap H locs) (k : ∀ (S2 : hS) (H1 : Heap) (locs1 : List Loc), Rel S2 → okS S2 → va_P D vwCl (hWd s.heap.size cs S2) H1 → va_S (fun q => s.heap.size ≤ q) s.heap H1 locs1 → W p l e room_1 s m #[Value.ref b] below meth c0 H1 locs1 72 (hSl hLam) Q (F0 m 646 ls [])) : W p l e room_1 s m #[Value.ref b] below meth c0 H locs 72 (hSl hLam) Q (F0 m 600 ls []) := by
  obtain ⟨r, S1, S2, E1, E2, R2⟩ := a_back hR (xs (x3 + 1).toNatClampNeg)
  obtain ⟨g1, g2, g3⟩ := law_mid (as := [(xs (x3 + 1).toNatClampNeg)]) lm_X9_back lm_X10_back hok hR.1.1 R2.1.1 E1 E2
  have hx1 := hx.1.1
  have hb := hx.1.2.1
  have hbA : ¬ (fun q : Nat => s.heap.size ≤ q) b := Nat.not_le.mpr hbl
  have n1 : vp_in (x3 + 1) L := by rw [e3, show nI i + 1 = nI (i + 1) from add_lit (x := 1) (b := 1) rfl]; exact vp_in_nI (by omega) (by omega)
  refine lv_aload_n hx1 hb (show decode code 600 = .ok (.aload_n 1, 1) by decide +kernel) rfl (lv_at hl 2 rfl) ?_
  refine lv_aload_n hx1 hb (show decode code 601 = .ok (.aload_n 0, 1) by decide +kernel) rfl (lv_at hl 3 rfl) ?_
  refine lv_iload_n hx1 hb (show decode code 602 = .ok (.iload_n 3, 1) by decide +kernel) rfl (lv_at hl 0 rfl) ?_
  refine lv_iconst (v := 1) hx1 hb (show decode code 603 = .ok (.iconst 1, 1) by decide +kernel) (by decide) ?_
  refine lv_iadd hx1 hb (show decode code 604 = .ok (.iadd, 1) by decide +kernel) ?_
  refine va_sld hx1 hb hX hbl hbA hSS n1 (show decode code 605 = .ok (.iaload, 1) by decide +kernel) ?_
  refine lawV (y := 125) (c := 0) (as := [(xs (x3 + 1).toNatClampNeg)]) (rr := []) hx lm_X9_back (by rw [hR.1.1]; rfl) hok E1 (g1.trans hR.1.1.symm) (by decide) hl.1 hP hSS (by rw [hR.1.1]; rfl) (by rw [hR.1.1]) (by rw [hR.1.1]; exact ⟨by decide, by decide +kernel⟩) (show decode code 606 = .ok (.invokevirtual 105, 3) by decide +kernel) (fun H1 locs1 hP1 hS1 => ?_)
  show W p l e room_1 s m #[Value.ref b] below meth c0 H1 locs1 72 (hSl hLam) Q (F0 m 609 ls [.int r])
  refine lv_aload_n hx1 hb (show decode code 609 = .ok (.aload_n 2, 1) by decide +kernel) rfl (lv_at hl 1 rfl) ?_
  refine lv_aload_n hx1 hb (show decode code 610 = .ok (.aload_n 0, 1) by decide +kernel) rfl (lv_at hl 3 rfl) ?_
  refine lv_iload_n hx1 hb (show decode code 611 = .ok (.iload_n 3, 1) by decide +kernel) rfl (lv_at hl 0 rfl) ?_
  refine lv_iconst (v := 1) hx1 hb (show decode code 612 = .ok (.iconst 1, 1) by decide +kernel) (by decide) ?_
  refine lv_iadd hx1 hb (show decode code 613 = .ok (.iadd, 1) by decide +kernel) ?_
  refine va_sld hx1 hb hX hbl hbA hS1 n1 (show decode code 614 = .ok (.iaload, 1) by decide +kernel) ?_
  refine lawV (y := 55) (c := 57) (as := [(xs (x3 + 1).toNatClampNeg)]) (rr := [r]) hx lm_X10_back (by rw [g1]; rfl) g2 E2 (R2.1.1.trans g1.symm) (show 1 ≤ 8 by decide) hl.1 hP1 hS1 (by rw [g1]; rfl) (by rw [g1]) (by rw [g1]; exact ⟨by decide, by decide +kernel⟩) (show decode code 615 = .ok (.invokevirtual 108, 3) by decide +kernel) (fun H2 locs2 hP2 hS2 => ?_)
  show W p l e room_1 s m #[Value.ref b] below meth c0 H2 locs2 72 (hSl hLam) Q (F0 m 618 ls [.int r, .int r])
  exact lv_icmp_eq (tgt := 646) hx1 hb (show decode code 618 = .ok (.if_icmp .eq 28, 3) by decide +kernel) (by decide) (fun _ => k S2 H2 locs2 R2 g3 hP2 hS2) (fun q => absurd rfl q)
set_option maxHeartbeats 4000000 in
theorem lw_b23 {D : va_G} {cs : ClassId × ClassId × ClassId} {p : Program} {l : Launch} {e : Env} {s : State} {m : MethodId} {below : List Frame} {meth : Method} {c0 : Code} {Q : State → Prop} {b L : Nat} {xs : Nat → Int32} (hx : lawX D cs p s m #[Value.ref b] c0) (hX : va_X b L xs s s.heap) (hbl : b < s.heap.size) (hL : L ≤ 2048) {S : hS} (hR : Rel S) (hok : okS S) {x3 : Int32} {i : Nat} (e3 : x3 = nI i) (hi : i + 4 ≤ L) {ls : Array Slot} {H : Heap} {locs : List Loc} (hl : lv_has ls 4 (lwL b s x3)) (hP : va_P D vwCl (hWd s.heap.size cs S) H) (hSS : va_S (fun q => s.heap.size ≤ q) s.heap H locs) (k : ∀ (S2 : hS) (H1 : Heap) (locs1 : List Loc), Rel S2 → okS S2 → va_P D vwCl (hWd s.heap.size cs S2) H1 → va_S (fun q => s.heap.size ≤ q) s.heap H1 locs1 → W p l e room_1 s m #[Value.ref b] below meth c0 H1 locs1 72 (hSl hLam) Q (F0 m 646 ls [])) : W p l e room_1 s m #[Value.ref b] below meth c0 H locs 72 (hSl hLam) Q (F0 m 623 ls []) := by
  obtain ⟨r, S1, S2, E1, E2, R2⟩ := a_count hR (xs (x3 + 1).toNatClampNeg)
  obtain ⟨g1, g2, g3⟩ := law_mid (as := [(xs (x3 + 1).toNatClampNeg)]) lm_X9_count lm_X10_count hok hR.1.1 R2.1.1 E1 E2
  have hx1 := hx.1.1
  have hb := hx.1.2.1
  have hbA : ¬ (fun q : Nat => s.heap.size ≤ q) b := Nat.not_le.mpr hbl
  have n1 : vp_in (x3 + 1) L := by rw [e3, show nI i + 1 = nI (i + 1) from add_lit (x := 1) (b := 1) rfl]; exact vp_in_nI (by omega) (by omega)
  refine lv_aload_n hx1 hb (show decode code 623 = .ok (.aload_n 1, 1) by decide +kernel) rfl (lv_at hl 2 rfl) ?_
  refine lv_aload_n hx1 hb (show decode code 624 = .ok (.aload_n 0, 1) by decide +kernel) rfl (lv_at hl 3 rfl) ?_
  refine lv_iload_n hx1 hb (show decode code 625 = .ok (.iload_n 3, 1) by decide +kernel) rfl (lv_at hl 0 rfl) ?_
  refine lv_iconst (v := 1) hx1 hb (show decode code 626 = .ok (.iconst 1, 1) by decide +kernel) (by decide) ?_
  refine lv_iadd hx1 hb (show decode code 627 = .ok (.iadd, 1) by decide +kernel) ?_
  refine va_sld hx1 hb hX hbl hbA hSS n1 (show decode code 628 = .ok (.iaload, 1) by decide +kernel) ?_
  refine lawV (y := 50) (c := 0) (as := [(xs (x3 + 1).toNatClampNeg)]) (rr := []) hx lm_X9_count (by rw [hR.1.1]; rfl) hok E1 (g1.trans hR.1.1.symm) (by decide) hl.1 hP hSS (by rw [hR.1.1]; rfl) (by rw [hR.1.1]) (by rw [hR.1.1]; exact ⟨by decide, by decide +kernel⟩) (show decode code 629 = .ok (.invokevirtual 109, 3) by decide +kernel) (fun H1 locs1 hP1 hS1 => ?_)
  show W p l e room_1 s m #[Value.ref b] below meth c0 H1 locs1 72 (hSl hLam) Q (F0 m 632 ls [.int r])
  refine lv_aload_n hx1 hb (show decode code 632 = .ok (.aload_n 2, 1) by decide +kernel) rfl (lv_at hl 1 rfl) ?_
  refine lv_aload_n hx1 hb (show decode code 633 = .ok (.aload_n 0, 1) by decide +kernel) rfl (lv_at hl 3 rfl) ?_
  refine lv_iload_n hx1 hb (show decode code 634 = .ok (.iload_n 3, 1) by decide +kernel) rfl (lv_at hl 0 rfl) ?_
  refine lv_iconst (v := 1) hx1 hb (show decode code 635 = .ok (.iconst 1, 1) by decide +kernel) (by decide) ?_
  refine lv_iadd hx1 hb (show decode code 636 = .ok (.iadd, 1) by decide +kernel) ?_
  refine va_sld hx1 hb hX hbl hbA hS1 n1 (show decode code 637 = .ok (.iaload, 1) by decide +kernel) ?_
  refine lawV (y := 8) (c := 57) (as := [(xs (x3 + 1).toNatClampNeg)]) (rr := [r]) hx lm_X10_count (by rw [g1]; rfl) g2 E2 (R2.1.1.trans g1.symm) (show 1 ≤ 8 by decide) hl.1 hP1 hS1 (by rw [g1]; rfl) (by rw [g1]) (by rw [g1]; exact ⟨by decide, by decide +kernel⟩) (show decode code 638 = .ok (.invokevirtual 112, 3) by decide +kernel) (fun H2 locs2 hP2 hS2 => ?_)
  show W p l e room_1 s m #[Value.ref b] below meth c0 H2 locs2 72 (hSl hLam) Q (F0 m 641 ls [.int r, .int r])
  exact lv_icmp_eq (tgt := 646) hx1 hb (show decode code 641 = .ok (.if_icmp .eq 5, 3) by decide +kernel) (by decide) (fun _ => k S2 H2 locs2 R2 g3 hP2 hS2) (fun q => absurd rfl q)
