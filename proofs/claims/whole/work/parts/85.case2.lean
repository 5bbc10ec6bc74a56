/-! The law, case by case. -/
set_option maxHeartbeats 4000000 in
theorem lw_b6 {D : va_G} {cs : ClassId × ClassId × ClassId} {p : Program} {l : Launch} {e : Env} {s : State} {m : MethodId} {below : List Frame} {meth : Method} {c0 : Code} {Q : State → Prop} {b L : Nat} {xs : Nat → Int32} (hx : lawX D cs p s m #[Value.ref b] c0) (hX : va_X b L xs s s.heap) (hbl : b < s.heap.size) (hL : L ≤ 2048) {S : hS} (hR : Rel S) (hok : okS S) {x3 : Int32} {i : Nat} (e3 : x3 = nI i) (hi : i + 4 ≤ L) {ls : Array Slot} {H : Heap} {locs : List Loc} (hl : lv_has ls 4 (lwL b s x3)) (hP : va_P D vwCl (hWd s.heap.size cs S) H) (hSS : va_S (fun q => s.heap.size ≤ q) s.heap H locs) (k : ∀ (S2 : hS) (H1 : Heap) (locs1 : List Loc), Rel S2 → okS S2 → va_P D vwCl (hWd s.heap.size cs S2) H1 → va_S (fun q => s.heap.size ≤ q) s.heap H1 locs1 → W p l e room_1 s m #[Value.ref b] below meth c0 H1 locs1 72 (hSl hLam) Q (F0 m 646 ls [])) : W p l e room_1 s m #[Value.ref b] below meth c0 H locs 72 (hSl hLam) Q (F0 m 272 ls []) := by
  obtain ⟨r, S1, S2, E1, E2, R2⟩ := a_wants hR (xs (x3 + 1).toNatClampNeg)
  obtain ⟨g1, g2, g3⟩ := law_mid (as := [(xs (x3 + 1).toNatClampNeg)]) lm_X9_wants lm_X10_wants hok hR.1.1 R2.1.1 E1 E2
  have hx1 := hx.1.1
  have hb := hx.1.2.1
  have hbA : ¬ (fun q : Nat => s.heap.size ≤ q) b := Nat.not_le.mpr hbl
  have n1 : vp_in (x3 + 1) L := by rw [e3, show nI i + 1 = nI (i + 1) from add_lit (x := 1) (b := 1) rfl]; exact vp_in_nI (by omega) (by omega)
  refine lv_aload_n hx1 hb (show decode code 272 = .ok (.aload_n 1, 1) by decide +kernel) rfl (lv_at hl 2 rfl) ?_
  refine lv_aload_n hx1 hb (show decode code 273 = .ok (.aload_n 0, 1) by decide +kernel) rfl (lv_at hl 3 rfl) ?_
  refine lv_iload_n hx1 hb (show decode code 274 = .ok (.iload_n 3, 1) by decide +kernel) rfl (lv_at hl 0 rfl) ?_
  refine lv_iconst (v := 1) hx1 hb (show decode code 275 = .ok (.iconst 1, 1) by decide +kernel) (by decide) ?_
  refine lv_iadd hx1 hb (show decode code 276 = .ok (.iadd, 1) by decide +kernel) ?_
  refine va_sld hx1 hb hX hbl hbA hSS n1 (show decode code 277 = .ok (.iaload, 1) by decide +kernel) ?_
  refine lawV (y := 148) (c := 0) (as := [(xs (x3 + 1).toNatClampNeg)]) (rr := []) hx lm_X9_wants (by rw [hR.1.1]; rfl) hok E1 (g1.trans hR.1.1.symm) (by decide) hl.1 hP hSS (by rw [hR.1.1]; rfl) (by rw [hR.1.1]) (by rw [hR.1.1]; exact ⟨by decide, by decide +kernel⟩) (show decode code 278 = .ok (.invokevirtual 40, 3) by decide +kernel) (fun H1 locs1 hP1 hS1 => ?_)
  show W p l e room_1 s m #[Value.ref b] below meth c0 H1 locs1 72 (hSl hLam) Q (F0 m 281 ls [.int r])
  refine lv_aload_n hx1 hb (show decode code 281 = .ok (.aload_n 2, 1) by decide +kernel) rfl (lv_at hl 1 rfl) ?_
  refine lv_aload_n hx1 hb (show decode code 282 = .ok (.aload_n 0, 1) by decide +kernel) rfl (lv_at hl 3 rfl) ?_
  refine lv_iload_n hx1 hb (show decode code 283 = .ok (.iload_n 3, 1) by decide +kernel) rfl (lv_at hl 0 rfl) ?_
  refine lv_iconst (v := 1) hx1 hb (show decode code 284 = .ok (.iconst 1, 1) by decide +kernel) (by decide) ?_
  refine lv_iadd hx1 hb (show decode code 285 = .ok (.iadd, 1) by decide +kernel) ?_
  refine va_sld hx1 hb hX hbl hbA hS1 n1 (show decode code 286 = .ok (.iaload, 1) by decide +kernel) ?_
  refine lawV (y := 105) (c := 57) (as := [(xs (x3 + 1).toNatClampNeg)]) (rr := [r]) hx lm_X10_wants (by rw [g1]; rfl) g2 E2 (R2.1.1.trans g1.symm) (show 1 ≤ 8 by decide) hl.1 hP1 hS1 (by rw [g1]; rfl) (by rw [g1]) (by rw [g1]; exact ⟨by decide, by decide +kernel⟩) (show decode code 287 = .ok (.invokevirtual 43, 3) by decide +kernel) (fun H2 locs2 hP2 hS2 => ?_)
  show W p l e room_1 s m #[Value.ref b] below meth c0 H2 locs2 72 (hSl hLam) Q (F0 m 290 ls [.int r, .int r])
  exact lv_icmp_eq (tgt := 646) hx1 hb (show decode code 290 = .ok (.if_icmp .eq 356, 3) by decide +kernel) (by decide) (fun _ => k S2 H2 locs2 R2 g3 hP2 hS2) (fun q => absurd rfl q)
set_option maxHeartbeats 4000000 in
theorem lw_b7 {D : va_G} {cs : ClassId × ClassId × ClassId} {p : Program} {l : Launch} {e : Env} {s : State} {m : MethodId} {below : List Frame} {meth : Method} {c0 : Code} {Q : State → Prop} {b L : Nat} {xs : Nat → Int32} (hx : lawX D cs p s m #[Value.ref b] c0) (hX : va_X b L xs s s.heap) (hbl : b < s.heap.size) (hL : L ≤ 2048) {S : hS} (hR : Rel S) (hok : okS S) {x3 : Int32} {i : Nat} (e3 : x3 = nI i) (hi : i + 4 ≤ L) {ls : Array Slot} {H : Heap} {locs : List Loc} (hl : lv_has ls 4 (lwL b s x3)) (hP : va_P D vwCl (hWd s.heap.size cs S) H) (hSS : va_S (fun q => s.heap.size ≤ q) s.heap H locs) (k : ∀ (S2 : hS) (H1 : Heap) (locs1 : List Loc), Rel S2 → okS S2 → va_P D vwCl (hWd s.heap.size cs S2) H1 → va_S (fun q => s.heap.size ≤ q) s.heap H1 locs1 → W p l e room_1 s m #[Value.ref b] below meth c0 H1 locs1 72 (hSl hLam) Q (F0 m 646 ls [])) : W p l e room_1 s m #[Value.ref b] below meth c0 H locs 72 (hSl hLam) Q (F0 m 295 ls []) := by
  obtain ⟨r, S1, S2, E1, E2, R2⟩ := a_resets hR 
  obtain ⟨g1, g2, g3⟩ := law_mid (as := []) lm_X9_resets lm_X10_resets hok hR.1.1 R2.1.1 E1 E2
  have hx1 := hx.1.1
  have hb := hx.1.2.1
  have hbA : ¬ (fun q : Nat => s.heap.size ≤ q) b := Nat.not_le.mpr hbl
  refine lv_aload_n hx1 hb (show decode code 295 = .ok (.aload_n 1, 1) by decide +kernel) rfl (lv_at hl 2 rfl) ?_
  refine lawV (y := 145) (c := 0) (as := []) (rr := []) hx lm_X9_resets (by rw [hR.1.1]; rfl) hok E1 (g1.trans hR.1.1.symm) (by decide) hl.1 hP hSS (by rw [hR.1.1]; rfl) (by rw [hR.1.1]) (by rw [hR.1.1]; exact ⟨by decide, by decide +kernel⟩) (show decode code 296 = .ok (.invokevirtual 44, 3) by decide +kernel) (fun H1 locs1 hP1 hS1 => ?_)
  show W p l e room_1 s m #[Value.ref b] below meth c0 H1 locs1 72 (hSl hLam) Q (F0 m 299 ls [.int r])
  refine lv_aload_n hx1 hb (show decode code 299 = .ok (.aload_n 2, 1) by decide +kernel) rfl (lv_at hl 1 rfl) ?_
  refine lawV (y := 67) (c := 57) (as := []) (rr := [r]) hx lm_X10_resets (by rw [g1]; rfl) g2 E2 (R2.1.1.trans g1.symm) (show 1 ≤ 8 by decide) hl.1 hP1 hS1 (by rw [g1]; rfl) (by rw [g1]) (by rw [g1]; exact ⟨by decide, by decide +kernel⟩) (show decode code 300 = .ok (.invokevirtual 47, 3) by decide +kernel) (fun H2 locs2 hP2 hS2 => ?_)
  show W p l e room_1 s m #[Value.ref b] below meth c0 H2 locs2 72 (hSl hLam) Q (F0 m 303 ls [.int r, .int r])
  exact lv_icmp_eq (tgt := 646) hx1 hb (show decode code 303 = .ok (.if_icmp .eq 343, 3) by decide +kernel) (by decide) (fun _ => k S2 H2 locs2 R2 g3 hP2 hS2) (fun q => absurd rfl q)
set_option maxHeartbeats 4000000 in
theorem lw_b8 {D : va_G} {cs : ClassId × ClassId × ClassId} {p : Program} {l : Launch} {e : Env} {s : State} {m : MethodId} {below : List Frame} {meth : Method} {c0 : Code} {Q : State → Prop} {b L : Nat} {xs : Nat → Int32} (hx : lawX D cs p s m #[Value.ref b] c0) (hX : va_X b L xs s s.heap) (hbl : b < s.heap.size) (hL : L ≤ 2048) {S : hS} (hR : Rel S) (hok : okS S) {x3 : Int32} {i : Nat} (e3 : x3 = nI i) (hi : i + 4 ≤ L) {ls : Array Slot} {H : Heap} {locs : List Loc} (hl : lv_has ls 4 (lwL b s x3)) (hP : va_P D vwCl (hWd s.heap.size cs S) H) (hSS : va_S (fun q => s.heap.size ≤ q) s.heap H locs) (k : ∀ (S2 : hS) (H1 : Heap) (locs1 : List Loc), Rel S2 → okS S2 → va_P D vwCl (hWd s.heap.size cs S2) H1 → va_S (fun q => s.heap.size ≤ q) s.heap H1 locs1 → W p l e room_1 s m #[Value.ref b] below meth c0 H1 locs1 72 (hSl hLam) Q (F0 m 646 ls [])) : W p l e room_1 s m #[Value.ref b] below meth c0 H locs 72 (hSl hLam) Q (F0 m 308 ls []) := by
  obtain ⟨r, S1, S2, E1, E2, R2⟩ := a_ticks hR (xs (x3 + 1).toNatClampNeg)
  obtain ⟨g1, g2, g3⟩ := law_mid (as := [(xs (x3 + 1).toNatClampNeg)]) lm_X9_ticks lm_X10_ticks hok hR.1.1 R2.1.1 E1 E2
  have hx1 := hx.1.1
  have hb := hx.1.2.1
  have hbA : ¬ (fun q : Nat => s.heap.size ≤ q) b := Nat.not_le.mpr hbl
  have n1 : vp_in (x3 + 1) L := by rw [e3, show nI i + 1 = nI (i + 1) from add_lit (x := 1) (b := 1) rfl]; exact vp_in_nI (by omega) (by omega)
  refine lv_aload_n hx1 hb (show decode code 308 = .ok (.aload_n 1, 1) by decide +kernel) rfl (lv_at hl 2 rfl) ?_
  refine lv_aload_n hx1 hb (show decode code 309 = .ok (.aload_n 0, 1) by decide +kernel) rfl (lv_at hl 3 rfl) ?_
  refine lv_iload_n hx1 hb (show decode code 310 = .ok (.iload_n 3, 1) by decide +kernel) rfl (lv_at hl 0 rfl) ?_
  refine lv_iconst (v := 1) hx1 hb (show decode code 311 = .ok (.iconst 1, 1) by decide +kernel) (by decide) ?_
  refine lv_iadd hx1 hb (show decode code 312 = .ok (.iadd, 1) by decide +kernel) ?_
  refine va_sld hx1 hb hX hbl hbA hSS n1 (show decode code 313 = .ok (.iaload, 1) by decide +kernel) ?_
  refine lawV (y := 146) (c := 0) (as := [(xs (x3 + 1).toNatClampNeg)]) (rr := []) hx lm_X9_ticks (by rw [hR.1.1]; rfl) hok E1 (g1.trans hR.1.1.symm) (by decide) hl.1 hP hSS (by rw [hR.1.1]; rfl) (by rw [hR.1.1]) (by rw [hR.1.1]; exact ⟨by decide, by decide +kernel⟩) (show decode code 314 = .ok (.invokevirtual 48, 3) by decide +kernel) (fun H1 locs1 hP1 hS1 => ?_)
  show W p l e room_1 s m #[Value.ref b] below meth c0 H1 locs1 72 (hSl hLam) Q (F0 m 317 ls [.int r])
  refine lv_aload_n hx1 hb (show decode code 317 = .ok (.aload_n 2, 1) by decide +kernel) rfl (lv_at hl 1 rfl) ?_
  refine lv_aload_n hx1 hb (show decode code 318 = .ok (.aload_n 0, 1) by decide +kernel) rfl (lv_at hl 3 rfl) ?_
  refine lv_iload_n hx1 hb (show decode code 319 = .ok (.iload_n 3, 1) by decide +kernel) rfl (lv_at hl 0 rfl) ?_
  refine lv_iconst (v := 1) hx1 hb (show decode code 320 = .ok (.iconst 1, 1) by decide +kernel) (by decide) ?_
  refine lv_iadd hx1 hb (show decode code 321 = .ok (.iadd, 1) by decide +kernel) ?_
  refine va_sld hx1 hb hX hbl hbA hS1 n1 (show decode code 322 = .ok (.iaload, 1) by decide +kernel) ?_
  refine lawV (y := 153) (c := 57) (as := [(xs (x3 + 1).toNatClampNeg)]) (rr := [r]) hx lm_X10_ticks (by rw [g1]; rfl) g2 E2 (R2.1.1.trans g1.symm) (show 1 ≤ 8 by decide) hl.1 hP1 hS1 (by rw [g1]; rfl) (by rw [g1]) (by rw [g1]; exact ⟨by decide, by decide +kernel⟩) (show decode code 323 = .ok (.invokevirtual 51, 3) by decide +kernel) (fun H2 locs2 hP2 hS2 => ?_)
  show W p l e room_1 s m #[Value.ref b] below meth c0 H2 locs2 72 (hSl hLam) Q (F0 m 326 ls [.int r, .int r])
  exact lv_icmp_eq (tgt := 646) hx1 hb (show decode code 326 = .ok (.if_icmp .eq 320, 3) by decide +kernel) (by decide) (fun _ => k S2 H2 locs2 R2 g3 hP2 hS2) (fun q => absurd rfl q)
set_option maxHeartbeats 4000000 in
theorem lw_b9 {D : va_G} {cs : ClassId × ClassId × ClassId} {p : Program} {l : Launch} {e : Env} {s : State} {m : MethodId} {below : List Frame} {meth : Method} {c0 : Code} {Q : State → Prop} {b L : Nat} {xs : Nat → Int32} (hx : lawX D cs p s m #[Value.ref b] c0) (hX : va_X b L xs s s.heap) (hbl : b < s.heap.size) (hL : L ≤ 2048) {S : hS} (hR : Rel S) (hok : okS S) {x3 : Int32} {i : Nat} (e3 : x3 = nI i) (hi : i + 4 ≤ L) {ls : Array Slot} {H : Heap} {locs : List Loc} (hl : lv_has ls 4 (lwL b s x3)) (hP : va_P D vwCl (hWd s.heap.size cs S) H) (hSS : va_S (fun q => s.heap.size ≤ q) s.heap H locs) (k : ∀ (S2 : hS) (H1 : Heap) (locs1 : List Loc), Rel S2 → okS S2 → va_P D vwCl (hWd s.heap.size cs S2) H1 → va_S (fun q => s.heap.size ≤ q) s.heap H1 locs1 → W p l e room_1 s m #[Value.ref b] below meth c0 H1 locs1 72 (hSl hLam) Q (F0 m 646 ls [])) : W p l e room_1 s m #[Value.ref b] below meth c0 H locs 72 (hSl hLam) Q (F0 m 331 ls []) := by
  obtain ⟨r, S1, S2, E1, E2, R2⟩ := a_undo hR 
  obtain ⟨g1, g2, g3⟩ := law_mid (as := []) lm_X9_undo lm_X10_undo hok hR.1.1 R2.1.1 E1 E2
  have hx1 := hx.1.1
  have hb := hx.1.2.1
  have hbA : ¬ (fun q : Nat => s.heap.size ≤ q) b := Nat.not_le.mpr hbl
  refine lv_aload_n hx1 hb (show decode code 331 = .ok (.aload_n 1, 1) by decide +kernel) rfl (lv_at hl 2 rfl) ?_
  refine lawV (y := 147) (c := 0) (as := []) (rr := []) hx lm_X9_undo (by rw [hR.1.1]; rfl) hok E1 (g1.trans hR.1.1.symm) (by decide) hl.1 hP hSS (by rw [hR.1.1]; rfl) (by rw [hR.1.1]) (by rw [hR.1.1]; exact ⟨by decide, by decide +kernel⟩) (show decode code 332 = .ok (.invokevirtual 52, 3) by decide +kernel) (fun H1 locs1 hP1 hS1 => ?_)
  show W p l e room_1 s m #[Value.ref b] below meth c0 H1 locs1 72 (hSl hLam) Q (F0 m 335 ls [.int r])
  refine lv_aload_n hx1 hb (show decode code 335 = .ok (.aload_n 2, 1) by decide +kernel) rfl (lv_at hl 1 rfl) ?_
  refine lawV (y := 23) (c := 57) (as := []) (rr := [r]) hx lm_X10_undo (by rw [g1]; rfl) g2 E2 (R2.1.1.trans g1.symm) (show 1 ≤ 8 by decide) hl.1 hP1 hS1 (by rw [g1]; rfl) (by rw [g1]) (by rw [g1]; exact ⟨by decide, by decide +kernel⟩) (show decode code 336 = .ok (.invokevirtual 55, 3) by decide +kernel) (fun H2 locs2 hP2 hS2 => ?_)
  show W p l e room_1 s m #[Value.ref b] below meth c0 H2 locs2 72 (hSl hLam) Q (F0 m 339 ls [.int r, .int r])
  exact lv_icmp_eq (tgt := 646) hx1 hb (show decode code 339 = .ok (.if_icmp .eq 307, 3) by decide +kernel) (by decide) (fun _ => k S2 H2 locs2 R2 g3 hP2 hS2) (fun q => absurd rfl q)
set_option maxHeartbeats 4000000 in
theorem lw_b10 {D : va_G} {cs : ClassId × ClassId × ClassId} {p : Program} {l : Launch} {e : Env} {s : State} {m : MethodId} {below : List Frame} {meth : Method} {c0 : Code} {Q : State → Prop} {b L : Nat} {xs : Nat → Int32} (hx : lawX D cs p s m #[Value.ref b] c0) (hX : va_X b L xs s s.heap) (hbl : b < s.heap.size) (hL : L ≤ 2048) {S : hS} (hR : Rel S) (hok : okS S) {x3 : Int32} {i : Nat} (e3 : x3 = nI i) (hi : i + 4 ≤ L) {ls : Array Slot} {H : Heap} {locs : List Loc} (hl : lv_has ls 4 (lwL b s x3)) (hP : va_P D vwCl (hWd s.heap.size cs S) H) (hSS : va_S (fun q => s.heap.size ≤ q) s.heap H locs) (k : ∀ (S2 : hS) (H1 : Heap) (locs1 : List Loc), Rel S2 → okS S2 → va_P D vwCl (hWd s.heap.size cs S2) H1 → va_S (fun q => s.heap.size ≤ q) s.heap H1 locs1 → W p l e room_1 s m #[Value.ref b] below meth c0 H1 locs1 72 (hSl hLam) Q (F0 m 646 ls [])) : W p l e room_1 s m #[Value.ref b] below meth c0 H locs 72 (hSl hLam) Q (F0 m 344 ls []) := by
  obtain ⟨r, S1, S2, E1, E2, R2⟩ := a_now hR (xs (x3 + 1).toNatClampNeg)
  obtain ⟨g1, g2, g3⟩ := law_mid (as := [(xs (x3 + 1).toNatClampNeg)]) lm_X9_now lm_X10_now hok hR.1.1 R2.1.1 E1 E2
  have hx1 := hx.1.1
  have hb := hx.1.2.1
  have hbA : ¬ (fun q : Nat => s.heap.size ≤ q) b := Nat.not_le.mpr hbl
  have n1 : vp_in (x3 + 1) L := by rw [e3, show nI i + 1 = nI (i + 1) from add_lit (x := 1) (b := 1) rfl]; exact vp_in_nI (by omega) (by omega)
  refine lv_aload_n hx1 hb (show decode code 344 = .ok (.aload_n 1, 1) by decide +kernel) rfl (lv_at hl 2 rfl) ?_
  refine lv_aload_n hx1 hb (show decode code 345 = .ok (.aload_n 0, 1) by decide +kernel) rfl (lv_at hl 3 rfl) ?_
  refine lv_iload_n hx1 hb (show decode code 346 = .ok (.iload_n 3, 1) by decide +kernel) rfl (lv_at hl 0 rfl) ?_
  refine lv_iconst (v := 1) hx1 hb (show decode code 347 = .ok (.iconst 1, 1) by decide +kernel) (by decide) ?_
  refine lv_iadd hx1 hb (show decode code 348 = .ok (.iadd, 1) by decide +kernel) ?_
  refine va_sld hx1 hb hX hbl hbA hSS n1 (show decode code 349 = .ok (.iaload, 1) by decide +kernel) ?_
  refine lawV (y := 128) (c := 0) (as := [(xs (x3 + 1).toNatClampNeg)]) (rr := []) hx lm_X9_now (by rw [hR.1.1]; rfl) hok E1 (g1.trans hR.1.1.symm) (by decide) hl.1 hP hSS (by rw [hR.1.1]; rfl) (by rw [hR.1.1]) (by rw [hR.1.1]; exact ⟨by decide, by decide +kernel⟩) (show decode code 350 = .ok (.invokevirtual 56, 3) by decide +kernel) (fun H1 locs1 hP1 hS1 => ?_)
  show W p l e room_1 s m #[Value.ref b] below meth c0 H1 locs1 72 (hSl hLam) Q (F0 m 353 ls [.int r])
  refine lv_aload_n hx1 hb (show decode code 353 = .ok (.aload_n 2, 1) by decide +kernel) rfl (lv_at hl 1 rfl) ?_
  refine lv_aload_n hx1 hb (show decode code 354 = .ok (.aload_n 0, 1) by decide +kernel) rfl (lv_at hl 3 rfl) ?_
  refine lv_iload_n hx1 hb (show decode code 355 = .ok (.iload_n 3, 1) by decide +kernel) rfl (lv_at hl 0 rfl) ?_
  refine lv_iconst (v := 1) hx1 hb (show decode code 356 = .ok (.iconst 1, 1) by decide +kernel) (by decide) ?_
  refine lv_iadd hx1 hb (show decode code 357 = .ok (.iadd, 1) by decide +kernel) ?_
  refine va_sld hx1 hb hX hbl hbA hS1 n1 (show decode code 358 = .ok (.iaload, 1) by decide +kernel) ?_
  refine lawV (y := 118) (c := 57) (as := [(xs (x3 + 1).toNatClampNeg)]) (rr := [r]) hx lm_X10_now (by rw [g1]; rfl) g2 E2 (R2.1.1.trans g1.symm) (show 1 ≤ 8 by decide) hl.1 hP1 hS1 (by rw [g1]; rfl) (by rw [g1]) (by rw [g1]; exact ⟨by decide, by decide +kernel⟩) (show decode code 359 = .ok (.invokevirtual 59, 3) by decide +kernel) (fun H2 locs2 hP2 hS2 => ?_)
  show W p l e room_1 s m #[Value.ref b] below meth c0 H2 locs2 72 (hSl hLam) Q (F0 m 362 ls [.int r, .int r])
  exact lv_icmp_eq (tgt := 646) hx1 hb (show decode code 362 = .ok (.if_icmp .eq 284, 3) by decide +kernel) (by decide) (fun _ => k S2 H2 locs2 R2 g3 hP2 hS2) (fun q => absurd rfl q)
set_option maxHeartbeats 4000000 in
theorem lw_b11 {D : va_G} {cs : ClassId × ClassId × ClassId} {p : Program} {l : Launch} {e : Env} {s : State} {m : MethodId} {below : List Frame} {meth : Method} {c0 : Code} {Q : State → Prop} {b L : Nat} {xs : Nat → Int32} (hx : lawX D cs p s m #[Value.ref b] c0) (hX : va_X b L xs s s.heap) (hbl : b < s.heap.size) (hL : L ≤ 2048) {S : hS} (hR : Rel S) (hok : okS S) {x3 : Int32} {i : Nat} (e3 : x3 = nI i) (hi : i + 4 ≤ L) {ls : Array Slot} {H : Heap} {locs : List Loc} (hl : lv_has ls 4 (lwL b s x3)) (hP : va_P D vwCl (hWd s.heap.size cs S) H) (hSS : va_S (fun q => s.heap.size ≤ q) s.heap H locs) (k : ∀ (S2 : hS) (H1 : Heap) (locs1 : List Loc), Rel S2 → okS S2 → va_P D vwCl (hWd s.heap.size cs S2) H1 → va_S (fun q => s.heap.size ≤ q) s.heap H1 locs1 → W p l e room_1 s m #[Value.ref b] below meth c0 H1 locs1 72 (hSl hLam) Q (F0 m 646 ls [])) : W p l e room_1 s m #[Value.ref b] below meth c0 H locs 72 (hSl hLam) Q (F0 m 367 ls []) := by
  obtain ⟨r, S1, S2, E1, E2, R2⟩ := a_setting hR (xs (x3 + 1).toNatClampNeg)
  obtain ⟨g1, g2, g3⟩ := law_mid (as := [(xs (x3 + 1).toNatClampNeg)]) lm_X9_setting lm_X10_setting hok hR.1.1 R2.1.1 E1 E2
  have hx1 := hx.1.1
  have hb := hx.1.2.1
  have hbA : ¬ (fun q : Nat => s.heap.size ≤ q) b := Nat.not_le.mpr hbl
  have n1 : vp_in (x3 + 1) L := by rw [e3, show nI i + 1 = nI (i + 1) from add_lit (x := 1) (b := 1) rfl]; exact vp_in_nI (by omega) (by omega)
  refine lv_aload_n hx1 hb (show decode code 367 = .ok (.aload_n 1, 1) by decide +kernel) rfl (lv_at hl 2 rfl) ?_
  refine lv_aload_n hx1 hb (show decode code 368 = .ok (.aload_n 0, 1) by decide +kernel) rfl (lv_at hl 3 rfl) ?_
  refine lv_iload_n hx1 hb (show decode code 369 = .ok (.iload_n 3, 1) by decide +kernel) rfl (lv_at hl 0 rfl) ?_
  refine lv_iconst (v := 1) hx1 hb (show decode code 370 = .ok (.iconst 1, 1) by decide +kernel) (by decide) ?_
  refine lv_iadd hx1 hb (show decode code 371 = .ok (.iadd, 1) by decide +kernel) ?_
  refine va_sld hx1 hb hX hbl hbA hSS n1 (show decode code 372 = .ok (.iaload, 1) by decide +kernel) ?_
  refine lawV (y := 95) (c := 0) (as := [(xs (x3 + 1).toNatClampNeg)]) (rr := []) hx lm_X9_setting (by rw [hR.1.1]; rfl) hok E1 (g1.trans hR.1.1.symm) (by decide) hl.1 hP hSS (by rw [hR.1.1]; rfl) (by rw [hR.1.1]) (by rw [hR.1.1]; exact ⟨by decide, by decide +kernel⟩) (show decode code 373 = .ok (.invokevirtual 60, 3) by decide +kernel) (fun H1 locs1 hP1 hS1 => ?_)
  show W p l e room_1 s m #[Value.ref b] below meth c0 H1 locs1 72 (hSl hLam) Q (F0 m 376 ls [.int r])
  refine lv_aload_n hx1 hb (show decode code 376 = .ok (.aload_n 2, 1) by decide +kernel) rfl (lv_at hl 1 rfl) ?_
  refine lv_aload_n hx1 hb (show decode code 377 = .ok (.aload_n 0, 1) by decide +kernel) rfl (lv_at hl 3 rfl) ?_
  refine lv_iload_n hx1 hb (show decode code 378 = .ok (.iload_n 3, 1) by decide +kernel) rfl (lv_at hl 0 rfl) ?_
  refine lv_iconst (v := 1) hx1 hb (show decode code 379 = .ok (.iconst 1, 1) by decide +kernel) (by decide) ?_
  refine lv_iadd hx1 hb (show decode code 380 = .ok (.iadd, 1) by decide +kernel) ?_
  refine va_sld hx1 hb hX hbl hbA hS1 n1 (show decode code 381 = .ok (.iaload, 1) by decide +kernel) ?_
  refine lawV (y := 69) (c := 57) (as := [(xs (x3 + 1).toNatClampNeg)]) (rr := [r]) hx lm_X10_setting (by rw [g1]; rfl) g2 E2 (R2.1.1.trans g1.symm) (show 1 ≤ 8 by decide) hl.1 hP1 hS1 (by rw [g1]; rfl) (by rw [g1]) (by rw [g1]; exact ⟨by decide, by decide +kernel⟩) (show decode code 382 = .ok (.invokevirtual 63, 3) by decide +kernel) (fun H2 locs2 hP2 hS2 => ?_)
  show W p l e room_1 s m #[Value.ref b] below meth c0 H2 locs2 72 (hSl hLam) Q (F0 m 385 ls [.int r, .int r])
  exact lv_icmp_eq (tgt := 646) hx1 hb (show decode code 385 = .ok (.if_icmp .eq 261, 3) by decide +kernel) (by decide) (fun _ => k S2 H2 locs2 R2 g3 hP2 hS2) (fun q => absurd rfl q)
