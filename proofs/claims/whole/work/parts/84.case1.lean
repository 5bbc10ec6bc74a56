/-! The law, case by case. -/
abbrev lwL (b : Nat) (s : State) (x3 : Int32) : List (Nat × Value) := [(3, .int x3), (2, .ref (s.heap.size + 57)), (1, .ref (s.heap.size + 0)), (0, .ref b)]
set_option maxHeartbeats 4000000 in
theorem lw_b0 {D : va_G} {cs : ClassId × ClassId × ClassId} {p : Program} {l : Launch} {e : Env} {s : State} {m : MethodId} {below : List Frame} {meth : Method} {c0 : Code} {Q : State → Prop} {b L : Nat} {xs : Nat → Int32} (hx : lawX D cs p s m #[Value.ref b] c0) (hX : va_X b L xs s s.heap) (hbl : b < s.heap.size) (hL : L ≤ 2048) {S : hS} (hR : Rel S) (hok : okS S) {x3 : Int32} {i : Nat} (e3 : x3 = nI i) (hi : i + 4 ≤ L) {ls : Array Slot} {H : Heap} {locs : List Loc} (hl : lv_has ls 4 (lwL b s x3)) (hP : va_P D vwCl (hWd s.heap.size cs S) H) (hSS : va_S (fun q => s.heap.size ≤ q) s.heap H locs) (k : ∀ (S2 : hS) (H1 : Heap) (locs1 : List Loc), Rel S2 → okS S2 → va_P D vwCl (hWd s.heap.size cs S2) H1 → va_S (fun q => s.heap.size ≤ q) s.heap H1 locs1 → W p l e room_1 s m #[Value.ref b] below meth c0 H1 locs1 72 (hSl hLam) Q (F0 m 646 ls [])) : W p l e room_1 s m #[Value.ref b] below meth c0 H locs 72 (hSl hLam) Q (F0 m 144 ls []) := by
  obtain ⟨r, S1, S2, E1, E2, R2⟩ := a_type hR (xs (x3 + 1).toNatClampNeg)
  obtain ⟨g1, g2, g3⟩ := law_mid (as := [(xs (x3 + 1).toNatClampNeg)]) lm_X9_type lm_X10_type hok hR.1.1 R2.1.1 E1 E2
  have hx1 := hx.1.1
  have hb := hx.1.2.1
  have hbA : ¬ (fun q : Nat => s.heap.size ≤ q) b := Nat.not_le.mpr hbl
  have n1 : vp_in (x3 + 1) L := by rw [e3, show nI i + 1 = nI (i + 1) from add_lit (x := 1) (b := 1) rfl]; exact vp_in_nI (by omega) (by omega)
  refine lv_aload_n hx1 hb (show decode code 144 = .ok (.aload_n 1, 1) by decide +kernel) rfl (lv_at hl 2 rfl) ?_
  refine lv_aload_n hx1 hb (show decode code 145 = .ok (.aload_n 0, 1) by decide +kernel) rfl (lv_at hl 3 rfl) ?_
  refine lv_iload_n hx1 hb (show decode code 146 = .ok (.iload_n 3, 1) by decide +kernel) rfl (lv_at hl 0 rfl) ?_
  refine lv_iconst (v := 1) hx1 hb (show decode code 147 = .ok (.iconst 1, 1) by decide +kernel) (by decide) ?_
  refine lv_iadd hx1 hb (show decode code 148 = .ok (.iadd, 1) by decide +kernel) ?_
  refine va_sld hx1 hb hX hbl hbA hSS n1 (show decode code 149 = .ok (.iaload, 1) by decide +kernel) ?_
  refine lawV (y := 96) (c := 0) (as := [(xs (x3 + 1).toNatClampNeg)]) (rr := []) hx lm_X9_type (by rw [hR.1.1]; rfl) hok E1 (g1.trans hR.1.1.symm) (by decide) hl.1 hP hSS (by rw [hR.1.1]; rfl) (by rw [hR.1.1]) (by rw [hR.1.1]; exact ⟨by decide, by decide +kernel⟩) (show decode code 150 = .ok (.invokevirtual 13, 3) by decide +kernel) (fun H1 locs1 hP1 hS1 => ?_)
  show W p l e room_1 s m #[Value.ref b] below meth c0 H1 locs1 72 (hSl hLam) Q (F0 m 153 ls [.int r])
  refine lv_aload_n hx1 hb (show decode code 153 = .ok (.aload_n 2, 1) by decide +kernel) rfl (lv_at hl 1 rfl) ?_
  refine lv_aload_n hx1 hb (show decode code 154 = .ok (.aload_n 0, 1) by decide +kernel) rfl (lv_at hl 3 rfl) ?_
  refine lv_iload_n hx1 hb (show decode code 155 = .ok (.iload_n 3, 1) by decide +kernel) rfl (lv_at hl 0 rfl) ?_
  refine lv_iconst (v := 1) hx1 hb (show decode code 156 = .ok (.iconst 1, 1) by decide +kernel) (by decide) ?_
  refine lv_iadd hx1 hb (show decode code 157 = .ok (.iadd, 1) by decide +kernel) ?_
  refine va_sld hx1 hb hX hbl hbA hS1 n1 (show decode code 158 = .ok (.iaload, 1) by decide +kernel) ?_
  refine lawV (y := 70) (c := 57) (as := [(xs (x3 + 1).toNatClampNeg)]) (rr := [r]) hx lm_X10_type (by rw [g1]; rfl) g2 E2 (R2.1.1.trans g1.symm) (show 1 ≤ 8 by decide) hl.1 hP1 hS1 (by rw [g1]; rfl) (by rw [g1]) (by rw [g1]; exact ⟨by decide, by decide +kernel⟩) (show decode code 159 = .ok (.invokevirtual 17, 3) by decide +kernel) (fun H2 locs2 hP2 hS2 => ?_)
  show W p l e room_1 s m #[Value.ref b] below meth c0 H2 locs2 72 (hSl hLam) Q (F0 m 162 ls [.int r, .int r])
  exact lv_icmp_eq (tgt := 646) hx1 hb (show decode code 162 = .ok (.if_icmp .eq 484, 3) by decide +kernel) (by decide) (fun _ => k S2 H2 locs2 R2 g3 hP2 hS2) (fun q => absurd rfl q)
set_option maxHeartbeats 4000000 in
theorem lw_b1 {D : va_G} {cs : ClassId × ClassId × ClassId} {p : Program} {l : Launch} {e : Env} {s : State} {m : MethodId} {below : List Frame} {meth : Method} {c0 : Code} {Q : State → Prop} {b L : Nat} {xs : Nat → Int32} (hx : lawX D cs p s m #[Value.ref b] c0) (hX : va_X b L xs s s.heap) (hbl : b < s.heap.size) (hL : L ≤ 2048) {S : hS} (hR : Rel S) (hok : okS S) {x3 : Int32} {i : Nat} (e3 : x3 = nI i) (hi : i + 4 ≤ L) {ls : Array Slot} {H : Heap} {locs : List Loc} (hl : lv_has ls 4 (lwL b s x3)) (hP : va_P D vwCl (hWd s.heap.size cs S) H) (hSS : va_S (fun q => s.heap.size ≤ q) s.heap H locs) (k : ∀ (S2 : hS) (H1 : Heap) (locs1 : List Loc), Rel S2 → okS S2 → va_P D vwCl (hWd s.heap.size cs S2) H1 → va_S (fun q => s.heap.size ≤ q) s.heap H1 locs1 → W p l e room_1 s m #[Value.ref b] below meth c0 H1 locs1 72 (hSl hLam) Q (F0 m 646 ls [])) : W p l e room_1 s m #[Value.ref b] below meth c0 H locs 72 (hSl hLam) Q (F0 m 167 ls []) := by
  obtain ⟨r, S1, S2, E1, E2, R2⟩ := a_clear hR 
  obtain ⟨g1, g2, g3⟩ := law_mid (as := []) lm_X9_clear lm_X10_clear hok hR.1.1 R2.1.1 E1 E2
  have hx1 := hx.1.1
  have hb := hx.1.2.1
  have hbA : ¬ (fun q : Nat => s.heap.size ≤ q) b := Nat.not_le.mpr hbl
  refine lv_aload_n hx1 hb (show decode code 167 = .ok (.aload_n 1, 1) by decide +kernel) rfl (lv_at hl 2 rfl) ?_
  refine lawV (y := 49) (c := 0) (as := []) (rr := []) hx lm_X9_clear (by rw [hR.1.1]; rfl) hok E1 (g1.trans hR.1.1.symm) (by decide) hl.1 hP hSS (by rw [hR.1.1]; rfl) (by rw [hR.1.1]) (by rw [hR.1.1]; exact ⟨by decide, by decide +kernel⟩) (show decode code 168 = .ok (.invokevirtual 18, 3) by decide +kernel) (fun H1 locs1 hP1 hS1 => ?_)
  show W p l e room_1 s m #[Value.ref b] below meth c0 H1 locs1 72 (hSl hLam) Q (F0 m 171 ls [.int r])
  refine lv_aload_n hx1 hb (show decode code 171 = .ok (.aload_n 2, 1) by decide +kernel) rfl (lv_at hl 1 rfl) ?_
  refine lawV (y := 7) (c := 57) (as := []) (rr := [r]) hx lm_X10_clear (by rw [g1]; rfl) g2 E2 (R2.1.1.trans g1.symm) (show 1 ≤ 8 by decide) hl.1 hP1 hS1 (by rw [g1]; rfl) (by rw [g1]) (by rw [g1]; exact ⟨by decide, by decide +kernel⟩) (show decode code 172 = .ok (.invokevirtual 22, 3) by decide +kernel) (fun H2 locs2 hP2 hS2 => ?_)
  show W p l e room_1 s m #[Value.ref b] below meth c0 H2 locs2 72 (hSl hLam) Q (F0 m 175 ls [.int r, .int r])
  exact lv_icmp_eq (tgt := 646) hx1 hb (show decode code 175 = .ok (.if_icmp .eq 471, 3) by decide +kernel) (by decide) (fun _ => k S2 H2 locs2 R2 g3 hP2 hS2) (fun q => absurd rfl q)
set_option maxHeartbeats 4000000 in
theorem lw_b2 {D : va_G} {cs : ClassId × ClassId × ClassId} {p : Program} {l : Launch} {e : Env} {s : State} {m : MethodId} {below : List Frame} {meth : Method} {c0 : Code} {Q : State → Prop} {b L : Nat} {xs : Nat → Int32} (hx : lawX D cs p s m #[Value.ref b] c0) (hX : va_X b L xs s s.heap) (hbl : b < s.heap.size) (hL : L ≤ 2048) {S : hS} (hR : Rel S) (hok : okS S) {x3 : Int32} {i : Nat} (e3 : x3 = nI i) (hi : i + 4 ≤ L) {ls : Array Slot} {H : Heap} {locs : List Loc} (hl : lv_has ls 4 (lwL b s x3)) (hP : va_P D vwCl (hWd s.heap.size cs S) H) (hSS : va_S (fun q => s.heap.size ≤ q) s.heap H locs) (k : ∀ (S2 : hS) (H1 : Heap) (locs1 : List Loc), Rel S2 → okS S2 → va_P D vwCl (hWd s.heap.size cs S2) H1 → va_S (fun q => s.heap.size ≤ q) s.heap H1 locs1 → W p l e room_1 s m #[Value.ref b] below meth c0 H1 locs1 72 (hSl hLam) Q (F0 m 646 ls [])) : W p l e room_1 s m #[Value.ref b] below meth c0 H locs 72 (hSl hLam) Q (F0 m 180 ls []) := by
  obtain ⟨r, S1, S2, E1, E2, R2⟩ := a_tells hR 
  obtain ⟨g1, g2, g3⟩ := law_mid (as := []) lm_X9_tells lm_X10_tells hok hR.1.1 R2.1.1 E1 E2
  have hx1 := hx.1.1
  have hb := hx.1.2.1
  have hbA : ¬ (fun q : Nat => s.heap.size ≤ q) b := Nat.not_le.mpr hbl
  refine lv_aload_n hx1 hb (show decode code 180 = .ok (.aload_n 1, 1) by decide +kernel) rfl (lv_at hl 2 rfl) ?_
  refine lawV (y := 155) (c := 0) (as := []) (rr := []) hx lm_X9_tells (by rw [hR.1.1]; rfl) hok E1 (g1.trans hR.1.1.symm) (by decide) hl.1 hP hSS (by rw [hR.1.1]; rfl) (by rw [hR.1.1]) (by rw [hR.1.1]; exact ⟨by decide, by decide +kernel⟩) (show decode code 181 = .ok (.invokevirtual 23, 3) by decide +kernel) (fun H1 locs1 hP1 hS1 => ?_)
  show W p l e room_1 s m #[Value.ref b] below meth c0 H1 locs1 72 (hSl hLam) Q (F0 m 184 ls [.int r])
  refine lv_aload_n hx1 hb (show decode code 184 = .ok (.aload_n 2, 1) by decide +kernel) rfl (lv_at hl 1 rfl) ?_
  refine lawV (y := 152) (c := 57) (as := []) (rr := [r]) hx lm_X10_tells (by rw [g1]; rfl) g2 E2 (R2.1.1.trans g1.symm) (show 1 ≤ 8 by decide) hl.1 hP1 hS1 (by rw [g1]; rfl) (by rw [g1]) (by rw [g1]; exact ⟨by decide, by decide +kernel⟩) (show decode code 185 = .ok (.invokevirtual 26, 3) by decide +kernel) (fun H2 locs2 hP2 hS2 => ?_)
  show W p l e room_1 s m #[Value.ref b] below meth c0 H2 locs2 72 (hSl hLam) Q (F0 m 188 ls [.int r, .int r])
  exact lv_icmp_eq (tgt := 646) hx1 hb (show decode code 188 = .ok (.if_icmp .eq 458, 3) by decide +kernel) (by decide) (fun _ => k S2 H2 locs2 R2 g3 hP2 hS2) (fun q => absurd rfl q)
set_option maxHeartbeats 4000000 in
theorem lw_b3 {D : va_G} {cs : ClassId × ClassId × ClassId} {p : Program} {l : Launch} {e : Env} {s : State} {m : MethodId} {below : List Frame} {meth : Method} {c0 : Code} {Q : State → Prop} {b L : Nat} {xs : Nat → Int32} (hx : lawX D cs p s m #[Value.ref b] c0) (hX : va_X b L xs s s.heap) (hbl : b < s.heap.size) (hL : L ≤ 2048) {S : hS} (hR : Rel S) (hok : okS S) {x3 : Int32} {i : Nat} (e3 : x3 = nI i) (hi : i + 4 ≤ L) {ls : Array Slot} {H : Heap} {locs : List Loc} (hl : lv_has ls 4 (lwL b s x3)) (hP : va_P D vwCl (hWd s.heap.size cs S) H) (hSS : va_S (fun q => s.heap.size ≤ q) s.heap H locs) (k : ∀ (S2 : hS) (H1 : Heap) (locs1 : List Loc), Rel S2 → okS S2 → va_P D vwCl (hWd s.heap.size cs S2) H1 → va_S (fun q => s.heap.size ≤ q) s.heap H1 locs1 → W p l e room_1 s m #[Value.ref b] below meth c0 H1 locs1 72 (hSl hLam) Q (F0 m 646 ls [])) : W p l e room_1 s m #[Value.ref b] below meth c0 H locs 72 (hSl hLam) Q (F0 m 193 ls []) := by
  obtain ⟨r, S1, S2, E1, E2, R2⟩ := a_blows hR (xs (x3 + 1).toNatClampNeg) (xs (x3 + 2).toNatClampNeg)
  obtain ⟨g1, g2, g3⟩ := law_mid (as := [(xs (x3 + 1).toNatClampNeg), (xs (x3 + 2).toNatClampNeg)]) lm_X9_blows lm_X10_blows hok hR.1.1 R2.1.1 E1 E2
  have hx1 := hx.1.1
  have hb := hx.1.2.1
  have hbA : ¬ (fun q : Nat => s.heap.size ≤ q) b := Nat.not_le.mpr hbl
  have n1 : vp_in (x3 + 1) L := by rw [e3, show nI i + 1 = nI (i + 1) from add_lit (x := 1) (b := 1) rfl]; exact vp_in_nI (by omega) (by omega)
  have n2 : vp_in (x3 + 2) L := by rw [e3, show nI i + 2 = nI (i + 2) from add_lit (x := 2) (b := 2) rfl]; exact vp_in_nI (by omega) (by omega)
  refine lv_aload_n hx1 hb (show decode code 193 = .ok (.aload_n 1, 1) by decide +kernel) rfl (lv_at hl 2 rfl) ?_
  refine lv_aload_n hx1 hb (show decode code 194 = .ok (.aload_n 0, 1) by decide +kernel) rfl (lv_at hl 3 rfl) ?_
  refine lv_iload_n hx1 hb (show decode code 195 = .ok (.iload_n 3, 1) by decide +kernel) rfl (lv_at hl 0 rfl) ?_
  refine lv_iconst (v := 1) hx1 hb (show decode code 196 = .ok (.iconst 1, 1) by decide +kernel) (by decide) ?_
  refine lv_iadd hx1 hb (show decode code 197 = .ok (.iadd, 1) by decide +kernel) ?_
  refine va_sld hx1 hb hX hbl hbA hSS n1 (show decode code 198 = .ok (.iaload, 1) by decide +kernel) ?_
  refine lv_aload_n hx1 hb (show decode code 199 = .ok (.aload_n 0, 1) by decide +kernel) rfl (lv_at hl 3 rfl) ?_
  refine lv_iload_n hx1 hb (show decode code 200 = .ok (.iload_n 3, 1) by decide +kernel) rfl (lv_at hl 0 rfl) ?_
  refine lv_iconst (v := 2) hx1 hb (show decode code 201 = .ok (.iconst 2, 1) by decide +kernel) (by decide) ?_
  refine lv_iadd hx1 hb (show decode code 202 = .ok (.iadd, 1) by decide +kernel) ?_
  refine va_sld hx1 hb hX hbl hbA hSS n2 (show decode code 203 = .ok (.iaload, 1) by decide +kernel) ?_
  refine lawV (y := 136) (c := 0) (as := [(xs (x3 + 1).toNatClampNeg), (xs (x3 + 2).toNatClampNeg)]) (rr := []) hx lm_X9_blows (by rw [hR.1.1]; rfl) hok E1 (g1.trans hR.1.1.symm) (by decide) hl.1 hP hSS (by rw [hR.1.1]; rfl) (by rw [hR.1.1]) (by rw [hR.1.1]; exact ⟨by decide, by decide +kernel⟩) (show decode code 204 = .ok (.invokevirtual 27, 3) by decide +kernel) (fun H1 locs1 hP1 hS1 => ?_)
  show W p l e room_1 s m #[Value.ref b] below meth c0 H1 locs1 72 (hSl hLam) Q (F0 m 207 ls [.int r])
  refine lv_aload_n hx1 hb (show decode code 207 = .ok (.aload_n 2, 1) by decide +kernel) rfl (lv_at hl 1 rfl) ?_
  refine lv_aload_n hx1 hb (show decode code 208 = .ok (.aload_n 0, 1) by decide +kernel) rfl (lv_at hl 3 rfl) ?_
  refine lv_iload_n hx1 hb (show decode code 209 = .ok (.iload_n 3, 1) by decide +kernel) rfl (lv_at hl 0 rfl) ?_
  refine lv_iconst (v := 1) hx1 hb (show decode code 210 = .ok (.iconst 1, 1) by decide +kernel) (by decide) ?_
  refine lv_iadd hx1 hb (show decode code 211 = .ok (.iadd, 1) by decide +kernel) ?_
  refine va_sld hx1 hb hX hbl hbA hS1 n1 (show decode code 212 = .ok (.iaload, 1) by decide +kernel) ?_
  refine lv_aload_n hx1 hb (show decode code 213 = .ok (.aload_n 0, 1) by decide +kernel) rfl (lv_at hl 3 rfl) ?_
  refine lv_iload_n hx1 hb (show decode code 214 = .ok (.iload_n 3, 1) by decide +kernel) rfl (lv_at hl 0 rfl) ?_
  refine lv_iconst (v := 2) hx1 hb (show decode code 215 = .ok (.iconst 2, 1) by decide +kernel) (by decide) ?_
  refine lv_iadd hx1 hb (show decode code 216 = .ok (.iadd, 1) by decide +kernel) ?_
  refine va_sld hx1 hb hX hbl hbA hS1 n2 (show decode code 217 = .ok (.iaload, 1) by decide +kernel) ?_
  refine lawV (y := 57) (c := 57) (as := [(xs (x3 + 1).toNatClampNeg), (xs (x3 + 2).toNatClampNeg)]) (rr := [r]) hx lm_X10_blows (by rw [g1]; rfl) g2 E2 (R2.1.1.trans g1.symm) (show 1 ≤ 8 by decide) hl.1 hP1 hS1 (by rw [g1]; rfl) (by rw [g1]) (by rw [g1]; exact ⟨by decide, by decide +kernel⟩) (show decode code 218 = .ok (.invokevirtual 31, 3) by decide +kernel) (fun H2 locs2 hP2 hS2 => ?_)
  show W p l e room_1 s m #[Value.ref b] below meth c0 H2 locs2 72 (hSl hLam) Q (F0 m 221 ls [.int r, .int r])
  exact lv_icmp_eq (tgt := 646) hx1 hb (show decode code 221 = .ok (.if_icmp .eq 425, 3) by decide +kernel) (by decide) (fun _ => k S2 H2 locs2 R2 g3 hP2 hS2) (fun q => absurd rfl q)
set_option maxHeartbeats 4000000 in
theorem lw_b4 {D : va_G} {cs : ClassId × ClassId × ClassId} {p : Program} {l : Launch} {e : Env} {s : State} {m : MethodId} {below : List Frame} {meth : Method} {c0 : Code} {Q : State → Prop} {b L : Nat} {xs : Nat → Int32} (hx : lawX D cs p s m #[Value.ref b] c0) (hX : va_X b L xs s s.heap) (hbl : b < s.heap.size) (hL : L ≤ 2048) {S : hS} (hR : Rel S) (hok : okS S) {x3 : Int32} {i : Nat} (e3 : x3 = nI i) (hi : i + 4 ≤ L) {ls : Array Slot} {H : Heap} {locs : List Loc} (hl : lv_has ls 4 (lwL b s x3)) (hP : va_P D vwCl (hWd s.heap.size cs S) H) (hSS : va_S (fun q => s.heap.size ≤ q) s.heap H locs) (k : ∀ (S2 : hS) (H1 : Heap) (locs1 : List Loc), Rel S2 → okS S2 → va_P D vwCl (hWd s.heap.size cs S2) H1 → va_S (fun q => s.heap.size ≤ q) s.heap H1 locs1 → W p l e room_1 s m #[Value.ref b] below meth c0 H1 locs1 72 (hSl hLam) Q (F0 m 646 ls [])) : W p l e room_1 s m #[Value.ref b] below meth c0 H locs 72 (hSl hLam) Q (F0 m 226 ls []) := by
  obtain ⟨r, S1, S2, E1, E2, R2⟩ := a_ices hR (xs (x3 + 1).toNatClampNeg)
  obtain ⟨g1, g2, g3⟩ := law_mid (as := [(xs (x3 + 1).toNatClampNeg)]) lm_X9_ices lm_X10_ices hok hR.1.1 R2.1.1 E1 E2
  have hx1 := hx.1.1
  have hb := hx.1.2.1
  have hbA : ¬ (fun q : Nat => s.heap.size ≤ q) b := Nat.not_le.mpr hbl
  have n1 : vp_in (x3 + 1) L := by rw [e3, show nI i + 1 = nI (i + 1) from add_lit (x := 1) (b := 1) rfl]; exact vp_in_nI (by omega) (by omega)
  refine lv_aload_n hx1 hb (show decode code 226 = .ok (.aload_n 1, 1) by decide +kernel) rfl (lv_at hl 2 rfl) ?_
  refine lv_aload_n hx1 hb (show decode code 227 = .ok (.aload_n 0, 1) by decide +kernel) rfl (lv_at hl 3 rfl) ?_
  refine lv_iload_n hx1 hb (show decode code 228 = .ok (.iload_n 3, 1) by decide +kernel) rfl (lv_at hl 0 rfl) ?_
  refine lv_iconst (v := 1) hx1 hb (show decode code 229 = .ok (.iconst 1, 1) by decide +kernel) (by decide) ?_
  refine lv_iadd hx1 hb (show decode code 230 = .ok (.iadd, 1) by decide +kernel) ?_
  refine va_sld hx1 hb hX hbl hbA hSS n1 (show decode code 231 = .ok (.iaload, 1) by decide +kernel) ?_
  refine lawV (y := 141) (c := 0) (as := [(xs (x3 + 1).toNatClampNeg)]) (rr := []) hx lm_X9_ices (by rw [hR.1.1]; rfl) hok E1 (g1.trans hR.1.1.symm) (by decide) hl.1 hP hSS (by rw [hR.1.1]; rfl) (by rw [hR.1.1]) (by rw [hR.1.1]; exact ⟨by decide, by decide +kernel⟩) (show decode code 232 = .ok (.invokevirtual 32, 3) by decide +kernel) (fun H1 locs1 hP1 hS1 => ?_)
  show W p l e room_1 s m #[Value.ref b] below meth c0 H1 locs1 72 (hSl hLam) Q (F0 m 235 ls [.int r])
  refine lv_aload_n hx1 hb (show decode code 235 = .ok (.aload_n 2, 1) by decide +kernel) rfl (lv_at hl 1 rfl) ?_
  refine lv_aload_n hx1 hb (show decode code 236 = .ok (.aload_n 0, 1) by decide +kernel) rfl (lv_at hl 3 rfl) ?_
  refine lv_iload_n hx1 hb (show decode code 237 = .ok (.iload_n 3, 1) by decide +kernel) rfl (lv_at hl 0 rfl) ?_
  refine lv_iconst (v := 1) hx1 hb (show decode code 238 = .ok (.iconst 1, 1) by decide +kernel) (by decide) ?_
  refine lv_iadd hx1 hb (show decode code 239 = .ok (.iadd, 1) by decide +kernel) ?_
  refine va_sld hx1 hb hX hbl hbA hS1 n1 (show decode code 240 = .ok (.iaload, 1) by decide +kernel) ?_
  refine lawV (y := 62) (c := 57) (as := [(xs (x3 + 1).toNatClampNeg)]) (rr := [r]) hx lm_X10_ices (by rw [g1]; rfl) g2 E2 (R2.1.1.trans g1.symm) (show 1 ≤ 8 by decide) hl.1 hP1 hS1 (by rw [g1]; rfl) (by rw [g1]) (by rw [g1]; exact ⟨by decide, by decide +kernel⟩) (show decode code 241 = .ok (.invokevirtual 35, 3) by decide +kernel) (fun H2 locs2 hP2 hS2 => ?_)
  show W p l e room_1 s m #[Value.ref b] below meth c0 H2 locs2 72 (hSl hLam) Q (F0 m 244 ls [.int r, .int r])
  exact lv_icmp_eq (tgt := 646) hx1 hb (show decode code 244 = .ok (.if_icmp .eq 402, 3) by decide +kernel) (by decide) (fun _ => k S2 H2 locs2 R2 g3 hP2 hS2) (fun q => absurd rfl q)
set_option maxHeartbeats 4000000 in
theorem lw_b5 {D : va_G} {cs : ClassId × ClassId × ClassId} {p : Program} {l : Launch} {e : Env} {s : State} {m : MethodId} {below : List Frame} {meth : Method} {c0 : Code} {Q : State → Prop} {b L : Nat} {xs : Nat → Int32} (hx : lawX D cs p s m #[Value.ref b] c0) (hX : va_X b L xs s s.heap) (hbl : b < s.heap.size) (hL : L ≤ 2048) {S : hS} (hR : Rel S) (hok : okS S) {x3 : Int32} {i : Nat} (e3 : x3 = nI i) (hi : i + 4 ≤ L) {ls : Array Slot} {H : Heap} {locs : List Loc} (hl : lv_has ls 4 (lwL b s x3)) (hP : va_P D vwCl (hWd s.heap.size cs S) H) (hSS : va_S (fun q => s.heap.size ≤ q) s.heap H locs) (k : ∀ (S2 : hS) (H1 : Heap) (locs1 : List Loc), Rel S2 → okS S2 → va_P D vwCl (hWd s.heap.size cs S2) H1 → va_S (fun q => s.heap.size ≤ q) s.heap H1 locs1 → W p l e room_1 s m #[Value.ref b] below meth c0 H1 locs1 72 (hSl hLam) Q (F0 m 646 ls [])) : W p l e room_1 s m #[Value.ref b] below meth c0 H locs 72 (hSl hLam) Q (F0 m 249 ls []) := by
  obtain ⟨r, S1, S2, E1, E2, R2⟩ := a_grids hR (xs (x3 + 1).toNatClampNeg)
  obtain ⟨g1, g2, g3⟩ := law_mid (as := [(xs (x3 + 1).toNatClampNeg)]) lm_X9_grids lm_X10_grids hok hR.1.1 R2.1.1 E1 E2
  have hx1 := hx.1.1
  have hb := hx.1.2.1
  have hbA : ¬ (fun q : Nat => s.heap.size ≤ q) b := Nat.not_le.mpr hbl
  have n1 : vp_in (x3 + 1) L := by rw [e3, show nI i + 1 = nI (i + 1) from add_lit (x := 1) (b := 1) rfl]; exact vp_in_nI (by omega) (by omega)
  refine lv_aload_n hx1 hb (show decode code 249 = .ok (.aload_n 1, 1) by decide +kernel) rfl (lv_at hl 2 rfl) ?_
  refine lv_aload_n hx1 hb (show decode code 250 = .ok (.aload_n 0, 1) by decide +kernel) rfl (lv_at hl 3 rfl) ?_
  refine lv_iload_n hx1 hb (show decode code 251 = .ok (.iload_n 3, 1) by decide +kernel) rfl (lv_at hl 0 rfl) ?_
  refine lv_iconst (v := 1) hx1 hb (show decode code 252 = .ok (.iconst 1, 1) by decide +kernel) (by decide) ?_
  refine lv_iadd hx1 hb (show decode code 253 = .ok (.iadd, 1) by decide +kernel) ?_
  refine va_sld hx1 hb hX hbl hbA hSS n1 (show decode code 254 = .ok (.iaload, 1) by decide +kernel) ?_
  refine lawV (y := 138) (c := 0) (as := [(xs (x3 + 1).toNatClampNeg)]) (rr := []) hx lm_X9_grids (by rw [hR.1.1]; rfl) hok E1 (g1.trans hR.1.1.symm) (by decide) hl.1 hP hSS (by rw [hR.1.1]; rfl) (by rw [hR.1.1]) (by rw [hR.1.1]; exact ⟨by decide, by decide +kernel⟩) (show decode code 255 = .ok (.invokevirtual 36, 3) by decide +kernel) (fun H1 locs1 hP1 hS1 => ?_)
  show W p l e room_1 s m #[Value.ref b] below meth c0 H1 locs1 72 (hSl hLam) Q (F0 m 258 ls [.int r])
  refine lv_aload_n hx1 hb (show decode code 258 = .ok (.aload_n 2, 1) by decide +kernel) rfl (lv_at hl 1 rfl) ?_
  refine lv_aload_n hx1 hb (show decode code 259 = .ok (.aload_n 0, 1) by decide +kernel) rfl (lv_at hl 3 rfl) ?_
  refine lv_iload_n hx1 hb (show decode code 260 = .ok (.iload_n 3, 1) by decide +kernel) rfl (lv_at hl 0 rfl) ?_
  refine lv_iconst (v := 1) hx1 hb (show decode code 261 = .ok (.iconst 1, 1) by decide +kernel) (by decide) ?_
  refine lv_iadd hx1 hb (show decode code 262 = .ok (.iadd, 1) by decide +kernel) ?_
  refine va_sld hx1 hb hX hbl hbA hS1 n1 (show decode code 263 = .ok (.iaload, 1) by decide +kernel) ?_
  refine lawV (y := 100) (c := 57) (as := [(xs (x3 + 1).toNatClampNeg)]) (rr := [r]) hx lm_X10_grids (by rw [g1]; rfl) g2 E2 (R2.1.1.trans g1.symm) (show 1 ≤ 8 by decide) hl.1 hP1 hS1 (by rw [g1]; rfl) (by rw [g1]) (by rw [g1]; exact ⟨by decide, by decide +kernel⟩) (show decode code 264 = .ok (.invokevirtual 39, 3) by decide +kernel) (fun H2 locs2 hP2 hS2 => ?_)
  show W p l e room_1 s m #[Value.ref b] below meth c0 H2 locs2 72 (hSl hLam) Q (F0 m 267 ls [.int r, .int r])
  exact lv_icmp_eq (tgt := 646) hx1 hb (show decode code 267 = .ok (.if_icmp .eq 379, 3) by decide +kernel) (by decide) (fun _ => k S2 H2 locs2 R2 g3 hP2 hS2) (fun q => absurd rfl q)
