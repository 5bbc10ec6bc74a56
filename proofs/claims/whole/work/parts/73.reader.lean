/-! The class's reader, piece by piece. -/
def rLo (c : Nat → Int32) : Nat → Int32
  | 0 => 40
  | 1 => c 0 + 1
  | 2 => 1
  | 3 => 11
  | 4 => 36
  | _ => 1
def rHi : Nat → Int32
  | 0 => 120
  | 1 => 200
  | 2 => 10
  | 3 => 40
  | 4 => 108
  | _ => 9
theorem e_mayBe (k : Nat) (hk : k ≤ 5) (v : Int32) (T : hS) : Ev 79 [.inr (some (5, 5)), .inl (nI k), .inl v] T (some (mIn v (rLo (T.2.1 5) k) (rHi k)), T) := by
  show Rn hc_X5_mayBe 0 [some (.inr (some (5, 5))), some (.inl (nI k)), some (.inl v)] [] T _
  refine r_step rfl rfl ?_
  match k, hk with
  | 0, _ =>
    refine r_tsw 36 rfl (by decide) ?_
    iterate 3 refine r_step rfl rfl ?_
    refine r_call rfl rfl (e_within _ _ _ _) ?_
    exact r_retz rfl (mIn_b _ _ _) rfl rfl
  | 1, _ =>
    refine r_tsw 45 rfl (by decide) ?_
    iterate 6 refine r_step rfl rfl ?_
    refine r_call rfl rfl (e_within _ _ _ _) ?_
    exact r_retz rfl (mIn_b _ _ _) rfl rfl
  | 2, _ =>
    refine r_tsw 59 rfl (by decide) ?_
    iterate 3 refine r_step rfl rfl ?_
    refine r_call rfl rfl (e_within _ _ _ _) ?_
    exact r_retz rfl (mIn_b _ _ _) rfl rfl
  | 3, _ =>
    refine r_tsw 67 rfl (by decide) ?_
    iterate 3 refine r_step rfl rfl ?_
    refine r_call rfl rfl (e_within _ _ _ _) ?_
    exact r_retz rfl (mIn_b _ _ _) rfl rfl
  | 4, _ =>
    refine r_tsw 76 rfl (by decide) ?_
    iterate 3 refine r_step rfl rfl ?_
    refine r_call rfl rfl (e_within _ _ _ _) ?_
    exact r_retz rfl (mIn_b _ _ _) rfl rfl
  | 5, _ =>
    refine r_tsw 85 rfl (by decide) ?_
    iterate 3 refine r_step rfl rfl ?_
    refine r_call rfl rfl (e_within _ _ _ _) ?_
    exact r_retz rfl (mIn_b _ _ _) rfl rfl
  | n + 6, h => exact absurd h (by omega)
theorem e_sput (k : Nat) (hk : k ≤ 5) (v : Int32) (T : hS) : Ev 35 [.inr (some (5, 5)), .inl (nI k), .inl v] T (none, hPut T 5 k v) := by
  show Rn hc_X5_put 0 [some (.inr (some (5, 5))), some (.inl (nI k)), some (.inl v)] [] T _
  refine r_step rfl rfl ?_
  match k, hk with
  | 0, _ => refine r_tsw 36 rfl (by decide) ?_; (iterate 4 refine r_step rfl rfl ?_); exact r_retn rfl rfl
  | 1, _ => refine r_tsw 44 rfl (by decide) ?_; (iterate 4 refine r_step rfl rfl ?_); exact r_retn rfl rfl
  | 2, _ => refine r_tsw 52 rfl (by decide) ?_; (iterate 4 refine r_step rfl rfl ?_); exact r_retn rfl rfl
  | 3, _ => refine r_tsw 60 rfl (by decide) ?_; (iterate 4 refine r_step rfl rfl ?_); exact r_retn rfl rfl
  | 4, _ => refine r_tsw 68 rfl (by decide) ?_; (iterate 4 refine r_step rfl rfl ?_); exact r_retn rfl rfl
  | 5, _ => refine r_tsw 76 rfl (by decide) ?_; (iterate 3 refine r_step rfl rfl ?_); exact r_retn rfl rfl
  | n + 6, h => exact absurd h (by omega)
def b01 (p : Int32) (k : Nat) : Int32 := if bit p k = 1 then 1 else 0
theorem e_isTold (k : Nat) (T : hS) : Ev 30 [.inr (some (3, 4)), .inl (nI k)] T (some (b01 (T.2.1 4 3) k), T) := by
  show Rn hc_X3_isTold 0 [some (.inr (some (3, 4))), some (.inl (nI k))] [] T _
  iterate 8 refine r_step rfl rfl ?_
  by_cases c : bit (T.2.1 4 3) k = 1
  · rw [show b01 (T.2.1 4 3) k = 1 from if_pos c]
    refine r_i_ne (fun q => absurd c q) (fun _ => ?_)
    iterate 2 refine r_step rfl rfl ?_
    exact r_retz rfl (Or.inr rfl) rfl rfl
  · rw [show b01 (T.2.1 4 3) k = 0 from if_neg c]
    refine r_i_ne (fun _ => ?_) (fun q => absurd q c)
    refine r_step rfl rfl ?_
    exact r_retz rfl (Or.inl rfl) rfl rfl
theorem e_isToldM (k : Nat) (U : hS) : Ev 11 [.inr (some (10, 57)), .inl (nI k)] U (some (b01 (U.2.1 57 15) k), U) := by
  show Rn hc_X10_isToldAlready 0 [some (.inr (some (10, 57))), some (.inl (nI k))] [] U _
  iterate 8 refine r_step rfl rfl ?_
  by_cases c : bit (U.2.1 57 15) k = 1
  · rw [show b01 (U.2.1 57 15) k = 1 from if_pos c]
    refine r_i_ne (fun q => absurd c q) (fun _ => ?_)
    iterate 2 refine r_step rfl rfl ?_
    exact r_retz rfl (Or.inr rfl) rfl rfl
  · rw [show b01 (U.2.1 57 15) k = 0 from if_neg c]
    refine r_i_ne (fun _ => ?_) (fun q => absurd q c)
    refine r_step rfl rfl ?_
    exact r_retz rfl (Or.inl rfl) rfl rfl
theorem b01_z {p : Int32} {k : Nat} : b01 p k = 0 ↔ ¬ bit p k = 1 := by
  unfold b01
  by_cases c : bit p k = 1
  · rw [if_pos c]; exact ⟨fun e => absurd e (by decide), fun e => absurd c e⟩
  · rw [if_neg c]; exact ⟨fun _ => c, fun _ => rfl⟩
theorem sOf_k (x : Int32) : sOf x = -1 ∨ ∃ k, k ≤ 5 ∧ sOf x = nI k := by
  unfold sOf
  by_cases c1 : x = 114
  · rw [if_pos c1]; exact Or.inr ⟨0, by omega, rfl⟩
  rw [if_neg c1]
  by_cases c2 : x = 116
  · rw [if_pos c2]; exact Or.inr ⟨1, by omega, rfl⟩
  rw [if_neg c2]
  by_cases c3 : x = 105
  · rw [if_pos c3]; exact Or.inr ⟨2, by omega, rfl⟩
  rw [if_neg c3]
  by_cases c4 : x = 111
  · rw [if_pos c4]; exact Or.inr ⟨3, by omega, rfl⟩
  rw [if_neg c4]
  by_cases c5 : x = 108
  · rw [if_pos c5]; exact Or.inr ⟨4, by omega, rfl⟩
  rw [if_neg c5]
  by_cases c6 : x = 115
  · rw [if_pos c6]; exact Or.inr ⟨5, by omega, rfl⟩
  rw [if_neg c6]; exact Or.inl rfl
/-- may this setting be told now -/
def gdL (told : Int32) (k : Nat) : Prop := ¬ bit told k = 1 ∧ ¬ (k = 0 ∧ bit told 1 = 1)
def tlK (told : Int32) (k : Nat) : Int32 := told ||| (1 <<< (nI k &&& 31))
theorem tl_start (x : Int32) (T : hS) (o : Option Int32 × hS) (q : Rn hc_X3_takesLetter 12 [some (.inr (some (3, 4))), some (.inl x)] [.inl (sOf x)] (hPut T 4 2 (sOf x)) o) : Ev 76 [.inr (some (3, 4)), .inl x] T o := by
  show Rn hc_X3_takesLetter 0 [some (.inr (some (3, 4))), some (.inl x)] [] T _
  iterate 2 refine r_step rfl rfl ?_
  refine r_call rfl rfl (e_settingOf _ _) ?_
  iterate 3 refine r_step rfl rfl ?_
  rw [hPut_at, pk_us]
  exact q
theorem tl_no1 (x : Int32) (T : hS) (h : sOf x = -1) : Ev 76 [.inr (some (3, 4)), .inl x] T (some 0, hPut T 4 2 (sOf x)) := by
  refine tl_start x T _ ?_
  rw [h]
  refine r_step rfl rfl ?_
  refine r_i_lt (fun _ => ?_) (fun q => absurd (show (-1 : Int32) < 0 by decide) q)
  refine r_step rfl rfl ?_
  exact r_retz rfl (Or.inl rfl) rfl rfl
theorem tl_k (x : Int32) (k : Nat) (hk : k ≤ 5) (T : hS) (h : sOf x = nI k) (o : Option Int32 × hS) (kn : ¬ gdL (T.2.1 4 3) k → Rn hc_X3_takesLetter 41 [some (.inr (some (3, 4))), some (.inl x)] [] (hPut T 4 2 (nI k)) o) (kg : gdL (T.2.1 4 3) k → Rn hc_X3_takesLetter 43 [some (.inr (some (3, 4))), some (.inl x)] [] (hPut T 4 2 (nI k)) o) : Ev 76 [.inr (some (3, 4)), .inl x] T o := by
  refine tl_start x T _ ?_
  rw [h]
  have e3 : (hPut T 4 2 (nI k)).2.1 4 3 = T.2.1 4 3 := by rw [hPut_at, pk_un (by decide)]
  have e2 : (hPut T 4 2 (nI k)).2.1 4 2 = nI k := by rw [hPut_at, pk_us]
  have i1 := e_isTold k (hPut T 4 2 (nI k))
  have i2 := e_isTold 1 (hPut T 4 2 (nI k))
  rw [e3] at i1 i2
  refine r_step rfl rfl ?_
  refine r_i_lt (fun q => absurd q (nI_pos (by omega))) (fun _ => ?_)
  iterate 3 refine r_step rfl rfl ?_
  rw [e2]
  refine r_call rfl rfl i1 ?_
  refine r_step rfl rfl ?_
  refine r_i_ne (fun q => kn (fun w => q (b01_z.2 w.1))) (fun q => ?_)
  have nb := b01_z.1 q
  iterate 3 refine r_step rfl rfl ?_
  rw [e2]
  refine r_i_ne (fun q => kg ⟨nb, fun w => q (by rw [w.1]; rfl)⟩) (fun q => ?_)
  have k0 : k = 0 := (nI_eq (by omega) (by decide)).1 (show nI k = nI 0 from q)
  iterate 2 refine r_step rfl rfl ?_
  refine r_call rfl rfl i2 ?_
  refine r_step rfl rfl ?_
  exact r_i_eq (fun q => kg ⟨nb, fun w => (b01_z.1 q) w.2⟩) (fun q => kn (fun w => q (b01_z.2 (fun z => w.2 ⟨k0, z⟩))))
theorem tl_no2 (x : Int32) (k : Nat) (hk : k ≤ 5) (T : hS) (h : sOf x = nI k) (hg : ¬ gdL (T.2.1 4 3) k) : Ev 76 [.inr (some (3, 4)), .inl x] T (some 0, hPut T 4 2 (nI k)) := by
  refine tl_k x k hk T h _ (fun _ => ?_) (fun w => absurd w hg)
  refine r_step rfl rfl ?_
  exact r_retz rfl (Or.inl rfl) rfl rfl
theorem tl_ok (x : Int32) (k : Nat) (hk : k ≤ 5) (T : hS) (h : sOf x = nI k) (hg : gdL (T.2.1 4 3) k) : Ev 76 [.inr (some (3, 4)), .inl x] T (some 1, hPut (hPut (hPut T 4 2 (nI k)) 4 3 (tlK (T.2.1 4 3) k)) 4 1 1) := by
  refine tl_k x k hk T h _ (fun w => absurd hg w) (fun _ => ?_)
  have e3 : (hPut T 4 2 (nI k)).2.1 4 3 = T.2.1 4 3 := by rw [hPut_at, pk_un (by decide)]
  have e2 : (hPut T 4 2 (nI k)).2.1 4 2 = nI k := by rw [hPut_at, pk_us]
  iterate 8 refine r_step rfl rfl ?_
  rw [e3, e2]
  iterate 5 refine r_step rfl rfl ?_
  exact r_retz rfl (Or.inr rfl) rfl rfl
theorem tnu_no1 (v : Int32) (T : hS) (h : v = -1) : Ev 108 [.inr (some (3, 4)), .inl v] T (some 0, T) := by
  show Rn hc_X3_takesNumber 0 [some (.inr (some (3, 4))), some (.inl v)] [] T _
  rw [h]
  iterate 3 refine r_step rfl rfl ?_
  exact r_retz rfl (Or.inl rfl) rfl rfl
theorem tnu_k (v k : Nat) (hk : k ≤ 5) (hv : v ≤ 255) (T : hS) (hL : hLay T) (h2' : T.2.1 4 2 = nI k) (o : Option Int32 × hS) (kn : mIn (nI v) (rLo (T.2.1 5) k) (rHi k) = 0 → Rn hc_X3_takesNumber 19 [some (.inr (some (3, 4))), some (.inl (nI v))] [] T o) (kg : mIn (nI v) (rLo (T.2.1 5) k) (rHi k) = 1 → Rn hc_X3_takesNumber 21 [some (.inr (some (3, 4))), some (.inl (nI v))] [] T o) : Ev 108 [.inr (some (3, 4)), .inl (nI v)] T o := by
  show Rn hc_X3_takesNumber 0 [some (.inr (some (3, 4))), some (.inl (nI v))] [] T _
  iterate 2 refine r_step rfl rfl ?_
  refine r_i_lt (fun q => absurd q (nI_pos (by omega))) (fun _ => ?_)
  refine r_step rfl rfl ?_
  refine r_getr rfl (rv_4_0 hL) ?_
  iterate 3 refine r_step rfl rfl ?_
  rw [h2']
  refine r_call rfl rfl (e_mayBe k hk (nI v) T) ?_
  refine r_step rfl rfl ?_
  rcases mIn_b (nI v) (rLo (T.2.1 5) k) (rHi k) with e | e
  · rw [e]
    exact r_i_ne (fun q => absurd rfl q) (fun _ => kn e)
  · rw [e]
    exact r_i_ne (fun _ => kg e) (fun q => absurd q (by decide))
theorem tnu_no2 (v k : Nat) (hk : k ≤ 5) (hv : v ≤ 255) (T : hS) (hL : hLay T) (h2' : T.2.1 4 2 = nI k) (hm : mIn (nI v) (rLo (T.2.1 5) k) (rHi k) = 0) : Ev 108 [.inr (some (3, 4)), .inl (nI v)] T (some 0, T) := by
  refine tnu_k v k hk hv T hL h2' _ (fun _ => ?_) (fun w => absurd (hm.symm.trans w) (by decide))
  refine r_step rfl rfl ?_
  exact r_retz rfl (Or.inl rfl) rfl rfl
theorem tnu_ok (v k : Nat) (hk : k ≤ 5) (hv : v ≤ 255) (T : hS) (hL : hLay T) (h2' : T.2.1 4 2 = nI k) (hm : mIn (nI v) (rLo (T.2.1 5) k) (rHi k) = 1) : Ev 108 [.inr (some (3, 4)), .inl (nI v)] T (some 1, hPut (hPut T 5 k (nI v)) 4 1 2) := by
  refine tnu_k v k hk hv T hL h2' _ (fun w => absurd (hm.symm.trans w) (by decide)) (fun _ => ?_)
  refine r_step rfl rfl ?_
  refine r_getr rfl (rv_4_0 hL) ?_
  iterate 3 refine r_step rfl rfl ?_
  rw [h2']
  refine r_callv rfl rfl (e_sput k hk (nI v) T) ?_
  iterate 4 refine r_step rfl rfl ?_
  exact r_retz rfl (Or.inr rfl) rfl rfl
theorem te_no (x : Int32) (T : hS) (h : ¬ x = 59) : Ev 32 [.inr (some (3, 4)), .inl x] T (some 0, T) := by
  show Rn hc_X3_takesEnd 0 [some (.inr (some (3, 4))), some (.inl x)] [] T _
  iterate 3 refine r_step rfl rfl ?_
  refine r_i_eq (fun q => absurd q h) (fun _ => ?_)
  refine r_step rfl rfl ?_
  exact r_retz rfl (Or.inl rfl) rfl rfl
theorem te_ok (T : hS) : Ev 32 [.inr (some (3, 4)), .inl 59] T (some 1, hPut (hPut T 4 4 (T.2.1 4 4 + 1)) 4 1 0) := by
  show Rn hc_X3_takesEnd 0 [some (.inr (some (3, 4))), some (.inl 59)] [] T _
  iterate 13 refine r_step rfl rfl ?_
  exact r_retz rfl (Or.inr rfl) rfl rfl
theorem tk_0 {b : Nat → Int32} {n : Nat} {T T' : hS} {x : Int32} (h : cT b n T) (p : Nat) (hp : p < n) (q : Int32) (hx : isB x) (ha : T.2.1 4 1 = 0) (k : Ev 76 [.inr (some (3, 4)), .inl (b p)] T (some x, T')) : Ev 124 [.inr (some (3, 4)), .inr (some (6, 2)), .inl (nI p), .inl q] T (some x, T') := by
  show Rn hc_X3_takes 0 [some (.inr (some (3, 4))), some (.inr (some (6, 2))), some (.inl (nI p)), some (.inl q)] [] T _
  iterate 2 refine r_step rfl rfl ?_
  rw [ha]
  refine r_lsw 32 rfl (by decide) ?_
  iterate 3 refine r_step rfl rfl ?_
  refine r_call rfl rfl (e_letterAt h p hp) ?_
  refine r_call rfl rfl k ?_
  exact r_retz rfl hx rfl rfl
theorem tk_1 {b : Nat → Int32} {n : Nat} {T T' : hS} {x : Int32} (h : cT b n T) (p : Nat) (hp : p < n) (hx : isB x) (ha : T.2.1 4 1 = 1) (k : Ev 108 [.inr (some (3, 4)), .inl (nuA b n p)] T (some x, T')) : Ev 124 [.inr (some (3, 4)), .inr (some (6, 2)), .inl (nI p), .inl (nI (tkE b n p))] T (some x, T') := by
  show Rn hc_X3_takes 0 [some (.inr (some (3, 4))), some (.inr (some (6, 2))), some (.inl (nI p)), some (.inl (nI (tkE b n p)))] [] T _
  iterate 2 refine r_step rfl rfl ?_
  rw [ha]
  refine r_lsw 42 rfl (by decide) ?_
  iterate 4 refine r_step rfl rfl ?_
  refine r_call rfl rfl (e_numberAt h p hp) ?_
  refine r_call rfl rfl k ?_
  exact r_retz rfl hx rfl rfl
theorem tk_2 {b : Nat → Int32} {n : Nat} {T T' : hS} {x : Int32} (h : cT b n T) (p : Nat) (hp : p < n) (q : Int32) (hx : isB x) (ha : T.2.1 4 1 = 2) (k : Ev 32 [.inr (some (3, 4)), .inl (b p)] T (some x, T')) : Ev 124 [.inr (some (3, 4)), .inr (some (6, 2)), .inl (nI p), .inl q] T (some x, T') := by
  show Rn hc_X3_takes 0 [some (.inr (some (3, 4))), some (.inr (some (6, 2))), some (.inl (nI p)), some (.inl q)] [] T _
  iterate 2 refine r_step rfl rfl ?_
  rw [ha]
  refine r_lsw 53 rfl (by decide) ?_
  iterate 3 refine r_step rfl rfl ?_
  refine r_call rfl rfl (e_letterAt h p hp) ?_
  refine r_call rfl rfl k ?_
  exact r_retz rfl hx rfl rfl
