set_option maxHeartbeats 4000000 in
set_option maxRecDepth 100000 in
theorem hOk {I : hI} {E : hE} {L : List (Option hV)} {st : List hV} {S : hS} {pc' : Nat} {L' : List (Option hV)} {st' : List hV} {S1 : hS} (hc : hChkE I E = true) (ha : hAct E L st S = some (.inl (pc', L', st', S1))) (ok : okF S L st) : okF S1 L' st' ∧ S.1 <+: S1.1 := by
  obtain ⟨pc, i, nx, a, b, d, q, v⟩ := E
  simp only [hChkE, Bool.and_eq_true, decide_eq_true_eq] at hc
  obtain ⟨hd, hc⟩ := hc
  try dsimp only at hd
  cases i with
  | iconst n => 
    simp only [hChkI, Bool.and_eq_true, decide_eq_true_eq] at hc
    obtain ⟨h1, rfl⟩ := hc
    rw [Nat.add_sub_cancel_left] at hd
    dsimp only [hAct] at ha
    cases ha
    exact ⟨ok.push trivial, List.prefix_refl _⟩
  | bipush n => 
    simp only [hChkI, Bool.and_eq_true, decide_eq_true_eq] at hc
    obtain ⟨h1, rfl⟩ := hc
    rw [Nat.add_sub_cancel_left] at hd
    dsimp only [hAct] at ha
    cases ha
    exact ⟨ok.push trivial, List.prefix_refl _⟩
  | sipush n => 
    simp only [hChkI, Bool.and_eq_true, decide_eq_true_eq] at hc
    obtain ⟨h1, rfl⟩ := hc
    rw [Nat.add_sub_cancel_left] at hd
    dsimp only [hAct] at ha
    cases ha
    exact ⟨ok.push trivial, List.prefix_refl _⟩
  | ldc n => 
    simp only [hChkI, Bool.and_eq_true, decide_eq_true_eq] at hc
    obtain ⟨h1, rfl⟩ := hc
    rw [Nat.add_sub_cancel_left] at hd
    dsimp only [hAct] at ha
    cases ha
    exact ⟨ok.push trivial, List.prefix_refl _⟩
  | ldc_w n => 
    simp only [hChkI, Bool.and_eq_true, decide_eq_true_eq] at hc
    obtain ⟨h1, rfl⟩ := hc
    rw [Nat.add_sub_cancel_left] at hd
    dsimp only [hAct] at ha
    cases ha
    exact ⟨ok.push trivial, List.prefix_refl _⟩
  | iload_n k => 
    simp only [hChkI, Bool.and_eq_true, decide_eq_true_eq] at hc
    obtain ⟨rfl, rfl⟩ := hc
    rw [Nat.add_sub_cancel_left] at hd
    dsimp only [hAct] at ha
    split at ha
    · rename_i x hxL
      cases ha
      exact ⟨ok.push trivial, List.prefix_refl _⟩
    · cases ha
  | iload k => 
    simp only [hChkI, Bool.and_eq_true, decide_eq_true_eq] at hc
    obtain ⟨rfl, rfl⟩ := hc
    rw [Nat.add_sub_cancel_left] at hd
    dsimp only [hAct] at ha
    split at ha
    · rename_i x hxL
      cases ha
      exact ⟨ok.push trivial, List.prefix_refl _⟩
    · cases ha
  | aload_n k => 
    simp only [hChkI, Bool.and_eq_true, decide_eq_true_eq] at hc
    obtain ⟨rfl, rfl⟩ := hc
    rw [Nat.add_sub_cancel_left] at hd
    dsimp only [hAct] at ha
    split at ha
    · rename_i x hxL
      cases ha
      exact ⟨ok.push (ok.2.1 _ _ hxL), List.prefix_refl _⟩
    · cases ha
  | istore_n k => 
    simp only [hChkI, Bool.and_eq_true, decide_eq_true_eq] at hc
    obtain ⟨⟨rfl, rfl⟩, h3⟩ := hc
    rw [Nat.add_sub_cancel_left] at hd
    dsimp only [hAct] at ha
    split at ha
    · rename_i x r
      cases ha
      exact ⟨ok.tail.store _ ok.head, List.prefix_refl _⟩
    · cases ha
  | istore k => 
    simp only [hChkI, Bool.and_eq_true, decide_eq_true_eq] at hc
    obtain ⟨⟨rfl, rfl⟩, h3⟩ := hc
    rw [Nat.add_sub_cancel_left] at hd
    dsimp only [hAct] at ha
    split at ha
    · rename_i x r
      cases ha
      exact ⟨ok.tail.store _ ok.head, List.prefix_refl _⟩
    · cases ha
  | astore_n k => 
    simp only [hChkI, Bool.and_eq_true, decide_eq_true_eq] at hc
    obtain ⟨⟨rfl, rfl⟩, h3⟩ := hc
    rw [Nat.add_sub_cancel_left] at hd
    dsimp only [hAct] at ha
    split at ha
    · rename_i x r
      cases ha
      exact ⟨ok.tail.store _ ok.head, List.prefix_refl _⟩
    · cases ha
  | iinc k n => 
    simp only [hChkI, Bool.and_eq_true, decide_eq_true_eq] at hc
    obtain ⟨⟨⟨rfl, h1⟩, rfl⟩, h3⟩ := hc
    rw [Nat.add_sub_cancel_left] at hd
    dsimp only [hAct] at ha
    split at ha
    · rename_i x hxL
      cases ha
      exact ⟨ok.store _ trivial, List.prefix_refl _⟩
    · cases ha
  | iadd => 
    simp only [hChkI, Bool.and_eq_true, decide_eq_true_eq] at hc
    subst hc
    rw [Nat.add_sub_cancel_left] at hd
    dsimp only [hAct] at ha
    obtain ⟨x, y, r, rfl, ha9⟩ := h2_some ha
    clear ha
    have ha := ha9
    clear ha9
    cases ha
    exact ⟨ok.tail.tail.push trivial, List.prefix_refl _⟩
  | isub => 
    simp only [hChkI, Bool.and_eq_true, decide_eq_true_eq] at hc
    subst hc
    rw [Nat.add_sub_cancel_left] at hd
    dsimp only [hAct] at ha
    obtain ⟨x, y, r, rfl, ha9⟩ := h2_some ha
    clear ha
    have ha := ha9
    clear ha9
    cases ha
    exact ⟨ok.tail.tail.push trivial, List.prefix_refl _⟩
  | imul => 
    simp only [hChkI, Bool.and_eq_true, decide_eq_true_eq] at hc
    subst hc
    rw [Nat.add_sub_cancel_left] at hd
    dsimp only [hAct] at ha
    obtain ⟨x, y, r, rfl, ha9⟩ := h2_some ha
    clear ha
    have ha := ha9
    clear ha9
    cases ha
    exact ⟨ok.tail.tail.push trivial, List.prefix_refl _⟩
  | iand => 
    simp only [hChkI, Bool.and_eq_true, decide_eq_true_eq] at hc
    subst hc
    rw [Nat.add_sub_cancel_left] at hd
    dsimp only [hAct] at ha
    obtain ⟨x, y, r, rfl, ha9⟩ := h2_some ha
    clear ha
    have ha := ha9
    clear ha9
    cases ha
    exact ⟨ok.tail.tail.push trivial, List.prefix_refl _⟩
  | ior => 
    simp only [hChkI, Bool.and_eq_true, decide_eq_true_eq] at hc
    subst hc
    rw [Nat.add_sub_cancel_left] at hd
    dsimp only [hAct] at ha
    obtain ⟨x, y, r, rfl, ha9⟩ := h2_some ha
    clear ha
    have ha := ha9
    clear ha9
    cases ha
    exact ⟨ok.tail.tail.push trivial, List.prefix_refl _⟩
  | ixor => 
    simp only [hChkI, Bool.and_eq_true, decide_eq_true_eq] at hc
    subst hc
    rw [Nat.add_sub_cancel_left] at hd
    dsimp only [hAct] at ha
    obtain ⟨x, y, r, rfl, ha9⟩ := h2_some ha
    clear ha
    have ha := ha9
    clear ha9
    cases ha
    exact ⟨ok.tail.tail.push trivial, List.prefix_refl _⟩
  | ishl => 
    simp only [hChkI, Bool.and_eq_true, decide_eq_true_eq] at hc
    subst hc
    rw [Nat.add_sub_cancel_left] at hd
    dsimp only [hAct] at ha
    obtain ⟨x, y, r, rfl, ha9⟩ := h2_some ha
    clear ha
    have ha := ha9
    clear ha9
    cases ha
    exact ⟨ok.tail.tail.push trivial, List.prefix_refl _⟩
  | ishr => 
    simp only [hChkI, Bool.and_eq_true, decide_eq_true_eq] at hc
    subst hc
    rw [Nat.add_sub_cancel_left] at hd
    dsimp only [hAct] at ha
    obtain ⟨x, y, r, rfl, ha9⟩ := h2_some ha
    clear ha
    have ha := ha9
    clear ha9
    cases ha
    exact ⟨ok.tail.tail.push trivial, List.prefix_refl _⟩
  | iushr => 
    simp only [hChkI, Bool.and_eq_true, decide_eq_true_eq] at hc
    subst hc
    rw [Nat.add_sub_cancel_left] at hd
    dsimp only [hAct] at ha
    obtain ⟨x, y, r, rfl, ha9⟩ := h2_some ha
    clear ha
    have ha := ha9
    clear ha9
    cases ha
    exact ⟨ok.tail.tail.push trivial, List.prefix_refl _⟩
  | ineg => 
    simp only [hChkI, Bool.and_eq_true, decide_eq_true_eq] at hc
    subst hc
    rw [Nat.add_sub_cancel_left] at hd
    dsimp only [hAct] at ha
    obtain ⟨x, r, rfl, ha9⟩ := h1_some ha
    clear ha
    have ha := ha9
    clear ha9
    cases ha
    exact ⟨ok.tail.push trivial, List.prefix_refl _⟩
  | idiv => 
    simp only [hChkI, Bool.and_eq_true, decide_eq_true_eq] at hc
    subst hc
    rw [Nat.add_sub_cancel_left] at hd
    dsimp only [hAct] at ha
    obtain ⟨x, y, r, rfl, ha9⟩ := h2_some ha
    clear ha
    have ha := ha9
    clear ha9
    split at ha
    · cases ha
    · rename_i hy
      cases ha
      exact ⟨ok.tail.tail.push trivial, List.prefix_refl _⟩
  | irem => 
    simp only [hChkI, Bool.and_eq_true, decide_eq_true_eq] at hc
    subst hc
    rw [Nat.add_sub_cancel_left] at hd
    dsimp only [hAct] at ha
    obtain ⟨x, y, r, rfl, ha9⟩ := h2_some ha
    clear ha
    have ha := ha9
    clear ha9
    split at ha
    · cases ha
    · rename_i hy
      cases ha
      exact ⟨ok.tail.tail.push trivial, List.prefix_refl _⟩
  | dup => 
    simp only [hChkI, Bool.and_eq_true, decide_eq_true_eq] at hc
    subst hc
    rw [Nat.add_sub_cancel_left] at hd
    dsimp only [hAct] at ha
    split at ha
    · rename_i x r
      cases ha
      exact ⟨ok.push ok.head, List.prefix_refl _⟩
    · cases ha
  | dup2 => 
    simp only [hChkI, Bool.and_eq_true, decide_eq_true_eq] at hc
    subst hc
    rw [Nat.add_sub_cancel_left] at hd
    dsimp only [hAct] at ha
    split at ha
    · rename_i x y r
      cases ha
      exact ⟨(ok.push ok.tail.head).push ok.head, List.prefix_refl _⟩
    · cases ha
  | if_icmp cc off => 
    simp only [hChkI, Bool.and_eq_true, decide_eq_true_eq] at hc
    obtain ⟨h1, rfl⟩ := hc
    rw [Nat.add_sub_cancel_left] at hd
    dsimp only [hAct] at ha
    obtain ⟨x, y, r, rfl, ha9⟩ := h2_some ha
    clear ha
    have ha := ha9
    clear ha9
    cases ha
    exact ⟨ok.tail.tail, List.prefix_refl _⟩
  | ifCond cc off => 
    simp only [hChkI, Bool.and_eq_true, decide_eq_true_eq] at hc
    obtain ⟨h1, rfl⟩ := hc
    rw [Nat.add_sub_cancel_left] at hd
    dsimp only [hAct] at ha
    obtain ⟨x, r, rfl, ha9⟩ := h1_some ha
    clear ha
    have ha := ha9
    clear ha9
    cases ha
    exact ⟨ok.tail, List.prefix_refl _⟩
  | goto off => 
    simp only [hChkI, Bool.and_eq_true, decide_eq_true_eq] at hc
    obtain ⟨h1, rfl⟩ := hc
    rw [Nat.add_sub_cancel_left] at hd
    dsimp only [hAct] at ha
    cases ha
    exact ⟨ok, List.prefix_refl _⟩
  | tableswitch dd lo hi offs => 
    simp only [hChkI, Bool.and_eq_true, decide_eq_true_eq, Array.all_eq_true] at hc
    obtain ⟨⟨g1, g2⟩, g3⟩ := hc
    dsimp only [hAct] at ha
    obtain ⟨x, r, rfl, ha9⟩ := h1_some ha
    clear ha
    have ha := ha9
    clear ha9
    cases ha
    exact ⟨ok.tail, List.prefix_refl _⟩
  | lookupswitch dd ps => 
    simp only [hChkI, Bool.and_eq_true, decide_eq_true_eq] at hc
    obtain ⟨⟨g1, g2⟩, g3⟩ := hc
    dsimp only [hAct] at ha
    obtain ⟨x, r, rfl, ha9⟩ := h1_some ha
    clear ha
    have ha := ha9
    clear ha9
    cases ha
    exact ⟨ok.tail, List.prefix_refl _⟩
  | getfield idx => 
    simp only [hChkI, Bool.and_eq_true, Bool.or_eq_true, decide_eq_true_eq] at hc
    obtain ⟨⟨⟨⟨g1, g2⟩, g3⟩, g4⟩, rfl⟩ := hc
    rw [Nat.add_sub_cancel_left] at hd
    obtain ⟨c1, c2, c3, c4, -⟩ := hCls g1
    dsimp only [hAct] at ha
    by_cases hrf : hRef a b = true
    · rw [if_pos hrf] at g4
      subst g4
      try dsimp only at ha
      obtain ⟨k, c, r, rfl, ha9⟩ := hr_some ha
      clear ha
      have ha := ha9
      clear ha9
      split at ha
      · rename_i hka
        subst hka
        cases ha
        refine ⟨ok.tail.push ?_, List.prefix_refl _⟩
        cases hq : S.2.2 c b with
        | none => trivial
        | some q9 => exact ok.1 _ _ _ hq
      · cases ha
    · rw [if_neg hrf] at g4
      subst g4
      try dsimp only at ha
      obtain ⟨k, c, r, rfl, ha9⟩ := hr_some ha
      clear ha
      have ha := ha9
      clear ha9
      split at ha
      · rename_i hka
        subst hka
        cases ha
        exact ⟨ok.tail.push trivial, List.prefix_refl _⟩
      · cases ha
  | putfield idx => 
    simp only [hChkI, Bool.and_eq_true, decide_eq_true_eq] at hc
    obtain ⟨⟨⟨g1, g2⟩, rfl⟩, g3⟩ := hc
    rw [Nat.add_sub_cancel_left] at hd
    obtain ⟨c1, c2, c3, c4, -⟩ := hCls g1
    dsimp only [hAct] at ha
    split at ha
    · simp only [Bool.and_eq_true, Bool.or_eq_true, Bool.not_eq_true', decide_eq_true_eq] at g3
      obtain ⟨⟨⟨f1, f2⟩, f3⟩, f4⟩ := g3
      split at ha
      · rename_i hka
        subst hka
        cases ha
        exact ⟨ok.tail.tail.same rfl rfl, List.prefix_refl _⟩
      · cases ha
    · simp only [Bool.and_eq_true, decide_eq_true_eq] at g3
      obtain ⟨⟨⟨⟨⟨f1, f2⟩, f3⟩, f4⟩, f5⟩, f6⟩ := g3
      rename_i x k c r
      split at ha
      · rename_i hka
        subst hka
        cases ha
        exact ⟨ok.tail.tail.putR ok.head, List.prefix_refl _⟩
      · cases ha
    · simp only [Bool.and_eq_true, Bool.or_eq_true, Bool.not_eq_true', decide_eq_true_eq] at g3
      obtain ⟨⟨⟨f1, f2⟩, f3⟩, f4⟩ := g3
      split at ha
      · rename_i hka
        subst hka
        split at ha
        · rename_i hbx
          cases ha
          exact ⟨ok.tail.tail.same rfl rfl, List.prefix_refl _⟩
        · cases ha
      · cases ha
    · cases ha
  | iaload => 
    simp only [hChkI, Bool.and_eq_true, decide_eq_true_eq] at hc
    subst hc
    rw [Nat.add_sub_cancel_left] at hd
    dsimp only [hAct] at ha
    obtain ⟨i, k, c, r, rfl, ha9⟩ := hir_some ha
    clear ha
    have ha := ha9
    clear ha9
    split at ha
    · rename_i hi
      cases ha
      refine ⟨ok.tail.tail.push ?_, List.prefix_refl _⟩
      trivial
    · cases ha
  | baload => 
    simp only [hChkI, Bool.and_eq_true, decide_eq_true_eq] at hc
    subst hc
    rw [Nat.add_sub_cancel_left] at hd
    dsimp only [hAct] at ha
    obtain ⟨i, k, c, r, rfl, ha9⟩ := hir_some ha
    clear ha
    have ha := ha9
    clear ha9
    split at ha
    · rename_i hi
      cases ha
      refine ⟨ok.tail.tail.push ?_, List.prefix_refl _⟩
      trivial
    · cases ha
  | aaload => 
    simp only [hChkI, Bool.and_eq_true, decide_eq_true_eq] at hc
    subst hc
    rw [Nat.add_sub_cancel_left] at hd
    dsimp only [hAct] at ha
    obtain ⟨i, k, c, r, rfl, ha9⟩ := hir_some ha
    clear ha
    have ha := ha9
    clear ha9
    split at ha
    · rename_i hi
      cases ha
      refine ⟨ok.tail.tail.push ?_, List.prefix_refl _⟩
      cases hq : S.2.2 c i.toNatClampNeg with
      | none => trivial
      | some q9 => exact ok.1 _ _ _ hq
    · cases ha
  | iastore => 
    simp only [hChkI, Bool.and_eq_true, decide_eq_true_eq] at hc
    subst hc
    rw [Nat.add_sub_cancel_left] at hd
    dsimp only [hAct] at ha
    split at ha
    · rename_i x i k c r
      split at ha
      · rename_i hi
        cases ha
        exact ⟨ok.tail.tail.tail.same rfl rfl, List.prefix_refl _⟩
      · cases ha
    · cases ha
  | bastore => 
    simp only [hChkI, Bool.and_eq_true, decide_eq_true_eq] at hc
    subst hc
    rw [Nat.add_sub_cancel_left] at hd
    dsimp only [hAct] at ha
    split at ha
    · rename_i x i k c r
      split at ha
      · rename_i hi
        split at ha
        · rename_i hbx
          cases ha
          exact ⟨ok.tail.tail.tail.same rfl rfl, List.prefix_refl _⟩
        · cases ha
      · cases ha
    · cases ha
  | aastore => 
    simp only [hChkI, Bool.and_eq_true, decide_eq_true_eq] at hc
    subst hc
    rw [Nat.add_sub_cancel_left] at hd
    dsimp only [hAct] at ha
    split at ha
    · rename_i x i k c r
      split at ha
      · rename_i hi
        cases ha
        exact ⟨ok.tail.tail.tail.putR ok.head, List.prefix_refl _⟩
      · cases ha
    · cases ha
  | arraylength => 
    simp only [hChkI, Bool.and_eq_true, decide_eq_true_eq] at hc
    subst hc
    rw [Nat.add_sub_cancel_left] at hd
    dsimp only [hAct] at ha
    obtain ⟨k, c, r, rfl, ha9⟩ := hr_some ha
    clear ha
    have ha := ha9
    clear ha9
    split at ha
    · rename_i hk
      cases ha
      exact ⟨ok.tail.push trivial, List.prefix_refl _⟩
    · cases ha
  | new idx => 
    simp only [hChkI, Bool.and_eq_true, decide_eq_true_eq] at hc
    obtain ⟨⟨g1, g2⟩, rfl⟩ := hc
    rw [Nat.add_sub_cancel_left] at hd
    dsimp only [hAct, hPush] at ha
    cases ha
    obtain ⟨c1, c2, c3, c4, c5, c6, c7⟩ := hCls g1
    exact ⟨ok.new a, hPre S a⟩
  | newarray at9 => 
    cases at9 with
    | int =>
      simp only [hChkI, Bool.and_eq_true, decide_eq_true_eq] at hc
      obtain ⟨rfl, rfl⟩ := hc
      rw [Nat.add_sub_cancel_left] at hd
      dsimp only [hAct] at ha
      obtain ⟨n, r, rfl, ha9⟩ := h1_some ha
      clear ha
      have ha := ha9
      clear ha9
      split at ha
      · rename_i hn9
        dsimp only [hPush] at ha
        cases ha
        have hnn : ¬ n < 0 := fun h => by have := Int32.lt_iff_toInt_lt.mp h; simp at this; omega
        have hcl : n.toNatClampNeg < 10000 := by have : n.toNatClampNeg = n.toInt.toNat := rfl; omega
        generalize hN9 : n.toNatClampNeg = N at hcl ⊢
        exact ⟨ok.tail.new (10000 + N), hPre S _⟩
      · cases ha
    | boolean =>
      simp only [hChkI, Bool.and_eq_true, decide_eq_true_eq] at hc
      obtain ⟨rfl, rfl⟩ := hc
      rw [Nat.add_sub_cancel_left] at hd
      dsimp only [hAct] at ha
      obtain ⟨n, r, rfl, ha9⟩ := h1_some ha
      clear ha
      have ha := ha9
      clear ha9
      split at ha
      · rename_i hn9
        dsimp only [hPush] at ha
        cases ha
        have hnn : ¬ n < 0 := fun h => by have := Int32.lt_iff_toInt_lt.mp h; simp at this; omega
        have hcl : n.toNatClampNeg < 10000 := by have : n.toNatClampNeg = n.toInt.toNat := rfl; omega
        generalize hN9 : n.toNatClampNeg = N at hcl ⊢
        exact ⟨ok.tail.new (20000 + N), hPre S _⟩
      · cases ha
    | _ => cases hc
  | anewarray idx => 
    simp only [hChkI, Bool.and_eq_true, decide_eq_true_eq] at hc
    obtain ⟨g2, rfl⟩ := hc
    rw [Nat.add_sub_cancel_left] at hd
    dsimp only [hAct] at ha
    obtain ⟨n, r, rfl, ha9⟩ := h1_some ha
    clear ha
    have ha := ha9
    clear ha9
    split at ha
    · rename_i hn9
      dsimp only [hPush] at ha
      cases ha
      have hnn : ¬ n < 0 := fun h => by have := Int32.lt_iff_toInt_lt.mp h; simp at this; omega
      have hcl : n.toNatClampNeg < 10000 := by have : n.toNatClampNeg = n.toInt.toNat := rfl; omega
      generalize hN9 : n.toNatClampNeg = N at hcl ⊢
      exact ⟨ok.tail.new (30000 + N), hPre S _⟩
    · cases ha
  | invokestatic idx => 
    simp only [hChkI, Bool.and_eq_true, decide_eq_true_eq] at hc
    obtain ⟨rfl, hc⟩ := hc
    rw [Nat.add_sub_cancel_left] at hd
    dsimp only [hAct] at ha
    split at ha
    · rename_i h9
      rw [if_pos h9] at hc
      simp only [Bool.and_eq_true, decide_eq_true_eq] at hc
      obtain ⟨g1, g2⟩ := hc
      split at ha
      · rename_i n dp k1 c1 sp k0 c2 r
        split at ha
        · rename_i hh
          obtain ⟨⟨⟨a1, a2⟩, ⟨a3, a4⟩, a5⟩, ⟨b1, b2, b3⟩, d1, d2⟩ := hh
          subst a5
          cases ha
          have nn : ∀ z : Int32, 0 ≤ z.toInt → ¬ z < 0 := fun z hz h => by have := Int32.lt_iff_toInt_lt.mp h; simp at this; omega
          have o2 := ok.tail.tail.head
          have o4 := ok.tail.tail.tail.tail.head
          exact ⟨ok.tail.tail.tail.tail.tail.same rfl rfl, List.prefix_refl _⟩
        · cases ha
      · cases ha
    · split at ha <;> cases ha
  | invokespecial idx => 
    simp only [hChkI, Bool.and_eq_true, decide_eq_true_eq] at hc
    obtain ⟨rfl, hc⟩ := hc
    rw [Nat.add_sub_cancel_left] at hd
    dsimp only [hAct] at ha
    split at ha
    · rename_i h9
      rw [if_pos h9] at hc
      simp only [Bool.and_eq_true, decide_eq_true_eq] at hc
      obtain ⟨g1, g2⟩ := hc
      split at ha
      · rename_i x r
        split at ha
        · rename_i hh
          cases ha
          exact ⟨ok.tail, List.prefix_refl _⟩
        · cases ha
      · cases ha
    · split at ha
      · split at ha <;> cases ha
      · cases ha
  | invokevirtual idx => 
    dsimp only [hAct] at ha
    split at ha
    · split at ha <;> cases ha
    · cases ha
  | ireturn => 
    dsimp only [hAct] at ha
    split at ha
    · split at ha
      · split at ha <;> cases ha
      · cases ha
    · cases ha
  | return_ => 
    dsimp only [hAct] at ha
    split at ha <;> cases ha
  | aload k => cases hc
  | _ => cases ha
theorem hAllZ : ∀ q ∈ hInf.zip hCod, hChkM q.1 q.2 = true := by
  simp only [hInf, hCod, List.zip_cons_cons, List.zip_nil_left, List.forall_mem_cons]
  exact ⟨hk_J6_bitCount_0f7a4, hk_J9_abs_0f7a4, hk_J9_floorDiv_7cf53, hk_J9_floorMod_7cf53, hk_J9_max_7cf53, hk_J9_min_7cf53, hk_X10_away, hk_X10_clear, hk_X10_count, hk_X10_forget, hk_X10_in, hk_X10_isToldAlready, hk_X10_leastOf, hk_X10_mostOf, hk_X10_notes, hk_X10_notesSpeed, hk_X10_pitchGoal, hk_X10_plain, hk_X10_record, hk_X10_takesOver, hk_X10_towards, hk_X10_tries, hk_X10_turns, hk_X10_undo, hk_X10_unlikeOnes, hk_X10_whichOf, hk_X1_lose, hk_X2_allHalves, hk_X2_findTurn, hk_X2_placeOf, hk_X3_isTold, hk_X3_settingOf, hk_X3_takesEnd, hk_X4_add, hk_X5_become, hk_X5_put, hk_X5_startAnew, hk_X5_tell, hk_X6_append, hk_X6_letterAt, hk_X7_startAnew, hk_X8_ahead, hk_X8_become, hk_X8_drag, hk_X8_isWound, hk_X8_startAnew, hk_X8_torqueAim, hk_X8_turnBy, hk_X9_alikeUpTo, hk_X9_clear, hk_X9_count, hk_X9_forget, hk_X9_isWithin, hk_X9_loseImages, hk_X0_startAnew, hk_X10_back, hk_X10_becomes, hk_X10_blows, hk_X10_closes, hk_X10_counts, hk_X10_errorOf, hk_X10_findsTurns, hk_X10_ices, hk_X10_init, hk_X10_isFigure, hk_X10_isWound, hk_X10_keep, hk_X10_resets, hk_X10_sees, hk_X10_setting, hk_X10_type, hk_X2_addHalves, hk_X2_greatestDifference, hk_X2_halvesOf, hk_X2_init, hk_X2_isCycleInside, hk_X3_takesLetter, hk_X4_init, hk_X5_init, hk_X5_mayBe, hk_X6_behindBlanks, hk_X6_init, hk_X6_isFigureAt, hk_X7_add, hk_X7_become, hk_X7_init, hk_X7_speedAgo, hk_X8_drive, hk_X8_error, hk_X8_init, hk_X8_nearer, hk_X8_nextMode, hk_X8_pitchAim, hk_X8_turn, hk_X9_sees, hk_X9_setting, hk_X9_type, hk_X0_become, hk_X0_init, hk_X10_driveOf, hk_X10_grids, hk_X10_looksUp, hk_X10_modeOf, hk_X10_next, hk_X10_rains, hk_X10_wants, hk_X2_addToRow, hk_X3_init, hk_X3_takesNumber, hk_X6_behindToken, hk_X6_numberAt, hk_X8_step, hk_X8_tell, hk_X9_record, hk_X0_tick, hk_X10_halvesOf, hk_X10_holds, hk_X10_must, hk_X10_now, hk_X10_rain, hk_X1_add, hk_X1_init, hk_X1_takeLatest, hk_X2_pour, hk_X3_takes, hk_X9_back, hk_X9_bearsGust, hk_X9_keep, hk_X9_now, hk_X9_ridesDip, hk_X9_speedAfter, hk_X10_goesOn, hk_X10_halves, hk_X10_readsItem, hk_X3_read, hk_X9_agreesWithSeen, hk_X9_blows, hk_X9_dip, hk_X9_grids, hk_X9_gust, hk_X9_halves, hk_X9_ices, hk_X9_init, hk_X9_mostAlike, hk_X9_rain, hk_X9_resets, hk_X9_ticks, hk_X9_undo, hk_X9_wants, hk_X10_bears, hk_X10_rides, hk_X10_speedBy, hk_X10_tells, hk_X10_ticks, hk_X9_possibleIce, hk_X9_tells, hk_X10_dip, hk_X10_gust, hk_X10_isSo, hk_X10_mostAlike, hk_X9_ask, hk_X9_which, hk_X10_which, hk_X10_ask, fun _ h => absurd h List.not_mem_nil⟩
theorem hAll {y : Nat} {I : hI} (h : hInf[y]? = some I) : hChkM I (hcod y) = true := by
  have hl : y < hInf.length := (List.getElem?_eq_some_iff.mp h).1
  have hl2 : y < hCod.length := by
    have e : hInf.length = hCod.length := by decide +kernel
    omega
  refine hAllZ (I, hcod y) (List.mem_of_getElem? (i := y) ?_)
  rw [List.getElem?_zip_eq_some]
  refine ⟨h, ?_⟩
  show _ = some (hCod.getD y (0, []))
  rw [List.getD_eq_getElem?_getD, List.getElem?_eq_getElem hl2]; rfl
theorem hAllE {y : Nat} {I : hI} {pc : Nat} {E : hE} (h : hInf[y]? = some I) (hf : hFetch (hcod y) pc = some E) : hChkE I E = true ∧ E.1 = pc := by
  have hm := hAll h
  simp only [hChkM, Bool.and_eq_true] at hm
  unfold hFetch at hf
  split at hf
  · rename_i b hb
    have h1 := List.all_eq_true.mp hm.2 b (List.mem_of_getElem? hb)
    have h2 := List.all_eq_true.mp h1 E (List.mem_of_find?_eq_some hf)
    have h3 := List.find?_some hf
    exact ⟨h2, by simpa using h3⟩
  · cases hf
theorem hSl_mono {K K' : List Nat} (h : K <+: K') : hSl K ≤ hSl K' := by
  obtain ⟨t, rfl⟩ := h
  simp [hSl]
/-- what holds ahead of a method -/
def hHp (D : va_G) (cs : ClassId × ClassId × ClassId) (h0 : Nat) (S : hS) (U : State) : Prop := U.heap.size = h0 + S.1.length ∧ va_P D vwCl (hWd h0 cs S) U.heap ∧ va_K D vwCl (hTys cs) U ∧ (∀ w ∈ lw_tbl, hNest w = true → va_Nw w U) ∧ va_AO "HeldBlades$Moment" U
/-- what holds behind it -/
def hQ (D : va_G) (cs : ClassId × ClassId × ClassId) (h0 : Nat) (o : Option Int32) (S : hS) : Array Value → State → Outcome → State → Prop := match o with
  | some x => va_Qi (fun r (_ : Unit) => r = x) (fun _ t => va_P D vwCl (hWd h0 cs S) t.heap) (fun q => h0 ≤ q)
  | none => va_Qv (fun (_ : Unit) => True) (fun _ t => va_P D vwCl (hWd h0 cs S) t.heap) (fun q => h0 ≤ q)
def hWs (I : hI) : List Cond := Cond.code I.1 I.2.1 I.2.2.1 I.2.2.2.1 :: hBase
def hRm (I : hI) (mc ms : Nat) : Room := { frames := I.2.2.2.2.1, cells := mc, slots := ms, locals := 40 * I.2.2.2.2.1 }
theorem hMetW {l : Launch} {y : MethodName} {ws ws' : List Cond} {rm : Room} {Pc : Array Value → State → Prop} {Qc : Array Value → State → Outcome → State → Prop} {mc ms : Nat} {free : Addr → Prop} {cc : ByteArray} {maxL : Nat} {ret : Option FieldType}
    (hy : plainFor y = true) (hw : ws = Cond.code y cc maxL ret :: ws')
    (body : ∀ p e s m args below meth c s₁, BodyLoose p l y (headSpec ws rm) cc maxL ret e s m args below meth c s₁ → c.maxLocals = maxL → Pc args s →
      W p l e (headSpec ws rm).room s m args below meth c s.heap [] 0 0 (MQ below Qc args s mc ms free) (entryFrame m args maxL)) : Met l y ws rm Pc Qc mc ms free := by
  refine MetFree.of_bodySF (code := cc) (maxLocals := maxL) (ret := ret) hy ?_ ?_
  · intro args s m h hn
    obtain ⟨meth, c, g1, g2, g3, g4, g5, g6, -, -⟩ := Cond.code_spec hn (atoms_spec (ws := ws) h _ (by rw [hw]; exact List.mem_cons_self))
    exact ⟨meth, c, g1, g2, g3, g4, g5, g6⟩
  · intro p e s m args below meth c s₁ B hml hP _
    have hh0 : s₁.heap = s.heap := by rw [B.state]; rfl
    obtain ⟨t, a1, o, b1, b2, b3⟩ := body p e s m args below meth c s₁ B hml hP s₁ hh0 (Stand.of_body B)
    exact ⟨t, o, a1, b1, b2, ⟨b3.1, b3.2⟩⟩
theorem hPlain {I : hI} (h : hChkW I = true) : plainFor I.1 = true := by
  simp only [hChkW, Bool.and_eq_true, decide_eq_true_eq] at h
  exact h.1.1.1.1.2
theorem hMet {l : Launch} {D : va_G} {cs : ClassId × ClassId × ClassId} {h0 : Nat} {I : hI} {S S' : hS} {as : List hV} {o : Option Int32} {mc ms : Nat} (hp : plainFor I.1 = true) (hlen : as.length ≤ I.2.2.1) (h1 : S.1.length + mc = S'.1.length) (h2 : hSl S.1 + ms = hSl S'.1)
    (k : ∀ (p : Program) (e : Env) (R : Room) (s : State) (m : MethodId) (args : Array Value) (below : List Frame) (meth : Method) (c0 : Code), R.cells = mc → R.slots = ms → hX D cs h0 S.1.length I p R s m args meth c0 → hG D cs h0 S.1.length (hSl S.1) I p l e R s m args below meth c0 (MQ below (hQ D cs h0 o S') args s mc ms (fun q => h0 ≤ q)) 0 (hInit I.2.2.1 as) [] S) :
    Met l I.1 (hWs I) (hRm I mc ms) (va_Pc (as.map (hvv h0)) (hHp D cs h0 S)) (hQ D cs h0 o S') mc ms (fun q => h0 ≤ q) := by
  refine hMetW (cc := I.2.1) (maxL := I.2.2.1) (ret := I.2.2.2.1) hp rfl ?_
  intro p e s m args below meth c s₁ B hml hv
  obtain ⟨rfl, hsz, hP, hK, hN, hAO⟩ := hv
  have hts := atoms_spec (ws := hWs I) B.pre
  have hown : s.vm.findClass I.1.cls = some m.cls := findClass_of_methodNamed B.named
  have hin : meth.name = I.1.name := (name_of_methodNamed B.named B.method).1
  have hx : hX D cs h0 S.1.length I p (headSpec (hWs I) (hRm I mc ms)).room s m (as.map (hvv h0)).toArray meth c :=
    ⟨⟨B.exec, B.bytes, B.returns, hml, hown, fun w hw => hts w (List.mem_cons_of_mem _ hw), B.notSynchronized, hin⟩, hK, hN, hAO, hsz, rfl, rfl⟩
  rw [lg_entry_eq]
  exact k p e _ s m _ below meth c rfl rfl hx s.heap [] 0 0 _ (hLc_entry hlen) hP va_S.rf rfl rfl
theorem hBlind {D : va_G} {cs : ClassId × ClassId × ClassId} {h0 : Nat} {S : hS} {av : List Value} : FrameBlind (va_Pc av (hHp D cs h0 S)) := by
  intro a U g mk h
  obtain ⟨q0, q1, qP, qK, qN, qA⟩ := h
  exact ⟨q0, q1, qP, va_K.moved (u := U) (U := U.calling g mk a) (Vm.Alike.refl U.vm) qK, fun w hw hn => by
    cases w <;> first | (cases hn; done) | exact va_Nw.same rfl rfl (qN _ hw rfl), va_AO.moved (u := U) (U := U.calling g mk a) (Vm.Alike.refl U.vm) qA⟩
theorem hNwarm {s U : State} (hW : s.WarmedH U.vm) (hN : ∀ w ∈ lw_tbl, hNest w = true → va_Nw w s) : ∀ w ∈ lw_tbl, hNest w = true → va_Nw w U := by
  intro w hw hn
  cases w <;> first | (cases hn; done) | exact va_Nw.warmF hW (hN _ hw rfl) | exact va_Nw.warmM hW (hN _ hw rfl)
theorem hGood {ws : List Cond} (h : ∀ w ∈ ws, w ∈ hBase) : GoodIn hBase ws := fun w hw => ⟨h w hw, good_of_word (List.mem_filter.mp (h w hw)).2⟩
theorem hIn {q : Nat} {w : Cond} (h : lw_tbl[q]? = some w) (hg : goodWord w = true) : w ∈ hBase := List.mem_filter.mpr ⟨List.mem_of_getElem? h, hg⟩
/-- the heap is as large as the world -/
theorem hHs {D : va_G} {cs : ClassId × ClassId × ClassId} {h0 n0 cells : Nat} {S : hS} {s : State} {H : Heap} {locs : List Loc} (hP : va_P D vwCl (hWd h0 cs S) H) (hS : va_S (fun q => h0 ≤ q) s.heap H locs) (hsz : s.heap.size = h0 + n0) (hn : n0 + cells = S.1.length) (hs : H.size ≤ s.heap.size + cells) : H.size = h0 + S.1.length := by
  rcases Nat.eq_zero_or_pos S.1.length with h | h
  · have := hS.1
    omega
  · obtain ⟨k, hk⟩ : ∃ k, S.1[S.1.length - 1]? = some k := ⟨_, List.getElem?_eq_getElem (by omega)⟩
    have h1 := (hP _ _ (hWd_at (h0 := h0) (cs := cs) hk)).lt
    have h1 : h0 + (S.1.length - 1) < H.size := h1
    omega
