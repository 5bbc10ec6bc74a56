/-! The machine's run, and the rows by which a run is shown. -/
def hRun : Nat → hC → Nat → List (Option hV) → List hV → hS → Option (Option Int32 × hS)
  | 0, _, _, _, _, _ => none
  | n + 1, C, pc, L, st, S => match hFetch C pc with
    | none => none
    | some e => match hAct e L st S with
      | none => none
      | some (.inl (pc', L', st', S')) => hRun n C pc' L' st' S'
      | some (.inr (.inl (y, as, nx, r, vf))) => match hRun n (hcod y) 0 (hInit (hcod y).1 as) [] S with
        | none => none
        | some (some x, S1) => if vf = true then hRun n C nx L (.inl x :: r) S1 else none
        | some (none, S1) => if vf = true then none else hRun n C nx L r S1
      | some (.inr (.inr o)) => some (o, S)
theorem hRun_succ : ∀ (n : Nat) (C : hC) (pc : Nat) (L : List (Option hV)) (st : List hV) (S : hS) (o : Option Int32 × hS), hRun n C pc L st S = some o → hRun (n + 1) C pc L st S = some o := by
  intro n
  induction n with
  | zero => intro C pc L st S o h; cases h
  | succ n ih =>
    intro C pc L st S o h
    rw [hRun] at h ⊢
    cases hf : hFetch C pc with
    | none => rw [hf] at h; cases h
    | some e =>
      rw [hf] at h
      dsimp only at h ⊢
      cases ha : hAct e L st S with
      | none => rw [ha] at h; cases h
      | some A =>
        rw [ha] at h
        rcases A with ⟨pc', L', st', S'⟩ | ⟨y, as, nx, r, vf⟩ | o'
        · exact ih _ _ _ _ _ _ h
        · dsimp only at h ⊢
          cases hc : hRun n (hcod y) 0 (hInit (hcod y).1 as) [] S with
          | none => rw [hc] at h; cases h
          | some q =>
            rw [hc] at h
            rw [ih _ _ _ _ _ _ hc]
            rcases q with ⟨_ | x, S1⟩
            · dsimp only at h ⊢
              cases vf
              · exact ih _ _ _ _ _ _ h
              · exact h
            · dsimp only at h ⊢
              cases vf
              · exact h
              · exact ih _ _ _ _ _ _ h
        · exact h
theorem hRun_mono {n m : Nat} (hnm : n ≤ m) {C : hC} {pc : Nat} {L : List (Option hV)} {st : List hV} {S : hS} {o : Option Int32 × hS} (h : hRun n C pc L st S = some o) : hRun m C pc L st S = some o := by
  induction hnm with
  | refl => exact h
  | step _ ih => exact hRun_succ _ _ _ _ _ _ _ ih
def Rn (C : hC) (pc : Nat) (L : List (Option hV)) (st : List hV) (S : hS) (o : Option Int32 × hS) : Prop := ∃ n, hRun n C pc L st S = some o
def Ev (y : Nat) (as : List hV) (S : hS) (o : Option Int32 × hS) : Prop := Rn (hcod y) 0 (hInit (hcod y).1 as) [] S o
theorem r_step {C : hC} {pc : Nat} {L : List (Option hV)} {st : List hV} {S : hS} {o : Option Int32 × hS} {e : hE} {pc' : Nat} {L' : List (Option hV)} {st' : List hV} {S' : hS} (hf : hFetch C pc = some e) (ha : hAct e L st S = some (.inl (pc', L', st', S'))) (k : Rn C pc' L' st' S' o) : Rn C pc L st S o := by
  obtain ⟨n, h⟩ := k
  exact ⟨n + 1, by rw [hRun, hf]; dsimp only; rw [ha]; exact h⟩
theorem r_ret {C : hC} {pc : Nat} {L : List (Option hV)} {st : List hV} {S : hS} {e : hE} {o : Option Int32} (hf : hFetch C pc = some e) (ha : hAct e L st S = some (.inr (.inr o))) : Rn C pc L st S (o, S) := ⟨1, by rw [hRun, hf]; dsimp only; rw [ha]⟩
theorem r_call {C : hC} {pc : Nat} {L : List (Option hV)} {st : List hV} {S : hS} {o : Option Int32 × hS} {e : hE} {y : Nat} {as : List hV} {nx : Nat} {r : List hV} {x : Int32} {S1 : hS} (hf : hFetch C pc = some e) (ha : hAct e L st S = some (.inr (.inl (y, as, nx, r, true)))) (hE : Ev y as S (some x, S1)) (k : Rn C nx L (.inl x :: r) S1 o) : Rn C pc L st S o := by
  obtain ⟨n, h⟩ := k
  obtain ⟨m, g⟩ := hE
  refine ⟨max n m + 1, ?_⟩
  rw [hRun, hf]; dsimp only; rw [ha]; dsimp only
  rw [hRun_mono (Nat.le_max_right n m) g]; dsimp only
  rw [if_pos rfl]
  exact hRun_mono (Nat.le_max_left n m) h
theorem r_callv {C : hC} {pc : Nat} {L : List (Option hV)} {st : List hV} {S : hS} {o : Option Int32 × hS} {e : hE} {y : Nat} {as : List hV} {nx : Nat} {r : List hV} {S1 : hS} (hf : hFetch C pc = some e) (ha : hAct e L st S = some (.inr (.inl (y, as, nx, r, false)))) (hE : Ev y as S (none, S1)) (k : Rn C nx L r S1 o) : Rn C pc L st S o := by
  obtain ⟨n, h⟩ := k
  obtain ⟨m, g⟩ := hE
  refine ⟨max n m + 1, ?_⟩
  rw [hRun, hf]; dsimp only; rw [ha]; dsimp only
  rw [hRun_mono (Nat.le_max_right n m) g]; dsimp only
  rw [if_neg (by decide)]
  exact hRun_mono (Nat.le_max_left n m) h
theorem r_if {C : hC} {c : Prop} {i : Decidable c} {p q : Nat} {L : List (Option hV)} {st : List hV} {S : hS} {o : Option Int32 × hS} (kt : c → Rn C p L st S o) (kf : ¬ c → Rn C q L st S o) : Rn C (if c then p else q) L st S o := by
  by_cases h : c
  · rw [if_pos h]; exact kt h
  · rw [if_neg h]; exact kf h
theorem r_eq {C : hC} {pc : Nat} {L : List (Option hV)} {st : List hV} {S : hS} {o o' : Option Int32 × hS} (h : o = o') (k : Rn C pc L st S o) : Rn C pc L st S o' := h ▸ k
theorem hcod_J6_bitCount_0f7a4 : hcod 0 = hc_J6_bitCount_0f7a4 := rfl
theorem hcod_J9_abs_0f7a4 : hcod 1 = hc_J9_abs_0f7a4 := rfl
theorem hcod_J9_floorDiv_7cf53 : hcod 2 = hc_J9_floorDiv_7cf53 := rfl
theorem hcod_J9_floorMod_7cf53 : hcod 3 = hc_J9_floorMod_7cf53 := rfl
theorem hcod_J9_max_7cf53 : hcod 4 = hc_J9_max_7cf53 := rfl
theorem hcod_J9_min_7cf53 : hcod 5 = hc_J9_min_7cf53 := rfl
theorem hcod_X10_away : hcod 6 = hc_X10_away := rfl
theorem hcod_X10_clear : hcod 7 = hc_X10_clear := rfl
theorem hcod_X10_count : hcod 8 = hc_X10_count := rfl
theorem hcod_X10_forget : hcod 9 = hc_X10_forget := rfl
theorem hcod_X10_in : hcod 10 = hc_X10_in := rfl
theorem hcod_X10_isToldAlready : hcod 11 = hc_X10_isToldAlready := rfl
theorem hcod_X10_leastOf : hcod 12 = hc_X10_leastOf := rfl
theorem hcod_X10_mostOf : hcod 13 = hc_X10_mostOf := rfl
theorem hcod_X10_notes : hcod 14 = hc_X10_notes := rfl
theorem hcod_X10_notesSpeed : hcod 15 = hc_X10_notesSpeed := rfl
theorem hcod_X10_pitchGoal : hcod 16 = hc_X10_pitchGoal := rfl
theorem hcod_X10_plain : hcod 17 = hc_X10_plain := rfl
theorem hcod_X10_record : hcod 18 = hc_X10_record := rfl
theorem hcod_X10_takesOver : hcod 19 = hc_X10_takesOver := rfl
theorem hcod_X10_towards : hcod 20 = hc_X10_towards := rfl
theorem hcod_X10_tries : hcod 21 = hc_X10_tries := rfl
theorem hcod_X10_turns : hcod 22 = hc_X10_turns := rfl
theorem hcod_X10_undo : hcod 23 = hc_X10_undo := rfl
theorem hcod_X10_unlikeOnes : hcod 24 = hc_X10_unlikeOnes := rfl
theorem hcod_X10_whichOf : hcod 25 = hc_X10_whichOf := rfl
theorem hcod_X1_lose : hcod 26 = hc_X1_lose := rfl
theorem hcod_X2_allHalves : hcod 27 = hc_X2_allHalves := rfl
theorem hcod_X2_findTurn : hcod 28 = hc_X2_findTurn := rfl
theorem hcod_X2_placeOf : hcod 29 = hc_X2_placeOf := rfl
theorem hcod_X3_isTold : hcod 30 = hc_X3_isTold := rfl
theorem hcod_X3_settingOf : hcod 31 = hc_X3_settingOf := rfl
theorem hcod_X3_takesEnd : hcod 32 = hc_X3_takesEnd := rfl
theorem hcod_X4_add : hcod 33 = hc_X4_add := rfl
theorem hcod_X5_become : hcod 34 = hc_X5_become := rfl
theorem hcod_X5_put : hcod 35 = hc_X5_put := rfl
theorem hcod_X5_startAnew : hcod 36 = hc_X5_startAnew := rfl
theorem hcod_X5_tell : hcod 37 = hc_X5_tell := rfl
theorem hcod_X6_append : hcod 38 = hc_X6_append := rfl
theorem hcod_X6_letterAt : hcod 39 = hc_X6_letterAt := rfl
theorem hcod_X7_startAnew : hcod 40 = hc_X7_startAnew := rfl
theorem hcod_X8_ahead : hcod 41 = hc_X8_ahead := rfl
theorem hcod_X8_become : hcod 42 = hc_X8_become := rfl
theorem hcod_X8_drag : hcod 43 = hc_X8_drag := rfl
theorem hcod_X8_isWound : hcod 44 = hc_X8_isWound := rfl
theorem hcod_X8_startAnew : hcod 45 = hc_X8_startAnew := rfl
theorem hcod_X8_torqueAim : hcod 46 = hc_X8_torqueAim := rfl
theorem hcod_X8_turnBy : hcod 47 = hc_X8_turnBy := rfl
theorem hcod_X9_alikeUpTo : hcod 48 = hc_X9_alikeUpTo := rfl
theorem hcod_X9_clear : hcod 49 = hc_X9_clear := rfl
theorem hcod_X9_count : hcod 50 = hc_X9_count := rfl
theorem hcod_X9_forget : hcod 51 = hc_X9_forget := rfl
theorem hcod_X9_isWithin : hcod 52 = hc_X9_isWithin := rfl
theorem hcod_X9_loseImages : hcod 53 = hc_X9_loseImages := rfl
theorem hcod_X0_startAnew : hcod 54 = hc_X0_startAnew := rfl
theorem hcod_X10_back : hcod 55 = hc_X10_back := rfl
theorem hcod_X10_becomes : hcod 56 = hc_X10_becomes := rfl
theorem hcod_X10_blows : hcod 57 = hc_X10_blows := rfl
theorem hcod_X10_closes : hcod 58 = hc_X10_closes := rfl
theorem hcod_X10_counts : hcod 59 = hc_X10_counts := rfl
theorem hcod_X10_errorOf : hcod 60 = hc_X10_errorOf := rfl
theorem hcod_X10_findsTurns : hcod 61 = hc_X10_findsTurns := rfl
theorem hcod_X10_ices : hcod 62 = hc_X10_ices := rfl
theorem hcod_X10_init : hcod 63 = hc_X10_init := rfl
theorem hcod_X10_isFigure : hcod 64 = hc_X10_isFigure := rfl
theorem hcod_X10_isWound : hcod 65 = hc_X10_isWound := rfl
theorem hcod_X10_keep : hcod 66 = hc_X10_keep := rfl
theorem hcod_X10_resets : hcod 67 = hc_X10_resets := rfl
theorem hcod_X10_sees : hcod 68 = hc_X10_sees := rfl
theorem hcod_X10_setting : hcod 69 = hc_X10_setting := rfl
theorem hcod_X10_type : hcod 70 = hc_X10_type := rfl
theorem hcod_X2_addHalves : hcod 71 = hc_X2_addHalves := rfl
theorem hcod_X2_greatestDifference : hcod 72 = hc_X2_greatestDifference := rfl
theorem hcod_X2_halvesOf : hcod 73 = hc_X2_halvesOf := rfl
theorem hcod_X2_init : hcod 74 = hc_X2_init := rfl
theorem hcod_X2_isCycleInside : hcod 75 = hc_X2_isCycleInside := rfl
theorem hcod_X3_takesLetter : hcod 76 = hc_X3_takesLetter := rfl
theorem hcod_X4_init : hcod 77 = hc_X4_init := rfl
theorem hcod_X5_init : hcod 78 = hc_X5_init := rfl
theorem hcod_X5_mayBe : hcod 79 = hc_X5_mayBe := rfl
theorem hcod_X6_behindBlanks : hcod 80 = hc_X6_behindBlanks := rfl
theorem hcod_X6_init : hcod 81 = hc_X6_init := rfl
theorem hcod_X6_isFigureAt : hcod 82 = hc_X6_isFigureAt := rfl
theorem hcod_X7_add : hcod 83 = hc_X7_add := rfl
theorem hcod_X7_become : hcod 84 = hc_X7_become := rfl
theorem hcod_X7_init : hcod 85 = hc_X7_init := rfl
theorem hcod_X7_speedAgo : hcod 86 = hc_X7_speedAgo := rfl
theorem hcod_X8_drive : hcod 87 = hc_X8_drive := rfl
theorem hcod_X8_error : hcod 88 = hc_X8_error := rfl
theorem hcod_X8_init : hcod 89 = hc_X8_init := rfl
theorem hcod_X8_nearer : hcod 90 = hc_X8_nearer := rfl
theorem hcod_X8_nextMode : hcod 91 = hc_X8_nextMode := rfl
theorem hcod_X8_pitchAim : hcod 92 = hc_X8_pitchAim := rfl
theorem hcod_X8_turn : hcod 93 = hc_X8_turn := rfl
theorem hcod_X9_sees : hcod 94 = hc_X9_sees := rfl
theorem hcod_X9_setting : hcod 95 = hc_X9_setting := rfl
theorem hcod_X9_type : hcod 96 = hc_X9_type := rfl
theorem hcod_X0_become : hcod 97 = hc_X0_become := rfl
theorem hcod_X0_init : hcod 98 = hc_X0_init := rfl
theorem hcod_X10_driveOf : hcod 99 = hc_X10_driveOf := rfl
theorem hcod_X10_grids : hcod 100 = hc_X10_grids := rfl
theorem hcod_X10_looksUp : hcod 101 = hc_X10_looksUp := rfl
theorem hcod_X10_modeOf : hcod 102 = hc_X10_modeOf := rfl
theorem hcod_X10_next : hcod 103 = hc_X10_next := rfl
theorem hcod_X10_rains : hcod 104 = hc_X10_rains := rfl
theorem hcod_X10_wants : hcod 105 = hc_X10_wants := rfl
theorem hcod_X2_addToRow : hcod 106 = hc_X2_addToRow := rfl
theorem hcod_X3_init : hcod 107 = hc_X3_init := rfl
theorem hcod_X3_takesNumber : hcod 108 = hc_X3_takesNumber := rfl
theorem hcod_X6_behindToken : hcod 109 = hc_X6_behindToken := rfl
theorem hcod_X6_numberAt : hcod 110 = hc_X6_numberAt := rfl
theorem hcod_X8_step : hcod 111 = hc_X8_step := rfl
theorem hcod_X8_tell : hcod 112 = hc_X8_tell := rfl
theorem hcod_X9_record : hcod 113 = hc_X9_record := rfl
theorem hcod_X0_tick : hcod 114 = hc_X0_tick := rfl
theorem hcod_X10_halvesOf : hcod 115 = hc_X10_halvesOf := rfl
theorem hcod_X10_holds : hcod 116 = hc_X10_holds := rfl
theorem hcod_X10_must : hcod 117 = hc_X10_must := rfl
theorem hcod_X10_now : hcod 118 = hc_X10_now := rfl
theorem hcod_X10_rain : hcod 119 = hc_X10_rain := rfl
theorem hcod_X1_add : hcod 120 = hc_X1_add := rfl
theorem hcod_X1_init : hcod 121 = hc_X1_init := rfl
theorem hcod_X1_takeLatest : hcod 122 = hc_X1_takeLatest := rfl
theorem hcod_X2_pour : hcod 123 = hc_X2_pour := rfl
theorem hcod_X3_takes : hcod 124 = hc_X3_takes := rfl
theorem hcod_X9_back : hcod 125 = hc_X9_back := rfl
theorem hcod_X9_bearsGust : hcod 126 = hc_X9_bearsGust := rfl
theorem hcod_X9_keep : hcod 127 = hc_X9_keep := rfl
theorem hcod_X9_now : hcod 128 = hc_X9_now := rfl
theorem hcod_X9_ridesDip : hcod 129 = hc_X9_ridesDip := rfl
theorem hcod_X9_speedAfter : hcod 130 = hc_X9_speedAfter := rfl
theorem hcod_X10_goesOn : hcod 131 = hc_X10_goesOn := rfl
theorem hcod_X10_halves : hcod 132 = hc_X10_halves := rfl
theorem hcod_X10_readsItem : hcod 133 = hc_X10_readsItem := rfl
theorem hcod_X3_read : hcod 134 = hc_X3_read := rfl
theorem hcod_X9_agreesWithSeen : hcod 135 = hc_X9_agreesWithSeen := rfl
theorem hcod_X9_blows : hcod 136 = hc_X9_blows := rfl
theorem hcod_X9_dip : hcod 137 = hc_X9_dip := rfl
theorem hcod_X9_grids : hcod 138 = hc_X9_grids := rfl
theorem hcod_X9_gust : hcod 139 = hc_X9_gust := rfl
theorem hcod_X9_halves : hcod 140 = hc_X9_halves := rfl
theorem hcod_X9_ices : hcod 141 = hc_X9_ices := rfl
theorem hcod_X9_init : hcod 142 = hc_X9_init := rfl
theorem hcod_X9_mostAlike : hcod 143 = hc_X9_mostAlike := rfl
theorem hcod_X9_rain : hcod 144 = hc_X9_rain := rfl
theorem hcod_X9_resets : hcod 145 = hc_X9_resets := rfl
theorem hcod_X9_ticks : hcod 146 = hc_X9_ticks := rfl
theorem hcod_X9_undo : hcod 147 = hc_X9_undo := rfl
theorem hcod_X9_wants : hcod 148 = hc_X9_wants := rfl
theorem hcod_X10_bears : hcod 149 = hc_X10_bears := rfl
theorem hcod_X10_rides : hcod 150 = hc_X10_rides := rfl
theorem hcod_X10_speedBy : hcod 151 = hc_X10_speedBy := rfl
theorem hcod_X10_tells : hcod 152 = hc_X10_tells := rfl
theorem hcod_X10_ticks : hcod 153 = hc_X10_ticks := rfl
theorem hcod_X9_possibleIce : hcod 154 = hc_X9_possibleIce := rfl
theorem hcod_X9_tells : hcod 155 = hc_X9_tells := rfl
theorem hcod_X10_dip : hcod 156 = hc_X10_dip := rfl
theorem hcod_X10_gust : hcod 157 = hc_X10_gust := rfl
theorem hcod_X10_isSo : hcod 158 = hc_X10_isSo := rfl
theorem hcod_X10_mostAlike : hcod 159 = hc_X10_mostAlike := rfl
theorem hcod_X9_ask : hcod 160 = hc_X9_ask := rfl
theorem hcod_X9_which : hcod 161 = hc_X9_which := rfl
theorem hcod_X10_which : hcod 162 = hc_X10_which := rfl
theorem hcod_X10_ask : hcod 163 = hc_X10_ask := rfl
