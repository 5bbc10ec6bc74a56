/-! Many ticks. -/
def tRow (st : Nat → Int32) : Nat → (Nat → Int32) → Nat → Int32
  | 0, u => u
  | d + 1, u => tRow st d (mSpd (mGoes st u))
theorem spd16 {st u : Nat → Int32} (hs : okSet st) (hi : mInv st u) (hu : (u 16).toInt < 9999) : (mSpd (mGoes st u) 16).toInt = (u 16).toInt + 1 := by
  obtain ⟨k1, k2, k3, -⟩ := step_inv hs hi.1 hi.2.1
  have b := hi.2.2.1
  rw [mSpd_16, (goes_eq hs hi.1).1, pk_un (by decide), k3 16 (by decide)]
  exact i_add (by have : (1 : Int32).toInt = 1 := rfl; have := b.1; omega) (by have : (1 : Int32).toInt = 1 := rfl; omega)
theorem mInv_tick {st u : Nat → Int32} (hs : okSet st) (hi : mInv st u) (hu : (u 16).toInt < 9999) {z : Nat} (hz : z ≤ 40) (e : u 18 = nI z) : mInv st (mSpd (mGoes st u)) :=
  (mom_tick (sc := st) (st := st) (m := fun j => if j = 2 then u 16 else u 17) (w := u) (t := fun j => if j = 1 then nI 0 else u 18) (a := fun j => u (19 + (39 - j))) (u := u) (m' := fun j => if j = 2 then u 16 + 1 else u 17 + (if ¬ u 0 = 5 ∧ wStep st u 0 = 5 then 1 else 0)) (n := 0) (z := z) hs (fun _ _ => rfl) (fun _ _ => rfl) rfl rfl rfl (by decide) hz rfl e (fun k hk => congrArg u (by omega)) hi hu rfl rfl).2
