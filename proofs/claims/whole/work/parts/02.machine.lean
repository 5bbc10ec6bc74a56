/-! A small machine over places: what a method does, as a function; its values, its state, its instructions (resolved by the tables of part 03). -/
/-- a value: a number, or a reference (the kind of its cell, its place) -/
abbrev hV : Type := Int32 ⊕ Option (Nat × Nat)
/-- a state: the kinds of the cells by their places, their numbers, their references -/
abbrev hS : Type := List Nat × (Nat → Nat → Int32) × (Nat → Nat → Option (Nat × Nat))
/-- pc, instruction, next pc, four numbers by which it is resolved, a constant -/
abbrev hE : Type := Nat × Instr × Nat × Nat × Nat × Nat × Nat × Int32
abbrev hC : Type := Nat × List (List hE)
/-- goes on; calls; returns -/
abbrev hA : Type := (Nat × List (Option hV) × List hV × hS) ⊕ ((Nat × List hV × Nat × List hV × Bool) ⊕ Option Int32)
def hFetch (C : hC) (pc : Nat) : Option hE := match C.2[pc / 16]? with
  | some b => b.find? (fun e => e.1 == pc)
  | none => none
def h1 (st : List hV) (f : Int32 → List hV → Option hA) : Option hA := match st with
  | .inl x :: r => f x r
  | _ => none
def h2 (st : List hV) (f : Int32 → Int32 → List hV → Option hA) : Option hA := match st with
  | .inl y :: .inl x :: r => f x y r
  | _ => none
def hr (st : List hV) (f : Nat → Nat → List hV → Option hA) : Option hA := match st with
  | .inr (some (k, c)) :: r => f k c r
  | _ => none
/-- an index and the row under it -/
def hir (st : List hV) (f : Int32 → Nat → Nat → List hV → Option hA) : Option hA := match st with
  | .inl i :: .inr (some (k, c)) :: r => f i k c r
  | _ => none
def hIf (cc : ClassFile.Cond) (x y : Int32) (a nx : Nat) : Nat := match cc with
  | .eq => if x = y then a else nx
  | .ne => if ¬ x = y then a else nx
  | .lt => if x < y then a else nx
  | .ge => if y ≤ x then a else nx
  | .gt => if y < x then a else nx
  | .le => if x ≤ y then a else nx
def hTs (pc : Nat) (d lo hi : Int) (offs : Array Int) (x : Int32) : Nat := if x.toInt < lo ∨ hi < x.toInt then ((pc : Int) + d).toNat else match offs[(x.toInt - lo).toNat]? with
  | some o => ((pc : Int) + o).toNat
  | none => 0
def hLs (pc : Nat) (d : Int) (ps : Array (Int × Int)) (x : Int32) : Nat := ((pc : Int) + Op.lookupswitch.offset ps.toList d x.toInt).toNat
def hPut (S : hS) (c k : Nat) (x : Int32) : hS := (S.1, va_up S.2.1 c (upd (S.2.1 c) k x), S.2.2)
def hPutR (S : hS) (c k : Nat) (x : Nat × Nat) : hS := (S.1, S.2.1, va_up S.2.2 c (va_up (S.2.2 c) k (some x)))
def hNew (S : hS) (k : Nat) : hS := (S.1 ++ [k], va_up S.2.1 S.1.length (fun _ => 0), va_up S.2.2 S.1.length (fun _ => none))
def hPush (S : hS) (k nx : Nat) (L : List (Option hV)) (st : List hV) : Option hA := some (.inl (nx, L, .inr (some (k, S.1.length)) :: st, hNew S k))
/-- what one instruction does -/
def hAct (e : hE) (L : List (Option hV)) (st : List hV) (S : hS) : Option hA :=
  match e with
  | (pc, i, nx, a, b, d, _, v) => match i with
    | .iconst _ | .bipush _ | .sipush _ | .ldc _ | .ldc_w _ => some (.inl (nx, L, .inl v :: st, S))
    | .iload_n _ | .iload _ => match L[a]? with
      | some (some (.inl x)) => some (.inl (nx, L, .inl x :: st, S))
      | _ => none
    | .aload_n _ | .aload _ => match L[a]? with
      | some (some (.inr (some x))) => some (.inl (nx, L, .inr (some x) :: st, S))
      | _ => none
    | .istore_n _ | .istore _ => match st with
      | .inl x :: r => some (.inl (nx, L.set a (some (.inl x)), r, S))
      | _ => none
    | .astore_n _ => match st with
      | .inr (some x) :: r => some (.inl (nx, L.set a (some (.inr (some x))), r, S))
      | _ => none
    | .iinc _ _ => match L[a]? with
      | some (some (.inl x)) => some (.inl (nx, L.set a (some (.inl (x + v))), st, S))
      | _ => none
    | .iadd => h2 st fun x y r => some (.inl (nx, L, .inl (x + y) :: r, S))
    | .isub => h2 st fun x y r => some (.inl (nx, L, .inl (x - y) :: r, S))
    | .imul => h2 st fun x y r => some (.inl (nx, L, .inl (x * y) :: r, S))
    | .iand => h2 st fun x y r => some (.inl (nx, L, .inl (x &&& y) :: r, S))
    | .ior => h2 st fun x y r => some (.inl (nx, L, .inl (x ||| y) :: r, S))
    | .ixor => h2 st fun x y r => some (.inl (nx, L, .inl (x ^^^ y) :: r, S))
    | .ishl => h2 st fun x y r => some (.inl (nx, L, .inl (x <<< (y &&& 31)) :: r, S))
    | .ishr => h2 st fun x y r => some (.inl (nx, L, .inl (x >>> (y &&& 31)) :: r, S))
    | .iushr => h2 st fun x y r => some (.inl (nx, L, .inl ((x.toUInt32 >>> (y.toUInt32 &&& Int32.toUInt32 31)).toInt32) :: r, S))
    | .ineg => h1 st fun x r => some (.inl (nx, L, .inl (-x) :: r, S))
    | .idiv => h2 st fun x y r => if y = 0 then none else some (.inl (nx, L, .inl (x / y) :: r, S))
    | .irem => h2 st fun x y r => if y = 0 then none else some (.inl (nx, L, .inl (x - x / y * y) :: r, S))
    | .dup => match st with
      | x :: r => some (.inl (nx, L, x :: x :: r, S))
      | _ => none
    | .dup2 => match st with
      | x :: y :: r => some (.inl (nx, L, x :: y :: x :: y :: r, S))
      | _ => none
    | .if_icmp cc _ => h2 st fun x y r => some (.inl (hIf cc x y a nx, L, r, S))
    | .ifCond cc _ => h1 st fun x r => some (.inl (hIf cc x 0 a nx, L, r, S))
    | .goto _ => some (.inl (a, L, st, S))
    | .tableswitch d lo hi offs => h1 st fun x r => some (.inl (hTs pc d lo hi offs x, L, r, S))
    | .lookupswitch d ps => h1 st fun x r => some (.inl (hLs pc d ps x, L, r, S))
    | .getfield _ => match d with
      | 1 => hr st fun k c r => if k = a then some (.inl (nx, L, .inr (S.2.2 c b) :: r, S)) else none
      | _ => hr st fun k c r => if k = a then some (.inl (nx, L, .inl (S.2.1 c b) :: r, S)) else none
    | .putfield _ => match d, st with
      | 0, .inl x :: .inr (some (k, c)) :: r => if k = a then some (.inl (nx, L, r, hPut S c b x)) else none
      | 1, .inr (some x) :: .inr (some (k, c)) :: r => if k = a then some (.inl (nx, L, r, hPutR S c b x)) else none
      | 2, .inl x :: .inr (some (k, c)) :: r => if k = a then (if x = 0 ∨ x = 1 then some (.inl (nx, L, r, hPut S c b x)) else none) else none
      | _, _ => none
    | .iaload => hir st fun i k c r => if (10000 ≤ k ∧ k < 20000) ∧ 0 ≤ i.toInt ∧ i.toInt < ((k % 10000 : Nat) : Int) then some (.inl (nx, L, .inl (S.2.1 c i.toNatClampNeg) :: r, S)) else none
    | .baload => hir st fun i k c r => if (20000 ≤ k ∧ k < 30000) ∧ 0 ≤ i.toInt ∧ i.toInt < ((k % 10000 : Nat) : Int) then some (.inl (nx, L, .inl (S.2.1 c i.toNatClampNeg) :: r, S)) else none
    | .aaload => hir st fun i k c r => if (30000 ≤ k ∧ k < 40000) ∧ 0 ≤ i.toInt ∧ i.toInt < ((k % 10000 : Nat) : Int) then some (.inl (nx, L, .inr (S.2.2 c i.toNatClampNeg) :: r, S)) else none
    | .iastore => match st with
      | .inl x :: .inl i :: .inr (some (k, c)) :: r => if (10000 ≤ k ∧ k < 20000) ∧ 0 ≤ i.toInt ∧ i.toInt < ((k % 10000 : Nat) : Int) then some (.inl (nx, L, r, hPut S c i.toNatClampNeg x)) else none
      | _ => none
    | .bastore => match st with
      | .inl x :: .inl i :: .inr (some (k, c)) :: r => if (20000 ≤ k ∧ k < 30000) ∧ 0 ≤ i.toInt ∧ i.toInt < ((k % 10000 : Nat) : Int) then (if x = 0 ∨ x = 1 then some (.inl (nx, L, r, hPut S c i.toNatClampNeg x)) else none) else none
      | _ => none
    | .aastore => match st with
      | .inr (some (0, x)) :: .inl i :: .inr (some (k, c)) :: r => if (30000 ≤ k ∧ k < 40000) ∧ 0 ≤ i.toInt ∧ i.toInt < ((k % 10000 : Nat) : Int) then some (.inl (nx, L, r, hPutR S c i.toNatClampNeg (0, x))) else none
      | _ => none
    | .arraylength => hr st fun k _ r => if 10000 ≤ k ∧ k < 40000 then some (.inl (nx, L, .inl (Int32.ofNat (k % 10000)) :: r, S)) else none
    | .new _ => hPush S a nx L st
    | .newarray _ => h1 st fun n r => if 0 ≤ n.toInt ∧ n.toInt < 10000 then hPush S (a + n.toNatClampNeg) nx L r else none
    | .anewarray _ => h1 st fun n r => if 0 ≤ n.toInt ∧ n.toInt < 10000 then hPush S (30000 + n.toNatClampNeg) nx L r else none
    | .invokestatic _ => if a = 9999 then (match st with
        | .inl n :: .inl dp :: .inr (some (k1, c1)) :: .inl sp :: .inr (some (k0, c0)) :: r => if ((10000 ≤ k1 ∧ k1 < 20000) ∧ (10000 ≤ k0 ∧ k0 < 20000) ∧ r = []) ∧ (0 ≤ sp.toInt ∧ 0 ≤ dp.toInt ∧ 0 ≤ n.toInt) ∧ (sp.toNatClampNeg + n.toNatClampNeg ≤ k0 % 10000 ∧ dp.toNatClampNeg + n.toNatClampNeg ≤ k1 % 10000) then
            some (.inl (nx, L, r, (S.1, va_up S.2.1 c1 (va_cpy (S.2.1 c0) (S.2.1 c1) sp.toNatClampNeg dp.toNatClampNeg n.toNatClampNeg), S.2.2))) else none
        | _ => none)
      else if (st.take b).length = b ∧ (st.drop b).length ≤ 8 then some (.inr (.inl (a, (st.take b).reverse, nx, st.drop b, v = 1))) else none
    | .invokevirtual _ => match st.drop b with
      | .inr (some (k, c)) :: r => if k = d ∧ (st.take b).length = b ∧ r.length ≤ 8 then some (.inr (.inl (a, .inr (some (k, c)) :: (st.take b).reverse, nx, r, v = 1))) else none
      | _ => none
    | .invokespecial _ => if a = 9998 then (match st with
        | .inr (some _) :: r => if r.length ≤ 8 then some (.inl (nx, L, r, S)) else none
        | _ => none)
      else match st.drop b with
      | .inr (some (k, c)) :: r => if k = d ∧ (st.take b).length = b ∧ r.length ≤ 8 then some (.inr (.inl (a, .inr (some (k, c)) :: (st.take b).reverse, nx, r, v = 1))) else none
      | _ => none
    | .ireturn => match st with
      | [.inl x] => if d = 2 then (if x = 0 ∨ x = 1 then some (.inr (.inr (some x))) else none) else some (.inr (.inr (some x)))
      | _ => none
    | .return_ => match st with
      | [] => some (.inr (.inr none))
      | _ => none
    | _ => none
def hInit (n : Nat) (as : List hV) : List (Option hV) := as.map some ++ List.replicate (n - as.length) none
