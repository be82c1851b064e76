/-! THE ABSTRACT MACHINE. A value: an int, a reference (kind, instance, part), a long. A heap: ints by kind, instance, part, place. -/
abbrev zV : Type := Int32 ⊕ ((Nat × Nat × Nat) ⊕ Int64)
abbrev zH : Type := Nat → Nat → Nat → Nat → Int32
abbrev zLS : Type := List (Option zV)
abbrev zAR : Type := (Nat × zLS × List zV × zH) ⊕ ((Nat × List zV × List zV) ⊕ Option zV)
abbrev zRS : Type := Option zV × zH
def zup (h : zH) (k i s j : Nat) (v : Int32) : zH := fun k' i' s' j' => if k' = k ∧ i' = i ∧ s' = s ∧ j' = j then v else h k' i' s' j'
def zupA (h : zH) (k i s : Nat) (f : Nat → Int32) : zH := fun k' i' s' j' => if k' = k ∧ i' = i ∧ s' = s then f j' else h k' i' s' j'
def zlg (ls : zLS) (i : Nat) : Option zV := match ls[i]? with
  | some (some v) => some v
  | _ => none
def znotL (ls : zLS) (i : Nat) : Bool := match i with
  | 0 => true
  | j + 1 => match ls[j]? with
    | some (some (.inr (.inr _))) => false
    | _ => true
def zlsI (ls : zLS) (i : Nat) (v : zV) : Option zLS := if i < ls.length ∧ znotL ls i = true then some (ls.set i (some v)) else none
def zlsL (ls : zLS) (i : Nat) (x : Int64) : Option zLS := if i + 1 < ls.length ∧ znotL ls i = true then some ((ls.set i (some (.inr (.inr x)))).set (i + 1) none) else none
def zjt (pc : Nat) (off : Int) : Option Nat := match (pc : Int) + off with
  | .ofNat n => some n
  | .negSucc _ => none
def zop0 (st : List zV) (v : zV) : Option (List zV) := some (v :: st)
def zop1 (st : List zV) (f : Int32 → Option zV) : Option (List zV) := match st with
  | .inl x :: r => match f x with
    | some v => some (v :: r)
    | none => none
  | _ => none
def zop2 (st : List zV) (f : Int32 → Int32 → Option zV) : Option (List zV) := match st with
  | .inl y :: .inl x :: r => match f x y with
    | some v => some (v :: r)
    | none => none
  | _ => none
def zopL (st : List zV) (f : Int64 → Int64 → Option zV) : Option (List zV) := match st with
  | .inr (.inr y) :: .inr (.inr x) :: r => match f x y with
    | some v => some (v :: r)
    | none => none
  | _ => none
def zcmp (c : ClassFile.Cond) (x y : Int32) : Bool := match c with
  | .eq => decide (x = y)
  | .ne => decide (¬ x = y)
  | .lt => decide (x < y)
  | .ge => decide (y ≤ x)
  | .gt => decide (y < x)
  | .le => decide (x ≤ y)
def zIn (j : Int32) (n : Nat) : Bool := decide (¬ (j < 0 ∨ n ≤ j.toNatClampNeg))
def zrOk (rt : Option FieldType) (st : List zV) : Bool := match rt, st with
  | some .int, [.inl _] => true
  | some ty, [.inl v] => decide (narrow ty (.int v) = .int v)
  | _, _ => false
def zrOkA (rt : Option FieldType) (st : List zV) : Bool := match rt, st with
  | some (.object _), [.inr (.inl (k, _, _))] => decide (k ≤ 12)
  | _, _ => false
