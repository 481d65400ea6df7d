/-! ===== PREDICATES OF ARRAYS that no bound tells: rows kept of the class, rows kept of the model, signs of a rule ===== -/
/-- bounds of a place in a row of 82 -/
def r82 (i : Nat) (z : Int) : Prop := match i with
  | 0 => 0 ≤ z ∧ z ≤ 999
  | 5 | 6 | 7 | 8 | 9 => 0 ≤ z ∧ z ≤ 1023
  | 12 | 13 | 14 | 15 | 16 | 17 | 18 | 19 | 20 | 21 => 0 ≤ z ∧ z ≤ 4
  | 22 | 23 | 24 | 25 | 26 | 27 | 28 | 29 | 30 | 31 => -1 ≤ z ∧ z ≤ 9
  | 42 | 43 | 44 | 45 | 46 | 47 | 48 | 49 | 50 | 51 => 0 ≤ z ∧ z ≤ 9
  | 62 | 63 | 64 | 65 | 66 | 67 | 68 | 69 | 70 | 71 => 0 ≤ z ∧ z ≤ 9
  | _ => True
/-- a row of 66 of the model -/
def r66 (g : Nat → Int) : Prop := (0 ≤ g 0 ∧ g 0 ≤ 999) ∧ ∀ b : Nat, b < 10 → (0 ≤ g (2 + b) ∧ g (2 + b) ≤ 4) ∧ (-1 ≤ g (12 + b) ∧ g (12 + b) ≤ 9) ∧ (g (2 + b) = 3 → 0 ≤ g (12 + b)) ∧ (0 ≤ g (32 + b) ∧ g (32 + b) ≤ 9)
/-- how many numbers lie on the stack behind n signs from a on -/
def dpR (f : Nat → Int) (a : Nat) : Nat → Option Nat
  | 0 => some 0
  | n + 1 => match dpR f a n with
    | none => none
    | some k => if -8 < f (a + n) then (if k < 64 then some (k + 1) else none) else if f (a + n) = -28 then (if 1 ≤ k then some k else none) else if f (a + n) ≤ -20 then (if 2 ≤ k then some (k - 1) else none) else none
def PRD (k n : Nat) (f : Nat → Int32) (zs : List Int) : Prop := match k, zs with
  | 0, [] => n = 3280 ∧ ∀ j : Nat, j < 3280 → r82 (j % 82) (f j).toInt
  | 1, [] => n = 2640 ∧ ∀ r : Nat, r < 40 → r66 (fun j => (f (66 * r + j)).toInt)
  | 2, [t6, t13, d] => n = 1400 ∧ (t6 = 0 ∨ dpR (fun j => (f j).toInt) 0 t6.toNat = some 1) ∧ dpR (fun j => (f j).toInt) 700 t13.toNat = some d.toNat
  | 3, [t6] => n = 1400 ∧ (t6 = 0 ∨ dpR (fun j => (f j).toInt) 0 t6.toNat = some 1)
  | _, _ => False
