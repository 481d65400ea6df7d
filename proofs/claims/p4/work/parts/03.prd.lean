/-! ===== PREDICATES OF ARRAYS that no bound tells: rows kept of the class, rows kept of the model, signs of a rule ===== -/
/-- bounds of a place in a row of 82 -/
def r82 (i : Nat) (z : Int) : Prop := match i with
  | 0 => 0 ≤ z ∧ z ≤ 999
  | 5 | 6 | 7 | 8 | 9 => 0 ≤ z ∧ z ≤ 1023
  | 12 | 13 | 14 | 15 | 16 | 17 | 18 | 19 | 20 | 21 => 0 ≤ z ∧ z ≤ 4
  | 22 | 23 | 24 | 25 | 26 | 27 | 28 | 29 | 30 | 31 => -1 ≤ z ∧ z ≤ 9
  | 42 | 43 | 44 | 45 | 46 | 47 | 48 | 49 | 50 | 51 => 0 ≤ z ∧ z ≤ 9
  | 62 | 63 | 64 | 65 | 66 | 67 | 68 | 69 | 70 | 71 => 0 ≤ z ∧ z ≤ 9
  | _ => True
/-- a row of 66 of the model -/
def r66 (g : Nat → Int) : Prop := (0 ≤ g 0 ∧ g 0 ≤ 999) ∧ ∀ b : Nat, b < 10 → (0 ≤ g (2 + b) ∧ g (2 + b) ≤ 4) ∧ (-1 ≤ g (12 + b) ∧ g (12 + b) ≤ 9) ∧ (g (2 + b) = 3 → 0 ≤ g (12 + b)) ∧ (0 ≤ g (32 + b) ∧ g (32 + b) ≤ 9)
/-- how many numbers lie on the stack behind n signs from a on -/
def dpS (z : Int) (k : Nat) : Option Nat := if -8 < z then (if k < 64 then some (k + 1) else none) else if z = -28 then (if 1 ≤ k then some k else none) else if -27 ≤ z ∧ z ≤ -20 then (if 2 ≤ k then some (k - 1) else none) else none
def dpR (f : Nat → Int) (a : Nat) : Nat → Option Nat
  | 0 => some 0
  | n + 1 => match dpR f a n with
    | none => none
    | some k => dpS (f (a + n)) k
/-- rows of 66, all as they must be -/
def R66 (n : Nat) (g : Nat → Int) : Prop := ∀ r : Nat, 66 * r + 66 ≤ n → r66 (fun j => g (66 * r + j))
/-- what is told of the places of a row that is opened -/
def pZ : List Nat → List Int → Nat → Option Int
  | k :: ks, z :: zs, j => bif Nat.beq k j then some z else pZ ks zs j
  | _, _, _ => none
def oRow (fr : Nat) (ks : List Nat) (zs : List Int) (g : Nat → Int) (j : Nat) : Int := if fr ≤ j ∧ j < fr + 66 then (pZ ks zs (j - fr)).getD (g j) else g j
/-- signs between calls -/
def sgT (F : Nat → Int) (t6 : Int) : Prop := 0 ≤ t6 ∧ t6 ≤ 700 ∧ (t6 = 0 ∨ dpR F 0 t6.toNat = some 1)
def PR0 (n : Nat) (f : Nat → Int32) : List Nat → List Int → Prop
  | [], [] => n = 3280 ∧ ∀ j : Nat, j < 3280 → r82 (j % 82) (f j).toInt
  | _, _ => False
def PR1 (n : Nat) (f : Nat → Int32) : List Nat → List Int → Prop
  | [], [] => n % 66 = 0 ∧ R66 n (fun j => (f j).toInt)
  | 1000 :: ks, fr :: zs => n % 66 = 0 ∧ 0 ≤ fr ∧ fr.toNat % 66 = 0 ∧ fr.toNat + 66 ≤ n ∧ ∃ g : Nat → Int, R66 n g ∧ ∀ j : Nat, j < n → (f j).toInt = oRow fr.toNat ks zs g j
  | 2000 :: ks, k :: zs => (match ks, zs with
    | [], [] => n % 66 = 0 ∧ 66 ≤ k ∧ k ≤ n ∧ ∃ g : Nat → Int, R66 n g ∧ ∀ j : Nat, j < n → (f j).toInt = if (j : Int) + 66 < k then g (j + 66) else g j
    | [2001], [v] => n % 66 = 0 ∧ 66 ≤ k ∧ k < n ∧ (f k.toNat).toInt = v ∧ ∃ g : Nat → Int, R66 n g ∧ ∀ j : Nat, j < n → (f j).toInt = if (j : Int) + 66 < k then g (j + 66) else g j
    | _, _ => False)
  | _, _ => False
def PR2 (n : Nat) (f : Nat → Int32) : List Nat → List Int → Prop
  | [0, 1, 2, 3, 4], [t6, t13, d, p, bg] => n = 1400 ∧ sgT (fun j => (f j).toInt) t6 ∧ 0 ≤ t13 ∧ 0 ≤ d ∧ dpR (fun j => (f j).toInt) 700 t13.toNat = some d.toNat ∧ t13 + p ≤ bg
  | _, _ => False
def PR3 (n : Nat) (f : Nat → Int32) : List Nat → List Int → Prop
  | [0], [t6] => n = 1400 ∧ sgT (fun j => (f j).toInt) t6
  | [0, 1, 2], [t6, k, d] => n = 1400 ∧ sgT (fun j => (f j).toInt) t6 ∧ 0 ≤ k ∧ 0 ≤ d ∧ dpR (fun j => (f j).toInt) 0 k.toNat = some d.toNat
  | _, _ => False
def PR4 (n : Nat) (f : Nat → Int32) : List Nat → List Int → Prop
  | [], [] => n = 700
  | [0, 1], [i, v] => n = 700 ∧ 0 ≤ i ∧ (f i.toNat).toInt = v
  | _, _ => False
/-- a tape as far as a text goes -/
def tpR (lo hi : Int) (n : Nat) (f : Nat → Int32) (g : Int) : Prop := n = 700 ∧ (∀ j : Nat, j < 700 → lo ≤ (f j).toInt ∧ (f j).toInt ≤ hi) ∧ ∀ j : Nat, j < 700 → bt (dc g) j ≠ -1 → bt (dc g) j = (f j).toInt % 256
def PR5 (lo hi : Int) (n : Nat) (f : Nat → Int32) : List Nat → List Int → Prop
  | [0], [g] => tpR lo hi n f g
  | _, _ => False
def PRD (k n : Nat) (f : Nat → Int32) (ks : List Nat) (zs : List Int) : Prop := match k with
  | 0 => PR0 n f ks zs
  | 1 => PR1 n f ks zs
  | 2 => PR2 n f ks zs
  | 3 => PR3 n f ks zs
  | 4 => PR4 n f ks zs
  | 5 => PR5 0 255 n f ks zs
  | 6 => PR5 (-128) 127 n f ks zs
  | _ => False

/-- the same by a table -/
def r82B (i : Nat) : Int × Int := bif Nat.beq i 0 then (0, 999) else bif Nat.ble 5 i && Nat.ble i 9 then (0, 1023) else bif Nat.ble 12 i && Nat.ble i 21 then (0, 4) else bif Nat.ble 22 i && Nat.ble i 31 then (-1, 9) else bif Nat.ble 42 i && Nat.ble i 51 then (0, 9) else bif Nat.ble 62 i && Nat.ble i 71 then (0, 9) else (-2147483648, 2147483647)
theorem r82_of {i : Nat} (hi : i < 82) {z : Int} (h1 : (r82B i).1 ≤ z) (h2 : z ≤ (r82B i).2) : r82 i z := by
  have : ∀ j : Fin 82, ∀ z : Int, (r82B j.val).1 ≤ z → z ≤ (r82B j.val).2 → r82 j.val z := by
    intro j z
    match j with
    | ⟨0, _⟩ | ⟨1, _⟩ | ⟨2, _⟩ | ⟨3, _⟩ | ⟨4, _⟩ | ⟨5, _⟩ | ⟨6, _⟩ | ⟨7, _⟩ | ⟨8, _⟩ | ⟨9, _⟩ | ⟨10, _⟩ | ⟨11, _⟩ | ⟨12, _⟩ | ⟨13, _⟩ | ⟨14, _⟩ | ⟨15, _⟩ | ⟨16, _⟩ | ⟨17, _⟩ | ⟨18, _⟩ | ⟨19, _⟩ | ⟨20, _⟩ | ⟨21, _⟩ | ⟨22, _⟩ | ⟨23, _⟩ | ⟨24, _⟩ | ⟨25, _⟩ | ⟨26, _⟩ | ⟨27, _⟩ | ⟨28, _⟩ | ⟨29, _⟩ | ⟨30, _⟩ | ⟨31, _⟩ | ⟨32, _⟩ | ⟨33, _⟩ | ⟨34, _⟩ | ⟨35, _⟩ | ⟨36, _⟩ | ⟨37, _⟩ | ⟨38, _⟩ | ⟨39, _⟩ | ⟨40, _⟩ | ⟨41, _⟩ | ⟨42, _⟩ | ⟨43, _⟩ | ⟨44, _⟩ | ⟨45, _⟩ | ⟨46, _⟩ | ⟨47, _⟩ | ⟨48, _⟩ | ⟨49, _⟩ | ⟨50, _⟩ | ⟨51, _⟩ | ⟨52, _⟩ | ⟨53, _⟩ | ⟨54, _⟩ | ⟨55, _⟩ | ⟨56, _⟩ | ⟨57, _⟩ | ⟨58, _⟩ | ⟨59, _⟩ | ⟨60, _⟩ | ⟨61, _⟩ | ⟨62, _⟩ | ⟨63, _⟩ | ⟨64, _⟩ | ⟨65, _⟩ | ⟨66, _⟩ | ⟨67, _⟩ | ⟨68, _⟩ | ⟨69, _⟩ | ⟨70, _⟩ | ⟨71, _⟩ | ⟨72, _⟩ | ⟨73, _⟩ | ⟨74, _⟩ | ⟨75, _⟩ | ⟨76, _⟩ | ⟨77, _⟩ | ⟨78, _⟩ | ⟨79, _⟩ | ⟨80, _⟩ | ⟨81, _⟩ => first | exact fun _ _ => trivial | exact fun a b => ⟨a, b⟩
    | ⟨n + 82, h⟩ => exact absurd h (by omega)
  exact this ⟨i, hi⟩ z h1 h2
theorem r82_to {i : Nat} (hi : i < 82) {x : Int32} (h : r82 i x.toInt) : (r82B i).1 ≤ x.toInt ∧ x.toInt ≤ (r82B i).2 := by
  have hlo : -2147483648 ≤ x.toInt := Int32.le_toInt x
  have hhi : x.toInt ≤ 2147483647 := Int.le_of_lt_add_one (Int32.toInt_lt x)
  have : ∀ j : Fin 82, ∀ z : Int, -2147483648 ≤ z → z ≤ 2147483647 → r82 j.val z → (r82B j.val).1 ≤ z ∧ z ≤ (r82B j.val).2 := by
    intro j z
    match j with
    | ⟨0, _⟩ | ⟨1, _⟩ | ⟨2, _⟩ | ⟨3, _⟩ | ⟨4, _⟩ | ⟨5, _⟩ | ⟨6, _⟩ | ⟨7, _⟩ | ⟨8, _⟩ | ⟨9, _⟩ | ⟨10, _⟩ | ⟨11, _⟩ | ⟨12, _⟩ | ⟨13, _⟩ | ⟨14, _⟩ | ⟨15, _⟩ | ⟨16, _⟩ | ⟨17, _⟩ | ⟨18, _⟩ | ⟨19, _⟩ | ⟨20, _⟩ | ⟨21, _⟩ | ⟨22, _⟩ | ⟨23, _⟩ | ⟨24, _⟩ | ⟨25, _⟩ | ⟨26, _⟩ | ⟨27, _⟩ | ⟨28, _⟩ | ⟨29, _⟩ | ⟨30, _⟩ | ⟨31, _⟩ | ⟨32, _⟩ | ⟨33, _⟩ | ⟨34, _⟩ | ⟨35, _⟩ | ⟨36, _⟩ | ⟨37, _⟩ | ⟨38, _⟩ | ⟨39, _⟩ | ⟨40, _⟩ | ⟨41, _⟩ | ⟨42, _⟩ | ⟨43, _⟩ | ⟨44, _⟩ | ⟨45, _⟩ | ⟨46, _⟩ | ⟨47, _⟩ | ⟨48, _⟩ | ⟨49, _⟩ | ⟨50, _⟩ | ⟨51, _⟩ | ⟨52, _⟩ | ⟨53, _⟩ | ⟨54, _⟩ | ⟨55, _⟩ | ⟨56, _⟩ | ⟨57, _⟩ | ⟨58, _⟩ | ⟨59, _⟩ | ⟨60, _⟩ | ⟨61, _⟩ | ⟨62, _⟩ | ⟨63, _⟩ | ⟨64, _⟩ | ⟨65, _⟩ | ⟨66, _⟩ | ⟨67, _⟩ | ⟨68, _⟩ | ⟨69, _⟩ | ⟨70, _⟩ | ⟨71, _⟩ | ⟨72, _⟩ | ⟨73, _⟩ | ⟨74, _⟩ | ⟨75, _⟩ | ⟨76, _⟩ | ⟨77, _⟩ | ⟨78, _⟩ | ⟨79, _⟩ | ⟨80, _⟩ | ⟨81, _⟩ => first | exact fun a b _ => ⟨a, b⟩ | exact fun _ _ h => h
    | ⟨n + 82, h⟩ => exact absurd h (by omega)
  exact this ⟨i, hi⟩ _ hlo hhi h
