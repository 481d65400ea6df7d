/-! ===== THE ENGINE, 1: values with bounds, pictures, what they stand for ===== -/
/-- a value: kind (0 int, 1 long, 2 a cell of the picture, 3 null, 4 some reference, 5 the script), tag (0 none, i+1: the number i; of kind 2 the cell's place), bounds -/
abbrev eV : Type := Nat × Nat × Int × Int
/-- a cell: an object (its class' place, fields), or an array (0 int, 1 long, 2 byte, 9 unread; length, what stands everywhere, but there) -/
abbrev eC : Type := (Nat × List eV) ⊕ (Nat × Nat × eV × List (Nat × eV))
abbrev eH : Type := List eC
/-- a fact of two names: kind 0 'if the one is v the other is no less than lo', kind 1 'the one and v more is no more than the other', kind 2 'if the one is v the other is no more than lo': (kind, one, v, other, lo) -/
abbrev eF : Type := Nat × Nat × Int × Nat × Int
abbrev eB : Type := List (Int × Int) × List eF
abbrev eL : Type := List (Nat × eV)
/-- where objects stand that no picture holds (the script, strings); what stands in a cell that a picture leaves as it is -/
abbrev eSB : Type := (Nat → Nat) × (Nat → va_E)
/-- pc, locals, stack, bounds of the numbers, cells, cells made, slots made -/
abbrev eS : Type := Nat × eL × List eV × eB × eH × Nat × Nat
def eGt {α : Type} : List α → Nat → Option α
  | [], _ => none
  | a :: _, 0 => some a
  | _ :: r, k + 1 => eGt r k
def d8 {α : Type} : List α → List α
  | _ :: _ :: _ :: _ :: _ :: _ :: _ :: _ :: r => r
  | _ => []
/-- what stands behind eight times n: told once for a row -/
def dN {α : Type} (l : List α) : Nat → List α
  | 0 => l
  | n + 1 => d8 (dN l n)
def eGet {α : Type} (l : List α) (k : Nat) : Option α := eGt (dN l (Nat.div k 8)) (Nat.mod k 8)
def eSet {α : Type} : List α → Nat → α → List α
  | [], _, _ => []
  | _ :: r, 0, x => x :: r
  | a :: r, k + 1, x => a :: eSet r k x
theorem eGt_eq {α : Type} : ∀ (l : List α) (k : Nat), eGt l k = l[k]?
  | [], _ => rfl
  | _ :: _, 0 => rfl
  | _ :: r, k + 1 => by rw [eGt, eGt_eq r k, List.getElem?_cons_succ]
theorem d8_eq {α : Type} : ∀ l : List α, d8 l = l.drop 8
  | [] => rfl
  | [_] => rfl
  | [_, _] => rfl
  | [_, _, _] => rfl
  | [_, _, _, _] => rfl
  | [_, _, _, _, _] => rfl
  | [_, _, _, _, _, _] => rfl
  | [_, _, _, _, _, _, _] => rfl
  | _ :: _ :: _ :: _ :: _ :: _ :: _ :: _ :: _ => rfl
theorem dN_eq {α : Type} (l : List α) : ∀ n, dN l n = l.drop (8 * n)
  | 0 => rfl
  | n + 1 => by
    rw [dN, dN_eq l n, d8_eq, List.drop_drop, Nat.mul_succ]
theorem eGet_eq {α : Type} (l : List α) (k : Nat) : eGet l k = l[k]? := by
  unfold eGet
  rw [eGt_eq, dN_eq, List.getElem?_drop]
  show l[8 * (k / 8) + k % 8]? = l[k]?
  rw [Nat.div_add_mod]
theorem eSet_eq {α : Type} : ∀ (l : List α) (k : Nat) (x : α), eSet l k x = l.set k x
  | [], _, _ => rfl
  | _ :: _, 0, _ => rfl
  | _ :: r, k + 1, x => by rw [eSet, eSet_eq r k x, List.set_cons_succ]
def aG (d : eV) : List (Nat × eV) → Nat → eV
  | [], _ => d
  | p :: r, j => bif Nat.beq p.1 j then p.2 else aG d r j
def aDel : List (Nat × eV) → Nat → List (Nat × eV)
  | [], _ => []
  | p :: r, j => bif Nat.beq p.1 j then aDel r j else p :: aDel r j
def eEq (a b : eV) : Bool := Nat.beq a.1 b.1 && (Nat.beq a.2.1 b.2.1 && (decide (a.2.2.1 = b.2.2.1) && decide (a.2.2.2 = b.2.2.2)))
theorem eEq_eq {a b : eV} (h : eEq a b = true) : a = b := by
  obtain ⟨a1, a2, a3, a4⟩ := a
  obtain ⟨b1, b2, b3, b4⟩ := b
  simp only [eEq, Bool.and_eq_true, decide_eq_true_eq] at h
  obtain ⟨h1, h2, h3, h4⟩ := h
  rw [Nat.eq_of_beq_eq_true h1, Nat.eq_of_beq_eq_true h2, h3, h4]
def aS (d : eV) (l : List (Nat × eV)) (j : Nat) (v : eV) : List (Nat × eV) := bif eEq v d then aDel l j else (j, v) :: aDel l j
theorem aG_aDel (d : eV) (j i : Nat) : ∀ (l : List (Nat × eV)), aG d (aDel l j) i = if i = j then d else aG d l i
  | [] => by simp [aDel, aG]
  | p :: r => by
    unfold aDel
    cases hb : Nat.beq p.1 j with
    | true =>
      have h1 := Nat.eq_of_beq_eq_true hb
      rw [cond_true, aG_aDel d j i r]
      by_cases hi : i = j
      · simp [hi]
      · have h2 : Nat.beq p.1 i = false := by
          cases h3 : Nat.beq p.1 i with
          | false => rfl
          | true => exact absurd ((Nat.eq_of_beq_eq_true h3).symm.trans h1) hi
        simp [hi, aG, h2]
    | false =>
      rw [cond_false]
      show (bif Nat.beq p.1 i then p.2 else aG d (aDel r j) i) = _
      rw [aG_aDel d j i r]
      by_cases hi : i = j
      · subst hi
        simp [hb]
      · simp [hi, aG]
theorem aG_aS (d v : eV) (l : List (Nat × eV)) (j i : Nat) : aG d (aS d l j v) i = if i = j then v else aG d l i := by
  unfold aS
  cases hb : eEq v d with
  | true =>
    rw [cond_true, aG_aDel, eEq_eq hb]
  | false =>
    rw [cond_false]
    show (bif Nat.beq j i then v else aG d (aDel l j) i) = _
    rw [aG_aDel]
    by_cases hi : i = j
    · subst hi
      simp
    · have h2 : Nat.beq j i = false := by
        cases h3 : Nat.beq j i with
        | false => rfl
        | true => exact absurd (Nat.eq_of_beq_eq_true h3).symm hi
      simp [hi, h2]
/-- z is of the value a -/
def nB (t : Nat) : Nat := t / 8192
def nO (t : Nat) : Int := ((t % 8192 : Nat) : Int) - 4096
/-- is it no more; told without reckoning -/
def iLe (a b : Int) : Bool := match a, b with
  | .ofNat m, .ofNat n => Nat.ble m n
  | .ofNat _, .negSucc _ => false
  | .negSucc _, .ofNat _ => true
  | .negSucc m, .negSucc n => Nat.ble n m
theorem iLe_iff : ∀ (a b : Int), iLe a b = true ↔ a ≤ b
  | .ofNat m, .ofNat n => by
    show Nat.ble m n = true ↔ _
    rw [Nat.ble_eq]
    simp only [Int.ofNat_eq_natCast]
    omega
  | .ofNat m, .negSucc n => by
    show false = true ↔ _
    simp only [Int.ofNat_eq_natCast, Int.negSucc_eq, Bool.false_eq_true, false_iff]
    omega
  | .negSucc m, .ofNat n => by
    show true = true ↔ _
    simp only [Int.ofNat_eq_natCast, Int.negSucc_eq, true_iff]
    omega
  | .negSucc m, .negSucc n => by
    show Nat.ble n m = true ↔ _
    rw [Nat.ble_eq]
    simp only [Int.negSucc_eq]
    omega
theorem iLe_dec (a b : Int) : iLe a b = decide (a ≤ b) := Bool.eq_iff_iff.mpr (by rw [iLe_iff, decide_eq_true_eq])
/-- has a tag nothing more; a number and the tag's more -/
def nZ0 (t : Nat) : Bool := Nat.beq (Nat.mod t 8192) 4096
theorem nZ0_ok {t : Nat} (h : nZ0 t = true) : nO t = 0 := by
  have h1 : t % 8192 = 4096 := Nat.eq_of_beq_eq_true h
  unfold nO
  rw [h1]
  rfl
def pO (z : Int) (t : Nat) : Int := bif nZ0 t then z else z + nO t
theorem pO_eq (z : Int) (t : Nat) : pO z t = z + nO t := by
  unfold pO
  cases h : nZ0 t with
  | true => rw [cond_true, nZ0_ok h, Int.add_zero]
  | false => rfl
/-- a tag t + 1 says: the name nB t, and nO t more -/
def gN (ρ : Nat → Int) (a : eV) (z : Int) : Prop := (∀ t, a.2.1 = t + 1 → z = ρ (nB t) + nO t) ∧ a.2.2.1 ≤ z ∧ z ≤ a.2.2.2
def gV (ρ : Nat → Int) (ad : Nat → Nat) (sb : eSB) (a : eV) (v : Value) : Prop := match a.1 with
  | 0 => ∃ x : Int32, v = .int x ∧ gN ρ a x.toInt
  | 1 => ∃ x : Int64, v = .long x ∧ gN ρ a x.toInt
  | 2 => v = .ref (ad a.2.1)
  | 3 => v = .null
  | 4 => ∃ q : Nat, v = .ref q
  | 5 => v = .ref (sb.1 a.2.1)
  | _ => False
def gS (ρ : Nat → Int) (ad : Nat → Nat) (sb : eSB) : List eV → List Value → Prop
  | [], [] => True
  | a :: as, v :: vs => gV ρ ad sb a v ∧ gS ρ ad sb as vs
  | _, _ => False
def gL (ρ : Nat → Int) (ad : Nat → Nat) (sb : eSB) : eL → List (Nat × Value) → Prop
  | [], [] => True
  | a :: as, v :: vs => (a.1 = v.1 ∧ gV ρ ad sb a.2 v.2) ∧ gL ρ ad sb as vs
  | _, _ => False
/-- an argument of a relation: a tag, or, from cB on, a number -/
def cB : Nat := 1152921504606846976
def aR (ρ : Nat → Int) (n : Nat) : Int := bif Nat.blt n cB then ρ (nB (n - 1)) + nO (n - 1) else ((n - cB : Nat) : Int) - 4294967296
def aI (z : Int) : Nat := cB + (z + 4294967296).toNat
theorem aI_ok {ρ : Nat → Int} {z : Int} (h : -4294967296 ≤ z) : aR ρ (aI z) = z := by
  unfold aR aI
  have h1 : Nat.blt (cB + (z + 4294967296).toNat) cB = false := by
    cases hb : Nat.blt (cB + (z + 4294967296).toNat) cB with
    | false => rfl
    | true =>
      have h2 : cB + (z + 4294967296).toNat + 1 ≤ cB := Nat.le_of_ble_eq_true hb
      omega
  rw [h1, cond_false]
  omega
def gF (ρ : Nat → Int) (f : eF) : Prop := match f.1 with
  | 0 => ρ f.2.1 = f.2.2.1 → f.2.2.2.2 ≤ ρ f.2.2.2.1
  | 1 => ρ f.2.1 + f.2.2.1 ≤ ρ f.2.2.2.1
  | 2 => ρ f.2.1 = f.2.2.1 → ρ f.2.2.2.1 ≤ f.2.2.2.2
  | k + 3 => RK k (aR ρ f.2.1) (aR ρ f.2.2.2.1) (aR ρ f.2.2.1.toNat) (aR ρ f.2.2.2.2.toNat)
def gB (ρ : Nat → Int) (B : eB) : Prop := (∀ (i : Nat) (p : Int × Int), B.1[i]? = some p → p.1 ≤ ρ i ∧ ρ i ≤ p.2) ∧ ∀ f ∈ B.2, gF ρ f
/-- numbers of a list of values -/
def gNs (ρ : Nat → Int) : List (Nat × eV) → List Int → Prop
  | [], [] => True
  | a :: as, z :: zs => gN ρ a.2 z ∧ gNs ρ as zs
  | _, _ => False
/-- what stands at all other places of an array that is only read -/
def aDf (ov : List (Nat × eV)) : eV := aG (0, 0, -2147483648, 2147483647) ov 1000000
/-- a cell that stays as it is, of the sort 3, may be told to be an array of ints: (9, 0, its length, _) and what stands where -/
def gRd (ρ : Nat → Int) (ad : Nat → Nat) (sb : eSB) (cA : Nat → ClassId) (a : Nat × Nat × eV × List (Nat × eV)) (x : va_E) : Prop := a.2.2.1.1 = 9 → ∃ f : Nat → Int32, x = .inl (cA 0, a.2.2.1.2.2.1.toNat, .inl f) ∧ ∀ j, j < a.2.2.1.2.2.1.toNat → gV ρ ad sb (aG (aDf a.2.2.2) a.2.2.2 j) (.int (f j))
/-- of which sort an array is that a predicate tells of: bytes, or ints -/
def aK (k : Nat) : Nat := bif Nat.beq k 6 then 2 else 0
theorem aK_lt {k : Nat} (h : k < 6) : aK k = 0 := by
  unfold aK
  cases hb : Nat.beq k 6 with
  | false => rfl
  | true => have := Nat.eq_of_beq_eq_true hb; omega
def gC (ρ : Nat → Int) (ad : Nat → Nat) (sb : eSB) (cA : Nat → ClassId) (c : eC) (x : va_E) : Prop := match c with
  | .inl o => ∃ vs : List Value, x = .inr (o.1, vs) ∧ gS ρ ad sb o.2 vs
  | .inr a => match a.1 with
    | 0 => ∃ f : Nat → Int32, x = .inl (cA 0, a.2.1, .inl f) ∧ ∀ j, j < a.2.1 → gV ρ ad sb (aG a.2.2.1 a.2.2.2 j) (.int (f j))
    | 1 => ∃ f : Nat → Int64, x = .inl (cA 1, a.2.1, .inr (.inl f)) ∧ ∀ j, j < a.2.1 → gV ρ ad sb (aG a.2.2.1 a.2.2.2 j) (.long (f j))
    | 2 => ∃ f : Nat → Int32, x = .inl (cA 2, a.2.1, .inl f) ∧ ∀ j, j < a.2.1 → gV ρ ad sb (aG a.2.2.1 a.2.2.2 j) (.int (f j)) ∧ fits .byte (.int (f j)) = true
    | 3 => x = sb.2 a.2.1 ∧ gRd ρ ad sb cA a x
    | k + 4 => ∃ (f : Nat → Int32) (zs : List Int), x = .inl (cA (aK k), a.2.1, .inl f) ∧ gNs ρ a.2.2.2 zs ∧ PRD k a.2.1 f (a.2.2.2.map Prod.fst) zs
def gH (ρ : Nat → Int) (ad : Nat → Nat) (sb : eSB) (cA : Nat → ClassId) (h : eH) (ws : va_W) : Prop := ws.length = h.length ∧ ∀ (k : Nat) (c : eC), h[k]? = some c → ∃ x : va_E, ws[k]? = some (ad k, x) ∧ gC ρ ad sb cA c x
/-- an array as it is read -/
def vA (v : Nat × Nat × eV × List (Nat × eV)) : Nat × Nat × eV × List (Nat × eV) := bif Nat.beq v.1 3 && Nat.beq v.2.2.1.1 9 then (0, v.2.2.1.2.2.1.toNat, aDf v.2.2.2, v.2.2.2) else bif Nat.beq v.1 8 then (0, v.2.1, (0, 0, -2147483648, 2147483647), []) else v
theorem vA_ok {ρ : Nat → Int} {ad : Nat → Nat} {sb : eSB} {cA : Nat → ClassId} {v : Nat × Nat × eV × List (Nat × eV)} {x : va_E} (g : gC ρ ad sb cA (.inr v) x) : gC ρ ad sb cA (.inr (vA v)) x := by
  unfold vA
  cases hb : (Nat.beq v.1 3 && Nat.beq v.2.2.1.1 9) with
  | false =>
    rw [cond_false]
    cases h8 : Nat.beq v.1 8 with
    | false => exact g
    | true =>
      rw [cond_true]
      obtain ⟨v0, n, d, ov⟩ := v
      have e0 := Nat.eq_of_beq_eq_true h8
      dsimp only at e0
      subst e0
      obtain ⟨f, zs, h1, -, -⟩ := g
      exact ⟨f, h1, fun j _ => ⟨f j, rfl, fun t ht => (by cases ht), Int32.le_toInt _, Int.le_of_lt_add_one (Int32.toInt_lt _)⟩⟩
  | true =>
    rw [cond_true]
    rw [Bool.and_eq_true] at hb
    obtain ⟨v0, n, d, ov⟩ := v
    have e0 := Nat.eq_of_beq_eq_true hb.1
    have e1 := Nat.eq_of_beq_eq_true hb.2
    dsimp only at e0 e1
    subst e0
    exact g.2 e1
abbrev eTys (cA : Nat → ClassId) : List (ClassId × FieldType) := [(cA 0, .int), (cA 1, .long), (cA 2, .byte)]
-- ===== facts of these =====
section EF
variable {ρ : Nat → Int} {ad ad' : Nat → Nat} {sb : eSB} {cA : Nat → ClassId}
theorem gS_len : ∀ {as : List eV} {vs : List Value}, gS ρ ad sb as vs → vs.length = as.length
  | [], [], _ => rfl
  | a :: as, v :: vs, h => by
    show vs.length + 1 = as.length + 1
    rw [gS_len h.2]
  | [], _ :: _, h => h.elim
  | _ :: _, [], h => h.elim
theorem gS_get : ∀ {as : List eV} {vs : List Value} {k : Nat} {a : eV}, gS ρ ad sb as vs → as[k]? = some a → ∃ v, vs[k]? = some v ∧ gV ρ ad sb a v
  | a :: as, v :: vs, 0, b, h, e => by
    have : a = b := Option.some.inj e
    subst this
    exact ⟨v, rfl, h.1⟩
  | a :: as, v :: vs, k + 1, b, h, e => by
    rw [List.getElem?_cons_succ] at e ⊢
    exact gS_get h.2 e
  | [], _, k, _, _, e => by simp at e
  | _ :: _, [], _, _, h, _ => h.elim
theorem gS_set : ∀ {as : List eV} {vs : List Value} (k : Nat) {a : eV} {v : Value}, gS ρ ad sb as vs → gV ρ ad sb a v → gS ρ ad sb (as.set k a) (vs.set k v)
  | [], [], _, _, _, _, _ => trivial
  | a :: as, w :: vs, 0, b, v, h, g => ⟨g, h.2⟩
  | a :: as, w :: vs, k + 1, b, v, h, g => ⟨h.1, gS_set k h.2 g⟩
  | [], _ :: _, _, _, _, h, _ => h.elim
  | _ :: _, [], _, _, _, h, _ => h.elim
theorem gS_app : ∀ {as bs : List eV} {vs us : List Value}, gS ρ ad sb as vs → gS ρ ad sb bs us → gS ρ ad sb (as ++ bs) (vs ++ us)
  | [], _, [], _, _, h => h
  | a :: as, _, v :: vs, _, h, g => ⟨h.1, gS_app h.2 g⟩
  | [], _, _ :: _, _, h, _ => h.elim
  | _ :: _, _, [], _, h, _ => h.elim
theorem gS_split : ∀ (n : Nat) {as : List eV} {vs : List Value}, gS ρ ad sb as vs → gS ρ ad sb (as.take n) (vs.take n) ∧ gS ρ ad sb (as.drop n) (vs.drop n)
  | 0, as, vs, h => ⟨by rw [List.take_zero, List.take_zero]; trivial, by rw [List.drop_zero, List.drop_zero]; exact h⟩
  | n + 1, [], [], _ => ⟨trivial, trivial⟩
  | n + 1, a :: as, v :: vs, h => ⟨⟨h.1, (gS_split n h.2).1⟩, (gS_split n h.2).2⟩
  | _ + 1, [], _ :: _, h => h.elim
  | _ + 1, _ :: _, [], h => h.elim
theorem gS_rev : ∀ {as : List eV} {vs : List Value}, gS ρ ad sb as vs → gS ρ ad sb as.reverse vs.reverse
  | [], [], _ => trivial
  | a :: as, v :: vs, h => by
    rw [List.reverse_cons, List.reverse_cons]
    exact gS_app (gS_rev h.2) ⟨h.1, trivial⟩
  | [], _ :: _, h => h.elim
  | _ :: _, [], h => h.elim
theorem gV_cat {a : eV} {v : Value} (h : gV ρ ad sb a v) : v.category = if a.1 = 1 then 2 else 1 := by
  obtain ⟨k, t, lo, hi⟩ := a
  match k, h with
  | 0, h => obtain ⟨x, rfl, -⟩ := h; rfl
  | 1, h => obtain ⟨x, rfl, -⟩ := h; rfl
  | 2, h => have h : v = .ref (ad t) := h; subst h; rfl
  | 3, h => have h : v = .null := h; subst h; rfl
  | 4, h => obtain ⟨q, rfl⟩ := h; rfl
  | 5, h => have h : v = .ref (sb.1 t) := h; subst h; rfl
  | (n + 6), h => exact h.elim
theorem gV_cat1 {a : eV} {v : Value} (h : gV ρ ad sb a v) (ha : a.1 ≠ 1) : v.category = 1 := by rw [gV_cat h, if_neg ha]
theorem gV_cat2 {a : eV} {v : Value} (h : gV ρ ad sb a v) : (v.category == 2) = (Nat.beq a.1 1) := by
  rw [gV_cat h]
  by_cases h1 : a.1 = 1
  · rw [if_pos h1, h1]; rfl
  · rw [if_neg h1]
    cases h3 : Nat.beq a.1 1 with
    | false => rfl
    | true => exact absurd (Nat.eq_of_beq_eq_true h3) h1
/-- the stack's words -/
def eWords (as : List eV) : Nat := (as.map fun a => bif Nat.beq a.1 1 then 2 else 1).sum
theorem gS_words : ∀ {as : List eV} {vs : List Value}, gS ρ ad sb as vs → (vs.map fun v => v.category).sum = eWords as
  | [], [], _ => rfl
  | a :: as, v :: vs, h => by
    show v.category + (vs.map fun v => v.category).sum = (bif Nat.beq a.1 1 then 2 else 1) + eWords as
    rw [gS_words h.2, gV_cat h.1]
    congr 1
    by_cases h1 : a.1 = 1
    · rw [if_pos h1, h1]; rfl
    · rw [if_neg h1]
      cases h3 : Nat.beq a.1 1 with
      | false => rfl
      | true => exact absurd (Nat.eq_of_beq_eq_true h3) h1
  | [], _ :: _, h => h.elim
  | _ :: _, [], h => h.elim
-- locals
def eFind : eL → Nat → Option eV
  | [], _ => none
  | p :: r, i => bif Nat.beq p.1 i then some p.2 else eFind r i
theorem gL_find : ∀ {l : eL} {lc : List (Nat × Value)} {i : Nat} {a : eV}, gL ρ ad sb l lc → eFind l i = some a → ∃ (k : Nat) (v : Value), lc[k]? = some (i, v) ∧ gV ρ ad sb a v
  | [], _, _, _, _, e => by cases e
  | p :: r, [], _, _, h, _ => h.elim
  | p :: r, w :: lc, i, a, h, e => by
    unfold eFind at e
    cases hb : Nat.beq p.1 i with
    | true =>
      rw [hb] at e
      have e1 : p.2 = a := Option.some.inj e
      have e2 := Nat.eq_of_beq_eq_true hb
      exact ⟨0, w.2, by show some w = some (i, w.2); rw [← e2, h.1.1], by rw [← e1]; exact h.1.2⟩
    | false =>
      rw [hb] at e
      obtain ⟨k, v, h1, h2⟩ := gL_find h.2 e
      exact ⟨k + 1, v, by rw [List.getElem?_cons_succ]; exact h1, h2⟩
def eDrop1 (l : eL) (i : Nat) : eL := l.filter (fun q => !(Nat.beq q.1 i) && !(Nat.beq (q.1 + 1) i && Nat.beq q.2.1 1))
def eDrop2 (l : eL) (i : Nat) : eL := l.filter (fun q => !(Nat.beq q.1 i) && (!(Nat.beq q.1 (i + 1)) && !(Nat.beq (q.1 + 1) i && Nat.beq q.2.1 1)))
theorem beq_beq (a b : Nat) : (a == b) = Nat.beq a b := by
  cases h : Nat.beq a b with
  | true => rw [Nat.eq_of_beq_eq_true h]; exact beq_self_eq_true b
  | false => exact beq_eq_false_iff_ne.mpr (Nat.ne_of_beq_eq_false h)
theorem gL_filter {f : Nat × eV → Bool} {g : Nat × Value → Bool} (hfg : ∀ (q : Nat × eV) (w : Nat × Value), q.1 = w.1 → gV ρ ad sb q.2 w.2 → f q = g w) : ∀ {l : eL} {lc : List (Nat × Value)}, gL ρ ad sb l lc → gL ρ ad sb (l.filter f) (lc.filter g)
  | [], [], _ => trivial
  | p :: r, w :: lc, h => by
    have e := hfg p w h.1.1 h.1.2
    cases hg : g w with
    | true =>
      rw [hg] at e
      rw [List.filter_cons_of_pos e, List.filter_cons_of_pos hg]
      exact ⟨h.1, gL_filter hfg h.2⟩
    | false =>
      rw [hg] at e
      rw [List.filter_cons_of_neg (by rw [e]; exact Bool.false_ne_true), List.filter_cons_of_neg (by rw [hg]; exact Bool.false_ne_true)]
      exact gL_filter hfg h.2
  | [], _ :: _, h => h.elim
  | _ :: _, [], h => h.elim
theorem gL_drop1 {l : eL} {lc : List (Nat × Value)} (i : Nat) (h : gL ρ ad sb l lc) : gL ρ ad sb (eDrop1 l i) (lc.filter (fun q => !(q.1 == i) && !(q.1 + 1 == i && q.2.category == 2))) :=
  gL_filter (fun q w e g => by rw [e, gV_cat2 g, beq_beq, beq_beq]) h
theorem gL_drop2 {l : eL} {lc : List (Nat × Value)} (i : Nat) (h : gL ρ ad sb l lc) : gL ρ ad sb (eDrop2 l i) (lc.filter (fun q => !(q.1 == i) && (!(q.1 == i + 1) && !(q.1 + 1 == i && q.2.category == 2)))) :=
  gL_filter (fun q w e g => by rw [e, gV_cat2 g, beq_beq, beq_beq, beq_beq]) h
-- another naming of cells that agrees on those that the picture has
theorem gV_mono {n : Nat} (hn : ∀ k, k < n → ad' k = ad k) {a : eV} {v : Value} (ha : a.1 = 2 → a.2.1 < n) (h : gV ρ ad sb a v) : gV ρ ad' sb a v := by
  obtain ⟨k, t, lo, hi⟩ := a
  match k, h, ha with
  | 0, h, _ => exact h
  | 1, h, _ => exact h
  | 2, h, ha =>
    have h : v = .ref (ad t) := h
    show v = .ref (ad' t)
    rw [hn t (ha rfl)]; exact h
  | 3, h, _ => exact h
  | 4, h, _ => exact h
  | 5, h, _ => exact h
  | (n + 6), h, _ => exact h.elim
end EF
