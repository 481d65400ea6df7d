/-! ===== THE ENGINE, 12: renaming, on ===== -/
def eqP (p q : eP) : Bool := Nat.beq p.1 q.1 && (Nat.beq p.2.1 q.2.1 && Nat.beq p.2.2 q.2.2)
theorem eqP_eq {p q : eP} (h : eqP p q = true) : p = q := by
  obtain ⟨p1, p2, p3⟩ := p
  obtain ⟨q1, q2, q3⟩ := q
  simp only [eqP, Bool.and_eq_true] at h
  rw [Nat.eq_of_beq_eq_true h.1, Nat.eq_of_beq_eq_true h.2.1, Nat.eq_of_beq_eq_true h.2.2]
/-- what a name of the other state is: its place here, or itself -/
def thG (th : List (Option eP)) (i : Nat) : Option eP := match eGet th i with
  | some o => o
  | none => none
/-- a stands o behind c -/
def difO (B : eB) (a c : eV) (o : Int) : Bool := match eDif a c with
  | some d => decide (d = o)
  | none => decide (eLo B a = eHi B a) && (decide (eLo B c = eHi B c) && decide (eLo B a - eLo B c = o))
theorem difO_ok {ρ : Nat → Int} {B : eB} (hB : gB ρ B) {a c : eV} {o x y : Int} (h : difO B a c o = true) (ha : gN ρ a x) (hc : gN ρ c y) : x = y + o := by
  unfold difO at h
  split at h
  next d hd =>
    have := eDif_ok ha hc hd
    rw [decide_eq_true_eq] at h
    omega
  next =>
    simp only [Bool.and_eq_true, decide_eq_true_eq] at h
    have a1 := eLo_ok hB ha
    have a2 := eHi_ok hB ha
    have c1 := eLo_ok hB hc
    have c2 := eHi_ok hB hc
    omega
/-- the name's part of a value -/
def mT (B : eB) (l : eL) (hp : eH) (th : List (Option eP)) (q : eP) (a : eV) (t : Nat) : Bool := match thG th (nB t) with
  | none => Nat.beq a.2.1 (t + 1)
  | some p => bif eqP p q then decide (nO t = 0) else (match gP l hp p with
    | some c => Nat.beq c.1 0 && difO B a c (nO t)
    | none => false)
def mN (B : eB) (l : eL) (hp : eH) (th : List (Option eP)) (q : eP) (a : eV) (g : Nat) : Bool := match g with
  | 0 => true
  | t + 1 => mT B l hp th q a t
/-- a, at the place q, lies within b of the other state -/
def mV (B : eB) (l : eL) (hp : eH) (th : List (Option eP)) (q : eP) (a b : eV) : Bool := match b.1 with
  | 0 => Nat.beq a.1 0 && (decide (b.2.2.1 ≤ eLo B a) && (decide (eHi B a ≤ b.2.2.2) && mN B l hp th q a b.2.1))
  | 1 => Nat.beq a.1 1 && (Nat.beq b.2.1 0 && (decide (b.2.2.1 ≤ eLo B a) && decide (eHi B a ≤ b.2.2.2)))
  | _ => eEq a b
def Ren (ρ ρ' : Nat → Int) (lc : List (Nat × Value)) (ws : va_W) (th : List (Option eP)) : Prop := ∀ i, match thG th i with
  | none => ρ' i = ρ i
  | some p => ∃ x : Int32, mP lc ws p = some (.int x) ∧ ρ' i = x.toInt
section E12
variable {ρ ρ' : Nat → Int} {ad : Nat → Nat} {sb : Nat} {cA : Nat → ClassId}
theorem gV_int_of {a : eV} {v : Value} (h : gV ρ ad sb a v) (h0 : a.1 = 0) : ∃ x : Int32, v = .int x ∧ gN ρ a x.toInt := by
  obtain ⟨k, t, lo, hi⟩ := a
  dsimp only at h0
  subst h0
  exact h
theorem gV_long_of {a : eV} {v : Value} (h : gV ρ ad sb a v) (h0 : a.1 = 1) : ∃ x : Int64, v = .long x ∧ gN ρ a x.toInt := by
  obtain ⟨k, t, lo, hi⟩ := a
  dsimp only at h0
  subst h0
  exact h
theorem mV_ok {B : eB} {l : eL} {hp : eH} {lc : List (Nat × Value)} {ws : va_W} {th : List (Option eP)} (hB : gB ρ B) (h1 : gL ρ ad sb l lc) (h2 : gH ρ ad sb cA hp ws) (hR : Ren ρ ρ' lc ws th) {q : eP} {a b : eV} {v : Value} (hq : mP lc ws q = some v) (h : mV B l hp th q a b = true) (g : gV ρ ad sb a v) : gV ρ' ad sb b v := by
  obtain ⟨bk, bt, blo, bhi⟩ := b
  unfold mV at h
  match bk, h with
  | 0, h =>
    have h : (Nat.beq a.1 0 && (decide (blo ≤ eLo B a) && (decide (eHi B a ≤ bhi) && mN B l hp th q a bt))) = true := h
    simp only [Bool.and_eq_true, decide_eq_true_eq] at h
    obtain ⟨e0, e1, e2, e3⟩ := h
    obtain ⟨x, rfl, gx⟩ := gV_int_of g (Nat.eq_of_beq_eq_true e0)
    have a1 := eLo_ok hB gx
    have a2 := eHi_ok hB gx
    refine gV_int ⟨fun t ht => ?_, by dsimp only; omega, by dsimp only; omega⟩
    dsimp only at ht
    subst ht
    have e3 : mT B l hp th q a t = true := e3
    have hr := hR (nB t)
    unfold mT at e3
    split at e3
    next hn =>
      rw [hn] at hr
      have hr : ρ' (nB t) = ρ (nB t) := hr
      rw [hr]
      exact gx.1 t (Nat.eq_of_beq_eq_true e3)
    next p hn =>
      rw [hn] at hr
      obtain ⟨y, hy1, hy2⟩ := hr
      cases hb : eqP p q with
      | true =>
        rw [hb, cond_true, decide_eq_true_eq] at e3
        rw [eqP_eq hb, hq] at hy1
        have e9 : x = y := by
          have := Option.some.inj hy1
          injection this
        rw [hy2, e3, e9]
        omega
      | false =>
        rw [hb, cond_false] at e3
        split at e3
        next c hc =>
          rw [Bool.and_eq_true] at e3
          obtain ⟨w, hw1, hw2⟩ := mP_ok h1 h2 hc
          obtain ⟨z, rfl, gz⟩ := gV_int_of hw2 (Nat.eq_of_beq_eq_true e3.1)
          have e9 : z = y := by
            have := Option.some.inj (hw1.symm.trans hy1)
            injection this
          rw [hy2, ← e9]
          exact difO_ok hB e3.2 gx gz
        next => cases e3
  | 1, h =>
    have h : (Nat.beq a.1 1 && (Nat.beq bt 0 && (decide (blo ≤ eLo B a) && decide (eHi B a ≤ bhi)))) = true := h
    simp only [Bool.and_eq_true, decide_eq_true_eq] at h
    obtain ⟨e0, e1, e2, e3⟩ := h
    obtain ⟨x, rfl, gx⟩ := gV_long_of g (Nat.eq_of_beq_eq_true e0)
    have a1 := eLo_ok hB gx
    have a2 := eHi_ok hB gx
    refine gV_long ⟨fun t ht => ?_, by dsimp only; omega, by dsimp only; omega⟩
    have := Nat.eq_of_beq_eq_true e1
    dsimp only at ht
    omega
  | k + 2, h =>
    have h : eEq a (k + 2, bt, blo, bhi) = true := h
    have e := eEq_eq h
    subst e
    match k, g with
    | 0, g => exact g
    | 1, g => exact g
    | 2, g => exact g
    | 3, g => exact g
    | (n + 4), g => exact g.elim
/-- every place of a name is an int's -/
def thOk (l : eL) (hp : eH) : List (Option eP) → Bool
  | [] => true
  | none :: r => thOk l hp r
  | some p :: r => (match gP l hp p with
    | some a => Nat.beq a.1 0
    | none => false) && thOk l hp r
theorem thOk_at {l : eL} {hp : eH} : ∀ {th : List (Option eP)} {i : Nat} {p : eP}, thOk l hp th = true → thG th i = some p → ∃ a, gP l hp p = some a ∧ a.1 = 0
  | [], i, p, _, h => by
    unfold thG eGet at h
    cases h
  | o :: r, 0, p, h, e => by
    have e : o = some p := e
    subst e
    unfold thOk at h
    rw [Bool.and_eq_true] at h
    have h := h.1
    split at h
    next a ha => exact ⟨a, ha, Nat.eq_of_beq_eq_true h⟩
    next => cases h
  | o :: r, i + 1, p, h, e => by
    have e : thG r i = some p := e
    cases o with
    | none => exact thOk_at (th := r) h e
    | some p9 =>
      unfold thOk at h
      rw [Bool.and_eq_true] at h
      exact thOk_at (th := r) h.2 e
theorem ren_ex {l : eL} {hp : eH} {lc : List (Nat × Value)} {ws : va_W} {th : List (Option eP)} (h1 : gL ρ ad sb l lc) (h2 : gH ρ ad sb cA hp ws) (h : thOk l hp th = true) : ∃ ρ', Ren ρ ρ' lc ws th := by
  have hc : ∀ i, ∃ z : Int, match thG th i with
      | none => z = ρ i
      | some p => ∃ x : Int32, mP lc ws p = some (.int x) ∧ z = x.toInt := by
    intro i
    cases hi : thG th i with
    | none => exact ⟨ρ i, rfl⟩
    | some p =>
      obtain ⟨a, ha, h0⟩ := thOk_at h hi
      obtain ⟨v, hv1, hv2⟩ := mP_ok h1 h2 ha
      obtain ⟨x, rfl, -⟩ := gV_int_of hv2 h0
      exact ⟨x.toInt, x, hv1, rfl⟩
  exact ⟨fun i => (hc i).choose, fun i => (hc i).choose_spec⟩
end E12
