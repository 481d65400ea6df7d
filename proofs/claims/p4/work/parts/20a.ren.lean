/-! ===== THE ENGINE, 11: renaming: one state within another, whose names are what stands at certain places ===== -/
abbrev eP : Type := Nat × Nat × Nat
/-- the value at a place: 0 a local, 1 a cell's field, 2 an array's entry -/
def gP (l : eL) (hp : eH) (q : eP) : Option eV := match q.1 with
  | 0 => eFind l q.2.1
  | 1 => match eGet hp q.2.1 with
    | some (.inl o) => eGet o.2 q.2.2
    | _ => none
  | _ => match eGet hp q.2.1 with
    | some (.inr a) => bif Nat.beq (vA a).1 0 && Nat.blt q.2.2 (vA a).2.1 then some (aG (vA a).2.2.1 (vA a).2.2.2 q.2.2) else none
    | _ => none
def vFind : List (Nat × Value) → Nat → Option Value
  | [], _ => none
  | p :: r, i => bif Nat.beq p.1 i then some p.2 else vFind r i
/-- the machine's value there -/
def mP (lc : List (Nat × Value)) (ws : va_W) (q : eP) : Option Value := match q.1 with
  | 0 => vFind lc q.2.1
  | 1 => match ws[q.2.1]? with
    | some (_, .inr o) => o.2[q.2.2]?
    | _ => none
  | _ => match ws[q.2.1]? with
    | some (_, .inl (_, _, .inl f)) => some (.int (f q.2.2))
    | _ => none
section E11
variable {ρ : Nat → Int} {ad : Nat → Nat} {sb : eSB} {cA : Nat → ClassId}
theorem vFind_ok : ∀ {l : eL} {lc : List (Nat × Value)} {i : Nat} {a : eV}, gL ρ ad sb l lc → eFind l i = some a → ∃ v, vFind lc i = some v ∧ gV ρ ad sb a v
  | [], _, _, _, _, e => by cases e
  | p :: r, [], _, _, h, _ => h.elim
  | p :: r, w :: lc, i, a, h, e => by
    unfold eFind at e
    unfold vFind
    rw [← h.1.1]
    cases hb : Nat.beq p.1 i with
    | true =>
      rw [hb] at e
      have e1 : p.2 = a := Option.some.inj e
      rw [← e1]
      exact ⟨w.2, rfl, h.1.2⟩
    | false =>
      rw [hb] at e
      exact vFind_ok h.2 e
theorem mP_ok {l : eL} {hp : eH} {lc : List (Nat × Value)} {ws : va_W} (h1 : gL ρ ad sb l lc) (h2 : gH ρ ad sb cA hp ws) {q : eP} {a : eV} (h : gP l hp q = some a) : ∃ v, mP lc ws q = some v ∧ gV ρ ad sb a v := by
  obtain ⟨k, i, j⟩ := q
  unfold gP at h
  unfold mP
  dsimp only at h ⊢
  match k, h with
  | 0, h => exact vFind_ok h1 h
  | 1, h =>
    have h : (match eGet hp i with
      | some (.inl o) => eGet o.2 j
      | _ => none) = some a := h
    show ∃ v, (match ws[i]? with
      | some (_, .inr o) => o.2[j]?
      | _ => none) = some v ∧ _
    split at h
    next o ho =>
      rw [eGet_eq] at ho
      obtain ⟨x, hx1, vs, hx2, hx3⟩ := h2.2 i _ ho
      subst hx2
      rw [hx1]
      rw [eGet_eq] at h
      exact gS_get hx3 h
    next => cases h
  | k + 2, h =>
    have h : (match eGet hp i with
      | some (.inr a) => bif Nat.beq (vA a).1 0 && Nat.blt j (vA a).2.1 then some (aG (vA a).2.2.1 (vA a).2.2.2 j) else none
      | _ => none) = some a := h
    show ∃ v, (match ws[i]? with
      | some (_, .inl (_, _, .inl f)) => some (Value.int (f j))
      | _ => none) = some v ∧ _
    split at h
    next y hy =>
      rw [eGet_eq] at hy
      obtain ⟨x, hx1, hx2⟩ := h2.2 i _ hy
      replace hx2 := vA_ok hx2
      generalize vA y = y at h hx2
      cases hb : (Nat.beq y.1 0 && Nat.blt j y.2.1) with
      | false => rw [hb] at h; cases h
      | true =>
        rw [hb, cond_true] at h
        rw [Bool.and_eq_true] at hb
        obtain ⟨y0, n, d, ov⟩ := y
        have e0 := Nat.eq_of_beq_eq_true hb.1
        dsimp only at e0 hb h
        subst e0
        obtain ⟨f, hx3, hx4⟩ := hx2
        subst hx3
        rw [hx1]
        have e1 : aG d ov j = a := Option.some.inj h
        rw [← e1]
        exact ⟨_, rfl, hx4 j (blt_lt hb.2)⟩
    next => cases h
end E11
