/-! ===== THE ENGINE, 12: renaming: a state within another ===== -/
def eqP (p q : eP) : Bool := Nat.beq p.1 q.1 && (Nat.beq p.2.1 q.2.1 && Nat.beq p.2.2 q.2.2)
theorem eqP_eq {p q : eP} (h : eqP p q = true) : p = q := by
  obtain ⟨p1, p2, p3⟩ := p
  obtain ⟨q1, q2, q3⟩ := q
  simp only [eqP, Bool.and_eq_true] at h
  rw [Nat.eq_of_beq_eq_true h.1, Nat.eq_of_beq_eq_true h.2.1, Nat.eq_of_beq_eq_true h.2.2]
/-- what a name of the other state is: its place here, or itself -/
def thG (th : List (Option eP)) (i : Nat) : Option eP := match eGet th i with
  | some o => o
  | none => none
/-- a name that no place tells: 3 what a name of here says, 4 a number -/
def isG (p : eP) : Bool := Nat.ble 3 p.1
def ghV (B : eB) (p : eP) : Option eV := bif Nat.beq p.1 3 then (match eGet B.1 (nB p.2.1) with
  | some r => some (0, p.2.1 + 1, r.1 + nO p.2.1, r.2 + nO p.2.1)
  | none => none) else some (eI (p.2.1 : Int))
def ghR (ρ : Nat → Int) (p : eP) : Int := bif Nat.beq p.1 3 then ρ (nB p.2.1) + nO p.2.1 else (p.2.1 : Int)
theorem ghV_ok {ρ : Nat → Int} {B : eB} (hB : gB ρ B) {p : eP} {a : eV} (h : ghV B p = some a) : gN ρ a (ghR ρ p) := by
  unfold ghV at h
  unfold ghR
  cases hb : Nat.beq p.1 3 with
  | true =>
    rw [hb, cond_true] at h
    rw [cond_true]
    split at h
    next r hr =>
      cases h
      have hb := hB.1 _ r (by rw [← eGet_eq]; exact hr)
      refine ⟨fun t ht => ?_, by dsimp only; omega, by dsimp only; omega⟩
      dsimp only at ht
      have : t = p.2.1 := by omega
      rw [this]
    next => cases h
  | false =>
    rw [hb, cond_false] at h
    cases h
    exact gN_I _
/-- the value of the other state's name i, here -/
def vN (B : eB) (l : eL) (hp : eH) (th : List (Option eP)) (i : Nat) : Option eV := match thG th i with
  | none => (match eGet B.1 i with
    | some p => some (0, i * 8192 + 4097, p.1, p.2)
    | none => none)
  | some p => bif isG p then ghV B p else (match gP l hp p with
    | some a => bif Nat.beq a.1 0 then some a else none
    | none => none)
/-- a stands o behind c -/
def difO (B : eB) (a c : eV) (o : Int) : Bool := match eDif a c with
  | some d => decide (d = o)
  | none => decide (eLo B a = eHi B a) && (decide (eLo B c = eHi B c) && decide (eLo B a - eLo B c = o))
theorem difO_ok {ρ : Nat → Int} {B : eB} (hB : gB ρ B) {a c : eV} {o x y : Int} (h : difO B a c o = true) (ha : gN ρ a x) (hc : gN ρ c y) : x = y + o := by
  unfold difO at h
  split at h
  next d hd =>
    have := eDif_ok ha hc hd
    rw [decide_eq_true_eq] at h
    omega
  next =>
    simp only [Bool.and_eq_true, decide_eq_true_eq] at h
    have a1 := eLo_ok hB ha
    have a2 := eHi_ok hB ha
    have c1 := eLo_ok hB hc
    have c2 := eHi_ok hB hc
    omega
/-- the name's part of a value that stands at q -/
def mT (B : eB) (l : eL) (hp : eH) (th : List (Option eP)) (q : Option eP) (a : eV) (t : Nat) : Bool :=
  (match q, thG th (nB t) with
    | some q, some p => !(isG p) && (eqP p q && nZ0 t)
    | _, _ => false) || (match vN B l hp th (nB t) with
    | some c => difO B a c (nO t)
    | none => false)
def mN (B : eB) (l : eL) (hp : eH) (th : List (Option eP)) (q : Option eP) (a : eV) (g : Nat) : Bool := match g with
  | 0 => true
  | t + 1 => mT B l hp th q a t
/-- a, at the place q, lies within b of the other state, whose cells are those of here by fm -/
def mV (fm : Nat → Nat) (B : eB) (l : eL) (hp : eH) (th : List (Option eP)) (q : Option eP) (a b : eV) : Bool := match b.1 with
  | 0 => Nat.beq a.1 0 && (iLe b.2.2.1 (eLo B a) && (iLe (eHi B a) b.2.2.2 && mN B l hp th q a b.2.1))
  | 1 => Nat.beq a.1 1 && (iLe b.2.2.1 (eLo B a) && (iLe (eHi B a) b.2.2.2 && mN B l hp th none a b.2.1))
  | 2 => Nat.beq a.1 2 && Nat.beq a.2.1 (fm b.2.1)
  | _ => eEq a b
/-- the other names' values: of the places, or their own -/
def Ren (ρ ρ' : Nat → Int) (lc : List (Nat × Value)) (ws : va_W) (th : List (Option eP)) : Prop := ∀ i, match thG th i with
  | none => ρ' i = ρ i
  | some p => (isG p = true ∧ ρ' i = ghR ρ p) ∨ (isG p = false ∧ ∃ x : Int32, mP lc ws p = some (.int x) ∧ ρ' i = x.toInt)
/-- cells at addresses adI, their values by ad -/
def gHx (ρ : Nat → Int) (ad adI : Nat → Nat) (sb : eSB) (cA : Nat → ClassId) (h : eH) (ws : va_W) : Prop := ws.length = h.length ∧ ∀ (k : Nat) (c : eC), h[k]? = some c → ∃ x : va_E, ws[k]? = some (adI k, x) ∧ gC ρ ad sb cA c x
section E12
variable {ρ ρ' : Nat → Int} {ad adI : Nat → Nat} {sb : eSB} {cA : Nat → ClassId}
theorem gV_int_of {a : eV} {v : Value} (h : gV ρ ad sb a v) (h0 : a.1 = 0) : ∃ x : Int32, v = .int x ∧ gN ρ a x.toInt := by
  obtain ⟨k, t, lo, hi⟩ := a
  dsimp only at h0
  subst h0
  exact h
theorem gV_long_of {a : eV} {v : Value} (h : gV ρ ad sb a v) (h0 : a.1 = 1) : ∃ x : Int64, v = .long x ∧ gN ρ a x.toInt := by
  obtain ⟨k, t, lo, hi⟩ := a
  dsimp only at h0
  subst h0
  exact h
theorem mP_okx {l : eL} {hp : eH} {lc : List (Nat × Value)} {ws : va_W} (h1 : gL ρ ad sb l lc) (h2 : gHx ρ ad adI sb cA hp ws) {q : eP} {a : eV} (h : gP l hp q = some a) : ∃ v, mP lc ws q = some v ∧ gV ρ ad sb a v := by
  obtain ⟨k, i, j⟩ := q
  unfold gP at h
  unfold mP
  dsimp only at h ⊢
  match k, h with
  | 0, h => exact vFind_ok h1 h
  | 1, h =>
    have h : (match eGet hp i with
      | some (.inl o) => eGet o.2 j
      | _ => none) = some a := h
    show ∃ v, (match ws[i]? with
      | some (_, .inr o) => o.2[j]?
      | _ => none) = some v ∧ _
    split at h
    next o ho =>
      rw [eGet_eq] at ho
      obtain ⟨x, hx1, vs, hx2, hx3⟩ := h2.2 i _ ho
      subst hx2
      rw [hx1]
      rw [eGet_eq] at h
      exact gS_get hx3 h
    next => cases h
  | k + 2, h =>
    have h : (match eGet hp i with
      | some (.inr a) => bif Nat.beq (vA a).1 0 && Nat.blt j (vA a).2.1 then some (aG (vA a).2.2.1 (vA a).2.2.2 j) else none
      | _ => none) = some a := h
    show ∃ v, (match ws[i]? with
      | some (_, .inl (_, _, .inl f)) => some (Value.int (f j))
      | _ => none) = some v ∧ _
    split at h
    next y hy =>
      rw [eGet_eq] at hy
      obtain ⟨x, hx1, hx2⟩ := h2.2 i _ hy
      replace hx2 := vA_ok hx2
      generalize vA y = y at h hx2
      cases hb : (Nat.beq y.1 0 && Nat.blt j y.2.1) with
      | false => rw [hb] at h; cases h
      | true =>
        rw [hb, cond_true] at h
        rw [Bool.and_eq_true] at hb
        obtain ⟨y0, n, d, ov⟩ := y
        have e0 := Nat.eq_of_beq_eq_true hb.1
        dsimp only at e0 hb h
        subst e0
        obtain ⟨f, hx3, hx4⟩ := hx2
        subst hx3
        rw [hx1]
        have e1 : aG d ov j = a := Option.some.inj h
        rw [← e1]
        exact ⟨_, rfl, hx4 j (blt_lt hb.2)⟩
    next => cases h
theorem nB_at (i : Nat) : nB (i * 8192 + 4096) = i := by unfold nB; omega
theorem nO_at (i : Nat) : nO (i * 8192 + 4096) = 0 := by unfold nO; omega
theorem vN_ok {B : eB} {l : eL} {hp : eH} {lc : List (Nat × Value)} {ws : va_W} {th : List (Option eP)} (hB : gB ρ B) (h1 : gL ρ ad sb l lc) (h2 : gHx ρ ad adI sb cA hp ws) (hR : Ren ρ ρ' lc ws th) {i : Nat} {a : eV} (h : vN B l hp th i = some a) : gN ρ a (ρ' i) := by
  have hr := hR i
  unfold vN at h
  split at h
  next hn =>
    rw [hn] at hr
    have hr : ρ' i = ρ i := hr
    split at h
    next p hp9 =>
      cases h
      have hb := hB.1 i p (by rw [← eGet_eq]; exact hp9)
      refine ⟨fun t ht => ?_, by dsimp only; omega, by dsimp only; omega⟩
      dsimp only at ht
      have e1 : t = i * 8192 + 4096 := by omega
      rw [e1, nB_at, nO_at, hr]
      omega
    next => cases h
  next p hn =>
    rw [hn] at hr
    rcases hr with ⟨hg, hr⟩ | ⟨hg, y, hy1, hy2⟩
    · rw [hg, cond_true] at h
      rw [hr]
      exact ghV_ok hB h
    rw [hg, cond_false] at h
    split at h
    next c hc =>
      cases hb : Nat.beq c.1 0 with
      | false => rw [hb] at h; cases h
      | true =>
        rw [hb, cond_true] at h
        cases h
        obtain ⟨w, hw1, hw2⟩ := mP_okx h1 h2 hc
        obtain ⟨z, rfl, gz⟩ := gV_int_of hw2 (Nat.eq_of_beq_eq_true hb)
        have e9 : z = y := by
          have := Option.some.inj (hw1.symm.trans hy1)
          injection this
        rw [hy2, ← e9]
        exact gz
    next => cases h
theorem mN_ok {B : eB} {l : eL} {hp : eH} {lc : List (Nat × Value)} {ws : va_W} {th : List (Option eP)} (hB : gB ρ B) (h1 : gL ρ ad sb l lc) (h2 : gHx ρ ad adI sb cA hp ws) (hR : Ren ρ ρ' lc ws th) {q : Option eP} {a : eV} {x : Int} (hq : ∀ p, q = some p → ∃ y : Int32, mP lc ws p = some (.int y) ∧ y.toInt = x) {g : Nat} (h : mN B l hp th q a g = true) (gx : gN ρ a x) : ∀ t, g = t + 1 → x = ρ' (nB t) + nO t := by
  intro t ht
  subst ht
  have h : mT B l hp th q a t = true := h
  unfold mT at h
  rw [Bool.or_eq_true] at h
  rcases h with h | h
  · split at h
    next q9 p9 hp9 _ =>
      rw [Bool.and_eq_true, Bool.and_eq_true] at h
      obtain ⟨hg, h⟩ := h
      have h : eqP p9 q9 = true ∧ nO t = 0 := ⟨h.1, nZ0_ok h.2⟩
      have hr := hR (nB t)
      rw [hp9] at hr
      rcases hr with ⟨hg2, -⟩ | ⟨-, y, hy1, hy2⟩
      · rw [hg2] at hg; cases hg
      obtain ⟨z, hz1, hz2⟩ := hq q9 rfl
      rw [eqP_eq h.1, hz1] at hy1
      have e9 : z = y := by
        have := Option.some.inj hy1
        injection this
      rw [hy2, h.2, ← e9, hz2]
      omega
    next => cases h
  · split at h
    next c hc => exact difO_ok hB h gx (vN_ok hB h1 h2 hR hc)
    next => cases h
theorem mV_ok {fm : Nat → Nat} {B : eB} {l : eL} {hp : eH} {lc : List (Nat × Value)} {ws : va_W} {th : List (Option eP)} (hB : gB ρ B) (h1 : gL ρ ad sb l lc) (h2 : gHx ρ ad adI sb cA hp ws) (hR : Ren ρ ρ' lc ws th) {q : Option eP} {a b : eV} {v : Value} (hq : ∀ p, q = some p → mP lc ws p = some v) (h : mV fm B l hp th q a b = true) (g : gV ρ ad sb a v) : gV ρ' (fun k => ad (fm k)) sb b v := by
  obtain ⟨bk, bt, blo, bhi⟩ := b
  unfold mV at h
  match bk, h with
  | 0, h =>
    have h : (Nat.beq a.1 0 && (iLe blo (eLo B a) && (iLe (eHi B a) bhi && mN B l hp th q a bt))) = true := h
    simp only [Bool.and_eq_true, iLe_iff] at h
    obtain ⟨e0, e1, e2, e3⟩ := h
    obtain ⟨x, rfl, gx⟩ := gV_int_of g (Nat.eq_of_beq_eq_true e0)
    have a1 := eLo_ok hB gx
    have a2 := eHi_ok hB gx
    exact gV_int ⟨mN_ok hB h1 h2 hR (fun p hp9 => ⟨x, hq p hp9, rfl⟩) e3 gx, by dsimp only; omega, by dsimp only; omega⟩
  | 1, h =>
    have h : (Nat.beq a.1 1 && (iLe blo (eLo B a) && (iLe (eHi B a) bhi && mN B l hp th none a bt))) = true := h
    simp only [Bool.and_eq_true, iLe_iff] at h
    obtain ⟨e0, e1, e2, e3⟩ := h
    obtain ⟨x, rfl, gx⟩ := gV_long_of g (Nat.eq_of_beq_eq_true e0)
    have a1 := eLo_ok hB gx
    have a2 := eHi_ok hB gx
    exact gV_long ⟨mN_ok hB h1 h2 hR (q := none) (fun p hp9 => by cases hp9) e3 gx, by dsimp only; omega, by dsimp only; omega⟩
  | 2, h =>
    have h : (Nat.beq a.1 2 && Nat.beq a.2.1 (fm bt)) = true := h
    rw [Bool.and_eq_true] at h
    obtain ⟨a0, a1, a2, a3⟩ := a
    have e0 := Nat.eq_of_beq_eq_true h.1
    have e1 := Nat.eq_of_beq_eq_true h.2
    dsimp only at e0 e1
    subst e0
    have g : v = .ref (ad a1) := g
    show v = .ref (ad (fm bt))
    rw [g, e1]
  | k + 3, h =>
    have h : eEq a (k + 3, bt, blo, bhi) = true := h
    have e := eEq_eq h
    subst e
    match k, g with
    | 0, g => exact g
    | 1, g => exact g
    | 2, g => exact g
    | (n + 3), g => exact g.elim
/-- every place of a name is an int's -/
def thOk (l : eL) (hp : eH) : List (Option eP) → Bool
  | [] => true
  | none :: r => thOk l hp r
  | some p :: r => (isG p || (match gP l hp p with
    | some a => Nat.beq a.1 0
    | none => false)) && thOk l hp r
theorem thG_nil (i : Nat) : thG [] i = none := by
  unfold thG
  rw [eGet_eq]
  rfl
theorem thG_zero (o : Option eP) (r : List (Option eP)) : thG (o :: r) 0 = o := by
  unfold thG
  rw [eGet_eq]
  rfl
theorem thG_succ (o : Option eP) (r : List (Option eP)) (i : Nat) : thG (o :: r) (i + 1) = thG r i := by
  unfold thG
  rw [eGet_eq, eGet_eq, List.getElem?_cons_succ]
theorem thOk_at {l : eL} {hp : eH} : ∀ {th : List (Option eP)} {i : Nat} {p : eP}, thOk l hp th = true → thG th i = some p → isG p = true ∨ ∃ a, gP l hp p = some a ∧ a.1 = 0
  | [], i, p, _, h => by
    rw [thG_nil] at h
    cases h
  | o :: r, 0, p, h, e => by
    have e : o = some p := (thG_zero o r).symm.trans e
    subst e
    unfold thOk at h
    rw [Bool.and_eq_true, Bool.or_eq_true] at h
    rcases h.1 with h | h
    · exact Or.inl h
    refine Or.inr ?_
    split at h
    next a ha => exact ⟨a, ha, Nat.eq_of_beq_eq_true h⟩
    next => cases h
  | o :: r, i + 1, p, h, e => by
    rw [thG_succ] at e
    cases o with
    | none => exact thOk_at (th := r) h e
    | some p9 =>
      unfold thOk at h
      rw [Bool.and_eq_true] at h
      exact thOk_at (th := r) h.2 e
theorem ren_ex {l : eL} {hp : eH} {lc : List (Nat × Value)} {ws : va_W} {th : List (Option eP)} (h1 : gL ρ ad sb l lc) (h2 : gHx ρ ad adI sb cA hp ws) (h : thOk l hp th = true) : ∃ ρ', Ren ρ ρ' lc ws th := by
  have hc : ∀ i, ∃ z : Int, match thG th i with
      | none => z = ρ i
      | some p => (isG p = true ∧ z = ghR ρ p) ∨ (isG p = false ∧ ∃ x : Int32, mP lc ws p = some (.int x) ∧ z = x.toInt) := by
    intro i
    cases hi : thG th i with
    | none => exact ⟨ρ i, rfl⟩
    | some p =>
      cases hg : isG p with
      | true => exact ⟨ghR ρ p, Or.inl ⟨hg, rfl⟩⟩
      | false =>
      rcases thOk_at h hi with q | ⟨a, ha, h0⟩
      · rw [q] at hg; cases hg
      obtain ⟨v, hv1, hv2⟩ := mP_okx h1 h2 ha
      obtain ⟨x, rfl, -⟩ := gV_int_of hv2 h0
      exact ⟨x.toInt, Or.inr ⟨hg, x, hv1, rfl⟩⟩
  exact ⟨fun i => (hc i).choose, fun i => (hc i).choose_spec⟩
end E12
