/-! ===== THE ENGINE, 8a: wider pictures ===== -/
section E8A
variable {D : va_G} {cl : List vw_C} {cA : Nat → ClassId} {sb : eSB} {ρ : Nat → Int}
-- joining ends: bounds that are wider
abbrev eHt : Type := List (Nat × Nat × Int × Int) × List (Nat × Int × Int)
def wkV (a : eV) (lo hi : Int) : Bool := Nat.beq a.1 0 && (decide (lo ≤ a.2.2.1) && decide (a.2.2.2 ≤ hi))
def wkC (hp : eH) : List (Nat × Nat × Int × Int) → Option eH
  | [] => some hp
  | w :: ws => match eGet hp w.1 with
    | some (.inl o) => (match eGet o.2 w.2.1 with
      | some a => bif wkV a w.2.2.1 w.2.2.2 then wkC (eSet hp w.1 (.inl (o.1, eSet o.2 w.2.1 (0, 0, w.2.2.1, w.2.2.2)))) ws else none
      | none => none)
    | some (.inr y) => bif Nat.beq y.1 0 && wkV (aG y.2.2.1 y.2.2.2 w.2.1) w.2.2.1 w.2.2.2 then wkC (eSet hp w.1 (.inr (0, y.2.1, y.2.2.1, aS y.2.2.1 y.2.2.2 w.2.1 (0, 0, w.2.2.1, w.2.2.2)))) ws else none
    | none => none
def wkB (B : eB) : List (Nat × Int × Int) → Option eB
  | [] => some B
  | w :: ws => match eGet B.1 w.1 with
    | some b => bif decide (w.2.1 ≤ b.1) && decide (b.2 ≤ w.2.2) then wkB (eSet B.1 w.1 (w.2.1, w.2.2), B.2) ws else none
    | none => none
theorem wkV_ok {ad : Nat → Nat} {a : eV} {lo hi : Int} {v : Value} (h : wkV a lo hi = true) (g : gV ρ ad sb a v) : gV ρ ad sb (0, 0, lo, hi) v := by
  unfold wkV at h
  rw [Bool.and_eq_true, Bool.and_eq_true, decide_eq_true_eq, decide_eq_true_eq] at h
  obtain ⟨a0, a1, a2, a3⟩ := a
  have e0 := Nat.eq_of_beq_eq_true h.1
  dsimp only at e0 h
  subst e0
  obtain ⟨x, rfl, -, h2, h3⟩ := g
  dsimp only at h2 h3
  exact gV_int (gN_iv (by omega) (by omega))
theorem gS_wk {ad : Nat → Nat} : ∀ {as : List eV} {vs : List Value} {k : Nat} {a : eV} {lo hi : Int}, gS ρ ad sb as vs → as[k]? = some a → wkV a lo hi = true → gS ρ ad sb (as.set k (0, 0, lo, hi)) vs
  | a :: as, v :: vs, 0, b, lo, hi, h, e, w => by
    have : a = b := Option.some.inj e
    subst this
    exact ⟨wkV_ok w h.1, h.2⟩
  | a :: as, v :: vs, k + 1, b, lo, hi, h, e, w => by
    rw [List.getElem?_cons_succ] at e
    exact ⟨h.1, gS_wk h.2 e w⟩
  | [], _, k, _, _, _, _, e, _ => by simp at e
  | _ :: _, [], _, _, _, _, h, _, _ => h.elim
theorem gH_wk {ad : Nat → Nat} {h : eH} {ws : va_W} {k : Nat} {c c' : eC} (g : gH ρ ad sb cA h ws) (hc : h[k]? = some c) (hx : ∀ x, gC ρ ad sb cA c x → gC ρ ad sb cA c' x) : gH ρ ad sb cA (h.set k c') ws := by
  refine ⟨by rw [List.length_set]; exact g.1, fun j c9 hj => ?_⟩
  by_cases hjk : k = j
  · subst hjk
    have hl : k < h.length := (List.getElem?_eq_some_iff.mp hc).1
    rw [List.getElem?_set_self hl] at hj
    have e2 := Option.some.inj hj
    subst e2
    obtain ⟨x, h1, h2⟩ := g.2 k c hc
    exact ⟨x, h1, hx x h2⟩
  · rw [List.getElem?_set_ne hjk] at hj
    exact g.2 j c9 hj
theorem wkC_ok {ad : Nat → Nat} {ws : va_W} : ∀ (hs : List (Nat × Nat × Int × Int)) {hp hp' : eH}, wkC hp hs = some hp' → gH ρ ad sb cA hp ws → gH ρ ad sb cA hp' ws ∧ hp'.length = hp.length
  | [], hp, hp', h, g => by
    cases h
    exact ⟨g, rfl⟩
  | w :: hs, hp, hp', h, g => by
    unfold wkC at h
    split at h
    next o ho =>
      split at h
      next a ha =>
        cases hb : wkV a w.2.2.1 w.2.2.2 with
        | false => rw [hb] at h; cases h
        | true =>
          rw [hb, cond_true, eSet_eq, eSet_eq] at h
          obtain ⟨h1, h2⟩ := wkC_ok hs h (gH_wk g (by rw [← eGet_eq]; exact ho) (fun x hx => by
            obtain ⟨vs, h1, h2⟩ := hx
            exact ⟨vs, h1, gS_wk h2 (by rw [← eGet_eq]; exact ha) hb⟩))
          exact ⟨h1, by rw [h2, List.length_set]⟩
      next => cases h
    next y hy =>
      cases hb : (Nat.beq y.1 0 && wkV (aG y.2.2.1 y.2.2.2 w.2.1) w.2.2.1 w.2.2.2) with
      | false => rw [hb] at h; cases h
      | true =>
        rw [hb, cond_true, eSet_eq] at h
        rw [Bool.and_eq_true] at hb
        obtain ⟨h1, h2⟩ := wkC_ok hs h (gH_wk g (by rw [← eGet_eq]; exact hy) (fun x hx => by
          obtain ⟨y0, n, d, ov⟩ := y
          have e0 := Nat.eq_of_beq_eq_true hb.1
          have e1 := hb.2
          dsimp only at e0 e1
          subst e0
          obtain ⟨f, h1, h2⟩ := hx
          refine ⟨f, h1, fun j hj => ?_⟩
          dsimp only
          rw [aG_aS]
          by_cases hjw : j = w.2.1
          · rw [if_pos hjw]
            refine wkV_ok e1 ?_
            rw [← hjw]
            exact h2 j hj
          · rw [if_neg hjw]
            exact h2 j hj))
        exact ⟨h1, by rw [h2, List.length_set]⟩
    next => cases h
theorem wkB_ok : ∀ (bs : List (Nat × Int × Int)) {B B' : eB}, wkB B bs = some B' → gB ρ B → gB ρ B'
  | [], B, B', h, g => by
    cases h
    exact g
  | w :: bs, B, B', h, g => by
    unfold wkB at h
    split at h
    next b hb9 =>
      cases hb : (decide (w.2.1 ≤ b.1) && decide (b.2 ≤ w.2.2)) with
      | false => rw [hb] at h; cases h
      | true =>
        rw [hb, cond_true, eSet_eq] at h
        rw [Bool.and_eq_true, decide_eq_true_eq, decide_eq_true_eq] at hb
        refine wkB_ok bs h ⟨fun i q hq => ?_, g.2⟩
        by_cases hi : w.1 = i
        · rw [hi] at hq hb9
          have hgt := g.1 i b (by rw [← eGet_eq]; exact hb9)
          have hl : i < B.1.length := by rw [eGet_eq] at hb9; exact (List.getElem?_eq_some_iff.mp hb9).1
          rw [List.getElem?_set_self hl] at hq
          have e2 := Option.some.inj hq
          subst e2
          dsimp only
          omega
        · rw [List.getElem?_set_ne hi] at hq
          exact g.1 i q hq
    next => cases h
def eqVs : List eV → List eV → Bool
  | [], [] => true
  | a :: as, b :: bs => eEq a b && eqVs as bs
  | _, _ => false
theorem eqVs_eq : ∀ {as bs : List eV}, eqVs as bs = true → as = bs
  | [], [], _ => rfl
  | a :: as, b :: bs, h => by
    unfold eqVs at h
    rw [Bool.and_eq_true] at h
    rw [eEq_eq h.1, eqVs_eq h.2]
  | [], _ :: _, h => by cases h
  | _ :: _, [], h => by cases h
def eqOv : List (Nat × eV) → List (Nat × eV) → Bool
  | [], [] => true
  | a :: as, b :: bs => Nat.beq a.1 b.1 && (eEq a.2 b.2 && eqOv as bs)
  | _, _ => false
theorem eqOv_eq : ∀ {as bs : List (Nat × eV)}, eqOv as bs = true → as = bs
  | [], [], _ => rfl
  | (a, v) :: as, (b, w) :: bs, h => by
    unfold eqOv at h
    rw [Bool.and_eq_true, Bool.and_eq_true] at h
    have h1 := Nat.eq_of_beq_eq_true h.1
    have h2 := eEq_eq h.2.1
    dsimp only at h1 h2
    rw [h1, h2, eqOv_eq h.2.2]
  | [], _ :: _, h => by cases h
  | _ :: _, [], h => by cases h
def eqC (a b : eC) : Bool := match a, b with
  | .inl x, .inl y => Nat.beq x.1 y.1 && eqVs x.2 y.2
  | .inr x, .inr y => Nat.beq x.1 y.1 && (Nat.beq x.2.1 y.2.1 && (eEq x.2.2.1 y.2.2.1 && eqOv x.2.2.2 y.2.2.2))
  | _, _ => false
theorem eqC_eq {a b : eC} (h : eqC a b = true) : a = b := by
  match a, b, h with
  | .inl (x1, x2), .inl (y1, y2), h =>
    unfold eqC at h
    rw [Bool.and_eq_true] at h
    have h1 := Nat.eq_of_beq_eq_true h.1
    have h2 := eqVs_eq h.2
    dsimp only at h1 h2
    rw [h1, h2]
  | .inr (x1, x2, x3, x4), .inr (y1, y2, y3, y4), h =>
    unfold eqC at h
    rw [Bool.and_eq_true, Bool.and_eq_true, Bool.and_eq_true] at h
    have h1 := Nat.eq_of_beq_eq_true h.1
    have h2 := Nat.eq_of_beq_eq_true h.2.1
    have h3 := eEq_eq h.2.2.1
    have h4 := eqOv_eq h.2.2.2
    dsimp only at h1 h2 h3 h4
    rw [h1, h2, h3, h4]
  | .inl _, .inr _, h => cases h
  | .inr _, .inl _, h => cases h
def eqH : eH → eH → Bool
  | [], [] => true
  | a :: as, b :: bs => eqC a b && eqH as bs
  | _, _ => false
theorem eqH_eq : ∀ {as bs : eH}, eqH as bs = true → as = bs
  | [], [], _ => rfl
  | a :: as, b :: bs, h => by
    unfold eqH at h
    rw [Bool.and_eq_true] at h
    rw [eqC_eq h.1, eqH_eq h.2]
  | [], _ :: _, h => by cases h
  | _ :: _, [], h => by cases h
def eqB1 : List (Int × Int) → List (Int × Int) → Bool
  | [], [] => true
  | a :: as, b :: bs => decide (a.1 = b.1) && (decide (a.2 = b.2) && eqB1 as bs)
  | _, _ => false
theorem eqB1_eq : ∀ {as bs : List (Int × Int)}, eqB1 as bs = true → as = bs
  | [], [], _ => rfl
  | (a, v) :: as, (b, w) :: bs, h => by
    unfold eqB1 at h
    rw [Bool.and_eq_true, Bool.and_eq_true, decide_eq_true_eq, decide_eq_true_eq] at h
    obtain ⟨h1, h2, h3⟩ := h
    dsimp only at h1 h2
    rw [h1, h2, eqB1_eq h3]
  | [], _ :: _, h => by cases h
  | _ :: _, [], h => by cases h
def eqF : List eF → List eF → Bool
  | [], [] => true
  | a :: as, b :: bs => (Nat.beq a.1 b.1 && (Nat.beq a.2.1 b.2.1 && (decide (a.2.2.1 = b.2.2.1) && (Nat.beq a.2.2.2.1 b.2.2.2.1 && decide (a.2.2.2.2 = b.2.2.2.2))))) && eqF as bs
  | _, _ => false
theorem eqF_eq : ∀ {as bs : List eF}, eqF as bs = true → as = bs
  | [], [], _ => rfl
  | (a1, a2, a3, a4, a5) :: as, (b1, b2, b3, b4, b5) :: bs, h => by
    unfold eqF at h
    simp only [Bool.and_eq_true, decide_eq_true_eq] at h
    obtain ⟨⟨h1, h2, h3, h4, h5⟩, h6⟩ := h
    have h1 := Nat.eq_of_beq_eq_true h1
    have h2 := Nat.eq_of_beq_eq_true h2
    have h4 := Nat.eq_of_beq_eq_true h4
    rw [h1, h2, h3, h4, h5, eqF_eq h6]
  | [], _ :: _, h => by cases h
  | _ :: _, [], h => by cases h
def eqB (a b : eB) : Bool := eqB1 a.1 b.1 && eqF a.2 b.2
theorem eqB_eq {a b : eB} (h : eqB a b = true) : a = b := by
  obtain ⟨a1, a2⟩ := a
  obtain ⟨b1, b2⟩ := b
  unfold eqB at h
  rw [Bool.and_eq_true] at h
  have h1 := eqB1_eq h.1
  have h2 := eqF_eq h.2
  dsimp only at h1 h2
  rw [h1, h2]
def eqL : eL → eL → Bool := eqOv
end E8A
