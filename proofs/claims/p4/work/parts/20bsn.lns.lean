/-! ===== THE RULES OF LINES ===== -/
def bF (fl i : Nat) : Bool := match i with
  | 0 => decide (fl % 2 = 1)
  | 1 => decide (fl / 2 % 2 = 1)
  | _ => decide (fl / 4 % 2 = 1)
theorem RK_l {fl : Nat} (h : fl < 8) {a b c d : Int} : RK (4000 + fl) a b c d ↔ rPort (dc a) = rRest (dc a) c.toNat d.toNat (bF fl 0) (bF fl 1) (bF fl 2) b.toNat := by
  match fl, h with
  | 0, _ => exact Iff.rfl
  | 1, _ => exact Iff.rfl
  | 2, _ => exact Iff.rfl
  | 3, _ => exact Iff.rfl
  | 4, _ => exact Iff.rfl
  | 5, _ => exact Iff.rfl
  | 6, _ => exact Iff.rfl
  | 7, _ => exact Iff.rfl
theorem wd_ex {L w w' : List Int} {p : Nat} (h1 : isWd L w p = true) (h2 : isWd L w' p = true) : w = w' := by
  unfold isWd at h1 h2
  rw [Bool.and_eq_true, Bool.and_eq_true, decide_eq_true_eq, decide_eq_true_eq] at h1 h2
  obtain ⟨_, l1, a1⟩ := h1
  obtain ⟨_, l2, a2⟩ := h2
  refine List.ext_getElem (l1.symm.trans l2) (fun j g1 g2 => ?_)
  have b1 := List.all_eq_true.mp a1 j (List.mem_range.mpr g1)
  have b2 := List.all_eq_true.mp a2 j (List.mem_range.mpr g2)
  rw [decide_eq_true_eq, getD_in g1] at b1
  rw [decide_eq_true_eq, getD_in g2] at b2
  exact b1.symm.trans b2
theorem wd_o {L : List Int} {p i j : Nat} (hne : wdO i ≠ wdO j) (h : isWd L (wdO i) p = true) : isWd L (wdO j) p = false := by
  cases hb : isWd L (wdO j) p with
  | false => rfl
  | true => exact absurd (wd_ex h hb) hne
theorem wdO_ne : ∀ i, i < 5 → ∀ j, j < 5 → i ≠ j → wdO i ≠ wdO j := by decide
/-- which of the five words stands -/
theorem five {L : List Int} {p i : Nat} (hi : i < 5) (h : isWd L (wdO i) p = true) : isWd L wBalc p = decide (i = 0) ∧ isWd L wWall p = decide (i = 1) ∧ isWd L wShip p = decide (i = 2) ∧ isWd L wTimes p = decide (i = 3) ∧ isWd L wGoes p = decide (i = 4) := by
  have k : ∀ j, j < 5 → isWd L (wdO j) p = decide (i = j) := fun j hj => by
    by_cases e : i = j
    · subst e
      rw [h, decide_eq_true rfl]
    · rw [decide_eq_false e]
      exact wd_o (wdO_ne i hi j hj e) h
  exact ⟨k 0 (by decide), k 1 (by decide), k 2 (by decide), k 3 (by decide), k 4 (by decide)⟩
/-- what follows a word in its line -/
def rBody (L : List Int) (i : Nat) (q : Nat) : Int := match i with
  | 0 => rNs L (nsL.getD 0 []) q
  | 1 => rNs L (nsL.getD 1 []) q
  | 2 => rNs L (nsL.getD 2 []) q
  | 3 => thn (rNum L 0 9 q) (rTm L 9)
  | _ => thn (rOr L 6 q) (rEnd L 59)
/-- whether the line is one too many -/
def rOver (nb nw : Nat) (fs ft fg : Bool) (i : Nat) : Option Int := match i with
  | 0 => if 10 ≤ nb then some 2 else none
  | 1 => if 10 ≤ nw then some 2 else none
  | 2 => if fs then some 5 else none
  | 3 => if ft then some 5 else none
  | _ => if fg then some 5 else none
theorem rLine_w {L : List Int} {nb nw : Nat} {fs ft fg : Bool} {p i : Nat} (hi : i < 5) (h : isWd L (wdO i) p = true) : rLine L nb nw fs ft fg p = match rOver nb nw fs ft fg i with
    | some k => flt k p
    | none => rBody L i (nx L p) := by
  obtain ⟨h0, h1, h2, h3, h4⟩ := five hi h
  unfold rLine
  rw [h0, h1, h2, h3, h4]
  match i, hi with
  | 0, _ =>
    show (if 10 ≤ nb then flt 2 p else _) = match (if 10 ≤ nb then some 2 else none : Option Int) with | some k => flt k p | none => _
    split <;> rfl
  | 1, _ =>
    show (if 10 ≤ nw then flt 2 p else _) = match (if 10 ≤ nw then some 2 else none : Option Int) with | some k => flt k p | none => _
    split <;> rfl
  | 2, _ => cases fs <;> rfl
  | 3, _ => cases ft <;> rfl
  | 4, _ => cases fg <;> rfl
theorem rLine_0 {L : List Int} {nb nw : Nat} {fs ft fg : Bool} {p : Nat} (h : ∀ j, j < 5 → isWd L (wdO j) p = false) : rLine L nb nw fs ft fg p = flt 1 p := by
  have h0 : isWd L wBalc p = false := h 0 (by decide)
  have h1 : isWd L wWall p = false := h 1 (by decide)
  have h2 : isWd L wShip p = false := h 2 (by decide)
  have h3 : isWd L wTimes p = false := h 3 (by decide)
  have h4 : isWd L wGoes p = false := h 4 (by decide)
  unfold rLine
  rw [h0, h1, h2, h3, h4]
  rfl
theorem line_go {L : List Int} {nb nw : Nat} {fs ft fg : Bool} {p i : Nat} {r : Int} (hi : i < 5) (h : isWd L (wdO i) p = true) (ho : rOver nb nw fs ft fg i = none) (hr : rBody L i (nx L p) = r) (h0 : 0 ≤ r) : rRest L nb nw fs ft fg p = rRest L (nb + b2n (decide (i = 0))) (nw + b2n (decide (i = 1))) (fs || decide (i = 2)) (ft || decide (i = 3)) (fg || decide (i = 4)) r.toNat := by
  have hl := rLine_w (nb := nb) (nw := nw) (fs := fs) (ft := ft) (fg := fg) hi h
  rw [ho] at hl
  have hl : rLine L nb nw fs ft fg p = rBody L i (nx L p) := hl
  obtain ⟨w0, w1, w2, w3, w4⟩ := five hi h
  rw [rRest_at, if_neg (wd_kd h), hl, hr, w0, w1, w2, w3, w4]
  exact if_neg (by omega)
theorem line_no {L : List Int} {nb nw : Nat} {fs ft fg : Bool} {p i : Nat} {r : Int} (hi : i < 5) (h : isWd L (wdO i) p = true) (ho : rOver nb nw fs ft fg i = none) (hr : rBody L i (nx L p) = r) (h0 : r < 0) : rRest L nb nw fs ft fg p = r := by
  have hl := rLine_w (nb := nb) (nw := nw) (fs := fs) (ft := ft) (fg := fg) hi h
  rw [ho] at hl
  have hl : rLine L nb nw fs ft fg p = rBody L i (nx L p) := hl
  rw [rRest_at, if_neg (wd_kd h), hl, hr]
  exact if_pos h0
theorem line_ov {L : List Int} {nb nw : Nat} {fs ft fg : Bool} {p i : Nat} {k : Int} (hi : i < 5) (h : isWd L (wdO i) p = true) (ho : rOver nb nw fs ft fg i = some k) (h0 : 0 ≤ k) : rRest L nb nw fs ft fg p = flt k p := by
  have hl := rLine_w (nb := nb) (nw := nw) (fs := fs) (ft := ft) (fg := fg) hi h
  rw [ho] at hl
  have hl : rLine L nb nw fs ft fg p = flt k p := hl
  rw [rRest_at, if_neg (wd_kd h), hl]
  exact if_pos (flt_neg h0 p)
/-- the word's own line: premises for its body from the variable 6 to the variable 2 -/
def bdP (i : Nat) : List eRl := match i with
  | 0 => [vr 170 0 6 12 2]
  | 1 => [vr 171 0 6 12 2]
  | 2 => [vr 172 0 6 12 2]
  | 3 => [vr 162 0 6 12 7, vr 180 0 7 13 2]
  | _ => [vr 46 0 6 12 7, vr 173 0 7 13 2]
def bdC (i : Nat) : List (Nat × Int × Int) := match i with
  | 3 => [(7, 0, big)]
  | 4 => [(7, 0, big)]
  | _ => []
/-- and a fault in it -/
def bdF (i j : Nat) : List eRl := match i, j with
  | 0, _ => [vr 2170 0 6 21 22]
  | 1, _ => [vr 2171 0 6 21 22]
  | 2, _ => [vr 2172 0 6 21 22]
  | 3, 0 => [vr 2162 0 6 21 22]
  | 3, _ => [vr 162 0 6 12 7, vr 2180 0 7 21 22]
  | _, 0 => [vr 2046 0 6 21 22]
  | _, _ => [vr 46 0 6 12 7, vr 2173 0 7 21 22]
def bdCf (i j : Nat) : List (Nat × Int × Int) := match i, j with
  | 3, 0 => []
  | 3, _ => [(7, 0, big)]
  | 4, 0 => []
  | 4, _ => [(7, 0, big)]
  | _, _ => []
/-- that it isn't one too many -/
def ovC (i : Nat) : List (Nat × Int × Int) := match i with
  | 0 => [(3, 0, 9)]
  | 1 => [(4, 0, 9)]
  | _ => []
/-- the flags behind it -/
def nfl (fl i : Nat) : Nat := match i with
  | 2 => fl + 1
  | 3 => fl + 2
  | 4 => fl + 4
  | _ => fl
def freeF (fl i : Nat) : Bool := match i with
  | 2 => !(bF fl 0)
  | 3 => !(bF fl 1)
  | 4 => !(bF fl 2)
  | _ => true
def z0 (i : Nat) : Int := if i = 0 then 1 else 0
def z1 (i : Nat) : Int := if i = 1 then 1 else 0
def li1 (fl i : Nat) : eRu := ((4000 + nfl fl i, [(0, 0), (2, 0), (3, z0 i), (4, z1 i)]), [vr (4000 + fl) 0 1 3 4, vr (10 + i) 0 1 8 5, vr 8 0 1 9 6] ++ bdP i, [(5, 1, 1), (2, 0, big), (3, 0, big), (4, 0, big)] ++ (ovC i ++ bdC i), [], [])
def li2 (fl i j : Nat) : eRu := (vr 2199 0 20 21 22, [vr (4000 + fl) 0 1 3 4, vr (10 + i) 0 1 8 5, vr 8 0 1 9 6] ++ bdF i j, [(5, 1, 1), (21, 1, big), (22, 0, big), (3, 0, big), (4, 0, big)] ++ (ovC i ++ bdCf i j), [], [])
def li3 (fl i : Nat) : eRu := (vr 2199 0 20 21 22, [vr (4000 + fl) 0 22 3 4, vr (10 + i) 0 22 8 5], [(5, 1, 1), (22, 0, big), (21, (if i < 2 then 2 else 5), (if i < 2 then 2 else 5)), (3, (if i = 0 then 10 else 0), big), (4, (if i = 1 then 10 else 0), big)], [], [])
/-- no line begins here; the end -/
def li4 (fl k : Nat) : eRu := (vr 2199 0 20 21 22, [vr (4000 + fl) 0 22 3 4, vr k 0 22 23 24, vr 10 0 22 30 40, vr 11 0 22 31 41, vr 12 0 22 32 42, vr 13 0 22 33 43, vr 14 0 22 34 44], [(21, 1, 1), (22, 0, big), (40, 0, 0), (41, 0, 0), (42, 0, 0), (43, 0, 0), (44, 0, 0)], [(24, [0])], [])
def li5 (fl : Nat) : eRu := (vr 199 0 20 21 1, [vr (4000 + fl) 0 1 3 4, vr 4 0 1 8 5], [(1, 0, big), (5, 0, 0)], [], [])
def li0 : eRu := (vr 4000 0 1 3 4, [vr 1 0 2 8 1], [(2, 0, 0), (3, 0, 0), (4, 0, 0)], [], [])
theorem li0_ok : ruH li0 := fun x hp hc _ _ => by
  have p1 : x 1 = ((fw isBl (dc (x 0)) (x 2).toNat : Nat) : Int) := vr_H.mp (hp _ lm0)
  have c1 := hc (2, 0, 0) lm0
  have c2 := hc (3, 0, 0) lm1
  have c3 := hc (4, 0, 0) lm2
  dsimp only at c1 c2 c3
  refine vr_H.mpr ((RK_l (fl := 0) (by decide)).mpr ?_)
  rw [rPort_rest, show (x 3).toNat = 0 by omega, show (x 4).toNat = 0 by omega, p1, Int.toNat_natCast, show (x 2).toNat = 0 by omega]
  rfl
theorem bodyG {x : Nat → Int} {i : Nat} (hi : i < 5) (hp : ∀ p ∈ bdP i, rlH x p) (hc : ∀ c ∈ bdC i, c.2.1 ≤ x c.1 ∧ x c.1 ≤ c.2.2) : rBody (dc (x 0)) i (x 6).toNat = x 2 := by
  match i, hi with
  | 0, _ =>
    have p1 : x 2 = rNs (dc (x 0)) (nsL.getD 0 []) (x 6).toNat := vr_H.mp (hp _ lm0)
    exact p1.symm
  | 1, _ =>
    have p1 : x 2 = rNs (dc (x 0)) (nsL.getD 1 []) (x 6).toNat := vr_H.mp (hp _ lm0)
    exact p1.symm
  | 2, _ =>
    have p1 : x 2 = rNs (dc (x 0)) (nsL.getD 2 []) (x 6).toNat := vr_H.mp (hp _ lm0)
    exact p1.symm
  | 3, _ =>
    have p1 : x 7 = rNum (dc (x 0)) 0 9 (x 6).toNat := vr_H.mp (hp _ lm0)
    have p2 : x 2 = rTm (dc (x 0)) 9 (x 7).toNat := vr_H.mp (hp _ lm1)
    have c1 := hc (7, 0, big) lm0
    dsimp only at c1
    show thn (rNum (dc (x 0)) 0 9 (x 6).toNat) (rTm (dc (x 0)) 9) = x 2
    rw [← p1, p2]
    exact if_neg (by omega)
  | 4, _ =>
    have p1 : x 7 = rOr (dc (x 0)) 6 (x 6).toNat := vr_H.mp (hp _ lm0)
    have p2 : x 2 = rEnd (dc (x 0)) 59 (x 7).toNat := vr_H.mp (hp _ lm1)
    have c1 := hc (7, 0, big) lm0
    dsimp only at c1
    show thn (rOr (dc (x 0)) 6 (x 6).toNat) (rEnd (dc (x 0)) 59) = x 2
    rw [← p1, p2]
    exact if_neg (by omega)
theorem bodyF {x : Nat → Int} {i j : Nat} (hi : i < 5) (h1 : 1 ≤ x 21) (h2 : 0 ≤ x 22) (hp : ∀ p ∈ bdF i j, rlH x p) (hc : ∀ c ∈ bdCf i j, c.2.1 ≤ x c.1 ∧ x c.1 ≤ c.2.2) : rBody (dc (x 0)) i (x 6).toNat = -(1 + x 21 + 8 * x 22) := by
  have n1 : x 21 ≠ 0 := by omega
  match i, hi, j with
  | 0, _, _ => exact RK_tm (k := 170) (by decide) (vr_H.mp (hp _ lm0)) n1
  | 1, _, _ => exact RK_tm (k := 171) (by decide) (vr_H.mp (hp _ lm0)) n1
  | 2, _, _ => exact RK_tm (k := 172) (by decide) (vr_H.mp (hp _ lm0)) n1
  | 3, _, 0 =>
    have p1 : rNum (dc (x 0)) 0 9 (x 6).toNat = -(1 + x 21 + 8 * x 22) := RK_tm (k := 162) (by decide) (vr_H.mp (hp _ lm0)) n1
    show thn (rNum (dc (x 0)) 0 9 (x 6).toNat) (rTm (dc (x 0)) 9) = _
    rw [p1]
    exact if_pos (by omega)
  | 3, _, _ + 1 =>
    have p1 : x 7 = rNum (dc (x 0)) 0 9 (x 6).toNat := vr_H.mp (hp _ lm0)
    have p2 : rTm (dc (x 0)) 9 (x 7).toNat = -(1 + x 21 + 8 * x 22) := RK_tm (k := 180) (by decide) (vr_H.mp (hp _ lm1)) n1
    have c1 := hc (7, 0, big) lm0
    dsimp only at c1
    show thn (rNum (dc (x 0)) 0 9 (x 6).toNat) (rTm (dc (x 0)) 9) = _
    rw [← p1, ← p2]
    exact if_neg (by omega)
  | 4, _, 0 =>
    have p1 : rOr (dc (x 0)) 6 (x 6).toNat = -(1 + x 21 + 8 * x 22) := RK_tm (k := 46) (by decide) (vr_H.mp (hp _ lm0)) n1
    show thn (rOr (dc (x 0)) 6 (x 6).toNat) (rEnd (dc (x 0)) 59) = _
    rw [p1]
    exact if_pos (by omega)
  | 4, _, _ + 1 =>
    have p1 : x 7 = rOr (dc (x 0)) 6 (x 6).toNat := vr_H.mp (hp _ lm0)
    have p2 : rEnd (dc (x 0)) 59 (x 7).toNat = -(1 + x 21 + 8 * x 22) := RK_tm (k := 173) (by decide) (vr_H.mp (hp _ lm1)) n1
    have c1 := hc (7, 0, big) lm0
    dsimp only at c1
    show thn (rOr (dc (x 0)) 6 (x 6).toNat) (rEnd (dc (x 0)) 59) = _
    rw [← p1, ← p2]
    exact if_neg (by omega)
theorem over_n {x : Nat → Int} {fl i : Nat} (hi : i < 5) (hf : freeF fl i = true) (hc : ∀ c ∈ ovC i, c.2.1 ≤ x c.1 ∧ x c.1 ≤ c.2.2) : rOver (x 3).toNat (x 4).toNat (bF fl 0) (bF fl 1) (bF fl 2) i = none := by
  match i, hi with
  | 0, _ =>
    have c1 := hc (3, 0, 9) lm0
    dsimp only at c1
    exact if_neg (by omega)
  | 1, _ =>
    have c1 := hc (4, 0, 9) lm0
    dsimp only at c1
    exact if_neg (by omega)
  | 2, _ =>
    have hf : (!(bF fl 0)) = true := hf
    show (if bF fl 0 then some 5 else none : Option Int) = none
    cases hb : bF fl 0 with
    | false => rfl
    | true => rw [hb] at hf; cases hf
  | 3, _ =>
    have hf : (!(bF fl 1)) = true := hf
    show (if bF fl 1 then some 5 else none : Option Int) = none
    cases hb : bF fl 1 with
    | false => rfl
    | true => rw [hb] at hf; cases hf
  | 4, _ =>
    have hf : (!(bF fl 2)) = true := hf
    show (if bF fl 2 then some 5 else none : Option Int) = none
    cases hb : bF fl 2 with
    | false => rfl
    | true => rw [hb] at hf; cases hf
theorem nfl_lt : ∀ fl, fl < 8 → ∀ i, i < 5 → freeF fl i = true → nfl fl i < 8 := by decide
theorem nfl_b : ∀ fl, fl < 8 → ∀ i, i < 5 → freeF fl i = true → bF (nfl fl i) 0 = (bF fl 0 || decide (i = 2)) ∧ bF (nfl fl i) 1 = (bF fl 1 || decide (i = 3)) ∧ bF (nfl fl i) 2 = (bF fl 2 || decide (i = 4)) := by decide
theorem wd_of {x : Nat → Int} {i b c d : Nat} (hi : i < 14) (h : rlH x (vr (10 + i) 0 b c d)) (h1 : 1 ≤ x d) : isWd (dc (x 0)) (wdO i) (x b).toNat = true := by
  have p := (RK_f (by omega)).mp (vr_H.mp h)
  rw [FK_w hi] at p
  cases hb : isWd (dc (x 0)) (wdO i) (x b).toNat with
  | true => rfl
  | false =>
    have p : x d = bI (isWd (dc (x 0)) (wdO i) (x b).toNat) := p
    rw [hb] at p
    have p : x d = 0 := p
    omega
theorem li1_ok {fl i : Nat} (hf : fl < 8) (hi : i < 5) (hF : freeF fl i = true) : ruH (li1 fl i) := fun x hp hc _ _ => by
  have p0 := (RK_l hf).mp (vr_H.mp (hp _ (List.mem_append_left _ lm0)))
  have c0 := hc (5, 1, 1) (List.mem_append_left _ lm0)
  have c1 := hc (2, 0, big) (List.mem_append_left _ lm1)
  have c2 := hc (3, 0, big) (List.mem_append_left _ lm2)
  have c3 := hc (4, 0, big) (List.mem_append_left _ lm3)
  dsimp only at c0 c1 c2 c3
  have hw := wd_of (x := x) (i := i) (by omega) (hp _ (List.mem_append_left _ lm1)) c0.1
  have p2 := RK_8 (vr_H.mp (hp _ (List.mem_append_left _ lm2)))
  have hb := bodyG (x := x) hi (fun p h => hp p (List.mem_append_right _ h)) (fun c h => hc c (List.mem_append_right _ (List.mem_append_right _ h)))
  rw [p2, Int.toNat_natCast] at hb
  have ho := over_n (x := x) hi hF (fun c h => hc c (List.mem_append_right _ (List.mem_append_left _ h)))
  have hg := line_go hi hw ho hb c1.1
  obtain ⟨b0, b1, b2⟩ := nfl_b fl hf i hi hF
  show RK (4000 + nfl fl i) (x 0 + 0) (x 2 + 0) (x 3 + z0 i) (x 4 + z1 i)
  rw [Int.add_zero, Int.add_zero]
  refine (RK_l (nfl_lt fl hf i hi hF)).mpr ?_
  rw [p0, hg, b0, b1, b2]
  have e0 : (x 3 + z0 i).toNat = (x 3).toNat + b2n (decide (i = 0)) := by
    unfold z0 b2n
    by_cases h : i = 0
    · rw [if_pos h, decide_eq_true h, if_pos rfl]
      omega
    · rw [if_neg h, decide_eq_false h, if_neg (by decide)]
      omega
  have e1 : (x 4 + z1 i).toNat = (x 4).toNat + b2n (decide (i = 1)) := by
    unfold z1 b2n
    by_cases h : i = 1
    · rw [if_pos h, decide_eq_true h, if_pos rfl]
      omega
    · rw [if_neg h, decide_eq_false h, if_neg (by decide)]
      omega
  rw [e0, e1]
theorem RK_99 {a b c d : Int} (hc : 1 ≤ c) (h : rPort (dc a) = -(1 + c + 8 * d)) : RK 2199 a b c d := RK_ti (k := 199) (by decide) (by omega) h
theorem li2_ok {fl i j : Nat} (hf : fl < 8) (hi : i < 5) (hF : freeF fl i = true) : ruH (li2 fl i j) := fun x hp hc _ _ => by
  have p0 := (RK_l hf).mp (vr_H.mp (hp _ (List.mem_append_left _ lm0)))
  have c0 := hc (5, 1, 1) (List.mem_append_left _ lm0)
  have c1 := hc (21, 1, big) (List.mem_append_left _ lm1)
  have c2 := hc (22, 0, big) (List.mem_append_left _ lm2)
  dsimp only at c0 c1 c2
  have hw := wd_of (x := x) (i := i) (by omega) (hp _ (List.mem_append_left _ lm1)) c0.1
  have p2 := RK_8 (vr_H.mp (hp _ (List.mem_append_left _ lm2)))
  have hb := bodyF (x := x) (j := j) hi c1.1 c2.1 (fun p h => hp p (List.mem_append_right _ h)) (fun c h => hc c (List.mem_append_right _ (List.mem_append_right _ h)))
  rw [p2, Int.toNat_natCast] at hb
  have ho := over_n (x := x) hi hF (fun c h => hc c (List.mem_append_right _ (List.mem_append_left _ h)))
  have hg := line_no hi hw ho hb (by omega)
  exact vr_H.mpr (RK_99 c1.1 (p0.trans hg))
/-- a line too many -/
def overF (fl i : Nat) : Bool := match i with
  | 0 => true
  | 1 => true
  | 2 => bF fl 0
  | 3 => bF fl 1
  | _ => bF fl 2
theorem over_y {x : Nat → Int} {fl i : Nat} (hi : i < 5) (hf : overF fl i = true) (h3 : (if i = 0 then 10 else 0) ≤ x 3) (h4 : (if i = 1 then 10 else 0) ≤ x 4) : rOver (x 3).toNat (x 4).toNat (bF fl 0) (bF fl 1) (bF fl 2) i = some (if i < 2 then 2 else 5) := by
  match i, hi with
  | 0, _ =>
    have h3 : 10 ≤ x 3 := h3
    exact if_pos (by omega)
  | 1, _ =>
    have h4 : 10 ≤ x 4 := h4
    exact if_pos (by omega)
  | 2, _ => exact if_pos hf
  | 3, _ => exact if_pos hf
  | 4, _ => exact if_pos hf
theorem li3_ok {fl i : Nat} (hf : fl < 8) (hi : i < 5) (hF : overF fl i = true) : ruH (li3 fl i) := fun x hp hc _ _ => by
  have p0 := (RK_l hf).mp (vr_H.mp (hp _ lm0))
  have c0 := hc (5, 1, 1) lm0
  have c1 := hc (22, 0, big) lm1
  have c2 := hc (21, (if i < 2 then 2 else 5), (if i < 2 then 2 else 5)) lm2
  have c3 := hc (3, (if i = 0 then 10 else 0), big) lm3
  have c4 := hc (4, (if i = 1 then 10 else 0), big) lm4
  dsimp only at c0 c1 c2 c3 c4
  have hw := wd_of (x := x) (i := i) (by omega) (hp _ lm1) c0.1
  have ho := over_y (x := x) hi hF c3.1 c4.1
  have h21 : x 21 = if i < 2 then 2 else 5 := Int.le_antisymm c2.2 c2.1
  have hk : 1 ≤ x 21 := by
    rw [h21]
    split <;> decide
  have hg := line_ov hi hw ho (by rw [← h21]; omega)
  refine vr_H.mpr (RK_99 hk (p0.trans (hg.trans ?_)))
  unfold flt
  rw [Int.toNat_of_nonneg c1.1, ← h21]
theorem li4_ok {fl k : Nat} (hf : fl < 8) (hk : k = 4 ∨ k = 36) : ruH (li4 fl k) := fun x hp hc hn _ => by
  have p0 := (RK_l hf).mp (vr_H.mp (hp _ lm0))
  have p1 := (RK_f (by omega)).mp (vr_H.mp (hp _ lm1))
  have c1 := hc (21, 1, 1) lm0
  have c2 := hc (22, 0, big) lm1
  have n1 := hn (24, [0]) lm0
  have d0 := hc (40, 0, 0) lm2
  have d1 := hc (41, 0, 0) lm3
  have d2 := hc (42, 0, 0) lm4
  have d3 := hc (43, 0, 0) lm5
  have d4 := hc (44, 0, 0) lm6
  dsimp only at c1 c2 n1 d0 d1 d2 d3 d4
  have w : ∀ {i c d : Nat}, i < 14 → rlH x (vr (10 + i) 0 22 c d) → x d ≤ 0 → isWd (dc (x 0)) (wdO i) (x 22).toNat = false := fun {i c d} hi h h0 => by
    have p := (RK_f (by omega)).mp (vr_H.mp h)
    rw [FK_w hi] at p
    cases hb : isWd (dc (x 0)) (wdO i) (x 22).toNat with
    | false => rfl
    | true =>
      have p : x d = bI (isWd (dc (x 0)) (wdO i) (x 22).toNat) := p
      rw [hb] at p
      have p : x d = 1 := p
      omega
  have hz : ∀ j, j < 5 → isWd (dc (x 0)) (wdO j) (x 22).toNat = false := fun j hj => by
    match j, hj with
    | 0, _ => exact w (i := 0) (by decide) (hp _ lm2) d0.2
    | 1, _ => exact w (i := 1) (by decide) (hp _ lm3) d1.2
    | 2, _ => exact w (i := 2) (by decide) (hp _ lm4) d2.2
    | 3, _ => exact w (i := 3) (by decide) (hp _ lm5) d3.2
    | 4, _ => exact w (i := 4) (by decide) (hp _ lm6) d4.2
  have hk0 : kd (dc (x 0)) (x 22).toNat ≠ 0 := fun e => n1 (List.mem_singleton.mpr (by
    rcases hk with rfl | rfl
    · rw [p1]
      exact e
    · rw [p1]
      show tk (dc (x 0)) (x 22).toNat = 0
      unfold tk
      rw [e]
      rfl))
  refine vr_H.mpr (RK_99 (by omega) (p0.trans ?_))
  rw [rRest_at, if_neg hk0, rLine_0 hz]
  refine (if_pos (flt_neg (by decide) _)).trans ?_
  unfold flt
  rw [Int.toNat_of_nonneg c2.1]
  omega
theorem li5_ok {fl : Nat} (hf : fl < 8) : ruH (li5 fl) := fun x hp hc _ _ => by
  have p0 := (RK_l hf).mp (vr_H.mp (hp _ lm0))
  have p1 := RK_4 (vr_H.mp (hp _ lm1))
  have c1 := hc (1, 0, big) lm0
  have c2 := hc (5, 0, 0) lm1
  dsimp only at c1 c2
  refine vr_H.mpr ?_
  show x 1 = rPort (dc (x 0))
  rw [p0, rRest_at, if_pos (by omega)]
  omega
def lnA (fl : Nat) : List eRu := ((List.range 5).filter (freeF fl)).flatMap (fun i => [li1 fl i, li2 fl i 0, li2 fl i 1]) ++ (((List.range 5).filter (overF fl)).map (li3 fl) ++ [li4 fl 4, li4 fl 36, li5 fl])
theorem lnA_ok {fl : Nat} (hf : fl < 8) : ∀ r ∈ lnA fl, ruH r := all_app (fun r hr => by
  obtain ⟨i, hi, h⟩ := List.mem_flatMap.mp hr
  obtain ⟨h1, h2⟩ := List.mem_filter.mp hi
  have h1 := List.mem_range.mp h1
  simp only [List.mem_cons, List.not_mem_nil, or_false] at h
  rcases h with rfl | rfl | rfl
  · exact li1_ok hf h1 h2
  · exact li2_ok hf h1 h2
  · exact li2_ok hf h1 h2) (all_app (all_map fun i hi => by
  obtain ⟨h1, h2⟩ := List.mem_filter.mp hi
  exact li3_ok hf (List.mem_range.mp h1) h2) (fun r hr => by
  simp only [List.mem_cons, List.not_mem_nil, or_false] at hr
  rcases hr with rfl | rfl | rfl
  · exact li4_ok hf (Or.inl rfl)
  · exact li4_ok hf (Or.inr rfl)
  · exact li5_ok hf))
def lnRules : List eRu := li0 :: (List.range 8).flatMap lnA
theorem lnRules_ok : ∀ r ∈ lnRules, ruH r := fun r hr => by
  rcases List.mem_cons.mp hr with rfl | hr
  · exact li0_ok
  · obtain ⟨fl, hf, h⟩ := List.mem_flatMap.mp hr
    exact lnA_ok (List.mem_range.mp hf) r h
