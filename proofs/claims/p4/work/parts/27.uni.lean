/-! ===== THE LAW, 3b: where two facts speak of one text, their numbers are one ===== -/
def uV (x y : Nat) (v : eV) : eV := bif Nat.beq v.1 0 && Nat.beq v.2.1 x then (0, y, v.2.2) else v
def uC (x y : Nat) (c : eC) : eC := match c with
  | .inl o => .inl (o.1, o.2.map (uV x y))
  | .inr a => .inr a
def uS (x y : Nat) (S : eS) : eS := (S.1, S.2.1, S.2.2.1, S.2.2.2.1, S.2.2.2.2.1.map (uC x y), S.2.2.2.2.2)
def uOk (B : eB) (f g : eF) : Bool := Nat.beq f.1 2202 && (Nat.beq g.1 2202 && (match argV B f.2.1, argV B f.2.2.2.1, argV B f.2.2.1.toNat, argV B f.2.2.2.2.toNat with
  | some a, some b, some c, some d => (match argV B g.2.1, argV B g.2.2.2.1, argV B g.2.2.1.toNat, argV B g.2.2.2.2.toNat with
    | some a2, some b2, some c2, some d2 => isOff B a a2 0 && (isOff B b b2 0 && ((decide (0 ≤ eLo B d) && decide (0 ≤ eLo B d2)) && ((decide (0 ≤ eLo B c) && decide (eHi B c ≤ 6)) && (decide (0 ≤ eLo B c2) && decide (eHi B c2 ≤ 6)))))
    | _, _, _, _ => false)
  | _, _, _, _ => false))
def uTg (t : Nat) : Bool := Nat.blt 0 t && Nat.blt t cB
def uPs (B : eB) : List (Nat × Nat) := B.2.flatMap (fun f => B.2.flatMap (fun g => bif uOk B f g && (uTg f.2.2.2.2.toNat && uTg g.2.2.2.2.toNat) then [(f.2.2.2.2.toNat, g.2.2.2.2.toNat)] else []))
theorem uOk_eq {ρ : Nat → Int} {B : eB} {f g : eF} (hB : gB ρ B) (hf : f ∈ B.2) (hg : g ∈ B.2) (h : uOk B f g = true) : aR ρ f.2.2.2.2.toNat = aR ρ g.2.2.2.2.toNat := by
  unfold uOk at h
  rw [Bool.and_eq_true, Bool.and_eq_true] at h
  obtain ⟨k1, k2, h2⟩ := h
  have g1 := hB.2 f hf
  have g2 := hB.2 g hg
  obtain ⟨f0, f1, f2, f3, f4⟩ := f
  obtain ⟨g0, g1', g2', g3, g4⟩ := g
  replace k1 := Nat.eq_of_beq_eq_true k1
  replace k2 := Nat.eq_of_beq_eq_true k2
  dsimp only at k1 k2 h2 ⊢
  subst k1
  subst k2
  have g1 : RK 2199 (aR ρ f1) (aR ρ f3) (aR ρ f2.toNat) (aR ρ f4.toNat) := g1
  have g2 : RK 2199 (aR ρ g1') (aR ρ g3) (aR ρ g2'.toNat) (aR ρ g4.toNat) := g2
  split at h2
  next a b c d ea eb ec ed =>
    split at h2
    next a2 b2 c2 d2 ea2 eb2 ec2 ed2 =>
      simp only [Bool.and_eq_true, decide_eq_true_eq] at h2
      obtain ⟨o1, o2, ⟨q1, q2⟩, ⟨q3, q4⟩, ⟨q5, q6⟩⟩ := h2
      have va := argV_ok hB ea
      have vb := argV_ok hB eb
      have vc := argV_ok hB ec
      have vd := argV_ok hB ed
      have va2 := argV_ok hB ea2
      have vb2 := argV_ok hB eb2
      have vc2 := argV_ok hB ec2
      have vd2 := argV_ok hB ed2
      have p1 := isOff_ok hB va va2 o1
      have p2 := isOff_ok hB vb vb2 o2
      have r1 := eLo_ok hB vd
      have r2 := eLo_ok hB vd2
      have r3 := eLo_ok hB vc
      have r4 := eHi_ok hB vc
      have r5 := eLo_ok hB vc2
      have r6 := eHi_ok hB vc2
      have e1 : aR ρ f1 = aR ρ g1' := by omega
      have e2 : aR ρ f3 = aR ρ g3 := by omega
      have w1 := (RK_t (k := 199) (by decide)).mp g1
      have w2 := (RK_t (k := 199) (by decide)).mp g2
      rw [← e1, ← e2] at w2
      by_cases hz : aR ρ f2.toNat = 0
      · have x1 := w1.1 hz
        by_cases hz2 : aR ρ g2'.toNat = 0
        · have x2 := w2.1 hz2
          omega
        · have x2 := w2.2 hz2
          omega
      · have x1 := w1.2 hz
        by_cases hz2 : aR ρ g2'.toNat = 0
        · have x2 := w2.1 hz2
          omega
        · have x2 := w2.2 hz2
          omega
    next => cases h2
  next => cases h2
theorem uPs_eq {ρ : Nat → Int} {B : eB} (hB : gB ρ B) {q : Nat × Nat} (h : q ∈ uPs B) : (uTg q.1 = true ∧ uTg q.2 = true) ∧ aR ρ q.1 = aR ρ q.2 := by
  unfold uPs at h
  obtain ⟨f, hf, h⟩ := List.mem_flatMap.mp h
  obtain ⟨g, hg, h⟩ := List.mem_flatMap.mp h
  cases hb : (uOk B f g && (uTg f.2.2.2.2.toNat && uTg g.2.2.2.2.toNat)) with
  | false => rw [hb] at h; cases h
  | true =>
    rw [hb, cond_true] at h
    rw [Bool.and_eq_true, Bool.and_eq_true] at hb
    rw [List.mem_singleton.mp h]
    exact ⟨hb.2, uOk_eq hB hf hg hb.1⟩
theorem aR_tg {ρ : Nat → Int} {t : Nat} (h : uTg t = true) : ∃ n, t = n + 1 ∧ aR ρ t = ρ (nB n) + nO n := by
  unfold uTg at h
  rw [Bool.and_eq_true] at h
  have h1 := blt_lt h.1
  refine ⟨t - 1, by omega, ?_⟩
  unfold aR
  rw [h.2, cond_true]
section UN
variable {ρ : Nat → Int} {ad : Nat → Nat} {sb : eSB} {cA : Nat → ClassId} {x y : Nat}
theorem uV_ok (hx : uTg x = true) (hy : uTg y = true) (e : aR ρ x = aR ρ y) {v : eV} {w : Value} (g : gV ρ ad sb v w) : gV ρ ad sb (uV x y v) w := by
  unfold uV
  cases hb : (Nat.beq v.1 0 && Nat.beq v.2.1 x) with
  | false => exact g
  | true =>
    rw [cond_true]
    rw [Bool.and_eq_true] at hb
    obtain ⟨v0, v1, v2, v3⟩ := v
    have e0 := Nat.eq_of_beq_eq_true hb.1
    have e1 := Nat.eq_of_beq_eq_true hb.2
    dsimp only at e0 e1
    subst e0
    subst e1
    obtain ⟨z, z1, z2, z3⟩ := g
    refine ⟨z, z1, fun t ht => ?_, z3⟩
    obtain ⟨n, n1, n2⟩ := aR_tg (ρ := ρ) hx
    obtain ⟨k, k1, k2⟩ := aR_tg (ρ := ρ) hy
    have ht : y = t + 1 := ht
    have e3 : k = t := by omega
    subst e3
    have := z2 n n1
    omega
theorem uVs_ok (hx : uTg x = true) (hy : uTg y = true) (e : aR ρ x = aR ρ y) : ∀ {as : List eV} {vs : List Value}, gS ρ ad sb as vs → gS ρ ad sb (as.map (uV x y)) vs
  | [], [], _ => trivial
  | _ :: _, _ :: _, g => ⟨uV_ok hx hy e g.1, uVs_ok hx hy e g.2⟩
  | [], _ :: _, g => g.elim
  | _ :: _, [], g => g.elim
theorem uC_ok (hx : uTg x = true) (hy : uTg y = true) (e : aR ρ x = aR ρ y) {c : eC} {w : va_E} (g : gC ρ ad sb cA c w) : gC ρ ad sb cA (uC x y c) w := by
  match c, g with
  | .inl o, g =>
    obtain ⟨vs, h1, h2⟩ := g
    exact ⟨vs, h1, uVs_ok hx hy e h2⟩
  | .inr a, g => exact g
theorem uH_ok (hx : uTg x = true) (hy : uTg y = true) (e : aR ρ x = aR ρ y) {hp : eH} {ws : va_W} (g : gH ρ ad sb cA hp ws) : gH ρ ad sb cA (hp.map (uC x y)) ws := by
  refine ⟨by rw [List.length_map]; exact g.1, fun k c hk => ?_⟩
  rw [List.getElem?_map] at hk
  cases hc : hp[k]? with
  | none => rw [hc] at hk; cases hk
  | some c9 =>
    rw [hc] at hk
    have e9 : uC x y c9 = c := Option.some.inj hk
    subst e9
    obtain ⟨w, h1, h2⟩ := g.2 k c9 hc
    exact ⟨w, h1, uC_ok hx hy e h2⟩
end UN
theorem eW_u {p : Program} {l : Launch} {e : Env} {R : Room} {s : State} {m : MethodId} {args : Array Value} {below : List Frame} {meth : Method} {c : Code} {Q : State → Prop} {D : va_G} {cl : List vw_C} {cA : Nat → ClassId} {A : Nat → Prop} {sb : eSB} {ρ : Nat → Int} {ad0 : Nat → Nat} {h0 nL : Nat} {S : eS} {q : Nat × Nat} (hq : q ∈ uPs S.2.2.2.1) (h : eW p l e R s m args below meth c Q D cl cA A sb ρ ad0 h0 nL (uS q.1 q.2 S)) : eW p l e R s m args below meth c Q D cl cA A sb ρ ad0 h0 nL S := by
  intro ad ls lc vs ws H locs g1 g2 g3 g4 g5 g6 g7 g8 g9
  obtain ⟨⟨hx, hy⟩, e9⟩ := uPs_eq g2 hq
  exact h ad ls lc vs ws H locs (by show eAd ad0 ad h0 (S.2.2.2.2.1.map (uC q.1 q.2)).length; rw [List.length_map]; exact g1) g2 g3 g4 (uH_ok hx hy e9 g5) g6 g7 g8 g9
