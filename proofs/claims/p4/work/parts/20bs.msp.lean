/-! ===== THE ENGINE, 12s: cells that predicates tell of, one within another ===== -/
/-- what a predicate is told -/
def mPr (B : eB) (l : eL) (hp : eH) (th : List (Option eP)) : List (Nat × eV) → List (Nat × eV) → Bool
  | [], [] => true
  | a :: as, b :: bs => (Nat.beq a.1 b.1 && (decide (b.2.2.2.1 ≤ eLo B a.2) && (decide (eHi B a.2 ≤ b.2.2.2.2) && mN B l hp th none a.2 b.2.2.1))) && mPr B l hp th as bs
  | _, _ => false
/-- a and v more is no more than c, by what is known -/
def dLe1 (F : List eF) (i j : Nat) (v : Int) : Bool := F.any (fun f => Nat.beq f.1 1 && (Nat.beq f.2.1 i && (Nat.beq f.2.2.2.1 j && decide (v ≤ f.2.2.1))))
def dLe (B : eB) (a c : eV) (v : Int) : Bool := decide (eHi B a + v ≤ eLo B c) || (match a.2.1, c.2.1 with
  | t + 1, u + 1 => (bif Nat.beq (nB t) (nB u) then decide (nO t + v ≤ nO u) else dLe1 B.2 (nB t) (nB u) (v + nO t - nO u))
  | _, _ => false)
/-- if a is v then c is no less than lo -/
def dIf (B : eB) (a : eV) (v : Int) (c : eV) (lo : Int) : Bool := decide (v < eLo B a) || (decide (eHi B a < v) || (decide (lo ≤ eLo B c) || (match a.2.1, c.2.1 with
  | t + 1, u + 1 => B.2.any (fun f => Nat.beq f.1 0 && (Nat.beq f.2.1 (nB t) && (decide (f.2.2.1 = v - nO t) && (Nat.beq f.2.2.2.1 (nB u) && decide (lo - nO u ≤ f.2.2.2.2)))))
  | _, _ => false)))
/-- if a is v then c is no more than hi -/
def dIu (B : eB) (a : eV) (v : Int) (c : eV) (hi : Int) : Bool := decide (v < eLo B a) || (decide (eHi B a < v) || (decide (eHi B c ≤ hi) || (match a.2.1, c.2.1 with
  | t + 1, u + 1 => B.2.any (fun f => Nat.beq f.1 2 && (Nat.beq f.2.1 (nB t) && (decide (f.2.2.1 = v - nO t) && (Nat.beq f.2.2.2.1 (nB u) && decide (f.2.2.2.2 ≤ hi - nO u)))))
  | _, _ => false)))
def iscV (B : eB) (a : eV) (z : Int) : Bool := decide (eLo B a = z) && decide (eHi B a = z)
theorem iscV_ok {ρ : Nat → Int} {B : eB} (hB : gB ρ B) {a : eV} {x z : Int} (ha : gN ρ a x) (h : iscV B a z = true) : x = z := by
  unfold iscV at h
  simp only [Bool.and_eq_true, decide_eq_true_eq] at h
  have a1 := eLo_ok hB ha
  have a2 := eHi_ok hB ha
  omega
def inbV (B : eB) (a : eV) (lo hi : Int) : Bool := decide (lo ≤ eLo B a) && decide (eHi B a ≤ hi)
theorem inbV_ok {ρ : Nat → Int} {B : eB} (hB : gB ρ B) {a : eV} {x lo hi : Int} (ha : gN ρ a x) (h : inbV B a lo hi = true) : lo ≤ x ∧ x ≤ hi := by
  unfold inbV at h
  simp only [Bool.and_eq_true, decide_eq_true_eq] at h
  have a1 := eLo_ok hB ha
  have a2 := eHi_ok hB ha
  exact ⟨by omega, by omega⟩
/-- what the other state's number b is here -/
def valB (B : eB) (l : eL) (hp : eH) (th : List (Option eP)) (b : eV) : Option eV := match b.2.1 with
  | 0 => bif decide (b.2.2.1 = b.2.2.2) then some (eI b.2.2.1) else none
  | t + 1 => (match vN B l hp th (nB t) with
    | some a => some (0, tSh a.2.1 (nO t), eLo B a + nO t, eHi B a + nO t)
    | none => none)
def inb2 (B : eB) (a : eV) (lo hi : Int) : Bool := inbV B a lo hi || (decide (lo ≤ eLo B a) && hi31 B a hi)
theorem inb2_ok {ρ : Nat → Int} {B : eB} (hB : gB ρ B) {a : eV} {x lo hi : Int} (ha : gN ρ a x) (h : inb2 B a lo hi = true) : lo ≤ x ∧ x ≤ hi := by
  unfold inb2 at h
  rw [Bool.or_eq_true, Bool.and_eq_true, decide_eq_true_eq] at h
  rcases h with h | ⟨h1, h2⟩
  · exact inbV_ok hB ha h
  · have a1 := eLo_ok hB ha
    exact ⟨by omega, hi31_ok hB ha h2⟩
def valI (B : eB) (l : eL) (hp : eH) (th : List (Option eP)) (b : eV) : Option eV := match valB B l hp th b with
  | some a => bif inb2 B a b.2.2.1 b.2.2.2 then some a else none
  | none => none
/-- the row that is opened is as it must be -/
def cl10 (B : eB) (r : List (Nat × eV)) (b : Nat) : Bool := (match eFind r (32 + b) with
  | some a => inbV B a 0 9
  | none => true) && (match eFind r (2 + b), eFind r (12 + b) with
  | none, none => true
  | some a, some c => inbV B a 0 4 && (inbV B c (-1) 9 && dIf B a 3 c 0)
  | _, _ => false)
def clsok (B : eB) (r : List (Nat × eV)) : Bool := (match eFind r 0 with
  | some a => inbV B a 0 999
  | none => true) && (cl10 B r 0 && (cl10 B r 1 && (cl10 B r 2 && (cl10 B r 3 && (cl10 B r 4 && (cl10 B r 5 && (cl10 B r 6 && (cl10 B r 7 && (cl10 B r 8 && cl10 B r 9)))))))))
/-- rows that are all moved -/
def nr5 (B : eB) (n : Nat) (P : List (Nat × eV)) : List (Nat × eV) := match P with
  | [p] => bif Nat.beq p.1 2000 && iscV B p.2 (n : Int) then [] else [p]
  | P => P
def m5 (B : eB) (l : eL) (hp : eH) (th : List (Option eP)) (n : Nat) (P Q : List (Nat × eV)) : Bool := mPr B l hp th P Q || (match P, Q with
  | p :: r, [] => Nat.beq p.1 1000 && clsok B r
  | [], [q] => (match valI B l hp th q.2 with
    | some a => (bif Nat.beq q.1 1000 then decide (eLo B a = eHi B a) && (decide (0 ≤ eLo B a) && (Nat.beq ((eLo B a).toNat % 66) 0 && Nat.ble ((eLo B a).toNat + 66) n)) else (Nat.beq q.1 2000 && (iscV B a 66 && Nat.ble 66 n)))
    | none => false)
  | _, _ => false)
def eqN : List Nat → List Nat → Bool
  | [], [] => true
  | a :: as, b :: bs => Nat.beq a b && eqN as bs
  | _, _ => false
theorem eqN_eq : ∀ {as bs : List Nat}, eqN as bs = true → as = bs
  | [], [], _ => rfl
  | a :: as, b :: bs, h => by
    unfold eqN at h
    rw [Bool.and_eq_true] at h
    rw [Nat.eq_of_beq_eq_true h.1, eqN_eq h.2]
  | [], _ :: _, h => by cases h
  | _ :: _, [], h => by cases h
def kys (P : List (Nat × eV)) (ks : List Nat) : Bool := eqN (P.map Prod.fst) ks
/-- signs: told 6 alike; told 13, the depth, what is left, where the token begins -/
def m6 (B : eB) (l : eL) (hp : eH) (th : List (Option eP)) (ak : Nat) (P : List (Nat × eV)) (q1 q2 q3 q4 : eV) : Bool := match valI B l hp th q1, valI B l hp th q2, valI B l hp th q3, valI B l hp th q4 with
  | some v1, some v2, some v3, some v4 => (bif Nat.beq ak 7 then kys P [0] && (iscV B v1 0 && (iscV B v2 0 && decide (eHi B v3 ≤ eLo B v4))) else (Nat.beq ak 6 && (kys P [0, 1, 2, 3, 4] && (match P with
    | [_, p1, p2, p3, p4] => isOff B p1.2 v1 0 && (isOff B p2.2 v2 0 && (match offV B v3 p3.2 with
      | some o => dLe B p4.2 v4 o
      | none => false))
    | _ => false))))
  | _, _, _, _ => false
def hdP (P : List (Nat × eV)) : List (Nat × eV) := match P with
  | p :: _ => [p]
  | [] => []
def m6q (B : eB) (l : eL) (hp : eH) (th : List (Option eP)) (ak : Nat) (P Q : List (Nat × eV)) : Bool := match Q with
  | [_, q1, q2, q3, q4] => m6 B l hp th ak P q1.2 q2.2 q3.2 q4.2
  | _ => false
def m7q (B : eB) (l : eL) (hp : eH) (th : List (Option eP)) (Q : List (Nat × eV)) : Bool := match Q with
  | [_, q1, q2] => (match valI B l hp th q1.2, valI B l hp th q2.2 with
    | some v1, some v2 => iscV B v1 0 && iscV B v2 0
    | _, _ => false)
  | _ => false
def m8q (B : eB) (l : eL) (hp : eH) (th : List (Option eP)) (ak n : Nat) (P Q : List (Nat × eV)) : Bool := match Q with
  | [] => Nat.beq n 700 && (Nat.beq ak 8 || Nat.beq ak 0)
  | _ => Nat.beq ak 8 && mPr B l hp th P Q
/-- the one code's text begins the other one's -/
def pfD (B : eB) (a v : eV) : Bool := B.2.any (fun f => Nat.beq f.1 208 && ((match argV B f.2.1 with
  | some d => isOff B d a 0
  | none => false) && (match argV B f.2.2.2.2.toNat with
  | some d => isOff B d v 0
  | none => false)))
/-- a tape told by a code: the code is nothing, or the same by what functions say -/
def m9q (B : eB) (l : eL) (hp : eH) (th : List (Option eP)) (bk : Nat) (P Q : List (Nat × eV)) : Bool := match P, Q with
  | [p], [q] => (Nat.beq bk 9 || Nat.beq bk 10) && (Nat.beq p.1 0 && (Nat.beq q.1 0 && (match valI B l hp th q.2 with
    | some v => iscV B v 0 || (eqD B 6 p.2 v || pfD B p.2 v)
    | none => false)))
  | _, _ => false
def mSp (B : eB) (l : eL) (hp : eH) (th : List (Option eP)) (ak n : Nat) (P : List (Nat × eV)) (bk : Nat) (Q : List (Nat × eV)) : Bool := match bk with
  | 4 => Nat.beq ak 4 && mPr B l hp th P Q
  | 5 => Nat.beq ak 5 && m5 B l hp th n (nr5 B n P) Q
  | 6 => kys Q [0, 1, 2, 3, 4] && (mPr B l hp th (hdP P) (hdP Q) && m6q B l hp th ak P Q)
  | 7 => mPr B l hp th (hdP P) (hdP Q) && (bif kys Q [0] then (bif Nat.beq ak 6 then kys P [0, 1, 2, 3, 4] else (Nat.beq ak 7 && (kys P [0] || kys P [0, 1, 2]))) else (kys Q [0, 1, 2] && (Nat.beq ak 7 && (mPr B l hp th P Q || (kys P [0] && m7q B l hp th Q)))))
  | 8 => m8q B l hp th ak n P Q
  | t => Nat.beq ak t && (mPr B l hp th P Q || m9q B l hp th bk P Q)
section E12S
variable {ρ ρ' : Nat → Int} {ad adI ad' : Nat → Nat} {sb sb' : eSB} {cA : Nat → ClassId}
variable {B : eB} {l : eL} {hp : eH} {lc : List (Nat × Value)} {ws : va_W} {th : List (Option eP)}
theorem mPr_ok (hB : gB ρ B) (h1 : gL ρ ad sb l lc) (h2 : gHx ρ ad adI sb cA hp ws) (hR : Ren ρ ρ' lc ws th) : ∀ {as bs : List (Nat × eV)} {zs : List Int}, mPr B l hp th as bs = true → gNs ρ as zs → gNs ρ' bs zs
  | [], [], [], _, _ => trivial
  | a :: as, b :: bs, z :: zs, h, g => by
    unfold mPr at h
    simp only [Bool.and_eq_true, decide_eq_true_eq] at h
    have a1 := eLo_ok hB g.1
    have a2 := eHi_ok hB g.1
    obtain ⟨⟨-, e1, e2, e3⟩, e4⟩ := h
    exact ⟨⟨mN_ok hB h1 h2 hR (fun p hp9 => by cases hp9) e3 g.1, by omega, by omega⟩, mPr_ok hB h1 h2 hR e4 g.2⟩
  | [], [], _ :: _, _, g => g.elim
  | _ :: _, _ :: _, [], _, g => g.elim
  | [], _ :: _, _, h, _ => by cases h
  | _ :: _, [], _, h, _ => by cases h
theorem mPr_key : ∀ {as bs : List (Nat × eV)}, mPr B l hp th as bs = true → as.map Prod.fst = bs.map Prod.fst
  | [], [], _ => rfl
  | a :: as, b :: bs, h => by
    unfold mPr at h
    rw [Bool.and_eq_true, Bool.and_eq_true] at h
    rw [List.map_cons, List.map_cons, mPr_key h.2, Nat.eq_of_beq_eq_true h.1.1]
  | [], _ :: _, h => by cases h
  | _ :: _, [], h => by cases h
theorem dLe1_ok {F : List eF} {i j : Nat} {v : Int} (hF : ∀ f ∈ F, gF ρ f) (h : dLe1 F i j v = true) : ρ i + v ≤ ρ j := by
  obtain ⟨f, k1, k2⟩ := List.any_eq_true.mp h
  simp only [Bool.and_eq_true, decide_eq_true_eq] at k2
  obtain ⟨c0, c1, c2, c3⟩ := k2
  have hf := hF f k1
  obtain ⟨f0, f1, f2, f3, f4⟩ := f
  replace c0 := Nat.eq_of_beq_eq_true c0
  replace c1 := Nat.eq_of_beq_eq_true c1
  replace c2 := Nat.eq_of_beq_eq_true c2
  dsimp only at c0 c1 c2 c3
  subst c0
  subst c1
  subst c2
  have hf : ρ f1 + f2 ≤ ρ f3 := hf
  omega
theorem dLe_ok (hB : gB ρ B) {a c : eV} {v x y : Int} (ha : gN ρ a x) (hc : gN ρ c y) (h : dLe B a c v = true) : x + v ≤ y := by
  unfold dLe at h
  rw [Bool.or_eq_true] at h
  rcases h with h | h
  · rw [decide_eq_true_eq] at h
    have a2 := eHi_ok hB ha
    have c1 := eLo_ok hB hc
    omega
  · split at h
    next t u ht hu =>
      have e1 := ha.1 t ht
      have e2 := hc.1 u hu
      cases hb : Nat.beq (nB t) (nB u) with
      | true =>
        rw [hb, cond_true, decide_eq_true_eq] at h
        rw [Nat.eq_of_beq_eq_true hb] at e1
        omega
      | false =>
        rw [hb, cond_false] at h
        have := dLe1_ok hB.2 h
        omega
    next => cases h
theorem dIf_ok (hB : gB ρ B) {a c : eV} {v lo x y : Int} (ha : gN ρ a x) (hc : gN ρ c y) (h : dIf B a v c lo = true) : x = v → lo ≤ y := by
  intro hv
  have a1 := eLo_ok hB ha
  have a2 := eHi_ok hB ha
  have c1 := eLo_ok hB hc
  unfold dIf at h
  rw [Bool.or_eq_true, Bool.or_eq_true, Bool.or_eq_true, decide_eq_true_eq, decide_eq_true_eq, decide_eq_true_eq] at h
  rcases h with h | h | h | h
  · omega
  · omega
  · omega
  · split at h
    next t u ht hu =>
      have e1 := ha.1 t ht
      have e2 := hc.1 u hu
      obtain ⟨f, k1, k2⟩ := List.any_eq_true.mp h
      simp only [Bool.and_eq_true, decide_eq_true_eq] at k2
      obtain ⟨g0, g1, g2, g3, g4⟩ := k2
      have hf := hB.2 f k1
      obtain ⟨f0, f1, f2, f3, f4⟩ := f
      replace g0 := Nat.eq_of_beq_eq_true g0
      replace g1 := Nat.eq_of_beq_eq_true g1
      replace g3 := Nat.eq_of_beq_eq_true g3
      dsimp only at g0 g1 g2 g3 g4
      subst g0
      subst g1
      subst g3
      have hf : ρ (nB t) = f2 → f4 ≤ ρ (nB u) := hf
      have := hf (by omega)
      omega
    next => cases h
theorem dIu_ok (hB : gB ρ B) {a c : eV} {v hi x y : Int} (ha : gN ρ a x) (hc : gN ρ c y) (h : dIu B a v c hi = true) : x = v → y ≤ hi := by
  intro hv
  have a1 := eLo_ok hB ha
  have a2 := eHi_ok hB ha
  have c1 := eHi_ok hB hc
  unfold dIu at h
  rw [Bool.or_eq_true, Bool.or_eq_true, Bool.or_eq_true, decide_eq_true_eq, decide_eq_true_eq, decide_eq_true_eq] at h
  rcases h with h | h | h | h
  · omega
  · omega
  · omega
  · split at h
    next t u ht hu =>
      have e1 := ha.1 t ht
      have e2 := hc.1 u hu
      obtain ⟨f, k1, k2⟩ := List.any_eq_true.mp h
      simp only [Bool.and_eq_true, decide_eq_true_eq] at k2
      obtain ⟨g0, g1, g2, g3, g4⟩ := k2
      have hf := hB.2 f k1
      obtain ⟨f0, f1, f2, f3, f4⟩ := f
      replace g0 := Nat.eq_of_beq_eq_true g0
      replace g1 := Nat.eq_of_beq_eq_true g1
      replace g3 := Nat.eq_of_beq_eq_true g3
      dsimp only at g0 g1 g2 g3 g4
      subst g0
      subst g1
      subst g3
      have hf : ρ (nB t) = f2 → ρ (nB u) ≤ f4 := hf
      have := hf (by omega)
      omega
    next => cases h
theorem valI_ok (hB : gB ρ B) (h1 : gL ρ ad sb l lc) (h2 : gHx ρ ad adI sb cA hp ws) (hR : Ren ρ ρ' lc ws th) {b a : eV} (h : valI B l hp th b = some a) : ∃ z, gN ρ a z ∧ gN ρ' b z := by
  unfold valI at h
  split at h
  next a9 ha =>
    cases hi : inb2 B a9 b.2.2.1 b.2.2.2 with
    | false => rw [hi] at h; cases h
    | true =>
      rw [hi, cond_true] at h
      cases h
      unfold valB at ha
      split at ha
      next ht =>
        cases hc : decide (b.2.2.1 = b.2.2.2) with
        | false => rw [hc] at ha; cases ha
        | true =>
          rw [hc, cond_true] at ha
          cases ha
          rw [decide_eq_true_eq] at hc
          exact ⟨_, gN_I _, fun t h9 => (by rw [ht] at h9; cases h9), by omega, by omega⟩
      next t ht =>
        split at ha
        next c hc =>
          cases ha
          have gc := vN_ok hB h1 h2 hR hc
          have a1 := eLo_ok hB gc
          have a2 := eHi_ok hB gc
          have g9 : gN ρ (0, tSh c.2.1 (nO t), eLo B c + nO t, eHi B c + nO t) (ρ' (nB t) + nO t) := ⟨tSh_ok gc.1, by dsimp only; omega, by dsimp only; omega⟩
          have hb := inb2_ok hB g9 hi
          refine ⟨_, g9, fun u hu => ?_, hb.1, hb.2⟩
          rw [ht] at hu
          cases hu
          rfl
        next => cases ha
  next => cases h
/-- what is told of a place -/
theorem fZ : ∀ {r : List (Nat × eV)} {zs : List Int} {o : Nat}, gNs ρ r zs → (eFind r o = none ∧ pZ (r.map Prod.fst) zs o = none) ∨ ∃ a z, eFind r o = some a ∧ pZ (r.map Prod.fst) zs o = some z ∧ gN ρ a z
  | [], [], o, _ => Or.inl ⟨rfl, rfl⟩
  | p :: r, z :: zs, o, g => by
    show ((bif Nat.beq p.1 o then some p.2 else eFind r o) = none ∧ (bif Nat.beq p.1 o then some z else pZ (r.map Prod.fst) zs o) = none) ∨ ∃ a z9, (bif Nat.beq p.1 o then some p.2 else eFind r o) = some a ∧ (bif Nat.beq p.1 o then some z else pZ (r.map Prod.fst) zs o) = some z9 ∧ gN ρ a z9
    cases Nat.beq p.1 o with
    | true => exact Or.inr ⟨p.2, z, rfl, rfl, g.1⟩
    | false => exact fZ g.2
  | [], _ :: _, _, g => g.elim
  | _ :: _, [], _, g => g.elim
theorem cl10_ok (hB : gB ρ B) {r : List (Nat × eV)} {zs : List Int} (g : gNs ρ r zs) {b : Nat} (h : cl10 B r b = true) : (∀ z, pZ (r.map Prod.fst) zs (32 + b) = some z → 0 ≤ z ∧ z ≤ 9) ∧ ((pZ (r.map Prod.fst) zs (2 + b) = none ∧ pZ (r.map Prod.fst) zs (12 + b) = none) ∨ ∃ x y, pZ (r.map Prod.fst) zs (2 + b) = some x ∧ pZ (r.map Prod.fst) zs (12 + b) = some y ∧ (0 ≤ x ∧ x ≤ 4) ∧ (-1 ≤ y ∧ y ≤ 9) ∧ (x = 3 → 0 ≤ y)) := by
  unfold cl10 at h
  rw [Bool.and_eq_true] at h
  obtain ⟨h1, h2⟩ := h
  refine ⟨fun z hz => ?_, ?_⟩
  · rcases fZ (o := 32 + b) g with ⟨-, e2⟩ | ⟨a, z9, e1, e2, e3⟩
    · rw [e2] at hz; cases hz
    · rw [e1] at h1
      rw [e2] at hz
      cases hz
      exact inbV_ok hB e3 h1
  · rcases fZ (o := 2 + b) g with ⟨e1, e2⟩ | ⟨a, z9, e1, e2, e3⟩
    · rcases fZ (o := 12 + b) g with ⟨f1, f2⟩ | ⟨a', z', f1, f2, f3⟩
      · exact Or.inl ⟨e2, f2⟩
      · rw [e1, f1] at h2; cases h2
    · rcases fZ (o := 12 + b) g with ⟨f1, f2⟩ | ⟨a', z', f1, f2, f3⟩
      · rw [e1, f1] at h2; cases h2
      · rw [e1, f1] at h2
        dsimp only at h2
        rw [Bool.and_eq_true, Bool.and_eq_true] at h2
        exact Or.inr ⟨z9, z', e2, f2, inbV_ok hB e3 h2.1, inbV_ok hB f3 h2.2.1, dIf_ok hB e3 f3 h2.2.2⟩
theorem clsok_ok (hB : gB ρ B) {n : Nat} {f : Nat → Int32} {fr : Int} {r : List (Nat × eV)} {zs : List Int} (g : gNs ρ r zs) (h : clsok B r = true) (hp : PRD 1 n f (1000 :: r.map Prod.fst) (fr :: zs)) : PRD 1 n f [] [] := by
  unfold clsok at h
  simp only [Bool.and_eq_true] at h
  obtain ⟨h0, c0, c1, c2, c3, c4, c5, c6, c7, c8, c9⟩ := h
  refine op_close hp (fun z hz => ?_) (fun b hb => ?_)
  · rcases fZ (o := 0) g with ⟨-, e2⟩ | ⟨a, z9, e1, e2, e3⟩
    · rw [e2] at hz; cases hz
    · rw [e1] at h0
      rw [e2] at hz
      cases hz
      exact inbV_ok hB e3 h0
  · match b, hb with
    | 0, _ => exact cl10_ok hB g c0
    | 1, _ => exact cl10_ok hB g c1
    | 2, _ => exact cl10_ok hB g c2
    | 3, _ => exact cl10_ok hB g c3
    | 4, _ => exact cl10_ok hB g c4
    | 5, _ => exact cl10_ok hB g c5
    | 6, _ => exact cl10_ok hB g c6
    | 7, _ => exact cl10_ok hB g c7
    | 8, _ => exact cl10_ok hB g c8
    | 9, _ => exact cl10_ok hB g c9
    | b + 10, hb => omega
theorem nr5_ok (hB : gB ρ B) {n : Nat} {f : Nat → Int32} {P : List (Nat × eV)} {zs : List Int} (g : gNs ρ P zs) (hp : PRD 1 n f (P.map Prod.fst) zs) : ∃ zs', gNs ρ (nr5 B n P) zs' ∧ PRD 1 n f ((nr5 B n P).map Prod.fst) zs' := by
  unfold nr5
  split
  next p =>
    cases hb : (Nat.beq p.1 2000 && iscV B p.2 (n : Int)) with
    | false => exact ⟨zs, g, hp⟩
    | true =>
      rw [Bool.and_eq_true] at hb
      match zs, g, hp with
      | [z], g, hp =>
        obtain ⟨p0, p1⟩ := p
        have e0 := Nat.eq_of_beq_eq_true hb.1
        dsimp only at e0
        subst e0
        exact ⟨[], trivial, mv_end hp (iscV_ok hB g.1 hb.2)⟩
      | [], g, _ => exact g.elim
      | _ :: _ :: _, g, _ => exact g.2.elim
  next => exact ⟨zs, g, hp⟩
theorem m5_ok (hB : gB ρ B) (h1 : gL ρ ad sb l lc) (h2 : gHx ρ ad adI sb cA hp ws) (hR : Ren ρ ρ' lc ws th) {n : Nat} {f : Nat → Int32} {P Q : List (Nat × eV)} {zs : List Int} (g : gNs ρ P zs) (hp9 : PRD 1 n f (P.map Prod.fst) zs) (h : m5 B l hp th n P Q = true) : ∃ zs', gNs ρ' Q zs' ∧ PRD 1 n f (Q.map Prod.fst) zs' := by
  unfold m5 at h
  rw [Bool.or_eq_true] at h
  rcases h with h | h
  · exact ⟨zs, mPr_ok hB h1 h2 hR h g, by rw [← mPr_key h]; exact hp9⟩
  · split at h
    next p r =>
      rw [Bool.and_eq_true] at h
      obtain ⟨p0, p1⟩ := p
      have e0 := Nat.eq_of_beq_eq_true h.1
      dsimp only at e0
      subst e0
      match zs, g, hp9 with
      | z :: zs, g, hp9 => exact ⟨[], trivial, clsok_ok hB g.2 h.2 hp9⟩
      | [], g, _ => exact g.elim
    next q =>
      match zs, g with
      | [], _ =>
        split at h
        next a ha =>
          obtain ⟨z, z1, z2⟩ := valI_ok hB h1 h2 hR ha
          obtain ⟨q0, q1⟩ := q
          dsimp only at h z2
          cases hb : Nat.beq q0 1000 with
          | true =>
            rw [hb, cond_true] at h
            simp only [Bool.and_eq_true, decide_eq_true_eq] at h
            obtain ⟨k1, k2, k3, k4⟩ := h
            have k3 := Nat.eq_of_beq_eq_true k3
            have k4 := Nat.le_of_ble_eq_true k4
            have a1 := eLo_ok hB z1
            have a2 := eHi_ok hB z1
            have e0 := Nat.eq_of_beq_eq_true hb
            subst e0
            have ez : z = eLo B a := by omega
            subst ez
            exact ⟨[eLo B a], ⟨z2, trivial⟩, op_begin hp9 k2 k3 k4⟩
          | false =>
            rw [hb, cond_false] at h
            simp only [Bool.and_eq_true] at h
            have e0 := Nat.eq_of_beq_eq_true h.1
            subst e0
            have ez := iscV_ok hB z1 h.2.1
            subst ez
            exact ⟨[66], ⟨z2, trivial⟩, mv_begin hp9 (Nat.le_of_ble_eq_true h.2.2)⟩
        next => cases h
      | _ :: _, g => exact g.elim
    next => cases h
theorem kys_eq {P : List (Nat × eV)} {ks : List Nat} (h : kys P ks = true) : P.map Prod.fst = ks := eqN_eq h
theorem m6_ok (hB : gB ρ B) (h1 : gL ρ ad sb l lc) (h2 : gHx ρ ad adI sb cA hp ws) (hR : Ren ρ ρ' lc ws th) {ak n : Nat} {f : Nat → Int32} {P : List (Nat × eV)} {q0 q1 q2 q3 q4 : eV} {zs : List Int} (g : gNs ρ P zs) (hp9 : ∀ t, ak = t + 4 → PRD t n f (P.map Prod.fst) zs) (h0 : mPr B l hp th (hdP P) [(0, q0)] = true) (h : m6 B l hp th ak P q1 q2 q3 q4 = true) : ∃ z0 z1 z2 z3 z4, gN ρ' q0 z0 ∧ gN ρ' q1 z1 ∧ gN ρ' q2 z2 ∧ gN ρ' q3 z3 ∧ gN ρ' q4 z4 ∧ PRD 2 n f [0, 1, 2, 3, 4] [z0, z1, z2, z3, z4] := by
  unfold m6 at h
  split at h
  next v1 v2 v3 v4 e1 e2 e3 e4 =>
    obtain ⟨z1, a1, b1⟩ := valI_ok hB h1 h2 hR e1
    obtain ⟨z2, a2, b2⟩ := valI_ok hB h1 h2 hR e2
    obtain ⟨z3, a3, b3⟩ := valI_ok hB h1 h2 hR e3
    obtain ⟨z4, a4, b4⟩ := valI_ok hB h1 h2 hR e4
    have hz0 : ∀ z rest, zs = z :: rest → gN ρ' q0 z := fun z rest e => by
      subst e
      match P, g, h0 with
      | p :: r, g, h0 => exact (mPr_ok hB h1 h2 hR (as := [p]) (zs := [z]) h0 ⟨g.1, trivial⟩).1
      | [], g, _ => exact g.elim
    cases hb : Nat.beq ak 7 with
    | true =>
      rw [hb, cond_true] at h
      simp only [Bool.and_eq_true, decide_eq_true_eq] at h
      obtain ⟨k0, k1, k2, k3⟩ := h
      have hp8 := hp9 3 (Nat.eq_of_beq_eq_true hb)
      rw [kys_eq k0] at hp8
      have m1 := iscV_ok hB a1 k1
      have m2 := iscV_ok hB a2 k2
      have m3 := eHi_ok hB a3
      have m4 := eLo_ok hB a4
      match zs, hp8 with
      | [z0], hp8 =>
        refine ⟨z0, z1, z2, z3, z4, hz0 _ _ rfl, b1, b2, b3, b4, ?_⟩
        rw [m1, m2]
        exact sg_7to6 hp8 (by omega)
      | [], hp8 => exact hp8.elim
      | [_, _], hp8 => exact hp8.elim
      | [_, _, _], hp8 => exact hp8.elim
      | _ :: _ :: _ :: _ :: _, hp8 => exact hp8.elim
    | false =>
      rw [hb, cond_false] at h
      simp only [Bool.and_eq_true] at h
      obtain ⟨k0, k1, h⟩ := h
      have hp8 := hp9 2 (Nat.eq_of_beq_eq_true k0)
      rw [kys_eq k1] at hp8
      split at h
      next p0 p1 p2 p3 p4 =>
        match zs, g, hp8 with
        | [z0, y1, y2, y3, y4], g, hp8 =>
          obtain ⟨-, g1, g2, g3, g4, -⟩ := g
          simp only [Bool.and_eq_true] at h
          obtain ⟨c1, c2, h⟩ := h
          split at h
          next o ho =>
            have d1 := isOff_ok hB g1 a1 c1
            have d2 := isOff_ok hB g2 a2 c2
            have d3 := offV_ok hB a3 g3 ho
            have d4 := dLe_ok hB g4 a4 h
            refine ⟨z0, z1, z2, z3, z4, hz0 _ _ rfl, b1, b2, b3, b4, ?_⟩
            have ey1 : z1 = y1 := by omega
            have ey2 : z2 = y2 := by omega
            rw [ey1, ey2]
            exact sg_left hp8 (by omega)
          next => cases h
        | [], g, _ => exact g.elim
        | [_], g, _ => exact g.2.elim
        | [_, _], g, _ => exact g.2.2.elim
        | [_, _, _], g, _ => exact g.2.2.2.elim
        | [_, _, _, _], g, _ => exact g.2.2.2.2.elim
        | _ :: _ :: _ :: _ :: _ :: _ :: _, g, _ => exact g.2.2.2.2.2.elim
      next => cases h
  next => cases h
theorem m6c_ok (hB : gB ρ B) (h1 : gL ρ ad sb l lc) (h2 : gHx ρ ad adI sb cA hp ws) (hR : Ren ρ ρ' lc ws th) {ak n : Nat} {da db : eV} {P Q : List (Nat × eV)} {x : va_E} (h3 : kys Q [0, 1, 2, 3, 4] = true) (h4 : mPr B l hp th (hdP P) (hdP Q) = true) (h5 : m6q B l hp th ak P Q = true) (g : gC ρ ad sb cA (.inr (ak, n, da, P)) x) : gC ρ' ad' sb' cA (.inr (6, n, db, Q)) x := by
  unfold m6q at h5
  split at h5
  next q0 q1 q2 q3 q4 =>
    have hq := kys_eq h3
    obtain ⟨qa, q0⟩ := q0
    have ea : qa = 0 := (List.cons.inj hq).1
    subst ea
    have hak : ∃ t9, ak = t9 + 4 ∧ aK t9 = 0 := by
      unfold m6 at h5
      split at h5
      next =>
        cases hb : Nat.beq ak 7 with
        | true => exact ⟨3, Nat.eq_of_beq_eq_true hb, rfl⟩
        | false =>
          rw [hb, cond_false, Bool.and_eq_true] at h5
          exact ⟨2, Nat.eq_of_beq_eq_true h5.1, rfl⟩
      next => cases h5
    obtain ⟨t9, e9, e8⟩ := hak
    subst e9
    obtain ⟨f, zs, k1, k2, k3⟩ := g
    have k3 : PRD t9 n f (P.map Prod.fst) zs := k3
    rw [e8] at k1
    obtain ⟨z0, z1, z2, z3, z4, c0, c1, c2, c3, c4, c5⟩ := m6_ok (n := n) (f := f) (P := P) (q0 := q0) hB h1 h2 hR k2 (fun t e => by
      have : t9 = t := by omega
      subst this
      exact k3) h4 h5
    refine ⟨f, [z0, z1, z2, z3, z4], k1, ⟨c0, c1, c2, c3, c4, trivial⟩, ?_⟩
    show PRD 2 n f (List.map Prod.fst [(0, q0), q1, q2, q3, q4]) [z0, z1, z2, z3, z4]
    rw [hq]
    exact c5
  next => cases h5
theorem m7a_ok (hB : gB ρ B) (h1 : gL ρ ad sb l lc) (h2 : gHx ρ ad adI sb cA hp ws) (hR : Ren ρ ρ' lc ws th) {ak n : Nat} {da db : eV} {P Q : List (Nat × eV)} {x : va_E} (hq : Q.map Prod.fst = [0]) (h0 : mPr B l hp th (hdP P) (hdP Q) = true) (h : (bif Nat.beq ak 6 then kys P [0, 1, 2, 3, 4] else (Nat.beq ak 7 && (kys P [0] || kys P [0, 1, 2]))) = true) (g : gC ρ ad sb cA (.inr (ak, n, da, P)) x) : gC ρ' ad' sb' cA (.inr (7, n, db, Q)) x := by
  have hs : ∃ (f : Nat → Int32) (z0 : Int) (rest : List Int), x = .inl (cA 0, n, .inl f) ∧ gNs ρ P (z0 :: rest) ∧ PRD 3 n f [0] [z0] := by
    cases hb : Nat.beq ak 6 with
    | true =>
      rw [hb, cond_true] at h
      have e := Nat.eq_of_beq_eq_true hb
      subst e
      obtain ⟨f, zs, k1, k2, k3⟩ := g
      have k3 : PRD 2 n f (P.map Prod.fst) zs := k3
      rw [kys_eq h] at k3
      match zs, k2, k3 with
      | [z0, z1, z2, z3, z4], k2, k3 => exact ⟨f, z0, _, k1, k2, sg_6to7 k3⟩
      | [], _, k3 => exact k3.elim
      | [_], _, k3 => exact k3.elim
      | [_, _], _, k3 => exact k3.elim
      | [_, _, _], _, k3 => exact k3.elim
      | [_, _, _, _], _, k3 => exact k3.elim
      | _ :: _ :: _ :: _ :: _ :: _ :: _, _, k3 => exact k3.elim
    | false =>
      rw [hb, cond_false, Bool.and_eq_true, Bool.or_eq_true] at h
      have e := Nat.eq_of_beq_eq_true h.1
      subst e
      obtain ⟨f, zs, k1, k2, k3⟩ := g
      have k3 : PRD 3 n f (P.map Prod.fst) zs := k3
      rcases h.2 with q | q
      · rw [kys_eq q] at k3
        match zs, k2, k3 with
        | [z0], k2, k3 => exact ⟨f, z0, _, k1, k2, k3⟩
        | [], _, k3 => exact k3.elim
        | [_, _], _, k3 => exact k3.elim
        | _ :: _ :: _ :: _, _, k3 => exact k3.elim
      · rw [kys_eq q] at k3
        match zs, k2, k3 with
        | [z0, z1, z2], k2, k3 => exact ⟨f, z0, _, k1, k2, sg_nocur k3⟩
        | [], _, k3 => exact k3.elim
        | [_], _, k3 => exact k3.elim
        | [_, _], _, k3 => exact k3.elim
        | _ :: _ :: _ :: _ :: _, _, k3 => exact k3.elim
  obtain ⟨f, z0, rest, k1, k2, hz⟩ := hs
  cases Q with
  | nil => cases hq
  | cons q Q =>
    cases Q with
    | cons _ _ =>
      have h9 := congrArg List.length hq
      simp at h9
    | nil =>
      cases P with
      | nil => exact k2.elim
      | cons p r =>
        refine ⟨f, [z0], k1, ⟨(mPr_ok hB h1 h2 hR (as := [p]) (bs := [q]) (zs := [z0]) h0 ⟨k2.1, trivial⟩).1, trivial⟩, ?_⟩
        show PRD 3 n f (List.map Prod.fst [q]) [z0]
        rw [hq]
        exact hz
theorem m7b_ok (hB : gB ρ B) (h1 : gL ρ ad sb l lc) (h2 : gHx ρ ad adI sb cA hp ws) (hR : Ren ρ ρ' lc ws th) {n : Nat} {da db : eV} {P Q : List (Nat × eV)} {x : va_E} (hq : Q.map Prod.fst = [0, 1, 2]) (h0 : mPr B l hp th (hdP P) (hdP Q) = true) (hP : P.map Prod.fst = [0]) (h6 : m7q B l hp th Q = true) (g : gC ρ ad sb cA (.inr (7, n, da, P)) x) : gC ρ' ad' sb' cA (.inr (7, n, db, Q)) x := by
  obtain ⟨f, zs, k1, k2, k30⟩ := g
  have k3 : PRD 3 n f [0] zs := by
    rw [← hP]
    exact k30
  clear k30
  unfold m7q at h6
  split at h6
  next q0 q1 q2 =>
    split at h6
    next v1 v2 e1 e2 =>
      rw [Bool.and_eq_true] at h6
      obtain ⟨z1, a1, b1⟩ := valI_ok hB h1 h2 hR e1
      obtain ⟨z2, a2, b2⟩ := valI_ok hB h1 h2 hR e2
      have m1 := iscV_ok hB a1 h6.1
      have m2 := iscV_ok hB a2 h6.2
      cases P with
      | nil => cases hP
      | cons p r =>
        match zs, k2, k3 with
        | [z0], k2, k3 =>
          refine ⟨f, [z0, z1, z2], k1, ⟨(mPr_ok hB h1 h2 hR (as := [p]) (bs := [q0]) (zs := [z0]) h0 ⟨k2.1, trivial⟩).1, b1, b2, trivial⟩, ?_⟩
          show PRD 3 n f (List.map Prod.fst [q0, q1, q2]) [z0, z1, z2]
          rw [hq, m1, m2]
          exact sg_cur k3
        | [], _, k3 => exact k3.elim
        | [_, _], _, k3 => exact k3.elim
        | _ :: _ :: _ :: _, _, k3 => exact k3.elim
    next => cases h6
  next => cases h6
theorem PR5_0 {lo hi : Int} {n : Nat} {f : Nat → Int32} {ks : List Nat} {zs : List Int} (h : PR5 lo hi n f ks zs) : ∃ g, ks = [0] ∧ zs = [g] ∧ tpR lo hi n f g := by
  unfold PR5 at h
  split at h
  next g => exact ⟨g, rfl, rfl, h⟩
  next => exact h.elim
theorem tpR_0 {lo hi : Int} {n : Nat} {f : Nat → Int32} {g : Int} (h : tpR lo hi n f g) : tpR lo hi n f 0 := by
  refine ⟨h.1, h.2.1, fun j _ hne => ?_⟩
  exfalso
  apply hne
  show bt (dcN 700 0) j = -1
  have : dcN 700 0 = [] := rfl
  rw [this]
  rfl
theorem m9q_ok (hB : gB ρ B) (h1 : gL ρ ad sb l lc) (h2 : gHx ρ ad adI sb cA hp ws) (hR : Ren ρ ρ' lc ws th) {ak n t : Nat} {da db : eV} {P Q : List (Nat × eV)} {x : va_E} (ha : ak = t + 9) (h : m9q B l hp th (t + 9) P Q = true) (g : gC ρ ad sb cA (.inr (ak, n, da, P)) x) : gC ρ' ad' sb' cA (.inr (t + 9, n, db, Q)) x := by
  subst ha
  unfold m9q at h
  split at h
  next p q =>
    simp only [Bool.and_eq_true, Bool.or_eq_true] at h
    obtain ⟨hk, hp0, hq0, h⟩ := h
    split at h
    next v hv =>
      obtain ⟨z, gv, gq⟩ := valI_ok hB h1 h2 hR hv
      have hp0 := Nat.eq_of_beq_eq_true hp0
      have hq0 := Nat.eq_of_beq_eq_true hq0
      obtain ⟨p0, p1⟩ := p
      obtain ⟨q0, q1⟩ := q
      dsimp only at hp0 hq0 h gq
      subst hp0
      subst hq0
      have go : ∀ (lo hi : Int) (f : Nat → Int32) (zs : List Int), gNs ρ [((0 : Nat), p1)] zs → PR5 lo hi n f [0] zs → PR5 lo hi n f [0] [z] := fun lo hi f zs gz hp => by
        obtain ⟨g9, -, e2, ht⟩ := PR5_0 hp
        subst e2
        show tpR lo hi n f z
        rcases Bool.or_eq_true_iff.mp h with w | w
        · have e := iscV_ok hB gv w
          rw [e]
          exact tpR_0 ht
        · rcases Bool.or_eq_true_iff.mp w with w | w
          · have e := eqD_ok hB w gz.1 gv
            rw [← e]
            exact ht
          · unfold pfD at w
            obtain ⟨f9, m1, w⟩ := List.any_eq_true.mp w
            simp only [Bool.and_eq_true] at w
            obtain ⟨w1, w2, w3⟩ := w
            have hg := hB.2 f9 m1
            obtain ⟨f0, f1, f2, f3, f4⟩ := f9
            replace w1 := Nat.eq_of_beq_eq_true w1
            dsimp only at w1 w2 w3
            subst w1
            have hg : RK 205 (aR ρ f1) (aR ρ f3) (aR ρ f2.toNat) (aR ρ f4.toNat) := hg
            have hg : aR ρ f4.toNat = enc ((dc (aR ρ f1)).take (aR ρ f3).toNat) := (RK_f (by decide)).mp hg
            split at w2
            next d1 hd1 =>
              split at w3
              next d2 hd2 =>
                have e1 := isOff_ok hB (argV_ok hB hd1) gz.1 w2
                have e2 := isOff_ok hB (argV_ok hB hd2) gv w3
                have ez : z = enc ((dc g9).take (aR ρ f3).toNat) := by
                  have e3 : aR ρ f1 = g9 := by omega
                  rw [← e3, ← hg]
                  omega
                refine ⟨ht.1, ht.2.1, fun j hj hne => ?_⟩
                rw [ez, dc_take] at hne ⊢
                have hl : j < ((dc g9).take (aR ρ f3).toNat).length := by
                  by_cases hh : j < ((dc g9).take (aR ρ f3).toNat).length
                  · exact hh
                  · exact absurd (bt_out (Nat.not_lt.mp hh)) hne
                have hl2 : j < (dc g9).length := by
                  rw [List.length_take] at hl
                  omega
                rw [bt_in hl, List.getElem_take, ← bt_in hl2]
                exact ht.2.2 j hj (by have := bt_by hl2; omega)
              next => cases w3
            next => cases w2
      rcases hk with w | w
      · have e : t = 0 := by have := Nat.eq_of_beq_eq_true w; omega
        subst e
        obtain ⟨f, zs, k1, k2, k3⟩ := g
        exact ⟨f, [z], k1, ⟨gq, trivial⟩, go _ _ f zs k2 k3⟩
      · have e : t = 1 := by have := Nat.eq_of_beq_eq_true w; omega
        subst e
        obtain ⟨f, zs, k1, k2, k3⟩ := g
        exact ⟨f, [z], k1, ⟨gq, trivial⟩, go _ _ f zs k2 k3⟩
    next => cases h
  next => cases h
theorem mSp_ok (hB : gB ρ B) (h1 : gL ρ ad sb l lc) (h2 : gHx ρ ad adI sb cA hp ws) (hR : Ren ρ ρ' lc ws th) {ak n t : Nat} {da db : eV} {P Q : List (Nat × eV)} {x : va_E} (h : mSp B l hp th ak n P (t + 4) Q = true) (g : gC ρ ad sb cA (.inr (ak, n, da, P)) x) : gC ρ' ad' sb' cA (.inr (t + 4, n, db, Q)) x := by
  have gen : ak = t + 4 → mPr B l hp th P Q = true → gC ρ' ad' sb' cA (.inr (t + 4, n, db, Q)) x := fun e hm => by
    subst e
    obtain ⟨f, zs, k1, k2, k3⟩ := g
    exact ⟨f, zs, k1, mPr_ok hB h1 h2 hR hm k2, by
      show PRD t n f (Q.map Prod.fst) zs
      rw [← mPr_key hm]
      exact k3⟩
  match t, h, gen with
  | 0, h, gen =>
    have h : (Nat.beq ak 4 && mPr B l hp th P Q) = true := h
    rw [Bool.and_eq_true] at h
    exact gen (Nat.eq_of_beq_eq_true h.1) h.2
  | 1, h, gen =>
    have h : (Nat.beq ak 5 && m5 B l hp th n (nr5 B n P) Q) = true := h
    rw [Bool.and_eq_true] at h
    have e := Nat.eq_of_beq_eq_true h.1
    subst e
    obtain ⟨f, zs, k1, k2, k3⟩ := g
    obtain ⟨zs', k4, k5⟩ := nr5_ok hB k2 k3
    obtain ⟨zs2, k6, k7⟩ := m5_ok hB h1 h2 hR k4 k5 h.2
    exact ⟨f, zs2, k1, k6, k7⟩
  | 2, h, gen =>
    have h : (kys Q [0, 1, 2, 3, 4] && (mPr B l hp th (hdP P) (hdP Q) && m6q B l hp th ak P Q)) = true := h
    rw [Bool.and_eq_true, Bool.and_eq_true] at h
    exact m6c_ok hB h1 h2 hR h.1 h.2.1 h.2.2 g
  | 3, h, gen =>
    have h : (mPr B l hp th (hdP P) (hdP Q) && (bif kys Q [0] then (bif Nat.beq ak 6 then kys P [0, 1, 2, 3, 4] else (Nat.beq ak 7 && (kys P [0] || kys P [0, 1, 2]))) else (kys Q [0, 1, 2] && (Nat.beq ak 7 && (mPr B l hp th P Q || (kys P [0] && m7q B l hp th Q)))))) = true := h
    rw [Bool.and_eq_true] at h
    obtain ⟨h0, h⟩ := h
    cases hk : kys Q [0] with
    | true =>
      rw [hk, cond_true] at h
      exact m7a_ok hB h1 h2 hR (kys_eq hk) h0 h g
    | false =>
      rw [hk, cond_false, Bool.and_eq_true, Bool.and_eq_true, Bool.or_eq_true] at h
      obtain ⟨h3, h4, h5⟩ := h
      have e := Nat.eq_of_beq_eq_true h4
      rcases h5 with h5 | h5
      · exact gen e h5
      · rw [Bool.and_eq_true] at h5
        subst e
        exact m7b_ok hB h1 h2 hR (kys_eq h3) h0 (kys_eq h5.1) h5.2 g
  | 4, h, gen =>
    have h : m8q B l hp th ak n P Q = true := h
    unfold m8q at h
    split at h
    next =>
      rw [Bool.and_eq_true, Bool.or_eq_true] at h
      have en := Nat.eq_of_beq_eq_true h.1
      have hf : ∃ f : Nat → Int32, x = .inl (cA 0, n, .inl f) := by
        rcases h.2 with q | q
        · have e := Nat.eq_of_beq_eq_true q
          subst e
          obtain ⟨f, zs, k1, -, -⟩ := g
          exact ⟨f, k1⟩
        · have e := Nat.eq_of_beq_eq_true q
          subst e
          obtain ⟨f, k1, -⟩ := g
          exact ⟨f, k1⟩
      obtain ⟨f, k1⟩ := hf
      exact ⟨f, [], k1, trivial, en⟩
    next =>
      rw [Bool.and_eq_true] at h
      exact gen (Nat.eq_of_beq_eq_true h.1) h.2
  | t + 5, h, gen =>
    have h : (Nat.beq ak (t + 9) && (mPr B l hp th P Q || m9q B l hp th (t + 9) P Q)) = true := h
    rw [Bool.and_eq_true, Bool.or_eq_true] at h
    rcases h.2 with w2 | w2
    · exact gen (Nat.eq_of_beq_eq_true h.1) w2
    · exact m9q_ok hB h1 h2 hR (Nat.eq_of_beq_eq_true h.1) w2 g
end E12S
