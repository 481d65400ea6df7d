/-! ===== THE ENGINE, 12r: arguments of relations; what functions say is alike ===== -/
/-- a - b, if it is known -/
def offV (B : eB) (a b : eV) : Option Int := match eDif a b with
  | some d => some d
  | none => bif decide (eLo B a = eHi B a) && decide (eLo B b = eHi B b) then some (eLo B a - eLo B b) else none
theorem offV_ok {ρ : Nat → Int} {B : eB} (hB : gB ρ B) {a b : eV} {x y d : Int} (ha : gN ρ a x) (hb : gN ρ b y) (h : offV B a b = some d) : x - y = d := by
  unfold offV at h
  split at h
  next d9 hd =>
    have := eDif_ok ha hb hd
    cases h
    exact this
  next =>
    cases hc : (decide (eLo B a = eHi B a) && decide (eLo B b = eHi B b)) with
    | false => rw [hc] at h; cases h
    | true =>
      rw [hc, cond_true] at h
      simp only [Bool.and_eq_true, decide_eq_true_eq] at hc
      have a1 := eLo_ok hB ha
      have a2 := eHi_ok hB ha
      have b1 := eLo_ok hB hb
      have b2 := eHi_ok hB hb
      have := Option.some.inj h
      omega
def isOff (B : eB) (a b : eV) (o : Int) : Bool := match offV B a b with
  | some d => decide (d = o)
  | none => false
theorem isOff_ok {ρ : Nat → Int} {B : eB} (hB : gB ρ B) {a b : eV} {x y o : Int} (ha : gN ρ a x) (hb : gN ρ b y) (h : isOff B a b o = true) : x - y = o := by
  unfold isOff at h
  split at h
  next d hd =>
    rw [decide_eq_true_eq] at h
    rw [← h]
    exact offV_ok hB ha hb hd
  next => cases h
def shV (a : eV) (c : Int) : eV := (0, tSh a.2.1 c, a.2.2.1 + c, a.2.2.2 + c)
theorem shV_ok {ρ : Nat → Int} {a : eV} {x c : Int} (h : gN ρ a x) : gN ρ (shV a c) (x + c) := by
  refine ⟨tSh_ok h.1, ?_, ?_⟩
  · show a.2.2.1 + c ≤ x + c
    have := h.2.1
    omega
  · show x + c ≤ a.2.2.2 + c
    have := h.2.2
    omega
/-- an argument as it stands -/
def argV (B : eB) (n : Nat) : Option eV := bif Nat.blt n cB then (match n with
    | 0 => none
    | t + 1 => (match eGet B.1 (nB t) with
      | some p => some (0, t + 1, p.1 + nO t, p.2 + nO t)
      | none => none)) else some (eI (((n - cB : Nat) : Int) - 4294967296))
section E12R
variable {ρ : Nat → Int} {B : eB}
theorem argV_ok (hB : gB ρ B) {n : Nat} {a : eV} (h : argV B n = some a) : gN ρ a (aR ρ n) := by
  unfold argV at h
  unfold aR
  cases hb : Nat.blt n cB with
  | false =>
    rw [hb] at h
    rw [cond_false]
    cases h
    exact gN_I _
  | true =>
    rw [hb, cond_true] at h
    rw [cond_true]
    split at h
    next => cases h
    next t =>
      split at h
      next p hp =>
        cases h
        have hb9 := hB.1 (nB t) p (by rw [← eGet_eq]; exact hp)
        refine ⟨fun u hu => ?_, ?_, ?_⟩
        · cases hu
          rfl
        · show p.1 + nO t ≤ ρ (nB t) + nO t
          omega
        · show ρ (nB t) + nO t ≤ p.2 + nO t
          omega
      next => cases h
/-- a is no more than z: what is told of how deep a reader is -/
def hi31 (B : eB) (a : eV) (z : Int) : Bool := B.2.any (fun f => (Nat.beq f.1 1034 || Nat.beq f.1 1035) && (match argV B f.2.1, argV B f.2.2.2.1, argV B f.2.2.1.toNat with
  | some x, some y, some w => (match offV B a x with
    | some o => decide ((bif Nat.beq f.1 1034 then 5 else 12) * eHi B y + eHi B w + o ≤ z)
    | none => false)
  | _, _, _ => false))
theorem hi31_ok (hB : gB ρ B) {a : eV} {x z : Int} (ga : gN ρ a x) (h : hi31 B a z = true) : x ≤ z := by
  unfold hi31 at h
  obtain ⟨f, m1, h⟩ := List.any_eq_true.mp h
  rw [Bool.and_eq_true] at h
  obtain ⟨h1, h⟩ := h
  have hg := hB.2 f m1
  obtain ⟨f0, f1, f2, f3, f4⟩ := f
  rw [Bool.or_eq_true] at h1
  dsimp only at h1 h
  have hg : aR ρ f1 ≤ (bif Nat.beq f0 1034 then 5 else 12) * aR ρ f3 + aR ρ f2.toNat := by
    rcases h1 with h1 | h1 <;> (have h1 := Nat.eq_of_beq_eq_true h1; subst h1; exact hg)
  have hm : (0 : Int) ≤ (bif Nat.beq f0 1034 then 5 else 12) := by cases Nat.beq f0 1034 <;> decide
  generalize (bif Nat.beq f0 1034 then (5 : Int) else 12) = m at hg hm h
  split at h
  next p q w hp hq hw =>
    split at h
    next o ho =>
      rw [decide_eq_true_eq] at h
      have e1 := offV_ok hB ga (argV_ok hB hp) ho
      have e2 := eHi_ok hB (argV_ok hB hq)
      have e3 := eHi_ok hB (argV_ok hB hw)
      have e4 := Int.mul_le_mul_of_nonneg_left e2 hm
      omega
    next => cases h
  next => cases h
/-- functions of a text alone, that no third argument changes -/
def isFn (k : Nat) : Bool := Nat.beq k 201 || (Nat.beq k 203 || (Nat.beq k 205 || Nat.beq k 199))
def eqD (B : eB) : Nat → eV → eV → Bool
  | 0, a, b => isOff B a b 0
  | n + 1, a, b => isOff B a b 0 || B.2.any (fun f => (Nat.ble 3 f.1 && isFn (f.1 - 3)) && ((match argV B f.2.2.2.2.toNat with
    | some d => isOff B d a 0
    | none => false) && B.2.any (fun f' => Nat.beq f'.1 f.1 && ((match argV B f'.2.2.2.2.toNat with
      | some d => isOff B d b 0
      | none => false) && ((match argV B f.2.1, argV B f'.2.1 with
      | some x, some y => eqD B n x y
      | _, _ => false) && (match argV B f.2.2.2.1, argV B f'.2.2.2.1 with
      | some x, some y => Nat.beq f.1 202 || eqD B n x y
      | _, _ => false))))))
theorem FK_fn {k : Nat} (h : isFn k = true) {a b c b' c' : Int} (hb : k = 199 ∨ b = b') : FK k a b c = FK k a b' c' := by
  unfold isFn at h
  simp only [Bool.or_eq_true] at h
  rcases h with h | h | h | h
  · have h := Nat.eq_of_beq_eq_true h; subst h; rcases hb with e | e
    · cases e
    · rw [e]; rfl
  · have h := Nat.eq_of_beq_eq_true h; subst h; rcases hb with e | e
    · cases e
    · rw [e]; rfl
  · have h := Nat.eq_of_beq_eq_true h; subst h; rcases hb with e | e
    · cases e
    · rw [e]; rfl
  · have h := Nat.eq_of_beq_eq_true h; subst h; rfl
theorem eqD_ok (hB : gB ρ B) : ∀ {n : Nat} {a b : eV} {x y : Int}, eqD B n a b = true → gN ρ a x → gN ρ b y → x = y
  | 0, a, b, x, y, h, ga, gb => by
    have := isOff_ok hB ga gb h
    omega
  | n + 1, a, b, x, y, h, ga, gb => by
    unfold eqD at h
    rw [Bool.or_eq_true] at h
    rcases h with h | h
    · have := isOff_ok hB ga gb h
      omega
    · obtain ⟨f, m1, h⟩ := List.any_eq_true.mp h
      simp only [Bool.and_eq_true] at h
      obtain ⟨⟨hk, hfn⟩, hd, h⟩ := h
      obtain ⟨f', m2, h⟩ := List.any_eq_true.mp h
      simp only [Bool.and_eq_true] at h
      obtain ⟨hk', hd', ha, hb⟩ := h
      have hk := Nat.le_of_ble_eq_true hk
      have hk' := Nat.eq_of_beq_eq_true hk'
      have hg := hB.2 f m1
      have hg' := hB.2 f' m2
      obtain ⟨f0, f1, f2, f3, f4⟩ := f
      obtain ⟨f0', f1', f2', f3', f4'⟩ := f'
      dsimp only at hk hk' hfn hd hd' ha hb
      subst hk'
      obtain ⟨k, rfl⟩ : ∃ k, f0' = k + 3 := ⟨f0' - 3, by omega⟩
      rw [Nat.add_sub_cancel] at hfn
      have hlt : k < 1000 := by
        unfold isFn at hfn
        simp only [Bool.or_eq_true] at hfn
        rcases hfn with q | q | q | q <;> (have q := Nat.eq_of_beq_eq_true q; omega)
      have hg : RK k (aR ρ f1) (aR ρ f3) (aR ρ f2.toNat) (aR ρ f4.toNat) := hg
      have hg' : RK k (aR ρ f1') (aR ρ f3') (aR ρ f2'.toNat) (aR ρ f4'.toNat) := hg'
      have hg := (RK_f hlt).mp hg
      have hg' := (RK_f hlt).mp hg'
      split at hd
      next d hd9 =>
        split at hd'
        next d' hd9' =>
          have e1 := isOff_ok hB (argV_ok hB hd9) ga hd
          have e2 := isOff_ok hB (argV_ok hB hd9') gb hd'
          split at ha
          next u v hu hv =>
            have e3 := eqD_ok hB ha (argV_ok hB hu) (argV_ok hB hv)
            split at hb
            next u2 v2 hu2 hv2 =>
              rw [Bool.or_eq_true] at hb
              have e4 : FK k (aR ρ f1) (aR ρ f3) (aR ρ f2.toNat) = FK k (aR ρ f1') (aR ρ f3') (aR ρ f2'.toNat) := by
                rw [e3]
                rcases hb with q | q
                · exact FK_fn hfn (Or.inl (by have := Nat.eq_of_beq_eq_true q; omega))
                · exact FK_fn hfn (Or.inr (eqD_ok hB q (argV_ok hB hu2) (argV_ok hB hv2)))
              omega
            next => cases hb
          next => cases ha
        next => cases hd'
      next => cases hd
end E12R
