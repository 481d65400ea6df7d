/-! ===== THE ENGINE, 2x: results that a relation tells ===== -/
theorem i32_and255 {x y : Int32} (hy : y.toInt = 255) : (x &&& y).toInt = x.toInt % 256 := by
  have e : y = 255 := Int32.toInt_inj.mp (by rw [hy]; rfl)
  subst e
  show ((x &&& 255 : Int32).toBitVec).toInt = x.toBitVec.toInt % 256
  rw [Int32.toBitVec_and, BitVec.toInt_eq_toNat_cond, BitVec.toInt_eq_toNat_cond, BitVec.toNat_and]
  have h1 : (255 : Int32).toBitVec.toNat = 2 ^ 8 - 1 := rfl
  rw [h1, Nat.and_two_pow_sub_one_eq_mod]
  have h2 := x.toBitVec.isLt
  split <;> split <;> omega
def okTg (a : eV) : Bool := Nat.blt 0 a.2.1 && Nat.blt a.2.1 cB
def isK (B : eB) (b : eV) (z : Int) : Bool := decide (eLo B b = z) && decide (eHi B b = z)
/-- which relation tells of the operation k, of which names, and whether it is exact -/
def eRel (k : Nat) (B : eB) (a b : eV) : Option (Nat × Nat × Nat) := match k with
  | 1 => bif okTg a && (okTg b && (decide (-2147483648 ≤ eLo B a + eLo B b) && decide (eHi B a + eHi B b ≤ 2147483647))) then some (33, a.2.1, b.2.1) else none
  | 2 => bif okTg a && (okTg b && (decide (-2147483648 ≤ eLo B a - eHi B b) && decide (eHi B a - eLo B b ≤ 2147483647))) then some (34, a.2.1, b.2.1) else none
  | 3 => bif okTg a && isK B b 255 then some (31, a.2.1, aI 0) else none
  | 6 => bif okTg a && (isK B b (eLo B b) && (decide (0 ≤ eLo B b) && decide (eLo B b ≤ 31))) then some (37, a.2.1, aI (eLo B b)) else none
  | 7 => bif okTg a && (isK B b 10 && (decide (-214748364 ≤ eLo B a) && decide (eHi B a ≤ 214748364))) then some (32, a.2.1, aI 0) else
      (bif okTg b && (isK B a 10 && (decide (-214748364 ≤ eLo B b) && decide (eHi B b ≤ 214748364))) then some (32, b.2.1, aI 0) else none)
  | _ => none
/-- what an operation makes of two ints, exactly -/
def eExa (f : Int32 → Int32 → Int32) (k : Nat) : Prop := match k with
  | 1 => ∀ x y, f x y = x + y
  | 2 => ∀ x y, f x y = x - y
  | 3 => ∀ x y, f x y = x &&& y
  | 6 => ∀ x y, f x y = x >>> (y &&& 31)
  | 7 => ∀ x y, f x y = x * y
  | _ => True
theorem aR_tag {ρ : Nat → Int} {a : eV} {x : Int} (h : okTg a = true) (ha : gN ρ a x) : aR ρ a.2.1 = x := by
  unfold okTg at h
  rw [Bool.and_eq_true] at h
  unfold aR
  rw [h.2, cond_true]
  obtain ⟨k, t, lo, hi⟩ := a
  cases t with
  | zero => cases h.1
  | succ t =>
    have := ha.1 t rfl
    exact this.symm
theorem eRel_ok {f : Int32 → Int32 → Int32} {k : Nat} (hx : eExa f k) {ρ : Nat → Int} {B : eB} (hB : gB ρ B) {a b : eV} {x y : Int32} (ha : gN ρ a x.toInt) (hb : gN ρ b y.toInt) {r : Nat × Nat × Nat} (h : eRel k B a b = some r) : r.1 < 1000 ∧ (f x y).toInt = FK r.1 (aR ρ r.2.1) (aR ρ r.2.2) 0 := by
  have a1 := eLo_ok hB ha
  have a2 := eHi_ok hB ha
  have b1 := eLo_ok hB hb
  have b2 := eHi_ok hB hb
  unfold eRel at h
  split at h
  · have hx : ∀ x y, f x y = x + y := hx
    cases hd : (okTg a && (okTg b && (decide (-2147483648 ≤ eLo B a + eLo B b) && decide (eHi B a + eHi B b ≤ 2147483647)))) with
    | false => rw [hd] at h; cases h
    | true =>
      rw [hd] at h
      cases h
      simp only [Bool.and_eq_true, decide_eq_true_eq] at hd
      obtain ⟨d1, d2, d3, d4⟩ := hd
      refine ⟨(show 33 < 1000 by decide), ?_⟩
      rw [hx, i32_add_exact (by omega) (by omega)]
      dsimp only
      show x.toInt + y.toInt = aR ρ a.2.1 + aR ρ b.2.1
      rw [aR_tag d1 ha, aR_tag d2 hb]
  · have hx : ∀ x y, f x y = x - y := hx
    cases hd : (okTg a && (okTg b && (decide (-2147483648 ≤ eLo B a - eHi B b) && decide (eHi B a - eLo B b ≤ 2147483647)))) with
    | false => rw [hd] at h; cases h
    | true =>
      rw [hd] at h
      cases h
      simp only [Bool.and_eq_true, decide_eq_true_eq] at hd
      obtain ⟨d1, d2, d3, d4⟩ := hd
      refine ⟨(show 34 < 1000 by decide), ?_⟩
      rw [hx, i32_sub_exact (by omega) (by omega)]
      dsimp only
      show x.toInt - y.toInt = aR ρ a.2.1 - aR ρ b.2.1
      rw [aR_tag d1 ha, aR_tag d2 hb]
  · have hx : ∀ x y, f x y = x &&& y := hx
    cases hd : (okTg a && isK B b 255) with
    | false => rw [hd] at h; cases h
    | true =>
      rw [hd] at h
      cases h
      simp only [isK, Bool.and_eq_true, decide_eq_true_eq] at hd
      obtain ⟨d1, d2, d3⟩ := hd
      refine ⟨(show 31 < 1000 by decide), ?_⟩
      rw [hx, i32_and255 (by omega)]
      dsimp only
      show x.toInt % 256 = aR ρ a.2.1 % 256
      rw [aR_tag d1 ha]
  · have hx : ∀ x y, f x y = x >>> (y &&& 31) := hx
    cases hd : (okTg a && (isK B b (eLo B b) && (decide (0 ≤ eLo B b) && decide (eLo B b ≤ 31)))) with
    | false => rw [hd] at h; cases h
    | true =>
      rw [hd] at h
      cases h
      simp only [isK, Bool.and_eq_true, decide_eq_true_eq] at hd
      obtain ⟨d1, ⟨d2, d3⟩, d4, d5⟩ := hd
      refine ⟨(show 37 < 1000 by decide), ?_⟩
      have hy : y.toInt = eLo B b := by omega
      have hs := pk_shr x (y &&& 31) _ (i32_shk (y := y) (by omega) (by omega))
      rw [Int.shiftRight_eq_div_pow, hy] at hs
      rw [hx, hs]
      dsimp only
      show x.toInt / ((2 ^ (eLo B b).toNat : Nat) : Int) = aR ρ a.2.1 / 2 ^ (aR ρ (aI (eLo B b))).toNat
      rw [aR_tag d1 ha, aI_ok (by omega)]
      congr 1
  · have hx : ∀ x y, f x y = x * y := hx
    cases hd : (okTg a && (isK B b 10 && (decide (-214748364 ≤ eLo B a) && decide (eHi B a ≤ 214748364)))) with
    | true =>
      rw [hd] at h
      cases h
      simp only [isK, Bool.and_eq_true, decide_eq_true_eq] at hd
      obtain ⟨d1, ⟨d2, d3⟩, d4, d5⟩ := hd
      have hy : y.toInt = 10 := by omega
      refine ⟨(show 32 < 1000 by decide), ?_⟩
      rw [hx, i32_mul_exact (by rw [hy]; omega) (by rw [hy]; omega), hy]
      dsimp only
      show x.toInt * 10 = 10 * aR ρ a.2.1
      rw [aR_tag d1 ha]
      omega
    | false =>
      rw [hd, cond_false] at h
      cases he : (okTg b && (isK B a 10 && (decide (-214748364 ≤ eLo B b) && decide (eHi B b ≤ 214748364)))) with
      | false => rw [he] at h; cases h
      | true =>
        rw [he] at h
        cases h
        simp only [isK, Bool.and_eq_true, decide_eq_true_eq] at he
        obtain ⟨d1, ⟨d2, d3⟩, d4, d5⟩ := he
        have hy : x.toInt = 10 := by omega
        refine ⟨(show 32 < 1000 by decide), ?_⟩
        rw [hx, i32_mul_exact (by rw [hy]; omega) (by rw [hy]; omega), hy]
        dsimp only
        show 10 * y.toInt = 10 * aR ρ b.2.1
        rw [aR_tag d1 hb]
  · cases h
/-- the name that a fact gives to a result -/
def fTg (B : eB) (r : Nat × Nat × Nat) : Nat := match B.2.find? (fun f => Nat.beq f.1 (r.1 + 3) && (Nat.beq f.2.1 r.2.1 && (Nat.beq f.2.2.2.1 r.2.2 && (Nat.blt 0 f.2.2.2.2.toNat && Nat.blt f.2.2.2.2.toNat cB)))) with
  | some f => f.2.2.2.2.toNat
  | none => 0
def isRl (k : Nat) : Bool := Nat.beq k 31 || (Nat.beq k 32 || (Nat.beq k 33 || (Nat.beq k 34 || (Nat.beq k 37 || (Nat.beq k 38 || Nat.beq k 205)))))
theorem FK_2 {k : Nat} (h : isRl k = true) {a b c d : Int} : FK k a b c = FK k a b d := by
  unfold isRl at h
  simp only [Bool.or_eq_true] at h
  rcases h with h | h | h | h | h | h | h <;> (have h := Nat.eq_of_beq_eq_true h; subst h; rfl)
theorem fTg_ok {ρ : Nat → Int} {B : eB} (hB : gB ρ B) {r : Nat × Nat × Nat} (h3 : isRl r.1 = true) (t : Nat) (h : fTg B r = t + 1) : FK r.1 (aR ρ r.2.1) (aR ρ r.2.2) 0 = ρ (nB t) + nO t := by
  unfold fTg at h
  split at h
  next f hf =>
    have hm := List.mem_of_find?_eq_some hf
    have hp := List.find?_some hf
    have hg := hB.2 f hm
    obtain ⟨f0, f1, f2, f3, f4⟩ := f
    dsimp only at hp h
    simp only [Bool.and_eq_true] at hp
    obtain ⟨p1, p2, p3, p4, p5⟩ := hp
    have p1 := Nat.eq_of_beq_eq_true p1
    have p2 := Nat.eq_of_beq_eq_true p2
    have p3 := Nat.eq_of_beq_eq_true p3
    subst p1
    subst p2
    subst p3
    have hlt : r.1 < 1000 := by
      unfold isRl at h3
      simp only [Bool.or_eq_true] at h3
      rcases h3 with h | h | h | h | h | h | h <;> (have h := Nat.eq_of_beq_eq_true h; omega)
    have hg : RK r.1 (aR ρ r.2.1) (aR ρ r.2.2) (aR ρ f2.toNat) (aR ρ f4.toNat) := hg
    have hg := (RK_f hlt).mp hg
    rw [FK_2 h3 (d := 0)] at hg
    rw [← hg]
    unfold aR
    rw [p5, cond_true, h]
    rfl
  next => cases h
/-- an operation's result, by the name that a fact gives it -/
def eBinR (f : Int32 → Int32 → Int32) (k : Nat) (B : eB) (a b : eV) : eV := match eBin f k B a b with
  | (k0, 0, lo, hi) => (match eRel k B a b with
    | some r => bif isRl r.1 then (k0, fTg B r, lo, hi) else (k0, 0, lo, hi)
    | none => (k0, 0, lo, hi))
  | v => v
theorem eBinR_ok {f : Int32 → Int32 → Int32} {k : Nat} (hk : eApxOk f k) (hx : eExa f k) {ρ : Nat → Int} {B : eB} (hB : gB ρ B) {a b : eV} {x y : Int32} (ha : gN ρ a x.toInt) (hb : gN ρ b y.toInt) : gN ρ (eBinR f k B a b) (f x y).toInt := by
  have h := eBin_ok hk hB ha hb
  unfold eBinR
  split
  next k0 lo hi e =>
    rw [e] at h
    split
    next r hr =>
      cases hl : isRl r.1 with
      | false => exact h
      | true =>
        rw [cond_true]
        refine ⟨fun t ht => ?_, h.2⟩
        rw [(eRel_ok hx hB ha hb hr).2]
        exact fTg_ok hB hl t ht
    next => exact h
  next => exact h
theorem eBinR_int (f : Int32 → Int32 → Int32) (k : Nat) (B : eB) (a b : eV) : ∃ t lo hi, eBinR f k B a b = (0, t, lo, hi) := by
  obtain ⟨t, lo, hi, e⟩ := eBin_int f k B a b
  unfold eBinR
  rw [e]
  cases t with
  | zero =>
    show ∃ t lo2 hi2, (match eRel k B a b with
      | some r => bif isRl r.1 then ((0 : Nat), fTg B r, lo, hi) else (0, 0, lo, hi)
      | none => (0, 0, lo, hi)) = (0, t, lo2, hi2)
    split
    · next r _ => cases isRl r.1 <;> exact ⟨_, _, _, rfl⟩
    · exact ⟨_, _, _, rfl⟩
  | succ t => exact ⟨_, _, _, rfl⟩
theorem eBinR_gV {f : Int32 → Int32 → Int32} {k : Nat} (hk : eApxOk f k) (hx : eExa f k) {ρ : Nat → Int} {ad : Nat → Nat} {sb : eSB} {B : eB} (hB : gB ρ B) {a b : eV} {x y : Int32} (ha : gN ρ a x.toInt) (hb : gN ρ b y.toInt) : gV ρ ad sb (eBinR f k B a b) (.int (f x y)) := by
  have h := eBinR_ok hk hx hB ha hb
  obtain ⟨t, lo, hi, e⟩ := eBinR_int f k B a b
  rw [e] at h ⊢
  exact gV_int h
/-! a byte made of an int -/
theorem i8_ex (x : Int32) : x.toInt8.toInt32.toInt = (x.toInt + 128) % 256 - 128 := by
  rw [Int8.toInt_toInt32, Int32.toInt_toInt8]
  unfold Int.bmod
  dsimp only
  split <;> omega
def eI2b (B : eB) (a : eV) : eV := bif decide (eLo B a = eHi B a) then eI ((Int32.ofInt (eLo B a)).toInt8.toInt32).toInt else
  bif decide (-128 ≤ eLo B a) && decide (eHi B a ≤ 127) then (0, a.2) else
  bif decide (128 ≤ eLo B a) && decide (eHi B a ≤ 255) then (0, tSh a.2.1 (-256), a.2.2.1 + -256, a.2.2.2 + -256) else
  (0, bif okTg a then fTg B (38, a.2.1, aI 0) else 0, -128, 127)
theorem eI2b_gV {ρ : Nat → Int} {ad : Nat → Nat} {sb : eSB} {B : eB} (hB : gB ρ B) {a : eV} {x : Int32} (ha : gN ρ a x.toInt) : gV ρ ad sb (eI2b B a) (.int x.toInt8.toInt32) := by
  have h := eUn_gV (f := fun x => x.toInt8.toInt32) (ad := ad) (sb := sb) hB ha (lo := -128) (hi := 127) (by rw [i8_ex]; omega) (by rw [i8_ex]; omega)
  have a1 := eLo_ok hB ha
  have a2 := eHi_ok hB ha
  unfold eUn at h
  unfold eI2b
  cases hd : decide (eLo B a = eHi B a) with
  | true => rw [hd] at h; exact h
  | false =>
    rw [hd] at h
    rw [cond_false]
    cases he : (decide (-128 ≤ eLo B a) && decide (eHi B a ≤ 127)) with
    | true =>
      rw [cond_true]
      simp only [Bool.and_eq_true, decide_eq_true_eq] at he
      have e : x.toInt8.toInt32.toInt = x.toInt := by rw [i8_ex]; omega
      exact ⟨_, rfl, by rw [e]; exact ha⟩
    | false =>
      rw [cond_false]
      cases hf : (decide (128 ≤ eLo B a) && decide (eHi B a ≤ 255)) with
      | true =>
        rw [cond_true]
        simp only [Bool.and_eq_true, decide_eq_true_eq] at hf
        have e : x.toInt8.toInt32.toInt = x.toInt + -256 := by rw [i8_ex]; omega
        refine ⟨_, rfl, ?_⟩
        rw [e]
        refine ⟨tSh_ok ha.1, ?_, ?_⟩
        · show a.2.2.1 + -256 ≤ x.toInt + -256
          have := ha.2.1
          omega
        · show x.toInt + -256 ≤ a.2.2.2 + -256
          have := ha.2.2
          omega
      | false =>
        rw [cond_false]
        refine gV_int ⟨fun t ht => ?_, by dsimp only; rw [i8_ex]; omega, by dsimp only; rw [i8_ex]; omega⟩
        dsimp only at ht
        cases ho : okTg a with
        | false => rw [ho] at ht; cases ht
        | true =>
          rw [ho, cond_true] at ht
          have e := fTg_ok hB (r := (38, a.2.1, aI 0)) rfl t ht
          rw [i8_ex, ← e]
          dsimp only
          show (x.toInt + 128) % 256 - 128 = (aR ρ a.2.1 + 128) % 256 - 128
          rw [aR_tag ho ha]
