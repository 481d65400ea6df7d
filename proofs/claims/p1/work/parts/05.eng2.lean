/-! ===== THE ENGINE, 2: bounds ===== -/
def eLo (B : eB) (a : eV) : Int := match a.2.1 with
  | 0 => a.2.2.1
  | i + 1 => match eGet B i with
    | some p => bif decide (a.2.2.1 ≤ p.1) then p.1 else a.2.2.1
    | none => a.2.2.1
def eHi (B : eB) (a : eV) : Int := match a.2.1 with
  | 0 => a.2.2.2
  | i + 1 => match eGet B i with
    | some p => bif decide (p.2 ≤ a.2.2.2) then p.2 else a.2.2.2
    | none => a.2.2.2
theorem eLo_ok {ρ : Nat → Int} {B : eB} (hB : gB ρ B) {a : eV} {z : Int} (h : gN ρ a z) : eLo B a ≤ z := by
  obtain ⟨k, t, lo, hi⟩ := a
  obtain ⟨h1, h2, h3⟩ := h
  dsimp only at h1 h2 h3
  unfold eLo
  cases t with
  | zero => exact h2
  | succ i =>
    dsimp only
    cases hg : eGet B i with
    | none => exact h2
    | some p =>
      dsimp only
      cases hd : decide (lo ≤ p.1) with
      | true =>
        rw [cond_true, h1 i rfl]
        exact (hB i p (by rw [← eGet_eq]; exact hg)).1
      | false => exact h2
theorem eHi_ok {ρ : Nat → Int} {B : eB} (hB : gB ρ B) {a : eV} {z : Int} (h : gN ρ a z) : z ≤ eHi B a := by
  obtain ⟨k, t, lo, hi⟩ := a
  obtain ⟨h1, h2, h3⟩ := h
  dsimp only at h1 h2 h3
  unfold eHi
  cases t with
  | zero => exact h3
  | succ i =>
    dsimp only
    cases hg : eGet B i with
    | none => exact h3
    | some p =>
      dsimp only
      cases hd : decide (p.2 ≤ hi) with
      | true =>
        rw [cond_true, h1 i rfl]
        exact (hB i p (by rw [← eGet_eq]; exact hg)).2
      | false => exact h3
/-- the bounds when a is no less than lo and no more than hi -/
def eRef (B : eB) (a : eV) (lo hi : Int) : Option eB :=
  let l := bif decide (eLo B a ≤ lo) then lo else eLo B a
  let h := bif decide (hi ≤ eHi B a) then hi else eHi B a
  bif decide (l ≤ h) then (match a.2.1 with | 0 => some B | i + 1 => some (eSet B i (l, h))) else none
theorem eRef_ok {ρ : Nat → Int} {B : eB} (hB : gB ρ B) {a : eV} {z : Int} (h : gN ρ a z) {lo hi : Int} (h1 : lo ≤ z) (h2 : z ≤ hi) : ∃ B', eRef B a lo hi = some B' ∧ gB ρ B' := by
  have a1 := eLo_ok hB h
  have a2 := eHi_ok hB h
  obtain ⟨l, el⟩ : ∃ l, l = bif decide (eLo B a ≤ lo) then lo else eLo B a := ⟨_, rfl⟩
  obtain ⟨m, em⟩ : ∃ m, m = bif decide (hi ≤ eHi B a) then hi else eHi B a := ⟨_, rfl⟩
  have b1 : l ≤ z := by
    rw [el]
    cases hd : decide (eLo B a ≤ lo) <;> simp only [cond_true, cond_false] <;> assumption
  have b2 : z ≤ m := by
    rw [em]
    cases hd : decide (hi ≤ eHi B a) <;> simp only [cond_true, cond_false] <;> assumption
  have b3 : decide (l ≤ m) = true := decide_eq_true (Int.le_trans b1 b2)
  unfold eRef
  dsimp only
  rw [← el, ← em, b3, cond_true]
  obtain ⟨k, t, lo9, hi9⟩ := a
  obtain ⟨c1, -, -⟩ := h
  dsimp only at c1 ⊢
  cases t with
  | zero => exact ⟨B, rfl, hB⟩
  | succ i =>
    refine ⟨_, rfl, ?_⟩
    intro j p hj
    rw [eSet_eq] at hj
    by_cases hij : i = j
    · subst hij
      by_cases hl : i < B.length
      · rw [List.getElem?_set_self hl] at hj
        have := Option.some.inj hj
        subst this
        rw [← c1 i rfl]
        exact ⟨b1, b2⟩
      · have : B.set i (l, m) = B := List.set_eq_of_length_le (Nat.not_lt.mp hl)
        rw [this] at hj
        exact hB i p hj
    · rw [List.getElem?_set_ne hij] at hj
      exact hB j p hj
def eRef2 (B : eB) (a : eV) (l1 h1 : Int) (b : eV) (l2 h2 : Int) : List eB := match eRef B a l1 h1 with
  | none => []
  | some B1 => match eRef B1 b l2 h2 with
    | none => []
    | some B2 => [B2]
theorem eRef2_ok {ρ : Nat → Int} {B : eB} (hB : gB ρ B) {a b : eV} {x y : Int} (ha : gN ρ a x) (hb : gN ρ b y) {l1 h1 l2 h2 : Int} (p1 : l1 ≤ x) (p2 : x ≤ h1) (p3 : l2 ≤ y) (p4 : y ≤ h2) : ∃ B', B' ∈ eRef2 B a l1 h1 b l2 h2 ∧ gB ρ B' := by
  obtain ⟨B1, e1, g1⟩ := eRef_ok hB ha p1 p2
  obtain ⟨B2, e2, g2⟩ := eRef_ok g1 hb p3 p4
  unfold eRef2
  rw [e1]
  dsimp only
  rw [e2]
  exact ⟨B2, List.mem_singleton.mpr rfl, g2⟩
/-- x < y: bounds where it holds, and where it doesn't -/
def eLt (B : eB) (x y : eV) : List eB := bif decide (eLo B x < eHi B y) then eRef2 B x (eLo B x) (eHi B y - 1) y (eLo B x + 1) (eHi B y) else []
def eLe (B : eB) (x y : eV) : List eB := bif decide (eLo B x ≤ eHi B y) then eRef2 B x (eLo B x) (eHi B y) y (eLo B x) (eHi B y) else []
def eEqs (B : eB) (x y : eV) : List eB := bif decide (eLo B x ≤ eHi B y) && decide (eLo B y ≤ eHi B x) then eRef2 B x (eLo B y) (eHi B y) y (eLo B x) (eHi B x) else []
def eNe (B : eB) (x y : eV) : List eB := eLt B x y ++ eLt B y x
theorem eLt_ok {ρ : Nat → Int} {B : eB} (hB : gB ρ B) {a b : eV} {x y : Int} (ha : gN ρ a x) (hb : gN ρ b y) (h : x < y) : ∃ B', B' ∈ eLt B a b ∧ gB ρ B' := by
  have a1 := eLo_ok hB ha
  have a2 := eHi_ok hB hb
  unfold eLt
  rw [decide_eq_true (show eLo B a < eHi B b by omega), cond_true]
  exact eRef2_ok hB ha hb a1 (by omega) (by omega) a2
theorem eLe_ok {ρ : Nat → Int} {B : eB} (hB : gB ρ B) {a b : eV} {x y : Int} (ha : gN ρ a x) (hb : gN ρ b y) (h : x ≤ y) : ∃ B', B' ∈ eLe B a b ∧ gB ρ B' := by
  have a1 := eLo_ok hB ha
  have a2 := eHi_ok hB hb
  unfold eLe
  rw [decide_eq_true (show eLo B a ≤ eHi B b by omega), cond_true]
  exact eRef2_ok hB ha hb a1 (by omega) (by omega) a2
theorem eEqs_ok {ρ : Nat → Int} {B : eB} (hB : gB ρ B) {a b : eV} {x y : Int} (ha : gN ρ a x) (hb : gN ρ b y) (h : x = y) : ∃ B', B' ∈ eEqs B a b ∧ gB ρ B' := by
  have a1 := eLo_ok hB ha
  have a2 := eHi_ok hB ha
  have b1 := eLo_ok hB hb
  have b2 := eHi_ok hB hb
  unfold eEqs
  rw [decide_eq_true (show eLo B a ≤ eHi B b by omega), decide_eq_true (show eLo B b ≤ eHi B a by omega), Bool.and_self, cond_true]
  exact eRef2_ok hB ha hb (by omega) (by omega) (by omega) (by omega)
theorem eNe_ok {ρ : Nat → Int} {B : eB} (hB : gB ρ B) {a b : eV} {x y : Int} (ha : gN ρ a x) (hb : gN ρ b y) (h : x ≠ y) : ∃ B', B' ∈ eNe B a b ∧ gB ρ B' := by
  unfold eNe
  rcases Int.lt_or_gt_of_ne h with h | h
  · obtain ⟨B', h1, h2⟩ := eLt_ok hB ha hb h
    exact ⟨B', List.mem_append_left _ h1, h2⟩
  · obtain ⟨B', h1, h2⟩ := eLt_ok hB hb ha h
    exact ⟨B', List.mem_append_right _ h1, h2⟩
abbrev eI (z : Int) : eV := (0, 0, z, z)
abbrev eJ (z : Int) : eV := (1, 0, z, z)
abbrev eTop : eV := (0, 0, -2147483648, 2147483647)
abbrev eTopL : eV := (1, 0, -9223372036854775808, 9223372036854775807)
theorem gN_I {ρ : Nat → Int} (z : Int) : gN ρ (eI z) z := ⟨fun i h => (by cases h), Int.le_refl _, Int.le_refl _⟩
theorem gN_iv {ρ : Nat → Int} {k : Nat} {lo hi z : Int} (h1 : lo ≤ z) (h2 : z ≤ hi) : gN ρ (k, 0, lo, hi) z := ⟨fun i h => (by cases h), h1, h2⟩
theorem gV_int {ρ : Nat → Int} {ad : Nat → Nat} {sb : Nat} {t : Nat} {lo hi : Int} {x : Int32} (h : gN ρ (0, t, lo, hi) x.toInt) : gV ρ ad sb (0, t, lo, hi) (.int x) := ⟨x, rfl, h⟩
theorem gV_long {ρ : Nat → Int} {ad : Nat → Nat} {sb : Nat} {t : Nat} {lo hi : Int} {x : Int64} (h : gN ρ (1, t, lo, hi) x.toInt) : gV ρ ad sb (1, t, lo, hi) (.long x) := ⟨x, rfl, h⟩
theorem i32_of {x : Int32} {z : Int} (h : x.toInt = z) : x = Int32.ofInt z := by rw [← h, Int32.ofInt_toInt]
theorem i64_of {x : Int64} {z : Int} (h : x.toInt = z) : x = Int64.ofInt z := by rw [← h, Int64.ofInt_toInt]
theorem i32_lo (x : Int32) : -2147483648 ≤ x.toInt := Int32.le_toInt x
theorem i32_hi (x : Int32) : x.toInt ≤ 2147483647 := Int.le_of_lt_add_one (Int32.toInt_lt x)
theorem i64_lo (x : Int64) : -9223372036854775808 ≤ x.toInt := Int64.le_toInt x
theorem i64_hi (x : Int64) : x.toInt ≤ 9223372036854775807 := Int.le_of_lt_add_one (Int64.toInt_lt x)
/-- an operation of two ints: of two known ones by itself; else by k: 1 sum, 2 difference, 3 and with a mask -/
def eApx (k : Nat) (l1 h1 l2 h2 : Int) : eV := match k with
  | 1 => bif decide (-2147483648 ≤ l1 + l2) && decide (h1 + h2 ≤ 2147483647) then (0, 0, l1 + l2, h1 + h2) else eTop
  | 2 => bif decide (-2147483648 ≤ l1 - h2) && decide (h1 - l2 ≤ 2147483647) then (0, 0, l1 - h2, h1 - l2) else eTop
  | 3 => bif decide (0 ≤ l2) then (0, 0, 0, h2) else eTop
  | _ => eTop
def eBn9 (f : Int32 → Int32 → Int32) (k : Nat) (B : eB) (a b : eV) : eV :=
  bif decide (eLo B a = eHi B a) && decide (eLo B b = eHi B b) then eI (f (Int32.ofInt (eLo B a)) (Int32.ofInt (eLo B b))).toInt else eApx k (eLo B a) (eHi B a) (eLo B b) (eHi B b)
/-- sums and differences within bounds need no ints of the machine -/
def eBin (f : Int32 → Int32 → Int32) (k : Nat) (B : eB) (a b : eV) : eV := match k with
  | 1 => bif decide (-2147483648 ≤ eLo B a + eLo B b) && decide (eHi B a + eHi B b ≤ 2147483647) then (0, 0, eLo B a + eLo B b, eHi B a + eHi B b) else eBn9 f 1 B a b
  | 2 => bif decide (-2147483648 ≤ eLo B a - eHi B b) && decide (eHi B a - eLo B b ≤ 2147483647) then (0, 0, eLo B a - eHi B b, eHi B a - eLo B b) else eBn9 f 2 B a b
  | k => eBn9 f k B a b
theorem eTop_ok {ρ : Nat → Int} (x : Int32) : gN ρ eTop x.toInt := gN_iv (i32_lo x) (i32_hi x)
theorem eTopL_ok {ρ : Nat → Int} (x : Int64) : gN ρ eTopL x.toInt := gN_iv (i64_lo x) (i64_hi x)
/-- what an operation must keep to where its values aren't known -/
def eApxOk (f : Int32 → Int32 → Int32) (k : Nat) : Prop := ∀ (x y : Int32) (l1 h1 l2 h2 : Int), l1 ≤ x.toInt → x.toInt ≤ h1 → l2 ≤ y.toInt → y.toInt ≤ h2 → ∀ ρ, gN ρ (eApx k l1 h1 l2 h2) (f x y).toInt
theorem eApx0 (f : Int32 → Int32 → Int32) : eApxOk f 0 := fun x y _ _ _ _ _ _ _ _ _ => eTop_ok _
theorem i32_add_exact {x y : Int32} (h1 : -2147483648 ≤ x.toInt + y.toInt) (h2 : x.toInt + y.toInt ≤ 2147483647) : (x + y).toInt = x.toInt + y.toInt := by
  rw [Int32.toInt_add]
  exact Int.bmod_eq_of_le (by omega) (by omega)
theorem i32_sub_exact {x y : Int32} (h1 : -2147483648 ≤ x.toInt - y.toInt) (h2 : x.toInt - y.toInt ≤ 2147483647) : (x - y).toInt = x.toInt - y.toInt := by
  rw [Int32.toInt_sub]
  exact Int.bmod_eq_of_le (by omega) (by omega)
theorem eApx1 : eApxOk (fun x y => x + y) 1 := by
  intro x y l1 h1 l2 h2 a b c d ρ
  unfold eApx
  dsimp only
  cases hd : (decide (-2147483648 ≤ l1 + l2) && decide (h1 + h2 ≤ 2147483647)) with
  | false => exact eTop_ok _
  | true =>
    rw [Bool.and_eq_true, decide_eq_true_eq, decide_eq_true_eq] at hd
    rw [cond_true, i32_add_exact (by omega) (by omega)]
    exact gN_iv (by omega) (by omega)
theorem eApx2 : eApxOk (fun x y => x - y) 2 := by
  intro x y l1 h1 l2 h2 a b c d ρ
  unfold eApx
  dsimp only
  cases hd : (decide (-2147483648 ≤ l1 - h2) && decide (h1 - l2 ≤ 2147483647)) with
  | false => exact eTop_ok _
  | true =>
    rw [Bool.and_eq_true, decide_eq_true_eq, decide_eq_true_eq] at hd
    rw [cond_true, i32_sub_exact (by omega) (by omega)]
    exact gN_iv (by omega) (by omega)
theorem i32_and_bounds {x y : Int32} (hy : 0 ≤ y.toInt) : 0 ≤ (x &&& y).toInt ∧ (x &&& y).toInt ≤ y.toInt := by
  have hyn : y.toInt = (y.toBitVec.toNat : Int) := by
    have h1 : y.toInt = y.toBitVec.toInt := rfl
    rw [h1] at hy ⊢
    rw [BitVec.toInt_eq_toNat_cond] at hy ⊢
    have := y.toBitVec.isLt
    split at hy <;> rename_i hc
    · rw [if_pos hc]
    · omega
  have hlt : y.toBitVec.toNat < 2147483648 := by
    have := i32_hi y
    omega
  have hle : (x &&& y).toBitVec.toNat ≤ y.toBitVec.toNat := by
    rw [Int32.toBitVec_and, BitVec.toNat_and]
    exact Nat.and_le_right
  have h2 : (x &&& y).toInt = ((x &&& y).toBitVec.toNat : Int) := by
    have h1 : (x &&& y).toInt = (x &&& y).toBitVec.toInt := rfl
    rw [h1, BitVec.toInt_eq_toNat_cond, if_pos (by omega)]
  omega
theorem eApx3 : eApxOk (fun x y => x &&& y) 3 := by
  intro x y l1 h1 l2 h2 a b c d ρ
  unfold eApx
  dsimp only
  cases hd : decide (0 ≤ l2) with
  | false => exact eTop_ok _
  | true =>
    rw [decide_eq_true_eq] at hd
    obtain ⟨h3, h4⟩ := i32_and_bounds (x := x) (y := y) (by omega)
    rw [cond_true]
    exact gN_iv h3 (by omega)
theorem eBn9_ok {f : Int32 → Int32 → Int32} {k : Nat} (hk : eApxOk f k) {ρ : Nat → Int} {B : eB} (hB : gB ρ B) {a b : eV} {x y : Int32} (ha : gN ρ a x.toInt) (hb : gN ρ b y.toInt) : gN ρ (eBn9 f k B a b) (f x y).toInt := by
  have a1 := eLo_ok hB ha
  have a2 := eHi_ok hB ha
  have b1 := eLo_ok hB hb
  have b2 := eHi_ok hB hb
  unfold eBn9
  cases hd : (decide (eLo B a = eHi B a) && decide (eLo B b = eHi B b)) with
  | false => exact hk x y _ _ _ _ a1 a2 b1 b2 ρ
  | true =>
    rw [Bool.and_eq_true, decide_eq_true_eq, decide_eq_true_eq] at hd
    rw [cond_true, ← i32_of (x := x) (z := eLo B a) (by omega), ← i32_of (x := y) (z := eLo B b) (by omega)]
    exact gN_I _
theorem eBn9_int (f : Int32 → Int32 → Int32) (k : Nat) (B : eB) (a b : eV) : ∃ lo hi, eBn9 f k B a b = (0, 0, lo, hi) := by
  unfold eBn9
  cases (decide (eLo B a = eHi B a) && decide (eLo B b = eHi B b)) with
  | true => exact ⟨_, _, rfl⟩
  | false =>
    rw [cond_false]
    unfold eApx
    split
    · cases (decide (-2147483648 ≤ eLo B a + eLo B b) && decide (eHi B a + eHi B b ≤ 2147483647)) <;> exact ⟨_, _, rfl⟩
    · cases (decide (-2147483648 ≤ eLo B a - eHi B b) && decide (eHi B a - eLo B b ≤ 2147483647)) <;> exact ⟨_, _, rfl⟩
    · cases decide (0 ≤ eLo B b) <;> exact ⟨_, _, rfl⟩
    · exact ⟨_, _, rfl⟩
theorem eBin_ok {f : Int32 → Int32 → Int32} {k : Nat} (hk : eApxOk f k) {ρ : Nat → Int} {B : eB} (hB : gB ρ B) {a b : eV} {x y : Int32} (ha : gN ρ a x.toInt) (hb : gN ρ b y.toInt) : gN ρ (eBin f k B a b) (f x y).toInt := by
  have a1 := eLo_ok hB ha
  have a2 := eHi_ok hB ha
  have b1 := eLo_ok hB hb
  have b2 := eHi_ok hB hb
  have h9 := hk x y _ _ _ _ a1 a2 b1 b2 ρ
  unfold eBin
  split
  · cases hd : (decide (-2147483648 ≤ eLo B a + eLo B b) && decide (eHi B a + eHi B b ≤ 2147483647)) with
    | false => exact eBn9_ok hk hB ha hb
    | true =>
      unfold eApx at h9
      rw [hd] at h9
      exact h9
  · cases hd : (decide (-2147483648 ≤ eLo B a - eHi B b) && decide (eHi B a - eLo B b ≤ 2147483647)) with
    | false => exact eBn9_ok hk hB ha hb
    | true =>
      unfold eApx at h9
      rw [hd] at h9
      exact h9
  · exact eBn9_ok hk hB ha hb
theorem eBin_int (f : Int32 → Int32 → Int32) (k : Nat) (B : eB) (a b : eV) : ∃ lo hi, eBin f k B a b = (0, 0, lo, hi) := by
  unfold eBin
  split
  · cases (decide (-2147483648 ≤ eLo B a + eLo B b) && decide (eHi B a + eHi B b ≤ 2147483647)) with
    | true => exact ⟨_, _, rfl⟩
    | false => exact eBn9_int f 1 B a b
  · cases (decide (-2147483648 ≤ eLo B a - eHi B b) && decide (eHi B a - eLo B b ≤ 2147483647)) with
    | true => exact ⟨_, _, rfl⟩
    | false => exact eBn9_int f 2 B a b
  · exact eBn9_int f _ B a b
theorem eBin_gV {f : Int32 → Int32 → Int32} {k : Nat} (hk : eApxOk f k) {ρ : Nat → Int} {ad : Nat → Nat} {sb : Nat} {B : eB} (hB : gB ρ B) {a b : eV} {x y : Int32} (ha : gN ρ a x.toInt) (hb : gN ρ b y.toInt) : gV ρ ad sb (eBin f k B a b) (.int (f x y)) := by
  have h := eBin_ok hk hB ha hb
  obtain ⟨lo, hi, e⟩ := eBin_int f k B a b
  rw [e] at h ⊢
  exact gV_int h
/-- of one int -/
def eUn (f : Int32 → Int32) (B : eB) (a : eV) (lo hi : Int) : eV := bif decide (eLo B a = eHi B a) then eI (f (Int32.ofInt (eLo B a))).toInt else (0, 0, lo, hi)
theorem eUn_gV {f : Int32 → Int32} {ρ : Nat → Int} {ad : Nat → Nat} {sb : Nat} {B : eB} (hB : gB ρ B) {a : eV} {x : Int32} (ha : gN ρ a x.toInt) {lo hi : Int} (h1 : lo ≤ (f x).toInt) (h2 : (f x).toInt ≤ hi) : gV ρ ad sb (eUn f B a lo hi) (.int (f x)) := by
  have a1 := eLo_ok hB ha
  have a2 := eHi_ok hB ha
  unfold eUn
  cases hd : decide (eLo B a = eHi B a) with
  | false => exact gV_int (gN_iv h1 h2)
  | true =>
    rw [decide_eq_true_eq] at hd
    rw [cond_true, ← i32_of (x := x) (z := eLo B a) (by omega)]
    exact gV_int (gN_I _)
/-- of two longs: known ones -/
def eBinL (f : Int64 → Int64 → Int64) (B : eB) (a b : eV) : eV :=
  bif decide (eLo B a = eHi B a) && decide (eLo B b = eHi B b) then eJ (f (Int64.ofInt (eLo B a)) (Int64.ofInt (eLo B b))).toInt else eTopL
theorem gN_J {ρ : Nat → Int} (z : Int) : gN ρ (eJ z) z := ⟨fun i h => (by cases h), Int.le_refl _, Int.le_refl _⟩
theorem eBinL_gV {f : Int64 → Int64 → Int64} {ρ : Nat → Int} {ad : Nat → Nat} {sb : Nat} {B : eB} (hB : gB ρ B) {a b : eV} {x y : Int64} (ha : gN ρ a x.toInt) (hb : gN ρ b y.toInt) : gV ρ ad sb (eBinL f B a b) (.long (f x y)) := by
  have a1 := eLo_ok hB ha
  have a2 := eHi_ok hB ha
  have b1 := eLo_ok hB hb
  have b2 := eHi_ok hB hb
  unfold eBinL
  cases hd : (decide (eLo B a = eHi B a) && decide (eLo B b = eHi B b)) with
  | false => exact gV_long (eTopL_ok _)
  | true =>
    rw [Bool.and_eq_true, decide_eq_true_eq, decide_eq_true_eq] at hd
    rw [cond_true, ← i64_of (x := x) (z := eLo B a) (by omega), ← i64_of (x := y) (z := eLo B b) (by omega)]
    exact gV_long (gN_J _)
def eShL (f : Int64 → Int32 → Int64) (B : eB) (a b : eV) : eV :=
  bif decide (eLo B a = eHi B a) && decide (eLo B b = eHi B b) then eJ (f (Int64.ofInt (eLo B a)) (Int32.ofInt (eLo B b))).toInt else eTopL
theorem eShL_gV {f : Int64 → Int32 → Int64} {ρ : Nat → Int} {ad : Nat → Nat} {sb : Nat} {B : eB} (hB : gB ρ B) {a b : eV} {x : Int64} {y : Int32} (ha : gN ρ a x.toInt) (hb : gN ρ b y.toInt) : gV ρ ad sb (eShL f B a b) (.long (f x y)) := by
  have a1 := eLo_ok hB ha
  have a2 := eHi_ok hB ha
  have b1 := eLo_ok hB hb
  have b2 := eHi_ok hB hb
  unfold eShL
  cases hd : (decide (eLo B a = eHi B a) && decide (eLo B b = eHi B b)) with
  | false => exact gV_long (eTopL_ok _)
  | true =>
    rw [Bool.and_eq_true, decide_eq_true_eq, decide_eq_true_eq] at hd
    rw [cond_true, ← i64_of (x := x) (z := eLo B a) (by omega), ← i32_of (x := y) (z := eLo B b) (by omega)]
    exact gV_long (gN_J _)
