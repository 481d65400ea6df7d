/-! ===== THE RULES: what follows of a text's grammar ===== -/
/-- a relation over variables: its kind; of each of the four arguments which variable, and how much more -/
abbrev eRl : Type := Nat × List (Nat × Int)
/-- what is told; out of what; bounds of variables; what a variable isn't; which is no more than which, so much less -/
abbrev eRu : Type := eRl × List eRl × List (Nat × Int × Int) × List (Nat × List Int) × List (Nat × Nat × Int)
def vx (x : Nat → Int) (ps : List (Nat × Int)) (k : Nat) : Int := match ps[k]? with
  | some p => x p.1 + p.2
  | none => 0
def rlH (x : Nat → Int) (r : eRl) : Prop := RK r.1 (vx x r.2 0) (vx x r.2 1) (vx x r.2 2) (vx x r.2 3)
def ruH (r : eRu) : Prop := ∀ x : Nat → Int, (∀ p ∈ r.2.1, rlH x p) → (∀ c ∈ r.2.2.1, c.2.1 ≤ x c.1 ∧ x c.1 ≤ c.2.2) → (∀ c ∈ r.2.2.2.1, x c.1 ∉ c.2) → (∀ c ∈ r.2.2.2.2, x c.1 + c.2.2 ≤ x c.2.1) → rlH x r.1
/-- variables as they are: a, b, c, d -/
def vr (k a b c d : Nat) : eRl := (k, [(a, 0), (b, 0), (c, 0), (d, 0)])
theorem vr_H {x : Nat → Int} {k a b c d : Nat} : rlH x (vr k a b c d) ↔ RK k (x a) (x b) (x c) (x d) := by
  show RK k (x a + 0) (x b + 0) (x c + 0) (x d + 0) ↔ _
  rw [Int.add_zero, Int.add_zero, Int.add_zero, Int.add_zero]
theorem RK_f {k : Nat} {a b c d : Int} (h : k < 1000) : RK k a b c d ↔ d = FK k a b c := by
  unfold RK
  rw [show k / 1000 = 0 by omega]
  exact Iff.rfl
theorem RK_t {k : Nat} {a b c d : Int} (h : k < 1000) : RK (2000 + k) a b c d ↔ (c = 0 → FK k a b 0 = d) ∧ (c ≠ 0 → FK k a b 0 = -(1 + c + 8 * d)) := by
  unfold RK
  rw [show (2000 + k) / 1000 = 2 by omega, show 2000 + k - 2000 = k by omega]
  exact Iff.rfl
theorem RK_tm {k : Nat} (h : k < 1000) {a b c d : Int} (r : RK (2000 + k) a b c d) : c ≠ 0 → FK k a b 0 = -(1 + c + 8 * d) := ((RK_t h).mp r).2
theorem RK_ti {k : Nat} (h : k < 1000) {a b c d : Int} (hc : c ≠ 0) (e : FK k a b 0 = -(1 + c + 8 * d)) : RK (2000 + k) a b c d := (RK_t h).mpr ⟨fun e9 => absurd e9 hc, fun _ => e⟩
theorem RK_t0 {k : Nat} (h : k < 1000) {a b d : Int} : RK (2000 + k) a b 0 d ↔ RK k a b 0 d := by
  rw [RK_t h, RK_f h]
  exact ⟨fun e => (e.1 rfl).symm, fun e => ⟨fun _ => e.symm, fun e9 => absurd rfl e9⟩⟩
theorem RK_e {i : Nat} {a b c d : Int} (h : i < 1000) : RK (3000 + i) a b c d ↔ FK (eqT i).1.1 a b (eqT i).1.2 = FK (eqT i).2.1 a c (eqT i).2.2 := by
  unfold RK
  rw [show (3000 + i) / 1000 = 3 by omega, show 3000 + i - 3000 = i by omega]
  exact Iff.rfl
theorem FK_4 {m : Nat} (hm : m < 10) {a b c : Int} : FK (40 + m) a b c = rOr (dc a) m b.toNat := by
  obtain ⟨h1, h2⟩ := FK_l hm 4 (show 40 + m = 10 * 4 + m by omega)
  unfold FK
  rw [h1, h2]
  rfl
theorem FK_5 {m : Nat} (hm : m < 10) {a b c : Int} : FK (50 + m) a b c = rAnd (dc a) (rOr (dc a) m) b.toNat := by
  obtain ⟨h1, h2⟩ := FK_l hm 5 (show 50 + m = 10 * 5 + m by omega)
  unfold FK
  rw [h1, h2]
  rfl
theorem FK_6 {m : Nat} (hm : m < 10) {a b c : Int} : FK (60 + m) a b c = rNotN (dc a) (rOr (dc a) m) 6 b.toNat := by
  obtain ⟨h1, h2⟩ := FK_l hm 6 (show 60 + m = 10 * 6 + m by omega)
  unfold FK
  rw [h1, h2]
  rfl
theorem FK_7 {m : Nat} (hm : m < 10) {a b c : Int} : FK (70 + m) a b c = rTest (dc a) (rOr (dc a) m) b.toNat := by
  obtain ⟨h1, h2⟩ := FK_l hm 7 (show 70 + m = 10 * 7 + m by omega)
  unfold FK
  rw [h1, h2]
  rfl
theorem FK_8 {m : Nat} (hm : m < 10) {a b c : Int} : FK (80 + m) a b c = rSum (dc a) (rOr (dc a) m) b.toNat := by
  obtain ⟨h1, h2⟩ := FK_l hm 8 (show 80 + m = 10 * 8 + m by omega)
  unfold FK
  rw [h1, h2]
  rfl
theorem FK_9 {m : Nat} (hm : m < 10) {a b c : Int} : FK (90 + m) a b c = rProd (dc a) (rOr (dc a) m) b.toNat := by
  obtain ⟨h1, h2⟩ := FK_l hm 9 (show 90 + m = 10 * 9 + m by omega)
  unfold FK
  rw [h1, h2]
  rfl
theorem FK_10 {m : Nat} (hm : m < 10) {a b c : Int} : FK (100 + m) a b c = rPart (dc a) (rOr (dc a) m) b.toNat := by
  obtain ⟨h1, h2⟩ := FK_l hm 10 (show 100 + m = 10 * 10 + m by omega)
  unfold FK
  rw [h1, h2]
  rfl
theorem FK_11 {m : Nat} (hm : m < 10) {a b c : Int} : FK (110 + m) a b c = rst (dc a) (spM (dc a)) (rPart (dc a) (rOr (dc a) m)) b.toNat := by
  obtain ⟨h1, h2⟩ := FK_l hm 11 (show 110 + m = 10 * 11 + m by omega)
  unfold FK
  rw [h1, h2]
  rfl
theorem FK_12 {m : Nat} (hm : m < 10) {a b c : Int} : FK (120 + m) a b c = rst (dc a) (spAd (dc a)) (rProd (dc a) (rOr (dc a) m)) b.toNat := by
  obtain ⟨h1, h2⟩ := FK_l hm 12 (show 120 + m = 10 * 12 + m by omega)
  unfold FK
  rw [h1, h2]
  rfl
theorem FK_13 {m : Nat} (hm : m < 10) {a b c : Int} : FK (130 + m) a b c = rst (dc a) (isWd (dc a) wAnd) (rNotN (dc a) (rOr (dc a) m) 6) b.toNat := by
  obtain ⟨h1, h2⟩ := FK_l hm 13 (show 130 + m = 10 * 13 + m by omega)
  unfold FK
  rw [h1, h2]
  rfl
theorem FK_14 {m : Nat} (hm : m < 10) {a b c : Int} : FK (140 + m) a b c = rst (dc a) (isWd (dc a) wOr) (rAnd (dc a) (rOr (dc a) m)) b.toNat := by
  obtain ⟨h1, h2⟩ := FK_l hm 14 (show 140 + m = 10 * 14 + m by omega)
  unfold FK
  rw [h1, h2]
  rfl
theorem FK_15 {m : Nat} (hm : m < 10) {a b c : Int} : FK (150 + m) a b c = rNotN (dc a) (rOr (dc a) m) c.toNat b.toNat := by
  obtain ⟨h1, h2⟩ := FK_l hm 15 (show 150 + m = 10 * 15 + m by omega)
  unfold FK
  rw [h1, h2]
  rfl
theorem FK_4k {a b c : Int} : FK 4 a b c = kd (dc a) b.toNat := rfl
theorem FK_8k {a b c : Int} : FK 8 a b c = (nx (dc a) b.toNat : Nat) := rfl
theorem FK_w {i : Nat} (hi : i < 14) {a b c : Int} : FK (10 + i) a b c = bI (isWd (dc a) (wdL.getD i []) b.toNat) := by
  by_cases h : i < 10
  · obtain ⟨h1, h2⟩ := FK_l h 1 (show 10 + i = 10 * 1 + i by omega)
    unfold FK
    rw [h1, h2]
    rfl
  · obtain ⟨h1, h2⟩ := FK_l (m := i - 10) (by omega) 2 (show 10 + i = 10 * 2 + (i - 10) by omega)
    unfold FK
    rw [h1, h2, show 10 + (i - 10) = i by omega]
    rfl
theorem bI_1 {b : Bool} (h : bI b = 1) : b = true := by
  cases b with
  | true => rfl
  | false => cases h
theorem bI_n {b : Bool} (h : bI b ∉ [(1 : Int)]) : b = false := by
  cases b with
  | true => exact absurd (List.mem_singleton.mpr rfl) h
  | false => rfl
theorem bI_m {b : Bool} (h : bI b ≠ 1) : b = false := by
  cases b with
  | true => exact absurd rfl h
  | false => rfl
theorem bI_0 {b : Bool} (h : bI b = 0) : b = false := by
  cases b with
  | true => cases h
  | false => rfl
theorem FK_6k {a b c : Int} : FK 6 a b c = nm (dc a) b.toNat := rfl
theorem FK_9k {a b c : Int} : FK 9 a b c = bI (isVl (dc a) b.toNat) := rfl
theorem lm0 {α : Type} {a : α} {l : List α} : a ∈ a :: l := List.mem_cons_self
theorem lm1 {α : Type} {a b : α} {l : List α} : b ∈ a :: b :: l := List.mem_cons_of_mem _ lm0
theorem lm2 {α : Type} {a b c : α} {l : List α} : c ∈ a :: b :: c :: l := List.mem_cons_of_mem _ lm1
theorem lm3 {α : Type} {a b c d : α} {l : List α} : d ∈ a :: b :: c :: d :: l := List.mem_cons_of_mem _ lm2
theorem lm4 {α : Type} {a b c d e : α} {l : List α} : e ∈ a :: b :: c :: d :: e :: l := List.mem_cons_of_mem _ lm3
theorem lm5 {α : Type} {a b c d e f : α} {l : List α} : f ∈ a :: b :: c :: d :: e :: f :: l := List.mem_cons_of_mem _ lm4
theorem lm6 {α : Type} {a b c d e f g : α} {l : List α} : g ∈ a :: b :: c :: d :: e :: f :: g :: l := List.mem_cons_of_mem _ lm5
theorem lm7 {α : Type} {a b c d e f g h : α} {l : List α} : h ∈ a :: b :: c :: d :: e :: f :: g :: h :: l := List.mem_cons_of_mem _ lm6
abbrev big : Int := 1000000
