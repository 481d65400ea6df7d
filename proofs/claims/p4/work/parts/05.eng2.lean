/-! ===== THE ENGINE, 2: bounds ===== -/
def eLo (B : eB) (a : eV) : Int := match a.2.1 with
  | 0 => a.2.2.1
  | t + 1 => match eGet B.1 (nB t) with
    | some p => bif iLe a.2.2.1 (pO p.1 t) then pO p.1 t else a.2.2.1
    | none => a.2.2.1
def eHi (B : eB) (a : eV) : Int := match a.2.1 with
  | 0 => a.2.2.2
  | t + 1 => match eGet B.1 (nB t) with
    | some p => bif iLe (pO p.2 t) a.2.2.2 then pO p.2 t else a.2.2.2
    | none => a.2.2.2
theorem eLo_ok {ρ : Nat → Int} {B : eB} (hB : gB ρ B) {a : eV} {z : Int} (h : gN ρ a z) : eLo B a ≤ z := by
  obtain ⟨k, t, lo, hi⟩ := a
  obtain ⟨h1, h2, h3⟩ := h
  dsimp only at h1 h2 h3
  unfold eLo
  cases t with
  | zero => exact h2
  | succ i =>
    dsimp only
    cases hg : eGet B.1 (nB i) with
    | none => exact h2
    | some p =>
      dsimp only
      rw [iLe_dec, pO_eq]
      cases hd : decide (lo ≤ p.1 + nO i) with
      | true =>
        rw [cond_true, h1 i rfl]
        have := (hB.1 (nB i) p (by rw [← eGet_eq]; exact hg)).1
        omega
      | false => exact h2
theorem eHi_ok {ρ : Nat → Int} {B : eB} (hB : gB ρ B) {a : eV} {z : Int} (h : gN ρ a z) : z ≤ eHi B a := by
  obtain ⟨k, t, lo, hi⟩ := a
  obtain ⟨h1, h2, h3⟩ := h
  dsimp only at h1 h2 h3
  unfold eHi
  cases t with
  | zero => exact h3
  | succ i =>
    dsimp only
    cases hg : eGet B.1 (nB i) with
    | none => exact h3
    | some p =>
      dsimp only
      rw [iLe_dec, pO_eq]
      cases hd : decide (p.2 + nO i ≤ hi) with
      | true =>
        rw [cond_true, h1 i rfl]
        have := (hB.1 (nB i) p (by rw [← eGet_eq]; exact hg)).2
        omega
      | false => exact h3
/-- a low bound raised, a high bound let down -/
def upL (B : List (Int × Int)) (j : Nat) (z : Int) : List (Int × Int) := match eGet B j with
  | some p => bif decide (z ≤ p.1) then B else eSet B j (z, p.2)
  | none => B
def dnH (B : List (Int × Int)) (j : Nat) (z : Int) : List (Int × Int) := match eGet B j with
  | some p => bif decide (p.2 ≤ z) then B else eSet B j (p.1, z)
  | none => B
abbrev gBl (ρ : Nat → Int) (B : List (Int × Int)) : Prop := ∀ (j : Nat) (p : Int × Int), B[j]? = some p → p.1 ≤ ρ j ∧ ρ j ≤ p.2
theorem gBl_set {ρ : Nat → Int} {B : List (Int × Int)} (hB : gBl ρ B) {j : Nat} {q : Int × Int} (h : q.1 ≤ ρ j ∧ ρ j ≤ q.2) : gBl ρ (eSet B j q) := by
  intro i p hi
  rw [eSet_eq] at hi
  by_cases hij : j = i
  · subst hij
    by_cases hl : j < B.length
    · rw [List.getElem?_set_self hl] at hi
      have := Option.some.inj hi
      subst this
      exact h
    · rw [List.set_eq_of_length_le (Nat.not_lt.mp hl)] at hi
      exact hB j p hi
  · rw [List.getElem?_set_ne hij] at hi
    exact hB i p hi
theorem upL_ok {ρ : Nat → Int} {B : List (Int × Int)} (hB : gBl ρ B) {j : Nat} {z : Int} (h : z ≤ ρ j) : gBl ρ (upL B j z) := by
  unfold upL
  split
  next p hp =>
    cases hd : decide (z ≤ p.1) with
    | true => exact hB
    | false => exact gBl_set hB ⟨h, (hB j p (by rw [← eGet_eq]; exact hp)).2⟩
  next => exact hB
theorem dnH_ok {ρ : Nat → Int} {B : List (Int × Int)} (hB : gBl ρ B) {j : Nat} {z : Int} (h : ρ j ≤ z) : gBl ρ (dnH B j z) := by
  unfold dnH
  split
  next p hp =>
    cases hd : decide (p.2 ≤ z) with
    | true => exact hB
    | false => exact gBl_set hB ⟨(hB j p (by rw [← eGet_eq]; exact hp)).1, h⟩
  next => exact hB
/-- what a fact says once the name i is from lo to hi -/
def cf1 (i : Nat) (lo hi : Int) (f : eF) (B : List (Int × Int)) : List (Int × Int) := match f.1 with
  | 0 => bif Nat.beq f.2.1 i && (decide (lo = hi) && decide (f.2.2.1 = lo)) then upL B f.2.2.2.1 f.2.2.2.2 else B
  | 1 => bif Nat.beq f.2.1 i then upL B f.2.2.2.1 (lo + f.2.2.1) else bif Nat.beq f.2.2.2.1 i then dnH B f.2.1 (hi - f.2.2.1) else B
  | 2 => bif Nat.beq f.2.1 i && (decide (lo = hi) && decide (f.2.2.1 = lo)) then dnH B f.2.2.2.1 f.2.2.2.2 else B
  | _ => B
def cfA (i : Nat) (lo hi : Int) : List eF → List (Int × Int) → List (Int × Int)
  | [], B => B
  | f :: r, B => cfA i lo hi r (cf1 i lo hi f B)
theorem cf1_ok {ρ : Nat → Int} {i : Nat} {lo hi : Int} (h1 : lo ≤ ρ i) (h2 : ρ i ≤ hi) {f : eF} (hf : gF ρ f) {B : List (Int × Int)} (hB : gBl ρ B) : gBl ρ (cf1 i lo hi f B) := by
  obtain ⟨f0, f1, f2, f3, f4⟩ := f
  match f0, hf with
  | 0, hf =>
    have hf : ρ f1 = f2 → f4 ≤ ρ f3 := hf
    show gBl ρ (bif Nat.beq f1 i && (decide (lo = hi) && decide (f2 = lo)) then upL B f3 f4 else B)
    cases hb : (Nat.beq f1 i && (decide (lo = hi) && decide (f2 = lo))) with
    | false => exact hB
    | true =>
      simp only [Bool.and_eq_true, decide_eq_true_eq] at hb
      obtain ⟨c1, c2, c3⟩ := hb
      have c1 := Nat.eq_of_beq_eq_true c1
      subst c1
      exact upL_ok hB (hf (by omega))
  | 1, hf =>
    have hf : ρ f1 + f2 ≤ ρ f3 := hf
    show gBl ρ (bif Nat.beq f1 i then upL B f3 (lo + f2) else bif Nat.beq f3 i then dnH B f1 (hi - f2) else B)
    cases hb : Nat.beq f1 i with
    | true =>
      have c1 := Nat.eq_of_beq_eq_true hb
      subst c1
      exact upL_ok hB (by omega)
    | false =>
      rw [cond_false]
      cases hc : Nat.beq f3 i with
      | false => exact hB
      | true =>
        have c1 := Nat.eq_of_beq_eq_true hc
        subst c1
        exact dnH_ok hB (by omega)
  | k + 3, _ => exact hB
  | 2, hf =>
    have hf : ρ f1 = f2 → ρ f3 ≤ f4 := hf
    show gBl ρ (bif Nat.beq f1 i && (decide (lo = hi) && decide (f2 = lo)) then dnH B f3 f4 else B)
    cases hb : (Nat.beq f1 i && (decide (lo = hi) && decide (f2 = lo))) with
    | false => exact hB
    | true =>
      simp only [Bool.and_eq_true, decide_eq_true_eq] at hb
      obtain ⟨c1, c2, c3⟩ := hb
      have c1 := Nat.eq_of_beq_eq_true c1
      subst c1
      exact dnH_ok hB (hf (by omega))
theorem cfA_ok {ρ : Nat → Int} {i : Nat} {lo hi : Int} (h1 : lo ≤ ρ i) (h2 : ρ i ≤ hi) : ∀ (F : List eF) {B : List (Int × Int)}, (∀ f ∈ F, gF ρ f) → gBl ρ B → gBl ρ (cfA i lo hi F B)
  | [], _, _, hB => hB
  | f :: r, _, hF, hB => cfA_ok h1 h2 r (fun g hg => hF g (List.mem_cons_of_mem _ hg)) (cf1_ok h1 h2 (hF f List.mem_cons_self) hB)
/-- the bounds when a is no less than lo and no more than hi -/
def eRef (B : eB) (a : eV) (lo hi : Int) : Option eB :=
  let l := bif decide (eLo B a ≤ lo) then lo else eLo B a
  let h := bif decide (hi ≤ eHi B a) then hi else eHi B a
  bif decide (l ≤ h) then (match a.2.1 with | 0 => some B | t + 1 => some (cfA (nB t) (l - nO t) (h - nO t) B.2 (eSet B.1 (nB t) (l - nO t, h - nO t)), B.2)) else none
theorem eRef_ok {ρ : Nat → Int} {B : eB} (hB : gB ρ B) {a : eV} {z : Int} (h : gN ρ a z) {lo hi : Int} (h1 : lo ≤ z) (h2 : z ≤ hi) : ∃ B', eRef B a lo hi = some B' ∧ gB ρ B' := by
  have a1 := eLo_ok hB h
  have a2 := eHi_ok hB h
  obtain ⟨l, el⟩ : ∃ l, l = bif decide (eLo B a ≤ lo) then lo else eLo B a := ⟨_, rfl⟩
  obtain ⟨m, em⟩ : ∃ m, m = bif decide (hi ≤ eHi B a) then hi else eHi B a := ⟨_, rfl⟩
  have b1 : l ≤ z := by
    rw [el]
    cases hd : decide (eLo B a ≤ lo) <;> simp only [cond_true, cond_false] <;> assumption
  have b2 : z ≤ m := by
    rw [em]
    cases hd : decide (hi ≤ eHi B a) <;> simp only [cond_true, cond_false] <;> assumption
  have b3 : decide (l ≤ m) = true := decide_eq_true (Int.le_trans b1 b2)
  unfold eRef
  dsimp only
  rw [← el, ← em, b3, cond_true]
  obtain ⟨k, t, lo9, hi9⟩ := a
  obtain ⟨c1, -, -⟩ := h
  dsimp only at c1 ⊢
  cases t with
  | zero => exact ⟨B, rfl, hB⟩
  | succ i =>
    refine ⟨_, rfl, ?_, hB.2⟩
    have c2 := c1 i rfl
    exact cfA_ok (by omega) (by omega) B.2 hB.2 (gBl_set hB.1 ⟨by dsimp only; omega, by dsimp only; omega⟩)
/-- two values of one name: how far apart -/
def eDif (a b : eV) : Option Int := match a.2.1 with
  | 0 => none
  | t + 1 => match b.2.1 with
    | 0 => none
    | u + 1 => bif Nat.beq (nB t) (nB u) then some (nO t - nO u) else none
theorem eDif_ok {ρ : Nat → Int} {a b : eV} {x y d : Int} (ha : gN ρ a x) (hb : gN ρ b y) (h : eDif a b = some d) : x - y = d := by
  obtain ⟨k, t, lo, hi⟩ := a
  obtain ⟨k', u, lo', hi'⟩ := b
  unfold eDif at h
  dsimp only at h
  cases t with
  | zero => cases h
  | succ t =>
    cases u with
    | zero => cases h
    | succ u =>
      dsimp only at h
      cases hb9 : Nat.beq (nB t) (nB u) with
      | false => rw [hb9] at h; cases h
      | true =>
        rw [hb9] at h
        have e1 := Nat.eq_of_beq_eq_true hb9
        have e2 : nO t - nO u = d := Option.some.inj h
        have e3 := ha.1 t rfl
        have e4 := hb.1 u rfl
        rw [e1] at e3
        omega
/-- the tag of c more -/
def tSh (g : Nat) (c : Int) : Nat := match g with
  | 0 => 0
  | t + 1 => bif decide (0 ≤ ((t % 8192 : Nat) : Int) + c) && decide (((t % 8192 : Nat) : Int) + c < 8192) then (t / 8192) * 8192 + (((t % 8192 : Nat) : Int) + c).toNat + 1 else 0
theorem tSh_ok {ρ : Nat → Int} {g : Nat} {c z : Int} (h : ∀ t, g = t + 1 → z = ρ (nB t) + nO t) : ∀ t, tSh g c = t + 1 → z + c = ρ (nB t) + nO t := by
  intro t ht
  unfold tSh at ht
  cases g with
  | zero => cases ht
  | succ u =>
    dsimp only at ht
    cases hb : (decide (0 ≤ ((u % 8192 : Nat) : Int) + c) && decide (((u % 8192 : Nat) : Int) + c < 8192)) with
    | false => rw [hb] at ht; cases ht
    | true =>
      rw [hb, cond_true] at ht
      rw [Bool.and_eq_true, decide_eq_true_eq, decide_eq_true_eq] at hb
      have e0 := h u rfl
      have e1 : t = (u / 8192) * 8192 + (((u % 8192 : Nat) : Int) + c).toNat := by omega
      have e2 : nB t = nB u := by unfold nB; omega
      have e3 : nO t = nO u + c := by unfold nO; omega
      rw [e2, e3]
      omega
def eRef2 (B : eB) (a : eV) (l1 h1 : Int) (b : eV) (l2 h2 : Int) : List eB := match eRef B a l1 h1 with
  | none => []
  | some B1 => match eRef B1 b l2 h2 with
    | none => []
    | some B2 => [B2]
theorem eRef2_ok {ρ : Nat → Int} {B : eB} (hB : gB ρ B) {a b : eV} {x y : Int} (ha : gN ρ a x) (hb : gN ρ b y) {l1 h1 l2 h2 : Int} (p1 : l1 ≤ x) (p2 : x ≤ h1) (p3 : l2 ≤ y) (p4 : y ≤ h2) : ∃ B', B' ∈ eRef2 B a l1 h1 b l2 h2 ∧ gB ρ B' := by
  obtain ⟨B1, e1, g1⟩ := eRef_ok hB ha p1 p2
  obtain ⟨B2, e2, g2⟩ := eRef_ok g1 hb p3 p4
  unfold eRef2
  rw [e1]
  dsimp only
  rw [e2]
  exact ⟨B2, List.mem_singleton.mpr rfl, g2⟩
/-- facts say: x and v more is no more than y -/
def eFct (B : eB) (x y : eV) (v : Int) : Bool := match x.2.1, y.2.1 with
  | t + 1, u + 1 => B.2.any (fun f => Nat.beq f.1 1 && (Nat.beq f.2.1 (nB t) && (Nat.beq f.2.2.2.1 (nB u) && decide (v + nO t - nO u ≤ f.2.2.1))))
  | _, _ => false
theorem eFct_ok {ρ : Nat → Int} {B : eB} (hB : gB ρ B) {a b : eV} {x y v : Int} (ha : gN ρ a x) (hb : gN ρ b y) (h : eFct B a b v = true) : x + v ≤ y := by
  unfold eFct at h
  split at h
  next t u ht hu =>
    have e1 := ha.1 t ht
    have e2 := hb.1 u hu
    obtain ⟨f, k1, k2⟩ := List.any_eq_true.mp h
    simp only [Bool.and_eq_true, decide_eq_true_eq] at k2
    obtain ⟨c0, c1, c2, c3⟩ := k2
    have hf := hB.2 f k1
    obtain ⟨f0, f1, f2, f3, f4⟩ := f
    replace c0 := Nat.eq_of_beq_eq_true c0
    replace c1 := Nat.eq_of_beq_eq_true c1
    replace c2 := Nat.eq_of_beq_eq_true c2
    dsimp only at c0 c1 c2 c3
    subst c0
    subst c1
    subst c2
    have hf : ρ (nB t) + f2 ≤ ρ (nB u) := hf
    omega
  next => cases h
/-- the fact that x and v more is no more than y, if both have names -/
def eAdF (x y : eV) (v : Int) (B : eB) : eB := match x.2.1, y.2.1 with
  | t + 1, u + 1 => bif eFct B x y v then B else (B.1, (1, nB t, v + nO t - nO u, nB u, 0) :: B.2)
  | _, _ => B
theorem eAdF_ok {ρ : Nat → Int} {B : eB} (hB : gB ρ B) {a b : eV} {x y v : Int} (ha : gN ρ a x) (hb : gN ρ b y) (h : x + v ≤ y) : gB ρ (eAdF a b v B) := by
  unfold eAdF
  split
  next t u ht hu =>
    have e1 := ha.1 t ht
    have e2 := hb.1 u hu
    cases eFct B a b v with
    | true => exact hB
    | false =>
      refine ⟨hB.1, fun f hf => ?_⟩
      rcases List.mem_cons.mp hf with q | q
      · subst q
        show ρ (nB t) + (v + nO t - nO u) ≤ ρ (nB u)
        omega
      · exact hB.2 f q
  next => exact hB
/-- x < y: bounds where it holds, and where it doesn't -/
def eLt (B : eB) (x y : eV) : List eB := match eDif x y with
  | some d => bif decide (d < 0) then [B] else []
  | none => bif decide (eLo B x < eHi B y) && !(eFct B y x 0) then (eRef2 B x (eLo B x) (eHi B y - 1) y (eLo B x + 1) (eHi B y)).map (eAdF x y 1) else []
def eLe (B : eB) (x y : eV) : List eB := match eDif x y with
  | some d => bif decide (d ≤ 0) then [B] else []
  | none => bif decide (eLo B x ≤ eHi B y) && !(eFct B y x 1) then (eRef2 B x (eLo B x) (eHi B y) y (eLo B x) (eHi B y)).map (eAdF x y 0) else []
def eEqs (B : eB) (x y : eV) : List eB := match eDif x y with
  | some d => bif decide (d = 0) then [B] else []
  | none => bif decide (eLo B x ≤ eHi B y) && decide (eLo B y ≤ eHi B x) then eRef2 B x (eLo B y) (eHi B y) y (eLo B x) (eHi B x) else []
def eNe (B : eB) (x y : eV) : List eB := bif Nat.beq x.2.1 0 && Nat.beq y.2.1 0 then (bif decide (eLo B x = eHi B x) && (decide (eLo B y = eHi B y) && decide (eLo B x = eLo B y)) then [] else [B]) else eLt B x y ++ eLt B y x
theorem eLt_ok {ρ : Nat → Int} {B : eB} (hB : gB ρ B) {a b : eV} {x y : Int} (ha : gN ρ a x) (hb : gN ρ b y) (h : x < y) : ∃ B', B' ∈ eLt B a b ∧ gB ρ B' := by
  have a1 := eLo_ok hB ha
  have a2 := eHi_ok hB hb
  unfold eLt
  split
  next d hd =>
    have := eDif_ok ha hb hd
    rw [decide_eq_true (show d < 0 by omega), cond_true]
    exact ⟨B, List.mem_singleton.mpr rfl, hB⟩
  next =>
    have hn : eFct B b a 0 = false := by
      cases hc : eFct B b a 0 with
      | false => rfl
      | true => have := eFct_ok hB hb ha hc; omega
    rw [decide_eq_true (show eLo B a < eHi B b by omega), hn, show (true && !false) = true from rfl, cond_true]
    obtain ⟨B1, m1, m2⟩ := eRef2_ok hB ha hb (l1 := eLo B a) (h1 := eHi B b - 1) (l2 := eLo B a + 1) (h2 := eHi B b) a1 (by omega) (by omega) a2
    exact ⟨_, List.mem_map.mpr ⟨B1, m1, rfl⟩, eAdF_ok m2 ha hb (by omega)⟩
theorem eLe_ok {ρ : Nat → Int} {B : eB} (hB : gB ρ B) {a b : eV} {x y : Int} (ha : gN ρ a x) (hb : gN ρ b y) (h : x ≤ y) : ∃ B', B' ∈ eLe B a b ∧ gB ρ B' := by
  have a1 := eLo_ok hB ha
  have a2 := eHi_ok hB hb
  unfold eLe
  split
  next d hd =>
    have := eDif_ok ha hb hd
    rw [decide_eq_true (show d ≤ 0 by omega), cond_true]
    exact ⟨B, List.mem_singleton.mpr rfl, hB⟩
  next =>
    have hn : eFct B b a 1 = false := by
      cases hc : eFct B b a 1 with
      | false => rfl
      | true => have := eFct_ok hB hb ha hc; omega
    rw [decide_eq_true (show eLo B a ≤ eHi B b by omega), hn, show (true && !false) = true from rfl, cond_true]
    obtain ⟨B1, m1, m2⟩ := eRef2_ok hB ha hb (l1 := eLo B a) (h1 := eHi B b) (l2 := eLo B a) (h2 := eHi B b) a1 (by omega) (by omega) a2
    exact ⟨_, List.mem_map.mpr ⟨B1, m1, rfl⟩, eAdF_ok m2 ha hb (by omega)⟩
theorem eEqs_ok {ρ : Nat → Int} {B : eB} (hB : gB ρ B) {a b : eV} {x y : Int} (ha : gN ρ a x) (hb : gN ρ b y) (h : x = y) : ∃ B', B' ∈ eEqs B a b ∧ gB ρ B' := by
  have a1 := eLo_ok hB ha
  have a2 := eHi_ok hB ha
  have b1 := eLo_ok hB hb
  have b2 := eHi_ok hB hb
  unfold eEqs
  split
  next d hd =>
    have := eDif_ok ha hb hd
    rw [decide_eq_true (show d = 0 by omega), cond_true]
    exact ⟨B, List.mem_singleton.mpr rfl, hB⟩
  next =>
    rw [decide_eq_true (show eLo B a ≤ eHi B b by omega), decide_eq_true (show eLo B b ≤ eHi B a by omega), Bool.and_self, cond_true]
    exact eRef2_ok hB ha hb (by omega) (by omega) (by omega) (by omega)
theorem eNe_ok {ρ : Nat → Int} {B : eB} (hB : gB ρ B) {a b : eV} {x y : Int} (ha : gN ρ a x) (hb' : gN ρ b y) (h : x ≠ y) : ∃ B', B' ∈ eNe B a b ∧ gB ρ B' := by
  unfold eNe
  cases hb : (Nat.beq a.2.1 0 && Nat.beq b.2.1 0) with
  | true =>
    rw [cond_true]
    cases hc : (decide (eLo B a = eHi B a) && (decide (eLo B b = eHi B b) && decide (eLo B a = eLo B b))) with
    | true =>
      simp only [Bool.and_eq_true, decide_eq_true_eq] at hc
      have a1 := eLo_ok hB ha
      have a2 := eHi_ok hB ha
      have b1 := eLo_ok hB hb'
      have b2 := eHi_ok hB hb'
      exact absurd (show x = y by omega) h
    | false => exact ⟨B, List.mem_singleton.mpr rfl, hB⟩
  | false =>
  rw [cond_false]
  have hb := hb'
  rcases Int.lt_or_gt_of_ne h with h | h
  · obtain ⟨B', h1, h2⟩ := eLt_ok hB ha hb h
    exact ⟨B', List.mem_append_left _ h1, h2⟩
  · obtain ⟨B', h1, h2⟩ := eLt_ok hB hb ha h
    exact ⟨B', List.mem_append_right _ h1, h2⟩
abbrev eI (z : Int) : eV := (0, 0, z, z)
abbrev eJ (z : Int) : eV := (1, 0, z, z)
abbrev eTop : eV := (0, 0, -2147483648, 2147483647)
abbrev eTopL : eV := (1, 0, -9223372036854775808, 9223372036854775807)
theorem gN_I {ρ : Nat → Int} (z : Int) : gN ρ (eI z) z := ⟨fun i h => (by cases h), Int.le_refl _, Int.le_refl _⟩
theorem gN_iv {ρ : Nat → Int} {k : Nat} {lo hi z : Int} (h1 : lo ≤ z) (h2 : z ≤ hi) : gN ρ (k, 0, lo, hi) z := ⟨fun i h => (by cases h), h1, h2⟩
theorem gV_int {ρ : Nat → Int} {ad : Nat → Nat} {sb : eSB} {t : Nat} {lo hi : Int} {x : Int32} (h : gN ρ (0, t, lo, hi) x.toInt) : gV ρ ad sb (0, t, lo, hi) (.int x) := ⟨x, rfl, h⟩
theorem gV_long {ρ : Nat → Int} {ad : Nat → Nat} {sb : eSB} {t : Nat} {lo hi : Int} {x : Int64} (h : gN ρ (1, t, lo, hi) x.toInt) : gV ρ ad sb (1, t, lo, hi) (.long x) := ⟨x, rfl, h⟩
theorem i32_of {x : Int32} {z : Int} (h : x.toInt = z) : x = Int32.ofInt z := by rw [← h, Int32.ofInt_toInt]
theorem i64_of {x : Int64} {z : Int} (h : x.toInt = z) : x = Int64.ofInt z := by rw [← h, Int64.ofInt_toInt]
theorem i32_lo (x : Int32) : -2147483648 ≤ x.toInt := Int32.le_toInt x
theorem i32_hi (x : Int32) : x.toInt ≤ 2147483647 := Int.le_of_lt_add_one (Int32.toInt_lt x)
theorem i64_lo (x : Int64) : -9223372036854775808 ≤ x.toInt := Int64.le_toInt x
theorem i64_hi (x : Int64) : x.toInt ≤ 9223372036854775807 := Int.le_of_lt_add_one (Int64.toInt_lt x)
/-- an operation of two ints: of two known ones by itself; else by k: 1 sum, 2 difference, 3 and, 4 or, 5 <<, 6 >>, 7 product, 8 rest, 9 part, 10 xor -/
def iMin (a b : Int) : Int := bif decide (a ≤ b) then a else b
def iMax (a b : Int) : Int := bif decide (a ≤ b) then b else a
def iUp (m : Int) : Int := ((2 ^ (Nat.log2 m.toNat + 1) - 1 : Nat) : Int)
def eApx (k : Nat) (l1 h1 l2 h2 : Int) : eV := match k with
  | 1 => bif decide (-2147483648 ≤ l1 + l2) && decide (h1 + h2 ≤ 2147483647) then (0, 0, l1 + l2, h1 + h2) else eTop
  | 2 => bif decide (-2147483648 ≤ l1 - h2) && decide (h1 - l2 ≤ 2147483647) then (0, 0, l1 - h2, h1 - l2) else eTop
  | 3 => bif decide (0 ≤ l2) then (bif decide (0 ≤ l1) then (0, 0, 0, iMin h1 h2) else (0, 0, 0, h2)) else (bif decide (0 ≤ l1) then (0, 0, 0, h1) else eTop)
  | 4 => bif decide (0 ≤ l1) && (decide (0 ≤ l2) && (decide (h1 ≤ 2147483647) && decide (h2 ≤ 2147483647))) then (0, 0, 0, iUp (iMax h1 h2)) else eTop
  | 5 => bif decide (0 ≤ l1) && (decide (0 ≤ l2) && (decide (h2 ≤ 30) && decide (h1 * 2 ^ h2.toNat ≤ 2147483647))) then (0, 0, l1 * 2 ^ l2.toNat, h1 * 2 ^ h2.toNat) else eTop
  | 6 => bif decide (l2 = h2) && (decide (0 ≤ l2) && decide (l2 ≤ 31)) then (0, 0, l1 / 2 ^ l2.toNat, h1 / 2 ^ l2.toNat) else (0, 0, iMin l1 0, iMax h1 0)
  | 7 => bif decide (l2 = h2) && (decide (0 ≤ l2) && (decide (-2147483648 ≤ l1 * l2) && decide (h1 * l2 ≤ 2147483647))) then (0, 0, l1 * l2, h1 * l2) else
      (bif decide (l1 = h1) && (decide (0 ≤ l1) && (decide (-2147483648 ≤ l1 * l2) && decide (l1 * h2 ≤ 2147483647))) then (0, 0, l1 * l2, l1 * h2) else
      (bif decide (0 ≤ l1) && (decide (0 ≤ l2) && decide (h1 * h2 ≤ 2147483647)) then (0, 0, 0, h1 * h2) else eTop))
  | 8 => bif decide (1 ≤ l2) then (bif decide (0 ≤ l1) then (0, 0, 0, iMin h1 (h2 - 1)) else (0, 0, 1 - h2, h2 - 1)) else eTop
  | 9 => bif decide (1 ≤ l2) then (bif decide (l2 = h2) && decide (0 ≤ l1) then (0, 0, l1 / l2, h1 / l2) else (0, 0, iMin l1 0, iMax h1 0)) else eTop
  | 10 => bif decide (l2 = -1) && decide (h2 = -1) then (0, 0, -1 - h1, -1 - l1) else eTop
  | _ => eTop
def eBn9 (f : Int32 → Int32 → Int32) (k : Nat) (B : eB) (a b : eV) : eV :=
  bif decide (eLo B a = eHi B a) && decide (eLo B b = eHi B b) then eI (f (Int32.ofInt (eLo B a)) (Int32.ofInt (eLo B b))).toInt else eApx k (eLo B a) (eHi B a) (eLo B b) (eHi B b)
/-- sums and differences within bounds need no ints of the machine; they keep a name -/
def eBin (f : Int32 → Int32 → Int32) (k : Nat) (B : eB) (a b : eV) : eV := match k with
  | 1 => bif decide (-2147483648 ≤ eLo B a + eLo B b) && decide (eHi B a + eHi B b ≤ 2147483647) then
      (0, (bif decide (eLo B b = eHi B b) then tSh a.2.1 (eLo B b) else (bif decide (eLo B a = eHi B a) then tSh b.2.1 (eLo B a) else 0)), eLo B a + eLo B b, eHi B a + eHi B b) else eBn9 f 1 B a b
  | 2 => bif decide (-2147483648 ≤ eLo B a - eHi B b) && decide (eHi B a - eLo B b ≤ 2147483647) then
      (match eDif a b with
        | some d => eI d
        | none => (0, (bif decide (eLo B b = eHi B b) then tSh a.2.1 (- eLo B b) else 0), eLo B a - eHi B b, eHi B a - eLo B b)) else eBn9 f 2 B a b
  | k => eBn9 f k B a b
theorem eTop_ok {ρ : Nat → Int} (x : Int32) : gN ρ eTop x.toInt := gN_iv (i32_lo x) (i32_hi x)
theorem eTopL_ok {ρ : Nat → Int} (x : Int64) : gN ρ eTopL x.toInt := gN_iv (i64_lo x) (i64_hi x)
/-- what an operation must keep to where its values aren't known -/
def eApxOk (f : Int32 → Int32 → Int32) (k : Nat) : Prop := ∀ (x y : Int32) (l1 h1 l2 h2 : Int), l1 ≤ x.toInt → x.toInt ≤ h1 → l2 ≤ y.toInt → y.toInt ≤ h2 → ∀ ρ, gN ρ (eApx k l1 h1 l2 h2) (f x y).toInt
theorem eApx0 (f : Int32 → Int32 → Int32) : eApxOk f 0 := fun x y _ _ _ _ _ _ _ _ _ => eTop_ok _
theorem i32_add_exact {x y : Int32} (h1 : -2147483648 ≤ x.toInt + y.toInt) (h2 : x.toInt + y.toInt ≤ 2147483647) : (x + y).toInt = x.toInt + y.toInt := by
  rw [Int32.toInt_add]
  exact Int.bmod_eq_of_le (by omega) (by omega)
theorem i32_sub_exact {x y : Int32} (h1 : -2147483648 ≤ x.toInt - y.toInt) (h2 : x.toInt - y.toInt ≤ 2147483647) : (x - y).toInt = x.toInt - y.toInt := by
  rw [Int32.toInt_sub]
  exact Int.bmod_eq_of_le (by omega) (by omega)
theorem eApx1 : eApxOk (fun x y => x + y) 1 := by
  intro x y l1 h1 l2 h2 a b c d ρ
  unfold eApx
  dsimp only
  cases hd : (decide (-2147483648 ≤ l1 + l2) && decide (h1 + h2 ≤ 2147483647)) with
  | false => exact eTop_ok _
  | true =>
    rw [Bool.and_eq_true, decide_eq_true_eq, decide_eq_true_eq] at hd
    rw [cond_true, i32_add_exact (by omega) (by omega)]
    exact gN_iv (by omega) (by omega)
theorem eApx2 : eApxOk (fun x y => x - y) 2 := by
  intro x y l1 h1 l2 h2 a b c d ρ
  unfold eApx
  dsimp only
  cases hd : (decide (-2147483648 ≤ l1 - h2) && decide (h1 - l2 ≤ 2147483647)) with
  | false => exact eTop_ok _
  | true =>
    rw [Bool.and_eq_true, decide_eq_true_eq, decide_eq_true_eq] at hd
    rw [cond_true, i32_sub_exact (by omega) (by omega)]
    exact gN_iv (by omega) (by omega)
theorem i32_and_bounds {x y : Int32} (hy : 0 ≤ y.toInt) : 0 ≤ (x &&& y).toInt ∧ (x &&& y).toInt ≤ y.toInt := by
  have hyn : y.toInt = (y.toBitVec.toNat : Int) := by
    have h1 : y.toInt = y.toBitVec.toInt := rfl
    rw [h1] at hy ⊢
    rw [BitVec.toInt_eq_toNat_cond] at hy ⊢
    have := y.toBitVec.isLt
    split at hy <;> rename_i hc
    · rw [if_pos hc]
    · omega
  have hlt : y.toBitVec.toNat < 2147483648 := by
    have := i32_hi y
    omega
  have hle : (x &&& y).toBitVec.toNat ≤ y.toBitVec.toNat := by
    rw [Int32.toBitVec_and, BitVec.toNat_and]
    exact Nat.and_le_right
  have h2 : (x &&& y).toInt = ((x &&& y).toBitVec.toNat : Int) := by
    have h1 : (x &&& y).toInt = (x &&& y).toBitVec.toInt := rfl
    rw [h1, BitVec.toInt_eq_toNat_cond, if_pos (by omega)]
  omega
theorem i32_nat_of {x : Int32} (h : 0 ≤ x.toInt) : x.toInt = (x.toBitVec.toNat : Int) ∧ x.toBitVec.toNat < 2147483648 := by
  have h1 : x.toInt = x.toBitVec.toInt := rfl
  have h2 := i32_hi x
  rw [h1] at h h2 ⊢
  rw [BitVec.toInt_eq_toNat_cond] at h h2 ⊢
  have := x.toBitVec.isLt
  split at h <;> rename_i hc
  · rw [if_pos hc] at h2 ⊢
    exact ⟨rfl, by omega⟩
  · omega
theorem i32_of_nat {x : Int32} (h : x.toBitVec.toNat < 2147483648) : x.toInt = (x.toBitVec.toNat : Int) := by
  have h1 : x.toInt = x.toBitVec.toInt := rfl
  rw [h1, BitVec.toInt_eq_toNat_cond, if_pos (by omega)]
theorem iMin_l (a b : Int) : iMin a b ≤ a := by unfold iMin; cases h : decide (a ≤ b) <;> simp at h ⊢ <;> omega
theorem iMin_r (a b : Int) : iMin a b ≤ b := by unfold iMin; cases h : decide (a ≤ b) <;> simp at h ⊢ <;> omega
theorem le_iMin {a b z : Int} (h1 : z ≤ a) (h2 : z ≤ b) : z ≤ iMin a b := by unfold iMin; cases h : decide (a ≤ b) <;> simp <;> omega
theorem iMax_l (a b : Int) : a ≤ iMax a b := by unfold iMax; cases h : decide (a ≤ b) <;> simp at h ⊢ <;> omega
theorem iMax_r (a b : Int) : b ≤ iMax a b := by unfold iMax; cases h : decide (a ≤ b) <;> simp at h ⊢ <;> omega
theorem iMax_le {a b z : Int} (h1 : a ≤ z) (h2 : b ≤ z) : iMax a b ≤ z := by unfold iMax; cases h : decide (a ≤ b) <;> simp <;> omega
theorem i32_and_l {x y : Int32} (hx : 0 ≤ x.toInt) : 0 ≤ (x &&& y).toInt ∧ (x &&& y).toInt ≤ x.toInt := by
  have := i32_and_bounds (x := y) (y := x) hx
  rwa [Int32.and_comm] at this
theorem eApx3 : eApxOk (fun x y => x &&& y) 3 := by
  intro x y l1 h1 l2 h2 a b c d ρ
  unfold eApx
  dsimp only
  cases hd : decide (0 ≤ l2) with
  | true =>
    rw [decide_eq_true_eq] at hd
    obtain ⟨h3, h4⟩ := i32_and_bounds (x := x) (y := y) (by omega)
    rw [cond_true]
    cases he : decide (0 ≤ l1) with
    | false => exact gN_iv h3 (by omega)
    | true =>
      rw [decide_eq_true_eq] at he
      obtain ⟨h5, h6⟩ := i32_and_l (x := x) (y := y) (by omega)
      exact gN_iv h3 (le_iMin (by omega) (by omega))
  | false =>
    rw [cond_false]
    cases he : decide (0 ≤ l1) with
    | false => exact eTop_ok _
    | true =>
      rw [decide_eq_true_eq] at he
      obtain ⟨h5, h6⟩ := i32_and_l (x := x) (y := y) (by omega)
      exact gN_iv h5 (by omega)
theorem eApx4 : eApxOk (fun x y => x ||| y) 4 := by
  intro x y l1 h1 l2 h2 a b c d ρ
  unfold eApx
  dsimp only
  cases hd : (decide (0 ≤ l1) && (decide (0 ≤ l2) && (decide (h1 ≤ 2147483647) && decide (h2 ≤ 2147483647)))) with
  | false => exact eTop_ok _
  | true =>
    simp only [Bool.and_eq_true, decide_eq_true_eq] at hd
    obtain ⟨d1, d2, d3, d4⟩ := hd
    rw [cond_true]
    obtain ⟨x1, x2⟩ := i32_nat_of (x := x) (by omega)
    obtain ⟨y1, y2⟩ := i32_nat_of (x := y) (by omega)
    have m1 := iMax_l h1 h2
    have m2 := iMax_r h1 h2
    have m3 := iMax_le d3 d4
    generalize iMax h1 h2 = m at *
    have lg : m.toNat < 2 ^ (Nat.log2 m.toNat + 1) := Nat.lt_log2_self
    have o1 : (x ||| y).toBitVec.toNat < 2 ^ (Nat.log2 m.toNat + 1) := by
      rw [Int32.toBitVec_or, BitVec.toNat_or]
      exact Nat.or_lt_two_pow (by omega) (by omega)
    have o2 : (x ||| y).toBitVec.toNat < 2147483648 := by
      rw [Int32.toBitVec_or, BitVec.toNat_or]
      exact Nat.or_lt_two_pow (n := 31) x2 y2
    have o3 := i32_of_nat o2
    refine gN_iv (by omega) ?_
    unfold iUp
    omega
theorem i32_sh : ∀ k : Fin 32, ((Int32.ofNat k.val &&& 31).toBitVec.smod 32).toNat = k.val := by decide
theorem i32_shk {y : Int32} (h1 : 0 ≤ y.toInt) (h2 : y.toInt ≤ 31) : ((y &&& 31).toBitVec.smod 32).toNat = y.toInt.toNat := by
  have e : y = Int32.ofNat y.toInt.toNat := by
    have e2 : Int32.ofNat y.toInt.toNat = Int32.ofInt y.toInt := by
      rw [← Int32.ofInt_eq_ofNat, Int.toNat_of_nonneg h1]
    rw [e2, Int32.ofInt_toInt]
  have := i32_sh ⟨y.toInt.toNat, by omega⟩
  dsimp only at this
  rw [← e] at this
  exact this
theorem eApx5 : eApxOk (fun x y => x <<< (y &&& 31)) 5 := by
  intro x y l1 h1 l2 h2 a b c d ρ
  unfold eApx
  dsimp only
  cases hd : (decide (0 ≤ l1) && (decide (0 ≤ l2) && (decide (h2 ≤ 30) && decide (h1 * 2 ^ h2.toNat ≤ 2147483647)))) with
  | false => exact eTop_ok _
  | true =>
    simp only [Bool.and_eq_true, decide_eq_true_eq] at hd
    obtain ⟨d1, d2, d3, d4⟩ := hd
    rw [cond_true]
    obtain ⟨x1, x2⟩ := i32_nat_of (x := x) (by omega)
    have hk := i32_shk (y := y) (by omega) (by omega)
    have hs := pk_shl x (y &&& 31) _ hk
    obtain ⟨L1, e1⟩ := Int.eq_ofNat_of_zero_le d1
    obtain ⟨H1, e2⟩ := Int.eq_ofNat_of_zero_le (show 0 ≤ h1 by omega)
    subst e1
    subst e2
    have p1 : x.toBitVec.toNat * 2 ^ y.toInt.toNat ≤ H1 * 2 ^ h2.toNat := Nat.mul_le_mul (by omega) (Nat.pow_le_pow_right (by decide) (by omega))
    have p2 : L1 * 2 ^ l2.toNat ≤ x.toBitVec.toNat * 2 ^ y.toInt.toNat := Nat.mul_le_mul (by omega) (Nat.pow_le_pow_right (by decide) (by omega))
    have q1 : ((H1 * 2 ^ h2.toNat : Nat) : Int) = (H1 : Int) * 2 ^ h2.toNat := by simp
    have q2 : ((L1 * 2 ^ l2.toNat : Nat) : Int) = (L1 : Int) * 2 ^ l2.toNat := by simp
    have d5 : ((H1 * 2 ^ h2.toNat : Nat) : Int) ≤ 2147483647 := by rw [q1]; exact d4
    have hs2 : (x <<< (y &&& 31)).toBitVec.toNat = x.toBitVec.toNat * 2 ^ y.toInt.toNat := by
      rw [hs]
      exact Nat.mod_eq_of_lt (by omega)
    have r := i32_of_nat (x := x <<< (y &&& 31)) (by omega)
    refine gN_iv ?_ ?_
    · rw [r, hs2]
      show (L1 : Int) * 2 ^ l2.toNat ≤ _
      rw [← q2]
      exact Int.ofNat_le.mpr p2
    · rw [r, hs2]
      show _ ≤ (H1 : Int) * 2 ^ h2.toNat
      rw [← q1]
      exact Int.ofNat_le.mpr p1
theorem eApx6 : eApxOk (fun x y => x >>> (y &&& 31)) 6 := by
  intro x y l1 h1 l2 h2 a b c d ρ
  unfold eApx
  dsimp only
  cases hd : (decide (l2 = h2) && (decide (0 ≤ l2) && decide (l2 ≤ 31))) with
  | true =>
    simp only [Bool.and_eq_true, decide_eq_true_eq] at hd
    obtain ⟨d1, d2, d3⟩ := hd
    rw [cond_true]
    have hy : y.toInt = l2 := by omega
    have hs := pk_shr x (y &&& 31) _ (i32_shk (y := y) (by omega) (by omega))
    rw [Int.shiftRight_eq_div_pow, hy] at hs
    have hp : (0 : Int) < ((2 ^ l2.toNat : Nat) : Int) := by
      have := Nat.pow_pos (n := l2.toNat) (show 0 < 2 by decide)
      omega
    have q : ((2 ^ l2.toNat : Nat) : Int) = 2 ^ l2.toNat := by simp
    refine gN_iv ?_ ?_
    · rw [hs, ← q]
      exact Int.ediv_le_ediv hp a
    · rw [hs, ← q]
      exact Int.ediv_le_ediv hp b
  | false =>
    rw [cond_false]
    have hs := pk_shr x (y &&& 31) _ rfl
    rw [Int.shiftRight_eq_div_pow] at hs
    generalize ((y &&& 31).toBitVec.smod 32).toNat = k at hs
    have hp : (0 : Int) < ((2 ^ k : Nat) : Int) := by
      have := Nat.pow_pos (n := k) (show 0 < 2 by decide)
      omega
    refine gN_iv ?_ ?_
    · rw [hs]
      refine (Int.le_ediv_iff_mul_le hp).mpr ?_
      have m1 := iMin_l l1 0
      have m2 := iMin_r l1 0
      have : iMin l1 0 * ((2 ^ k : Nat) : Int) ≤ iMin l1 0 * 1 := Int.mul_le_mul_of_nonpos_left m2 (by omega)
      omega
    · rw [hs]
      have m1 := iMax_l h1 0
      have m2 := iMax_r h1 0
      refine Int.le_trans (Int.ediv_le_ediv hp (show x.toInt ≤ iMax h1 0 by omega)) ?_
      exact Int.ediv_le_self _ m2
theorem i32_mul_exact {x y : Int32} (h1 : -2147483648 ≤ x.toInt * y.toInt) (h2 : x.toInt * y.toInt ≤ 2147483647) : (x * y).toInt = x.toInt * y.toInt := by
  rw [Int32.toInt_mul]
  exact Int.bmod_eq_of_le (by omega) (by omega)
theorem eApx7 : eApxOk (fun x y => x * y) 7 := by
  intro x y l1 h1 l2 h2 a b c d ρ
  unfold eApx
  dsimp only
  cases hd : (decide (l2 = h2) && (decide (0 ≤ l2) && (decide (-2147483648 ≤ l1 * l2) && decide (h1 * l2 ≤ 2147483647)))) with
  | true =>
    simp only [Bool.and_eq_true, decide_eq_true_eq] at hd
    obtain ⟨d1, d2, d3, d4⟩ := hd
    rw [cond_true]
    have hy : y.toInt = l2 := by omega
    have p1 : l1 * l2 ≤ x.toInt * l2 := Int.mul_le_mul_of_nonneg_right a d2
    have p2 : x.toInt * l2 ≤ h1 * l2 := Int.mul_le_mul_of_nonneg_right b d2
    have e := i32_mul_exact (x := x) (y := y) (by rw [hy]; omega) (by rw [hy]; omega)
    rw [hy] at e
    exact gN_iv (by omega) (by omega)
  | false =>
    rw [cond_false]
    cases he : (decide (l1 = h1) && (decide (0 ≤ l1) && (decide (-2147483648 ≤ l1 * l2) && decide (l1 * h2 ≤ 2147483647)))) with
    | true =>
      simp only [Bool.and_eq_true, decide_eq_true_eq] at he
      obtain ⟨d1, d2, d3, d4⟩ := he
      rw [cond_true]
      have hx : x.toInt = l1 := by omega
      have p1 : l1 * l2 ≤ l1 * y.toInt := Int.mul_le_mul_of_nonneg_left c d2
      have p2 : l1 * y.toInt ≤ l1 * h2 := Int.mul_le_mul_of_nonneg_left d d2
      have e := i32_mul_exact (x := x) (y := y) (by rw [hx]; omega) (by rw [hx]; omega)
      rw [hx] at e
      exact gN_iv (by omega) (by omega)
    | false =>
      rw [cond_false]
      cases hf : (decide (0 ≤ l1) && (decide (0 ≤ l2) && decide (h1 * h2 ≤ 2147483647))) with
      | false => exact eTop_ok _
      | true =>
        simp only [Bool.and_eq_true, decide_eq_true_eq] at hf
        obtain ⟨d1, d2, d3⟩ := hf
        rw [cond_true]
        have p0 : 0 ≤ x.toInt * y.toInt := Int.mul_nonneg (by omega) (by omega)
        have p1 : x.toInt * y.toInt ≤ h1 * h2 := Int.mul_le_mul b d (by omega) (by omega)
        have e := i32_mul_exact (x := x) (y := y) (by omega) (by omega)
        exact gN_iv (by omega) (by omega)
theorem i32_div_pos {x y : Int32} (hy : 1 ≤ y.toInt) : (x / y).toInt = x.toInt.tdiv y.toInt ∧ (0 ≤ x.toInt → 0 ≤ x.toInt.tdiv y.toInt ∧ x.toInt.tdiv y.toInt ≤ x.toInt) ∧ (x.toInt ≤ 0 → x.toInt ≤ x.toInt.tdiv y.toInt ∧ x.toInt.tdiv y.toInt ≤ 0) := by
  have hp : 0 ≤ x.toInt → 0 ≤ x.toInt.tdiv y.toInt ∧ x.toInt.tdiv y.toInt ≤ x.toInt := fun h => by
    rw [Int.tdiv_eq_ediv_of_nonneg h]
    exact ⟨Int.ediv_nonneg h (by omega), Int.ediv_le_self _ h⟩
  have hn : x.toInt ≤ 0 → x.toInt ≤ x.toInt.tdiv y.toInt ∧ x.toInt.tdiv y.toInt ≤ 0 := fun h => by
    have e : x.toInt.tdiv y.toInt = -((-x.toInt).tdiv y.toInt) := by rw [Int.neg_tdiv, Int.neg_neg]
    rw [e, Int.tdiv_eq_ediv_of_nonneg (show 0 ≤ -x.toInt by omega)]
    have h1 := Int.ediv_nonneg (show 0 ≤ -x.toInt by omega) (show 0 ≤ y.toInt by omega)
    have h2 := Int.ediv_le_self y.toInt (show 0 ≤ -x.toInt by omega)
    omega
  refine ⟨?_, hp, hn⟩
  rw [Int32.toInt_div]
  have a1 := i32_lo x
  have a2 := i32_hi x
  refine Int.bmod_eq_of_le ?_ ?_
  · rcases Int.le_total 0 x.toInt with h | h
    · have := hp h; omega
    · have := hn h; omega
  · rcases Int.le_total 0 x.toInt with h | h
    · have := hp h; omega
    · have := hn h; omega
theorem eApx9 : eApxOk (fun x y => x / y) 9 := by
  intro x y l1 h1 l2 h2 a b c d ρ
  unfold eApx
  dsimp only
  cases hd : decide (1 ≤ l2) with
  | false => exact eTop_ok _
  | true =>
    rw [decide_eq_true_eq] at hd
    rw [cond_true]
    obtain ⟨e1, e2, e3⟩ := i32_div_pos (x := x) (y := y) (by omega)
    cases he : (decide (l2 = h2) && decide (0 ≤ l1)) with
    | true =>
      simp only [Bool.and_eq_true, decide_eq_true_eq] at he
      rw [cond_true]
      have hy : y.toInt = l2 := by omega
      rw [hy, Int.tdiv_eq_ediv_of_nonneg (show 0 ≤ x.toInt by omega)] at e1
      refine gN_iv ?_ ?_
      · rw [e1]
        exact Int.ediv_le_ediv (by omega) a
      · rw [e1]
        exact Int.ediv_le_ediv (by omega) b
    | false =>
      rw [cond_false]
      have m1 := iMin_l l1 0
      have m2 := iMin_r l1 0
      have m3 := iMax_l h1 0
      have m4 := iMax_r h1 0
      rcases Int.le_total 0 x.toInt with h | h
      · have := e2 h
        exact gN_iv (by omega) (by omega)
      · have := e3 h
        exact gN_iv (by omega) (by omega)
theorem eApx8 : eApxOk (fun x y => x - x / y * y) 8 := by
  intro x y l1 h1 l2 h2 a b c d ρ
  unfold eApx
  dsimp only
  cases hd : decide (1 ≤ l2) with
  | false => exact eTop_ok _
  | true =>
    rw [decide_eq_true_eq] at hd
    rw [cond_true]
    obtain ⟨e1, e2, e3⟩ := i32_div_pos (x := x) (y := y) (by omega)
    have t1 : x.toInt.tdiv y.toInt * y.toInt = x.toInt - x.toInt.tmod y.toInt := by
      have := Int.mul_tdiv_add_tmod x.toInt y.toInt
      rw [Int.mul_comm] at this
      omega
    have a1 := i32_lo x
    have a2 := i32_hi x
    have t2 : 0 ≤ x.toInt → 0 ≤ x.toInt.tmod y.toInt ∧ x.toInt.tmod y.toInt < y.toInt ∧ x.toInt.tmod y.toInt ≤ x.toInt := fun h => by
      rw [Int.tmod_eq_emod_of_nonneg h]
      have h1 := Int.emod_nonneg x.toInt (show y.toInt ≠ 0 by omega)
      have h2 := Int.emod_lt_of_pos x.toInt (show 0 < y.toInt by omega)
      have h3 := Int.ediv_nonneg h (show 0 ≤ y.toInt by omega)
      have h4 := Int.mul_ediv_add_emod x.toInt y.toInt
      have h5 := Int.mul_nonneg (show 0 ≤ y.toInt by omega) h3
      omega
    have t3 : x.toInt ≤ 0 → x.toInt.tmod y.toInt ≤ 0 ∧ -y.toInt < x.toInt.tmod y.toInt ∧ x.toInt ≤ x.toInt.tmod y.toInt := fun h => by
      have e : x.toInt.tmod y.toInt = -((-x.toInt).tmod y.toInt) := by rw [Int.neg_tmod, Int.neg_neg]
      rw [e, Int.tmod_eq_emod_of_nonneg (show 0 ≤ -x.toInt by omega)]
      have h1 := Int.emod_nonneg (-x.toInt) (show y.toInt ≠ 0 by omega)
      have h2 := Int.emod_lt_of_pos (-x.toInt) (show 0 < y.toInt by omega)
      have h3 := Int.ediv_nonneg (show 0 ≤ -x.toInt by omega) (show 0 ≤ y.toInt by omega)
      have h4 := Int.mul_ediv_add_emod (-x.toInt) y.toInt
      have h5 := Int.mul_nonneg (show 0 ≤ y.toInt by omega) h3
      omega
    have em : (x / y * y).toInt = x.toInt.tdiv y.toInt * y.toInt := by
      rw [← e1]
      refine i32_mul_exact ?_ ?_
      · rw [e1, t1]
        rcases Int.le_total 0 x.toInt with h | h
        · have := t2 h; omega
        · have := t3 h; omega
      · rw [e1, t1]
        rcases Int.le_total 0 x.toInt with h | h
        · have := t2 h; omega
        · have := t3 h; omega
    have ef : (x - x / y * y).toInt = x.toInt.tmod y.toInt := by
      rw [i32_sub_exact]
      · rw [em, t1]; omega
      · rw [em, t1]
        rcases Int.le_total 0 x.toInt with h | h
        · have := t2 h; omega
        · have := t3 h; have := i32_hi y; omega
      · rw [em, t1]
        rcases Int.le_total 0 x.toInt with h | h
        · have := t2 h; omega
        · have := t3 h; omega
    cases he : decide (0 ≤ l1) with
    | true =>
      rw [decide_eq_true_eq] at he
      have := t2 (by omega)
      rw [cond_true]
      exact gN_iv (by omega) (by rw [ef]; exact le_iMin (by omega) (by omega))
    | false =>
      rw [cond_false]
      rcases Int.le_total 0 x.toInt with h | h
      · have := t2 h
        exact gN_iv (by omega) (by omega)
      · have := t3 h
        exact gN_iv (by omega) (by omega)
theorem eApx10 : eApxOk (fun x y => x ^^^ y) 10 := by
  intro x y l1 h1 l2 h2 a b c d ρ
  unfold eApx
  dsimp only
  cases hd : (decide (l2 = -1) && decide (h2 = -1)) with
  | false => exact eTop_ok _
  | true =>
    simp only [Bool.and_eq_true, decide_eq_true_eq] at hd
    rw [cond_true]
    have hy : y = -1 := by
      apply Int32.toInt_inj.mp
      have : (-1 : Int32).toInt = -1 := rfl
      omega
    subst hy
    have e : x ^^^ (-1) = ~~~x := Int32.xor_neg_one
    have a1 := i32_lo x
    have a2 := i32_hi x
    have e2 : (x ^^^ (-1)).toInt = -x.toInt - 1 := by
      rw [e, Int32.toInt_not]
      exact Int.bmod_eq_of_le (by omega) (by omega)
    exact gN_iv (by omega) (by omega)
theorem eBn9_ok {f : Int32 → Int32 → Int32} {k : Nat} (hk : eApxOk f k) {ρ : Nat → Int} {B : eB} (hB : gB ρ B) {a b : eV} {x y : Int32} (ha : gN ρ a x.toInt) (hb : gN ρ b y.toInt) : gN ρ (eBn9 f k B a b) (f x y).toInt := by
  have a1 := eLo_ok hB ha
  have a2 := eHi_ok hB ha
  have b1 := eLo_ok hB hb
  have b2 := eHi_ok hB hb
  unfold eBn9
  cases hd : (decide (eLo B a = eHi B a) && decide (eLo B b = eHi B b)) with
  | false => exact hk x y _ _ _ _ a1 a2 b1 b2 ρ
  | true =>
    rw [Bool.and_eq_true, decide_eq_true_eq, decide_eq_true_eq] at hd
    rw [cond_true, ← i32_of (x := x) (z := eLo B a) (by omega), ← i32_of (x := y) (z := eLo B b) (by omega)]
    exact gN_I _
theorem eApx_int (k : Nat) (l1 h1 l2 h2 : Int) : ∃ lo hi, eApx k l1 h1 l2 h2 = (0, 0, lo, hi) := by
  have two : ∀ (b : Bool) {u v : eV}, (∃ lo hi, u = (0, 0, lo, hi)) → (∃ lo hi, v = (0, 0, lo, hi)) → ∃ lo hi, (bif b then u else v) = (0, 0, lo, hi) := fun b u v h1 h2 => by cases b; exact h2; exact h1
  have one : ∀ {x y : Int}, ∃ lo hi, ((0, 0, x, y) : eV) = (0, 0, lo, hi) := ⟨_, _, rfl⟩
  unfold eApx
  split
  · exact two _ one one
  · exact two _ one one
  · exact two _ (two _ one one) (two _ one one)
  · exact two _ one one
  · exact two _ one one
  · exact two _ one one
  · exact two _ one (two _ one (two _ one one))
  · exact two _ (two _ one one) one
  · exact two _ (two _ one one) one
  · exact two _ one one
  · exact one
theorem eBn9_int (f : Int32 → Int32 → Int32) (k : Nat) (B : eB) (a b : eV) : ∃ lo hi, eBn9 f k B a b = (0, 0, lo, hi) := by
  unfold eBn9
  cases (decide (eLo B a = eHi B a) && decide (eLo B b = eHi B b)) with
  | true => exact ⟨_, _, rfl⟩
  | false => exact eApx_int _ _ _ _ _
theorem eBin_ok {f : Int32 → Int32 → Int32} {k : Nat} (hk : eApxOk f k) {ρ : Nat → Int} {B : eB} (hB : gB ρ B) {a b : eV} {x y : Int32} (ha : gN ρ a x.toInt) (hb : gN ρ b y.toInt) : gN ρ (eBin f k B a b) (f x y).toInt := by
  have a1 := eLo_ok hB ha
  have a2 := eHi_ok hB ha
  have b1 := eLo_ok hB hb
  have b2 := eHi_ok hB hb
  have h9 := hk x y _ _ _ _ a1 a2 b1 b2 ρ
  have hx := hk x y x.toInt x.toInt y.toInt y.toInt (Int.le_refl _) (Int.le_refl _) (Int.le_refl _) (Int.le_refl _) ρ
  unfold eBin
  split
  · cases hd : (decide (-2147483648 ≤ eLo B a + eLo B b) && decide (eHi B a + eHi B b ≤ 2147483647)) with
    | false => exact eBn9_ok hk hB ha hb
    | true =>
      unfold eApx at h9 hx
      rw [hd] at h9
      rw [Bool.and_eq_true, decide_eq_true_eq, decide_eq_true_eq] at hd
      rw [cond_true]
      rw [decide_eq_true (show -2147483648 ≤ x.toInt + y.toInt by omega), decide_eq_true (show x.toInt + y.toInt ≤ 2147483647 by omega), Bool.and_self, cond_true] at hx
      have e : (f x y).toInt = x.toInt + y.toInt := Int.le_antisymm hx.2.2 hx.2.1
      refine ⟨?_, h9.2⟩
      rw [e]
      dsimp only
      cases hc : decide (eLo B b = eHi B b) with
      | true =>
        rw [decide_eq_true_eq] at hc
        rw [cond_true, show y.toInt = eLo B b by omega]
        exact tSh_ok ha.1
      | false =>
        rw [cond_false]
        cases hc2 : decide (eLo B a = eHi B a) with
        | true =>
          rw [decide_eq_true_eq] at hc2
          rw [cond_true, show x.toInt + y.toInt = y.toInt + eLo B a by omega]
          exact tSh_ok hb.1
        | false => exact fun t h => by cases h
  · cases hd : (decide (-2147483648 ≤ eLo B a - eHi B b) && decide (eHi B a - eLo B b ≤ 2147483647)) with
    | false => exact eBn9_ok hk hB ha hb
    | true =>
      unfold eApx at h9 hx
      rw [hd] at h9
      rw [Bool.and_eq_true, decide_eq_true_eq, decide_eq_true_eq] at hd
      rw [cond_true]
      rw [decide_eq_true (show -2147483648 ≤ x.toInt - y.toInt by omega), decide_eq_true (show x.toInt - y.toInt ≤ 2147483647 by omega), Bool.and_self, cond_true] at hx
      have e : (f x y).toInt = x.toInt - y.toInt := Int.le_antisymm hx.2.2 hx.2.1
      split
      next d hdf =>
        rw [e, eDif_ok ha hb hdf]
        exact gN_I _
      next =>
        refine ⟨?_, h9.2⟩
        rw [e]
        dsimp only
        cases hc : decide (eLo B b = eHi B b) with
        | true =>
          rw [decide_eq_true_eq] at hc
          rw [cond_true, show x.toInt - y.toInt = x.toInt + (- eLo B b) by omega]
          exact tSh_ok ha.1
        | false => exact fun t h => by cases h
  · exact eBn9_ok hk hB ha hb
theorem eBin_int (f : Int32 → Int32 → Int32) (k : Nat) (B : eB) (a b : eV) : ∃ t lo hi, eBin f k B a b = (0, t, lo, hi) := by
  have h9 : ∀ k, ∃ t lo hi, eBn9 f k B a b = (0, t, lo, hi) := fun k => by
    obtain ⟨lo, hi, e⟩ := eBn9_int f k B a b
    exact ⟨0, lo, hi, e⟩
  unfold eBin
  split
  · cases (decide (-2147483648 ≤ eLo B a + eLo B b) && decide (eHi B a + eHi B b ≤ 2147483647)) with
    | true => exact ⟨_, _, _, rfl⟩
    | false => exact h9 1
  · cases (decide (-2147483648 ≤ eLo B a - eHi B b) && decide (eHi B a - eLo B b ≤ 2147483647)) with
    | true =>
      rw [cond_true]
      split <;> exact ⟨_, _, _, rfl⟩
    | false => exact h9 2
  · exact h9 _
theorem eBin_gV {f : Int32 → Int32 → Int32} {k : Nat} (hk : eApxOk f k) {ρ : Nat → Int} {ad : Nat → Nat} {sb : eSB} {B : eB} (hB : gB ρ B) {a b : eV} {x y : Int32} (ha : gN ρ a x.toInt) (hb : gN ρ b y.toInt) : gV ρ ad sb (eBin f k B a b) (.int (f x y)) := by
  have h := eBin_ok hk hB ha hb
  obtain ⟨t, lo, hi, e⟩ := eBin_int f k B a b
  rw [e] at h ⊢
  exact gV_int h
/-- of one int -/
def eUn (f : Int32 → Int32) (B : eB) (a : eV) (lo hi : Int) : eV := bif decide (eLo B a = eHi B a) then eI (f (Int32.ofInt (eLo B a))).toInt else (0, 0, lo, hi)
theorem eUn_gV {f : Int32 → Int32} {ρ : Nat → Int} {ad : Nat → Nat} {sb : eSB} {B : eB} (hB : gB ρ B) {a : eV} {x : Int32} (ha : gN ρ a x.toInt) {lo hi : Int} (h1 : lo ≤ (f x).toInt) (h2 : (f x).toInt ≤ hi) : gV ρ ad sb (eUn f B a lo hi) (.int (f x)) := by
  have a1 := eLo_ok hB ha
  have a2 := eHi_ok hB ha
  unfold eUn
  cases hd : decide (eLo B a = eHi B a) with
  | false => exact gV_int (gN_iv h1 h2)
  | true =>
    rw [decide_eq_true_eq] at hd
    rw [cond_true, ← i32_of (x := x) (z := eLo B a) (by omega)]
    exact gV_int (gN_I _)
/-- of two longs: known ones -/
def eBinL (f : Int64 → Int64 → Int64) (B : eB) (a b : eV) : eV :=
  bif decide (eLo B a = eHi B a) && decide (eLo B b = eHi B b) then eJ (f (Int64.ofInt (eLo B a)) (Int64.ofInt (eLo B b))).toInt else eTopL
theorem gN_J {ρ : Nat → Int} (z : Int) : gN ρ (eJ z) z := ⟨fun i h => (by cases h), Int.le_refl _, Int.le_refl _⟩
theorem eBinL_gV {f : Int64 → Int64 → Int64} {ρ : Nat → Int} {ad : Nat → Nat} {sb : eSB} {B : eB} (hB : gB ρ B) {a b : eV} {x y : Int64} (ha : gN ρ a x.toInt) (hb : gN ρ b y.toInt) : gV ρ ad sb (eBinL f B a b) (.long (f x y)) := by
  have a1 := eLo_ok hB ha
  have a2 := eHi_ok hB ha
  have b1 := eLo_ok hB hb
  have b2 := eHi_ok hB hb
  unfold eBinL
  cases hd : (decide (eLo B a = eHi B a) && decide (eLo B b = eHi B b)) with
  | false => exact gV_long (eTopL_ok _)
  | true =>
    rw [Bool.and_eq_true, decide_eq_true_eq, decide_eq_true_eq] at hd
    rw [cond_true, ← i64_of (x := x) (z := eLo B a) (by omega), ← i64_of (x := y) (z := eLo B b) (by omega)]
    exact gV_long (gN_J _)
def eShL (f : Int64 → Int32 → Int64) (B : eB) (a b : eV) : eV :=
  bif decide (eLo B a = eHi B a) && decide (eLo B b = eHi B b) then eJ (f (Int64.ofInt (eLo B a)) (Int32.ofInt (eLo B b))).toInt else eTopL
theorem eShL_gV {f : Int64 → Int32 → Int64} {ρ : Nat → Int} {ad : Nat → Nat} {sb : eSB} {B : eB} (hB : gB ρ B) {a b : eV} {x : Int64} {y : Int32} (ha : gN ρ a x.toInt) (hb : gN ρ b y.toInt) : gV ρ ad sb (eShL f B a b) (.long (f x y)) := by
  have a1 := eLo_ok hB ha
  have a2 := eHi_ok hB ha
  have b1 := eLo_ok hB hb
  have b2 := eHi_ok hB hb
  unfold eShL
  cases hd : (decide (eLo B a = eHi B a) && decide (eLo B b = eHi B b)) with
  | false => exact gV_long (eTopL_ok _)
  | true =>
    rw [Bool.and_eq_true, decide_eq_true_eq, decide_eq_true_eq] at hd
    rw [cond_true, ← i64_of (x := x) (z := eLo B a) (by omega), ← i32_of (x := y) (z := eLo B b) (by omega)]
    exact gV_long (gN_J _)
