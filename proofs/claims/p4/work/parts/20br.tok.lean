/-! ===== THE RULES OF TOKENS ===== -/
theorem by_at {a c e f g n d : Int} (h1 : RK 1001 a e f n) (h2 : RK 1000 a c g d) (hc : 0 ≤ c) (hn : c + 1 ≤ n) : bt (dc a) c.toNat = d % 256 := by
  have h1 : ∀ p : Int, 0 ≤ p → (p < n ↔ bt (dc a) p.toNat ≠ -1) := h1
  have h2 : bt (dc a) c.toNat ≠ -1 → bt (dc a) c.toNat = d % 256 := h2
  exact h2 ((h1 c hc).mp (by omega))
theorem by_no {a c e f n : Int} (h1 : RK 1001 a e f n) (hc : 0 ≤ c) (hn : n ≤ c) : bt (dc a) c.toNat = -1 := by
  have h1 : ∀ p : Int, 0 ≤ p → (p < n ↔ bt (dc a) p.toNat ≠ -1) := h1
  by_cases h : bt (dc a) c.toNat = -1
  · exact h
  · have := (h1 c hc).mpr h
    omega
theorem RK_31 {a b c d : Int} (h : RK 31 a b c d) : d = a % 256 := h
theorem RK_32 {a b c d : Int} (h : RK 32 a b c d) : d = 10 * a := h
theorem RK_33 {a b c d : Int} (h : RK 33 a b c d) : d = a + b := h
theorem RK_34 {a b c d : Int} (h : RK 34 a b c d) : d = a - b := h
theorem RK_35 {a b c d : Int} (h : RK 35 a b c d) : d = if a ≤ 100000 then a else 100000 := h
theorem RK_4 {a b c d : Int} (h : RK 4 a b c d) : d = kd (dc a) b.toNat := h
theorem RK_5 {a b c d : Int} (h : RK 5 a b c d) : d = (te (dc a) b.toNat : Nat) := h
/-- the classes of bytes: 0 what parts, 1 letters, 2 digits -/
def clP (i : Nat) : Int → Bool := match i with
  | 0 => isBl
  | 1 => isLt
  | _ => isDg
def clR (i : Nat) : Int × Int := match i with
  | 1 => (97, 122)
  | _ => (48, 57)
theorem clP_n (i : Nat) : clP i (-1) = false := by
  match i with
  | 0 => rfl
  | 1 => rfl
  | _ + 2 => rfl
theorem RK_cl {i : Nat} (hi : i < 3) {a b c d : Int} : RK (3040 + i) a b c d ↔ ((fw (clP i) (dc a) b.toNat : Nat) : Int) = (fw (clP i) (dc a) c.toNat : Nat) := by
  match i, hi with
  | 0, _ => exact Iff.rfl
  | 1, _ => exact Iff.rfl
  | 2, _ => exact Iff.rfl
theorem clP_y {i : Nat} (hi : i = 1 ∨ i = 2) {s : Int} (h1 : (clR i).1 ≤ s) (h2 : s ≤ (clR i).2) : clP i s = true := by
  rcases hi with rfl | rfl
  · have h1 : 97 ≤ s := h1
    have h2 : s ≤ 122 := h2
    show (decide (97 ≤ s) && decide (s ≤ 122)) = true
    rw [decide_eq_true h1, decide_eq_true h2]
    rfl
  · have h1 : 48 ≤ s := h1
    have h2 : s ≤ 57 := h2
    show (decide (48 ≤ s) && decide (s ≤ 57)) = true
    rw [decide_eq_true h1, decide_eq_true h2]
    rfl
theorem clP_lo {i : Nat} (hi : i = 1 ∨ i = 2) {s : Int} (h1 : s ≤ (clR i).1 - 1) : clP i s = false := by
  rcases hi with rfl | rfl
  · have h1 : s ≤ 96 := h1
    show (decide (97 ≤ s) && decide (s ≤ 122)) = false
    rw [decide_eq_false (by omega)]
    rfl
  · have h1 : s ≤ 47 := h1
    show (decide (48 ≤ s) && decide (s ≤ 57)) = false
    rw [decide_eq_false (by omega)]
    rfl
theorem clP_hi {i : Nat} (hi : i = 1 ∨ i = 2) {s : Int} (h1 : (clR i).2 + 1 ≤ s) : clP i s = false := by
  rcases hi with rfl | rfl
  · have h1 : 123 ≤ s := h1
    show (decide (97 ≤ s) && decide (s ≤ 122)) = false
    rw [decide_eq_false (show ¬ s ≤ 122 by omega), Bool.and_false]
  · have h1 : 58 ≤ s := h1
    show (decide (48 ≤ s) && decide (s ≤ 57)) = false
    rw [decide_eq_false (show ¬ s ≤ 57 by omega), Bool.and_false]
theorem fw_go {P : Int → Bool} (hP : P (-1) = false) {L : List Int} {p : Nat} (h : P (bt L p) = true) : fw P L p = fw P L (p + 1) := by
  rw [fw_at hP, if_pos h]
theorem fw_no {P : Int → Bool} (hP : P (-1) = false) {L : List Int} {p : Nat} (h : P (bt L p) = false) : fw P L p = p := by
  rw [fw_at hP, h]
  rfl
theorem fwN_in {P : Int → Bool} {L : List Int} : ∀ (k p q : Nat), p ≤ q → q < fwN P L k p → P (bt L q) = true
  | 0, p, q, h1, h2 => by
    have h2 : q < p := h2
    omega
  | k + 1, p, q, h1, h2 => by
    have h2 : q < if P (bt L p) then fwN P L k (p + 1) else p := h2
    cases hb : P (bt L p) with
    | false =>
      rw [hb, if_neg (by decide)] at h2
      omega
    | true =>
      rw [hb, if_pos rfl] at h2
      by_cases hq : q = p
      · rw [hq]; exact hb
      · exact fwN_in k (p + 1) q (by omega) h2
theorem fw_in {P : Int → Bool} {L : List Int} {p q : Nat} (h1 : p ≤ q) (h2 : q < fw P L p) : P (bt L q) = true := fwN_in _ p q h1 h2
/-- so far all are of the class -/
def clb0 (i : Nat) : eRu := (vr (3040 + i) 0 1 1 20, [], [], [], [])
def clb1 (i : Nat) : eRu := ((3040 + i, [(0, 0), (1, 0), (2, 1), (20, 0)]), [vr (3040 + i) 0 1 2 13, vr 1001 0 8 9 3, vr 1000 0 2 10 4, vr 31 4 11 12 5], [(2, 0, big), (5, (clR i).1, (clR i).2)], [], [(2, 3, 1)])
def sk1 (v : Int) : eRu := ((3040, [(0, 0), (1, 0), (2, 1), (20, 0)]), [vr 3040 0 1 2 13, vr 1001 0 8 9 3, vr 1000 0 2 10 4], [(2, 0, big), (4, v, v)], [], [(2, 3, 1)])
/-- the first token -/
def sk2 : eRu := (vr 1 0 1 20 2, [vr 3040 0 1 2 13, vr 1001 0 8 9 3], [(2, 0, big)], [], [(3, 2, 0)])
def sk3 : eRu := (vr 1 0 1 20 2, [vr 3040 0 1 2 13, vr 1001 0 8 9 3, vr 1000 0 2 10 4], [(2, 0, big), (4, -128, 255)], [(4, [32, 10, -224, -246])], [(2, 3, 1)])
/-- the next one -/
def nx2 : eRu := (vr 8 0 1 20 2, [vr 5 0 1 14 6, vr 3040 0 6 2 13, vr 1001 0 8 9 3], [(2, 0, big)], [], [(3, 2, 0)])
def nx3 : eRu := (vr 8 0 1 20 2, [vr 5 0 1 14 6, vr 3040 0 6 2 13, vr 1001 0 8 9 3, vr 1000 0 2 10 4], [(2, 0, big), (4, -128, 255)], [(4, [32, 10, -224, -246])], [(2, 3, 1)])
theorem go3 {k : Nat} {x : Nat → Int} {a b c d : Nat} (h : RK k (x a) (x b) (x c + 1) (x d)) : rlH x (k, [(a, 0), (b, 0), (c, 1), (d, 0)]) := by
  show RK k (x a + 0) (x b + 0) (x c + 1) (x d + 0)
  rw [Int.add_zero, Int.add_zero, Int.add_zero]
  exact h
theorem clb0_ok {i : Nat} (hi : i < 3) : ruH (clb0 i) := fun x _ _ _ _ => vr_H.mpr ((RK_cl hi).mpr rfl)
theorem tn1 {c : Int} (h : 0 ≤ c) : (c + 1).toNat = c.toNat + 1 := by omega
theorem clb1_ok {i : Nat} (hi : i = 1 ∨ i = 2) : ruH (clb1 i) := fun x hp hc _ hl => by
  have hi' : i < 3 := by omega
  have p1 := (RK_cl hi').mp (vr_H.mp (hp _ lm0))
  have c1 := hc (2, 0, big) lm0
  have c2 := hc (5, (clR i).1, (clR i).2) lm1
  have l1 := hl (2, 3, 1) lm0
  have b1 := by_at (vr_H.mp (hp _ lm1)) (vr_H.mp (hp _ lm2)) c1.1 l1
  have b2 := RK_31 (vr_H.mp (hp _ lm3))
  dsimp only at c1 c2 l1
  refine go3 ((RK_cl hi').mpr ?_)
  rw [tn1 c1.1, p1, fw_go (clP_n i) (by rw [b1, ← b2]; exact clP_y hi c2.1 c2.2)]
theorem isBl_y {v d : Int} (hv : v = 32 ∨ v = 10) (h : d = v) : isBl (d % 256) = true := by
  rcases hv with rfl | rfl <;> subst h <;> rfl
theorem isBl_n {d : Int} (h1 : -128 ≤ d) (h2 : d ≤ 255) (h : d ∉ [(32 : Int), 10, -224, -246]) : isBl (d % 256) = false := by
  have a1 : d ≠ 32 := fun e => h (by rw [e]; decide)
  have a2 : d ≠ 10 := fun e => h (by rw [e]; decide)
  unfold isBl
  rw [decide_eq_false (by omega), decide_eq_false (by omega)]
  rfl
theorem sk1_ok {v : Int} (hv : v = 32 ∨ v = 10) : ruH (sk1 v) := fun x hp hc _ hl => by
  have p1 := (RK_cl (i := 0) (by decide)).mp (vr_H.mp (hp _ lm0))
  have c1 := hc (2, 0, big) lm0
  have c2 := hc (4, v, v) lm1
  have l1 := hl (2, 3, 1) lm0
  have b1 := by_at (vr_H.mp (hp _ lm1)) (vr_H.mp (hp _ lm2)) c1.1 l1
  dsimp only at c1 c2 l1
  refine go3 ((RK_cl (i := 0) (by decide)).mpr ?_)
  rw [tn1 c1.1, p1, fw_go (clP_n 0) (by rw [b1]; exact isBl_y hv (by omega))]
theorem sk2_ok : ruH sk2 := fun x hp hc _ hl => by
  have p1 := (RK_cl (i := 0) (by decide)).mp (vr_H.mp (hp _ lm0))
  have c1 := hc (2, 0, big) lm0
  have l1 := hl (3, 2, 0) lm0
  dsimp only at c1 l1
  have b1 := by_no (vr_H.mp (hp _ lm1)) c1.1 (by omega)
  refine vr_H.mpr ?_
  show x 2 = ((fw isBl (dc (x 0)) (x 1).toNat : Nat) : Int)
  have p1 : ((fw isBl (dc (x 0)) (x 1).toNat : Nat) : Int) = (fw isBl (dc (x 0)) (x 2).toNat : Nat) := p1
  rw [p1, fw_no rfl (by rw [b1]; rfl)]
  omega
theorem sk3_ok : ruH sk3 := fun x hp hc hn hl => by
  have p1 := (RK_cl (i := 0) (by decide)).mp (vr_H.mp (hp _ lm0))
  have c1 := hc (2, 0, big) lm0
  have c2 := hc (4, -128, 255) lm1
  have n1 := hn (4, [32, 10, -224, -246]) lm0
  have l1 := hl (2, 3, 1) lm0
  have b1 := by_at (vr_H.mp (hp _ lm1)) (vr_H.mp (hp _ lm2)) c1.1 l1
  dsimp only at c1 c2 n1 l1
  refine vr_H.mpr ?_
  show x 2 = ((fw isBl (dc (x 0)) (x 1).toNat : Nat) : Int)
  have p1 : ((fw isBl (dc (x 0)) (x 1).toNat : Nat) : Int) = (fw isBl (dc (x 0)) (x 2).toNat : Nat) := p1
  rw [p1, fw_no rfl (by rw [b1]; exact isBl_n c2.1 c2.2 n1)]
  omega
theorem nx_of {a b c t : Int} (h : t = (te (dc a) b.toNat : Nat)) (p1 : ((fw isBl (dc a) t.toNat : Nat) : Int) = (fw isBl (dc a) c.toNat : Nat)) (hc : 0 ≤ c) (hb : isBl (bt (dc a) c.toNat) = false) : c = (nx (dc a) b.toNat : Nat) := by
  unfold nx
  have : t.toNat = te (dc a) b.toNat := by omega
  rw [← this, p1, fw_no rfl hb]
  omega
theorem nx2_ok : ruH nx2 := fun x hp hc _ hl => by
  have p0 := RK_5 (vr_H.mp (hp _ lm0))
  have p1 := (RK_cl (i := 0) (by decide)).mp (vr_H.mp (hp _ lm1))
  have c1 := hc (2, 0, big) lm0
  have l1 := hl (3, 2, 0) lm0
  dsimp only at c1 l1
  have b1 := by_no (vr_H.mp (hp _ lm2)) c1.1 (by omega)
  exact vr_H.mpr (nx_of p0 p1 c1.1 (by rw [b1]; rfl))
theorem nx3_ok : ruH nx3 := fun x hp hc hn hl => by
  have p0 := RK_5 (vr_H.mp (hp _ lm0))
  have p1 := (RK_cl (i := 0) (by decide)).mp (vr_H.mp (hp _ lm1))
  have c1 := hc (2, 0, big) lm0
  have c2 := hc (4, -128, 255) lm1
  have n1 := hn (4, [32, 10, -224, -246]) lm0
  have l1 := hl (2, 3, 1) lm0
  have b1 := by_at (vr_H.mp (hp _ lm2)) (vr_H.mp (hp _ lm3)) c1.1 l1
  dsimp only at c1 c2 n1 l1
  exact vr_H.mpr (nx_of p0 p1 c1.1 (by rw [b1]; exact isBl_n c2.1 c2.2 n1))
/-! a token's kind -/
def mkL : List Int := [59, 40, 41, 43, 45, 42, 47, 60, 61]
def kd0 : eRu := (vr 4 0 2 20 6, [vr 1001 0 8 9 3], [(2, 0, big), (6, 0, 0)], [], [(3, 2, 0)])
def kd1 (i : Nat) : eRu := (vr 4 0 2 20 6, [vr 1001 0 8 9 3, vr 1000 0 2 10 4, vr 31 4 11 12 5], [(2, 0, big), (5, (clR i).1, (clR i).2), (6, i, i)], [], [(2, 3, 1)])
def kd3 (l h : Int) : eRu := (vr 4 0 2 20 5, [vr 1001 0 8 9 3, vr 1000 0 2 10 4, vr 31 4 11 12 5, vr 1002 5 13 14 7], [(2, 0, big), (5, l, h), (7, 0, big)], [], [(2, 3, 1)])
def kd4 (l h : Int) : eRu := (vr 4 0 2 20 6, [vr 1001 0 8 9 3, vr 1000 0 2 10 4, vr 31 4 11 12 5, vr 1002 5 13 14 7], [(2, 0, big), (5, l, h), (6, 3, 3), (7, -1, -1)], [], [(2, 3, 1)])
def tk0 : eRu := (vr 36 0 2 20 6, [vr 1001 0 8 9 3], [(2, 0, big), (6, 0, 0)], [], [(3, 2, 0)])
def tk1 (i : Nat) : eRu := (vr 36 0 2 20 6, [vr 1001 0 8 9 3, vr 1000 0 2 10 4, vr 31 4 11 12 5], [(2, 0, big), (5, (clR i).1, (clR i).2), (6, i, i)], [], [(2, 3, 1)])
def tk3 (v : Int) : eRu := (vr 36 0 2 20 6, [vr 1001 0 8 9 3, vr 1000 0 2 10 4, vr 31 4 11 12 5], [(2, 0, big), (5, v, v), (6, 3, 3)], [], [(2, 3, 1)])
def tk4 (l h : Int) : eRu := (vr 36 0 2 20 6, [vr 1001 0 8 9 3, vr 1000 0 2 10 4, vr 31 4 11 12 5], [(2, 0, big), (5, l, h), (6, 4, 4)], [(5, mkL)], [(2, 3, 1)])
/-- neither letters nor digits -/
def gaps : List (Int × Int) := [(0, 47), (58, 96), (123, 255)]
theorem kd_e {L : List Int} {p : Nat} (h : bt L p = -1) : kd L p = 0 := by
  unfold kd
  rw [if_pos h]
theorem kd_c {i : Nat} (hi : i = 1 ∨ i = 2) {L : List Int} {p : Nat} {s : Int} (h : bt L p = s) (h1 : (clR i).1 ≤ s) (h2 : s ≤ (clR i).2) : kd L p = i := by
  unfold kd
  rcases hi with rfl | rfl
  · have h1 : 97 ≤ s := h1
    have hl : isLt s = true := clP_y (i := 1) (Or.inl rfl) h1 h2
    rw [h, if_neg (by omega), hl, if_pos rfl]
    rfl
  · have h1 : 48 ≤ s := h1
    have h2 : s ≤ 57 := h2
    have hl : isLt s = false := clP_lo (i := 1) (Or.inl rfl) (show s ≤ 96 by omega)
    have hd : isDg s = true := clP_y (i := 2) (Or.inr rfl) h1 h2
    rw [h, if_neg (by omega), hl, if_neg (by decide), hd, if_pos rfl]
    rfl
theorem gap_n {p : Int × Int} (hp : p ∈ gaps) {s : Int} (h1 : p.1 ≤ s) (h2 : s ≤ p.2) : isLt s = false ∧ isDg s = false ∧ 0 ≤ s := by
  simp only [gaps, List.mem_cons, List.not_mem_nil, or_false] at hp
  rcases hp with rfl | rfl | rfl
  · have h1 : 0 ≤ s := h1
    have h2 : s ≤ 47 := h2
    exact ⟨clP_lo (i := 1) (Or.inl rfl) (show s ≤ 96 by omega), clP_lo (i := 2) (Or.inr rfl) h2, h1⟩
  · have h1 : 58 ≤ s := h1
    have h2 : s ≤ 96 := h2
    exact ⟨clP_lo (i := 1) (Or.inl rfl) h2, clP_hi (i := 2) (Or.inr rfl) h1, by omega⟩
  · have h1 : 123 ≤ s := h1
    exact ⟨clP_hi (i := 1) (Or.inl rfl) h1, clP_hi (i := 2) (Or.inr rfl) (show 58 ≤ s by omega), by omega⟩
theorem kd_g {p : Int × Int} (hp : p ∈ gaps) {L : List Int} {q : Nat} {s : Int} (h : bt L q = s) (h1 : p.1 ≤ s) (h2 : s ≤ p.2) : kd L q = if isMk s then s else 3 := by
  obtain ⟨a1, a2, a3⟩ := gap_n hp h1 h2
  unfold kd
  rw [h, if_neg (by omega), a1, if_neg (by decide), a2, if_neg (by decide)]
theorem isMk_i {s : Int} : isMk s = true ↔ s ∈ mkL := by
  unfold isMk mkL
  rw [List.any_eq_true]
  constructor
  · rintro ⟨y, hy, he⟩
    rw [decide_eq_true_eq] at he
    rw [he]
    exact hy
  · exact fun h => ⟨s, h, decide_eq_true rfl⟩
theorem kd0_ok : ruH kd0 := fun x hp hc _ hl => by
  have c1 := hc (2, 0, big) lm0
  have c2 := hc (6, 0, 0) lm1
  have l1 := hl (3, 2, 0) lm0
  dsimp only at c1 c2 l1
  have b1 := by_no (vr_H.mp (hp _ lm0)) c1.1 (by omega)
  refine vr_H.mpr ?_
  show x 6 = kd (dc (x 0)) (x 2).toNat
  rw [kd_e b1]
  omega
theorem kd1_ok {i : Nat} (hi : i = 1 ∨ i = 2) : ruH (kd1 i) := fun x hp hc _ hl => by
  have c1 := hc (2, 0, big) lm0
  have c2 := hc (5, (clR i).1, (clR i).2) lm1
  have c3 := hc (6, i, i) lm2
  have l1 := hl (2, 3, 1) lm0
  have b1 := by_at (vr_H.mp (hp _ lm0)) (vr_H.mp (hp _ lm1)) c1.1 l1
  have b2 := RK_31 (vr_H.mp (hp _ lm2))
  dsimp only at c1 c2 c3 l1
  refine vr_H.mpr ?_
  show x 6 = kd (dc (x 0)) (x 2).toNat
  rw [kd_c hi (b1.trans b2.symm) c2.1 c2.2]
  omega
theorem kd3_ok {p : Int × Int} (hg : p ∈ gaps) : ruH (kd3 p.1 p.2) := fun x hp hc _ hl => by
  have c1 := hc (2, 0, big) lm0
  have c2 := hc (5, p.1, p.2) lm1
  have c3 := hc (7, 0, big) lm2
  have l1 := hl (2, 3, 1) lm0
  have b1 := by_at (vr_H.mp (hp _ lm0)) (vr_H.mp (hp _ lm1)) c1.1 l1
  have b2 := RK_31 (vr_H.mp (hp _ lm2))
  have b3 : 0 ≤ x 7 ↔ isMk (x 5) = true := vr_H.mp (hp _ lm3)
  dsimp only at c1 c2 c3 l1
  refine vr_H.mpr ?_
  show x 5 = kd (dc (x 0)) (x 2).toNat
  rw [kd_g hg (b1.trans b2.symm) c2.1 c2.2, b3.mp c3.1, if_pos rfl]
theorem kd4_ok {p : Int × Int} (hg : p ∈ gaps) : ruH (kd4 p.1 p.2) := fun x hp hc _ hl => by
  have c1 := hc (2, 0, big) lm0
  have c2 := hc (5, p.1, p.2) lm1
  have c3 := hc (6, 3, 3) lm2
  have c4 := hc (7, -1, -1) lm3
  have l1 := hl (2, 3, 1) lm0
  have b1 := by_at (vr_H.mp (hp _ lm0)) (vr_H.mp (hp _ lm1)) c1.1 l1
  have b2 := RK_31 (vr_H.mp (hp _ lm2))
  have b3 : 0 ≤ x 7 ↔ isMk (x 5) = true := vr_H.mp (hp _ lm3)
  dsimp only at c1 c2 c3 c4 l1
  refine vr_H.mpr ?_
  show x 6 = kd (dc (x 0)) (x 2).toNat
  have hm : isMk (x 5) = false := by
    cases hb : isMk (x 5) with
    | false => rfl
    | true =>
      have := b3.mpr hb
      omega
  rw [kd_g hg (b1.trans b2.symm) c2.1 c2.2, hm, if_neg (by decide)]
  omega
theorem FKtk {x : Nat → Int} {L : List Int} {p : Nat} {k : Int} (h : kd L p = k) : tk L p = if k = 3 then 4 else if k ≤ 2 then k else 3 := by
  unfold tk
  rw [h]
theorem tk0_ok : ruH tk0 := fun x hp hc _ hl => by
  have c1 := hc (2, 0, big) lm0
  have c2 := hc (6, 0, 0) lm1
  have l1 := hl (3, 2, 0) lm0
  dsimp only at c1 c2 l1
  have b1 := by_no (vr_H.mp (hp _ lm0)) c1.1 (by omega)
  refine vr_H.mpr ?_
  show x 6 = tk (dc (x 0)) (x 2).toNat
  rw [FKtk (x := x) (kd_e b1)]
  show x 6 = 0
  omega
theorem tk1_ok {i : Nat} (hi : i = 1 ∨ i = 2) : ruH (tk1 i) := fun x hp hc _ hl => by
  have c1 := hc (2, 0, big) lm0
  have c2 := hc (5, (clR i).1, (clR i).2) lm1
  have c3 := hc (6, i, i) lm2
  have l1 := hl (2, 3, 1) lm0
  have b1 := by_at (vr_H.mp (hp _ lm0)) (vr_H.mp (hp _ lm1)) c1.1 l1
  have b2 := RK_31 (vr_H.mp (hp _ lm2))
  dsimp only at c1 c2 c3 l1
  refine vr_H.mpr ?_
  show x 6 = tk (dc (x 0)) (x 2).toNat
  rw [FKtk (x := x) (kd_c hi (b1.trans b2.symm) c2.1 c2.2), if_neg (by omega), if_pos (by omega)]
  omega
theorem tk3_ok {v : Int} (hv : v ∈ mkL) : ruH (tk3 v) := fun x hp hc _ hl => by
  have c1 := hc (2, 0, big) lm0
  have c2 := hc (5, v, v) lm1
  have c3 := hc (6, 3, 3) lm2
  have l1 := hl (2, 3, 1) lm0
  have b1 := by_at (vr_H.mp (hp _ lm0)) (vr_H.mp (hp _ lm1)) c1.1 l1
  have b2 := RK_31 (vr_H.mp (hp _ lm2))
  dsimp only at c1 c2 c3 l1
  refine vr_H.mpr ?_
  show x 6 = tk (dc (x 0)) (x 2).toNat
  have e : bt (dc (x 0)) (x 2).toNat = v := by omega
  have hk : kd (dc (x 0)) (x 2).toNat = v := by
    unfold kd
    rw [e]
    simp only [mkL, List.mem_cons, List.not_mem_nil, or_false] at hv
    rcases hv with rfl | rfl | rfl | rfl | rfl | rfl | rfl | rfl | rfl <;> rfl
  rw [FKtk (x := x) hk]
  simp only [mkL, List.mem_cons, List.not_mem_nil, or_false] at hv
  rw [if_neg (by omega), if_neg (by omega)]
  omega
theorem tk4_ok {p : Int × Int} (hg : p ∈ gaps) : ruH (tk4 p.1 p.2) := fun x hp hc hn hl => by
  have c1 := hc (2, 0, big) lm0
  have c2 := hc (5, p.1, p.2) lm1
  have c3 := hc (6, 4, 4) lm2
  have n1 := hn (5, mkL) lm0
  have l1 := hl (2, 3, 1) lm0
  have b1 := by_at (vr_H.mp (hp _ lm0)) (vr_H.mp (hp _ lm1)) c1.1 l1
  have b2 := RK_31 (vr_H.mp (hp _ lm2))
  dsimp only at c1 c2 c3 n1 l1
  refine vr_H.mpr ?_
  show x 6 = tk (dc (x 0)) (x 2).toNat
  have hm : isMk (x 5) = false := by
    cases hb : isMk (x 5) with
    | false => rfl
    | true => exact absurd (isMk_i.mp hb) n1
  have hk := kd_g hg (b1.trans b2.symm) c2.1 c2.2
  rw [hm, if_neg (by decide)] at hk
  rw [FKtk (x := x) hk]
  show x 6 = 4
  omega
/-! its end -/
def te0 : eRu := (vr 5 0 2 20 2, [vr 1001 0 8 9 3], [(2, 0, big)], [], [(3, 2, 0)])
def te1 (i : Nat) : eRu := (vr 5 0 1 20 2, [vr 4 0 1 8 6, vr (3040 + i) 0 1 2 13, vr 1001 0 9 10 3], [(6, i, i), (2, 0, big)], [], [(3, 2, 0)])
def te2 (i : Nat) (l h : Int) : eRu := (vr 5 0 1 20 2, [vr 4 0 1 8 6, vr (3040 + i) 0 1 2 13, vr 1001 0 9 10 3, vr 1000 0 2 11 4, vr 31 4 12 14 5], [(6, i, i), (2, 0, big), (5, l, h)], [], [(2, 3, 1)])
def te3 (l h : Int) : eRu := ((5, [(0, 0), (2, 0), (20, 0), (2, 1)]), [vr 1001 0 8 9 3, vr 1000 0 2 10 4, vr 31 4 11 12 5], [(2, 0, big), (5, l, h)], [], [(2, 3, 1)])
theorem te_i {i : Nat} (hi : i = 1 ∨ i = 2) {L : List Int} {p : Nat} (h : kd L p = i) : te L p = fw (clP i) L p := by
  have hb : bt L p ≠ -1 := fun e => by rw [kd_e e] at h; omega
  unfold kd at h
  unfold te
  rw [if_neg hb] at h ⊢
  cases hl : isLt (bt L p) with
  | true =>
    rw [hl, if_pos rfl] at h
    rw [if_pos rfl]
    have : i = 1 := by omega
    subst this
    rfl
  | false =>
    rw [hl, if_neg (by decide)] at h
    rw [if_neg (by decide)]
    cases hd : isDg (bt L p) with
    | true =>
      rw [hd, if_pos rfl] at h
      rw [if_pos rfl]
      have : i = 2 := by omega
      subst this
      rfl
    | false =>
      rw [hd, if_neg (by decide)] at h
      exfalso
      cases hm : isMk (bt L p) with
      | false =>
        rw [hm, if_neg (by decide)] at h
        omega
      | true =>
        rw [hm, if_pos rfl] at h
        have := isMk_i.mp hm
        simp only [mkL, List.mem_cons, List.not_mem_nil, or_false] at this
        omega
/-- where a row of one class ends -/
theorem te_at {i : Nat} (hi : i = 1 ∨ i = 2) {a b c : Int} (hk : kd (dc a) b.toNat = i) (p1 : ((fw (clP i) (dc a) b.toNat : Nat) : Int) = (fw (clP i) (dc a) c.toNat : Nat)) (hc : 0 ≤ c) (hb : clP i (bt (dc a) c.toNat) = false) : c = (te (dc a) b.toNat : Nat) := by
  rw [te_i hi hk, p1, fw_no (clP_n i) hb]
  omega
theorem te0_ok : ruH te0 := fun x hp hc _ hl => by
  have c1 := hc (2, 0, big) lm0
  have l1 := hl (3, 2, 0) lm0
  dsimp only at c1 l1
  have b1 := by_no (vr_H.mp (hp _ lm0)) c1.1 (by omega)
  refine vr_H.mpr ?_
  show x 2 = ((te (dc (x 0)) (x 2).toNat : Nat) : Int)
  unfold te
  rw [if_pos b1]
  omega
/-- a byte that ends a row of the class -/
def offs (i : Nat) : List (Int × Int) := [(0, (clR i).1 - 1), ((clR i).2 + 1, 255)]
theorem off_n {i : Nat} (hi : i = 1 ∨ i = 2) {p : Int × Int} (hp : p ∈ offs i) {s : Int} (h1 : p.1 ≤ s) (h2 : s ≤ p.2) : clP i s = false := by
  simp only [offs, List.mem_cons, List.not_mem_nil, or_false] at hp
  rcases hp with rfl | rfl
  · exact clP_lo hi h2
  · exact clP_hi hi h1
theorem te1_ok {i : Nat} (hi : i = 1 ∨ i = 2) : ruH (te1 i) := fun x hp hc _ hl => by
  have hi' : i < 3 := by omega
  have p0 := RK_4 (vr_H.mp (hp _ lm0))
  have p1 := (RK_cl hi').mp (vr_H.mp (hp _ lm1))
  have c0 := hc (6, i, i) lm0
  have c1 := hc (2, 0, big) lm1
  have l1 := hl (3, 2, 0) lm0
  dsimp only at c0 c1 l1
  have b1 := by_no (vr_H.mp (hp _ lm2)) c1.1 (by omega)
  exact vr_H.mpr (te_at hi (by omega) p1 c1.1 (by rw [b1]; exact clP_n i))
theorem te2_ok {i : Nat} (hi : i = 1 ∨ i = 2) {p : Int × Int} (hg : p ∈ offs i) : ruH (te2 i p.1 p.2) := fun x hp hc _ hl => by
  have hi' : i < 3 := by omega
  have p0 := RK_4 (vr_H.mp (hp _ lm0))
  have p1 := (RK_cl hi').mp (vr_H.mp (hp _ lm1))
  have c0 := hc (6, i, i) lm0
  have c1 := hc (2, 0, big) lm1
  have c2 := hc (5, p.1, p.2) lm2
  have l1 := hl (2, 3, 1) lm0
  have b1 := by_at (vr_H.mp (hp _ lm2)) (vr_H.mp (hp _ lm3)) c1.1 l1
  have b2 := RK_31 (vr_H.mp (hp _ lm4))
  dsimp only at c0 c1 c2 l1
  exact vr_H.mpr (te_at hi (by omega) p1 c1.1 (by rw [b1, ← b2]; exact off_n hi hg c2.1 c2.2))
theorem te3_ok {p : Int × Int} (hg : p ∈ gaps) : ruH (te3 p.1 p.2) := fun x hp hc _ hl => by
  have c1 := hc (2, 0, big) lm0
  have c2 := hc (5, p.1, p.2) lm1
  have l1 := hl (2, 3, 1) lm0
  have b1 := by_at (vr_H.mp (hp _ lm0)) (vr_H.mp (hp _ lm1)) c1.1 l1
  have b2 := RK_31 (vr_H.mp (hp _ lm2))
  dsimp only at c1 c2 l1
  obtain ⟨a1, a2, a3⟩ := gap_n hg c2.1 c2.2
  show RK 5 (x 0 + 0) (x 2 + 0) (x 20 + 0) (x 2 + 1)
  rw [Int.add_zero, Int.add_zero]
  show x 2 + 1 = ((te (dc (x 0)) (x 2).toNat : Nat) : Int)
  unfold te
  rw [b1.trans b2.symm, if_neg (by omega), a1, if_neg (by decide), a2, if_neg (by decide)]
  omega
/-! numbers -/
def nu0 : eRu := (vr 7 0 1 1 6, [], [(6, 0, 0)], [], [])
def nu1 : eRu := ((7, [(0, 0), (1, 0), (2, 1), (14, -48)]), [vr 7 0 1 2 6, vr 1001 0 8 9 3, vr 1000 0 2 10 4, vr 31 4 11 12 5, vr 32 6 13 15 7, vr 33 7 5 16 14, vr 34 2 1 17 18], [(1, 0, big), (2, 0, big), (18, 0, 3)], [], [(2, 3, 1)])
def nu2 : eRu := ((7, [(0, 0), (1, 0), (2, 1), (6, 0)]), [vr 34 2 1 17 18], [(6, -1, -1), (18, 4, big)], [], [])
def nm1 : eRu := (vr 6 0 1 20 7, [vr 4 0 1 8 6, vr 3042 0 1 2 13, vr 1001 0 9 10 3, vr 7 0 1 2 7], [(6, 2, 2), (1, 0, big), (2, 0, big)], [], [(3, 2, 0)])
def nm2 (l h : Int) : eRu := (vr 6 0 1 20 7, [vr 4 0 1 8 6, vr 3042 0 1 2 13, vr 1001 0 9 10 3, vr 7 0 1 2 7, vr 1000 0 2 11 4, vr 31 4 12 14 5], [(6, 2, 2), (1, 0, big), (2, 0, big), (5, l, h)], [], [(2, 3, 1)])
theorem nvN_s {L : List Int} {c b : Int} (hb : 0 ≤ b) (hc : b ≤ c) : nvN L (c + 1 - b).toNat b.toNat = nvN L (c - b).toNat b.toNat * 10 + bt L c.toNat - 48 := by
  have h1 : (c + 1 - b).toNat = (c - b).toNat + 1 := by omega
  have h2 : b.toNat + (c - b).toNat = c.toNat := by omega
  rw [h1]
  show nvN L (c - b).toNat b.toNat * 10 + bt L (b.toNat + (c - b).toNat) - 48 = _
  rw [h2]
theorem go34 {k : Nat} {x : Nat → Int} {a b c d : Nat} {o : Int} (h : RK k (x a) (x b) (x c + 1) (x d + o)) : rlH x (k, [(a, 0), (b, 0), (c, 1), (d, o)]) := by
  show RK k (x a + 0) (x b + 0) (x c + 1) (x d + o)
  rw [Int.add_zero, Int.add_zero]
  exact h
theorem nu0_ok : ruH nu0 := fun x _ hc _ _ => by
  have c1 := hc (6, 0, 0) lm0
  dsimp only at c1
  refine vr_H.mpr ?_
  show x 6 = if x 1 - x 1 ≤ 4 then nvN (dc (x 0)) (x 1 - x 1).toNat (x 1).toNat else -1
  rw [if_pos (by omega), show (x 1 - x 1).toNat = 0 by omega]
  show x 6 = 0
  omega
theorem RK_7 {a b c d : Int} (h : RK 7 a b c d) : d = if c - b ≤ 4 then nvN (dc a) (c - b).toNat b.toNat else -1 := h
theorem nu1_ok : ruH nu1 := fun x hp hc _ hl => by
  have p1 := RK_7 (vr_H.mp (hp _ lm0))
  have c0 := hc (1, 0, big) lm0
  have c1 := hc (2, 0, big) lm1
  have c2 := hc (18, 0, 3) lm2
  have l1 := hl (2, 3, 1) lm0
  have b1 := by_at (vr_H.mp (hp _ lm1)) (vr_H.mp (hp _ lm2)) c1.1 l1
  have b2 := RK_31 (vr_H.mp (hp _ lm3))
  have b3 := RK_32 (vr_H.mp (hp _ lm4))
  have b4 := RK_33 (vr_H.mp (hp _ lm5))
  have b5 := RK_34 (vr_H.mp (hp _ lm6))
  dsimp only at c0 c1 c2 l1
  refine go34 ?_
  show x 14 + -48 = if x 2 + 1 - x 1 ≤ 4 then nvN (dc (x 0)) (x 2 + 1 - x 1).toNat (x 1).toNat else -1
  rw [if_pos (by omega)] at p1 ⊢
  rw [nvN_s c0.1 (by omega), ← p1]
  omega
theorem nu2_ok : ruH nu2 := fun x hp hc _ _ => by
  have b5 := RK_34 (vr_H.mp (hp _ lm0))
  have c1 := hc (6, -1, -1) lm0
  have c2 := hc (18, 4, big) lm1
  dsimp only at c1 c2
  refine go34 (o := 0) ?_
  show x 6 + 0 = if x 2 + 1 - x 1 ≤ 4 then nvN (dc (x 0)) (x 2 + 1 - x 1).toNat (x 1).toNat else -1
  rw [if_neg (by omega)]
  omega
theorem nm_of {a b c v : Int} (hb : 0 ≤ b) (ht : c = (te (dc a) b.toNat : Nat)) (hv : v = if c - b ≤ 4 then nvN (dc a) (c - b).toNat b.toNat else -1) : v = nm (dc a) b.toNat := by
  unfold nm
  have h1 : te (dc a) b.toNat - b.toNat = (c - b).toNat := by omega
  have h2 := te_le (dc a) b.toNat
  rw [h1, hv]
  by_cases h : c - b ≤ 4
  · rw [if_pos h, if_pos (by omega)]
  · rw [if_neg h, if_neg (by omega)]
theorem nm1_ok : ruH nm1 := fun x hp hc _ hl => by
  have p0 := RK_4 (vr_H.mp (hp _ lm0))
  have p1 := (RK_cl (i := 2) (by decide)).mp (vr_H.mp (hp _ lm1))
  have p3 := RK_7 (vr_H.mp (hp _ lm3))
  have c0 := hc (6, 2, 2) lm0
  have c1 := hc (1, 0, big) lm1
  have c2 := hc (2, 0, big) lm2
  have l1 := hl (3, 2, 0) lm0
  dsimp only at c0 c1 c2 l1
  have b1 := by_no (vr_H.mp (hp _ lm2)) c2.1 (by omega)
  exact vr_H.mpr (nm_of c1.1 (te_at (i := 2) (Or.inr rfl) (show kd _ _ = 2 by omega) p1 c2.1 (by rw [b1]; rfl)) p3)
theorem nm2_ok {p : Int × Int} (hg : p ∈ offs 2) : ruH (nm2 p.1 p.2) := fun x hp hc _ hl => by
  have p0 := RK_4 (vr_H.mp (hp _ lm0))
  have p1 := (RK_cl (i := 2) (by decide)).mp (vr_H.mp (hp _ lm1))
  have p3 := RK_7 (vr_H.mp (hp _ lm3))
  have c0 := hc (6, 2, 2) lm0
  have c1 := hc (1, 0, big) lm1
  have c2 := hc (2, 0, big) lm2
  have c3 := hc (5, p.1, p.2) lm3
  have l1 := hl (2, 3, 1) lm0
  have b1 := by_at (vr_H.mp (hp _ lm2)) (vr_H.mp (hp _ lm4)) c2.1 l1
  have b2 := RK_31 (vr_H.mp (hp _ lm5))
  dsimp only at c0 c1 c2 c3 l1
  exact vr_H.mpr (nm_of c1.1 (te_at (i := 2) (Or.inr rfl) (show kd _ _ = 2 by omega) p1 c2.1 (by rw [b1, ← b2]; exact off_n (Or.inr rfl) hg c3.1 c3.2)) p3)
/-! numbers as the other reader has them -/
def mu0 : eRu := (vr 1003 0 1 1 6, [], [(6, 0, 0)], [], [])
def mu1 : eRu := ((1003, [(0, 0), (1, 0), (2, 1), (14, -48)]), [vr 1003 0 1 2 6, vr 1001 0 8 9 3, vr 1000 0 2 10 4, vr 31 4 11 12 5, vr 1000 0 2 21 22, vr 31 22 23 24 25, vr 32 6 13 15 7, vr 33 7 25 16 14], [(1, 0, big), (2, 0, big), (5, 48, 57)], [], [(2, 3, 1), (1, 2, 0)])
def mu2 : eRu := ((1003, [(0, 0), (1, 0), (2, 1), (19, 0)]), [vr 1003 0 1 2 6, vr 1001 0 8 9 3, vr 1000 0 2 10 4, vr 31 4 11 12 5, vr 1000 0 2 21 22, vr 31 22 23 24 25, vr 32 6 13 15 7, vr 33 7 25 16 14], [(1, 0, big), (2, 0, big), (5, 48, 57), (14, 100000, 2147483647)], [], [(2, 3, 1), (1, 2, 0)])
def mr1 : eRu := (vr 6 0 1 20 7, [vr 1003 0 1 2 7, vr 5 0 1 8 2, vr 34 2 1 9 15], [(1, 0, big), (15, 0, 4)], [], [])
def mr2 : eRu := (vr 6 0 1 20 7, [vr 5 0 1 8 2, vr 34 2 1 9 15], [(1, 0, big), (7, -1, -1), (15, 5, big)], [], [])
theorem RK_1003 {a b c d : Int} (h : RK 1003 a b c d) : c - b ≤ 4 → d = nvN (dc a) (c - b).toNat b.toNat ∧ 0 ≤ d ∧ d < 10 ^ (c - b).toNat := h
theorem mu0_ok : ruH mu0 := fun x _ hc _ _ => by
  have c1 := hc (6, 0, 0) lm0
  dsimp only at c1
  refine vr_H.mpr ?_
  show x 1 - x 1 ≤ 4 → x 6 = nvN (dc (x 0)) (x 1 - x 1).toNat (x 1).toNat ∧ 0 ≤ x 6 ∧ x 6 < 10 ^ (x 1 - x 1).toNat
  intro _
  rw [show (x 1 - x 1).toNat = 0 by omega]
  refine ⟨?_, by omega, ?_⟩
  · show x 6 = 0
    omega
  · rw [Int.pow_zero]
    omega
theorem mu_of {a b c n v d s d2 s2 t u e1 e2 e3 e4 : Int} (p1 : RK 1003 a b c v) (hn : RK 1001 a e1 e2 n) (r1 : RK 1000 a c e3 d) (r2 : s = d % 256) (r3 : RK 1000 a c e4 d2) (r4 : s2 = d2 % 256) (r5 : t = 10 * v) (r6 : u = t + s2) (hb : 0 ≤ b) (hc : 0 ≤ c) (h1 : 48 ≤ s) (h2 : s ≤ 57) (l1 : c + 1 ≤ n) (l2 : b ≤ c) (h4 : c + 1 - b ≤ 4) : u - 48 = nvN (dc a) (c + 1 - b).toNat b.toNat ∧ 0 ≤ u - 48 ∧ u - 48 < 10 ^ (c + 1 - b).toNat ∧ u - 48 < 10000 := by
  obtain ⟨q1, q2, q3⟩ := RK_1003 p1 (by omega)
  have b1 := by_at hn r1 hc l1
  have d1 := by_at hn r3 hc l1
  have h5 : (c + 1 - b).toNat = (c - b).toNat + 1 := by omega
  rw [nvN_s hb l2, ← q1, h5, Int.pow_succ]
  have q4 : (10 : Int) ^ (c - b).toNat ≤ 1000 := by
    have : (c - b).toNat ≤ 3 := by omega
    generalize (c - b).toNat = j at this ⊢
    match j, this with
    | 0, _ => decide
    | 1, _ => decide
    | 2, _ => decide
    | 3, _ => decide
  omega
theorem mu1_ok : ruH mu1 := fun x hp hc _ hl => by
  have c0 := hc (1, 0, big) lm0
  have c1 := hc (2, 0, big) lm1
  have c2 := hc (5, 48, 57) lm2
  have l1 := hl (2, 3, 1) lm0
  have l2 := hl (1, 2, 0) lm1
  dsimp only at c0 c1 c2 l1 l2
  refine go34 ?_
  show x 2 + 1 - x 1 ≤ 4 → x 14 + -48 = nvN (dc (x 0)) (x 2 + 1 - x 1).toNat (x 1).toNat ∧ 0 ≤ x 14 + -48 ∧ x 14 + -48 < 10 ^ (x 2 + 1 - x 1).toNat
  intro h4
  obtain ⟨z1, z2, z3, -⟩ := mu_of (vr_H.mp (hp _ lm0)) (vr_H.mp (hp _ lm1)) (vr_H.mp (hp _ lm2)) (RK_31 (vr_H.mp (hp _ lm3))) (vr_H.mp (hp _ lm4)) (RK_31 (vr_H.mp (hp _ lm5))) (RK_32 (vr_H.mp (hp _ lm6))) (RK_33 (vr_H.mp (hp _ lm7))) c0.1 c1.1 c2.1 c2.2 l1 (by omega) h4
  exact ⟨z1, z2, z3⟩
theorem mu2_ok : ruH mu2 := fun x hp hc _ hl => by
  have c0 := hc (1, 0, big) lm0
  have c1 := hc (2, 0, big) lm1
  have c2 := hc (5, 48, 57) lm2
  have c3 := hc (14, 100000, 2147483647) lm3
  have l1 := hl (2, 3, 1) lm0
  have l2 := hl (1, 2, 0) lm1
  dsimp only at c0 c1 c2 c3 l1 l2
  refine go34 (o := 0) ?_
  show x 2 + 1 - x 1 ≤ 4 → x 19 + 0 = nvN (dc (x 0)) (x 2 + 1 - x 1).toNat (x 1).toNat ∧ 0 ≤ x 19 + 0 ∧ x 19 + 0 < 10 ^ (x 2 + 1 - x 1).toNat
  intro h4
  obtain ⟨-, -, -, z4⟩ := mu_of (vr_H.mp (hp _ lm0)) (vr_H.mp (hp _ lm1)) (vr_H.mp (hp _ lm2)) (RK_31 (vr_H.mp (hp _ lm3))) (vr_H.mp (hp _ lm4)) (RK_31 (vr_H.mp (hp _ lm5))) (RK_32 (vr_H.mp (hp _ lm6))) (RK_33 (vr_H.mp (hp _ lm7))) c0.1 c1.1 c2.1 c2.2 l1 (by omega) h4
  omega
theorem mr1_ok : ruH mr1 := fun x hp hc _ _ => by
  have p1 := RK_1003 (vr_H.mp (hp _ lm0))
  have p2 := RK_5 (vr_H.mp (hp _ lm1))
  have p3 := RK_34 (vr_H.mp (hp _ lm2))
  have c0 := hc (1, 0, big) lm0
  have c1 := hc (15, 0, 4) lm1
  dsimp only at c0 c1
  exact vr_H.mpr (nm_of c0.1 p2 (by rw [if_pos (by omega)]; exact (p1 (by omega)).1))
theorem mr2_ok : ruH mr2 := fun x hp hc _ _ => by
  have p2 := RK_5 (vr_H.mp (hp _ lm0))
  have p3 := RK_34 (vr_H.mp (hp _ lm1))
  have c0 := hc (1, 0, big) lm0
  have c1 := hc (7, -1, -1) lm1
  have c2 := hc (15, 5, big) lm2
  dsimp only at c0 c1 c2
  exact vr_H.mpr (nm_of c0.1 p2 (by rw [if_neg (by omega)]; omega))
/-! words -/
def wdO (i : Nat) : List Int := wdL.getD i []
def wd0 (i : Nat) : eRu := (vr (10 + i) 0 1 20 5, [vr 4 0 1 8 6], [(5, 0, 0)], [(6, [1])], [])
def wd1 (i : Nat) : eRu := (vr (10 + i) 0 1 20 5, [vr 5 0 1 8 2, vr 34 2 1 9 15], [(1, 0, big), (5, 0, 0)], [(15, [((wdO i).length : Int)])], [])
def wd2 (i j : Nat) : eRu := (vr (10 + i) 0 1 20 6, [(1000, [(0, 0), (1, (j : Int)), (8, 0), (4, 0)]), vr 31 4 9 10 5], [(1, 0, big), (6, 0, 0)], [(5, [(wdO i).getD j 0])], [])
def wd3 (i j : Nat) : eRu := (vr (10 + i) 0 1 20 6, [vr 1001 0 8 9 3], [(1, 0, big), (6, 0, 0)], [], [(3, 1, -(j : Int))])
def wdB (j : Nat) : List eRl := [(1000, [(0, 0), (1, (j : Int)), (42 + 5 * j, 0), (40 + 5 * j, 0)]), vr 31 (40 + 5 * j) (43 + 5 * j) (44 + 5 * j) (41 + 5 * j)]
def wd4 (i : Nat) : eRu := (vr (10 + i) 0 1 20 6, [vr 4 0 1 8 7, vr 5 0 1 9 2, vr 34 2 1 10 15] ++ (List.range (wdO i).length).flatMap wdB, [(1, 0, big), (6, 1, 1), (7, 1, 1), (15, ((wdO i).length : Int), ((wdO i).length : Int))] ++ (List.range (wdO i).length).map (fun j => (41 + 5 * j, (wdO i).getD j 0, (wdO i).getD j 0)), [], [])
theorem ld_j {x : Nat → Int} {j c d : Nat} : rlH x (1000, [(0, 0), (1, (j : Int)), (c, 0), (d, 0)]) ↔ RK 1000 (x 0) (x 1 + (j : Int)) (x c) (x d) := by
  show RK 1000 (x 0 + 0) (x 1 + (j : Int)) (x c + 0) (x d + 0) ↔ _
  rw [Int.add_zero, Int.add_zero, Int.add_zero]
theorem wd_ne {L w : List Int} {p j : Nat} (hj : j < w.length) (h : bt L (p + j) ≠ w.getD j 0) : isWd L w p = false := by
  cases hb : isWd L w p with
  | false => rfl
  | true =>
    unfold isWd at hb
    rw [Bool.and_eq_true, Bool.and_eq_true] at hb
    have := List.all_eq_true.mp hb.2.2 j (List.mem_range.mpr hj)
    rw [decide_eq_true_eq] at this
    exact absurd this h
theorem wd_pos : ∀ i, i < 14 → ∀ j, j < 8 → 0 ≤ (wdO i).getD j 0 := by decide
theorem wd_len : ∀ i, i < 14 → (wdO i).length ≤ 7 := by decide
theorem vr_w {x : Nat → Int} {i a b c d : Nat} (hi : i < 14) (h : x d = bI (isWd (dc (x a)) (wdO i) (x b).toNat)) : rlH x (vr (10 + i) a b c d) := by
  refine vr_H.mpr ((RK_f (by omega)).mpr ?_)
  rw [FK_w hi]
  exact h
theorem wd0_ok {i : Nat} (hi : i < 14) : ruH (wd0 i) := fun x hp hc hn _ => by
  have p0 := RK_4 (vr_H.mp (hp _ lm0))
  have c1 := hc (5, 0, 0) lm0
  have n1 := hn (6, [1]) lm0
  dsimp only at c1 n1
  refine vr_w hi ?_
  have : isWd (dc (x 0)) (wdO i) (x 1).toNat = false := by
    unfold isWd
    rw [decide_eq_false (fun e => n1 (List.mem_singleton.mpr (p0.trans e))), Bool.false_and]
  rw [this]
  show x 5 = 0
  omega
theorem wd1_ok {i : Nat} (hi : i < 14) : ruH (wd1 i) := fun x hp hc hn _ => by
  have p0 := RK_5 (vr_H.mp (hp _ lm0))
  have p1 := RK_34 (vr_H.mp (hp _ lm1))
  have c0 := hc (1, 0, big) lm0
  have c1 := hc (5, 0, 0) lm1
  have n1 := hn (15, [((wdO i).length : Int)]) lm0
  dsimp only at c0 c1 n1
  refine vr_w hi ?_
  have h2 := te_le (dc (x 0)) (x 1).toNat
  have : isWd (dc (x 0)) (wdO i) (x 1).toNat = false := by
    unfold isWd
    rw [decide_eq_false (p := te (dc (x 0)) (x 1).toNat - (x 1).toNat = (wdO i).length) (fun e => n1 (List.mem_singleton.mpr (by omega))), Bool.false_and, Bool.and_false]
  rw [this]
  show x 5 = 0
  omega
theorem wd2_ok {i j : Nat} (hi : i < 14) (hj : j < (wdO i).length) : ruH (wd2 i j) := fun x hp hc hn _ => by
  have p0 : bt (dc (x 0)) (x 1 + (j : Int)).toNat ≠ -1 → bt (dc (x 0)) (x 1 + (j : Int)).toNat = x 4 % 256 := ld_j.mp (hp _ lm0)
  have p1 := RK_31 (vr_H.mp (hp _ lm1))
  have c0 := hc (1, 0, big) lm0
  have c1 := hc (6, 0, 0) lm1
  have n1 := hn (5, [(wdO i).getD j 0]) lm0
  dsimp only at c0 c1 n1
  refine vr_w hi ?_
  have hl := wd_len i hi
  have h0 := wd_pos i hi j (by omega)
  have e : (x 1 + (j : Int)).toNat = (x 1).toNat + j := by omega
  rw [e] at p0
  have : isWd (dc (x 0)) (wdO i) (x 1).toNat = false := wd_ne hj (fun h => by
    rw [h] at p0
    exact n1 (List.mem_singleton.mpr (by rw [p1, ← p0 (by omega)])))
  rw [this]
  show x 6 = 0
  omega
theorem wd3_ok {i j : Nat} (hi : i < 14) (hj : j < (wdO i).length) : ruH (wd3 i j) := fun x hp hc _ hl => by
  have c0 := hc (1, 0, big) lm0
  have c1 := hc (6, 0, 0) lm1
  have l1 := hl (3, 1, -(j : Int)) lm0
  dsimp only at c0 c1 l1
  have b1 := by_no (c := x 1 + (j : Int)) (vr_H.mp (hp _ lm0)) (by omega) (by omega)
  refine vr_w hi ?_
  have hl := wd_len i hi
  have h0 := wd_pos i hi j (by omega)
  have e : (x 1 + (j : Int)).toNat = (x 1).toNat + j := by omega
  rw [e] at b1
  have : isWd (dc (x 0)) (wdO i) (x 1).toNat = false := wd_ne hj (by omega)
  rw [this]
  show x 6 = 0
  omega
theorem wd4_ok {i : Nat} (hi : i < 14) : ruH (wd4 i) := fun x hp hc _ _ => by
  have p0 := RK_4 (vr_H.mp (hp _ (List.mem_append_left _ lm0)))
  have p1 := RK_5 (vr_H.mp (hp _ (List.mem_append_left _ lm1)))
  have p2 := RK_34 (vr_H.mp (hp _ (List.mem_append_left _ lm2)))
  have c0 := hc (1, 0, big) (List.mem_append_left _ lm0)
  have c1 := hc (6, 1, 1) (List.mem_append_left _ lm1)
  have c2 := hc (7, 1, 1) (List.mem_append_left _ lm2)
  have c3 := hc (15, ((wdO i).length : Int), ((wdO i).length : Int)) (List.mem_append_left _ lm3)
  dsimp only at c0 c1 c2 c3
  refine vr_w hi ?_
  have hk : kd (dc (x 0)) (x 1).toNat = 1 := by omega
  have h2 := te_le (dc (x 0)) (x 1).toNat
  have ht := te_i (i := 1) (Or.inl rfl) hk
  have : isWd (dc (x 0)) (wdO i) (x 1).toNat = true := by
    unfold isWd
    rw [Bool.and_eq_true, Bool.and_eq_true, decide_eq_true_eq, decide_eq_true_eq]
    refine ⟨hk, by omega, List.all_eq_true.mpr (fun j hj => ?_)⟩
    have hj := List.mem_range.mp hj
    rw [decide_eq_true_eq]
    have q1 : bt (dc (x 0)) (x 1 + (j : Int)).toNat ≠ -1 → bt (dc (x 0)) (x 1 + (j : Int)).toNat = x (40 + 5 * j) % 256 := ld_j.mp (hp _ (List.mem_append_right _ (List.mem_flatMap.mpr ⟨j, List.mem_range.mpr hj, lm0⟩)))
    have q2 := RK_31 (vr_H.mp (hp _ (List.mem_append_right _ (List.mem_flatMap.mpr ⟨j, List.mem_range.mpr hj, lm1⟩))))
    have q3 := hc (41 + 5 * j, (wdO i).getD j 0, (wdO i).getD j 0) (List.mem_append_right _ (List.mem_map.mpr ⟨j, List.mem_range.mpr hj, rfl⟩))
    dsimp only at q3
    have e : (x 1 + (j : Int)).toNat = (x 1).toNat + j := by omega
    rw [e] at q1
    have hin : isLt (bt (dc (x 0)) ((x 1).toNat + j)) = true := fw_in (P := isLt) (p := (x 1).toNat) (by omega) (by
      have ht : te (dc (x 0)) (x 1).toNat = fw isLt (dc (x 0)) (x 1).toNat := ht
      omega)
    have hne : bt (dc (x 0)) ((x 1).toNat + j) ≠ -1 := fun h => by
      rw [h] at hin
      cases hin
    rw [q1 hne]
    omega
  rw [this]
  show x 6 = 1
  omega
/-! values -/
def vlI : List Nat := [3, 8, 9, 10, 11, 12, 13]
def va1 (i : Nat) (c l h : Int) : eRu := (vr 1005 0 1 2 6, [vr (10 + i) 0 1 8 5], [(2, c, c), (5, 1, 1), (6, l, h)], [], [])
def va0 (c : Int) : eRu := (vr 1005 0 1 2 6, vlI.map (fun i => vr (10 + i) 0 1 (30 + i) (50 + i)), [(2, c, c), (6, c, c)] ++ vlI.map (fun i => (50 + i, 0, 0)), [], [])
theorem wVals_e : wVals = vlI.map wdO := rfl
theorem isVl_y {L : List Int} {p i : Nat} (hi : i ∈ vlI) (h : isWd L (wdO i) p = true) : isVl L p = true := by
  unfold isVl
  rw [wVals_e, List.any_map]
  exact List.any_eq_true.mpr ⟨i, hi, h⟩
theorem isVl_n {L : List Int} {p : Nat} (h : ∀ i ∈ vlI, isWd L (wdO i) p = false) : isVl L p = false := by
  unfold isVl
  rw [wVals_e, List.any_map]
  cases hb : vlI.any ((fun w => isWd L w p) ∘ wdO) with
  | false => rfl
  | true =>
    obtain ⟨i, hi, hw⟩ := List.any_eq_true.mp hb
    have hw : isWd L (wdO i) p = true := hw
    rw [h i hi] at hw
    cases hw
theorem vl_lt : ∀ i ∈ vlI, i < 14 := by decide
theorem va1_ok {i : Nat} (hi : i ∈ vlI) {c l h : Int} (hn : c < l ∨ h < c) : ruH (va1 i c l h) := fun x hp hc _ _ => by
  have p0 := (RK_f (k := 10 + i) (by have := vl_lt i hi; omega)).mp (vr_H.mp (hp _ lm0))
  have c1 := hc (2, c, c) lm0
  have c2 := hc (5, 1, 1) lm1
  have c3 := hc (6, l, h) lm2
  dsimp only at c1 c2 c3
  rw [FK_w (vl_lt i hi)] at p0
  have hw := isVl_y hi (bI_1 (show bI (isWd (dc (x 0)) (wdO i) (x 1).toNat) = 1 by unfold wdO; omega))
  refine vr_H.mpr ?_
  show x 6 = x 2 ↔ isVl (dc (x 0)) (x 1).toNat = false
  rw [hw]
  exact ⟨fun e => by omega, fun e => by cases e⟩
theorem va0_ok (c : Int) : ruH (va0 c) := fun x hp hc _ _ => by
  have c1 := hc (2, c, c) (List.mem_append_left _ lm0)
  have c2 := hc (6, c, c) (List.mem_append_left _ lm1)
  dsimp only at c1 c2
  have hw : isVl (dc (x 0)) (x 1).toNat = false := isVl_n (fun i hi => by
    have p0 := (RK_f (k := 10 + i) (by have := vl_lt i hi; omega)).mp (vr_H.mp (hp _ (List.mem_map.mpr ⟨i, hi, rfl⟩)))
    have c3 := hc (50 + i, 0, 0) (List.mem_append_right _ (List.mem_map.mpr ⟨i, hi, rfl⟩))
    dsimp only at c3
    rw [FK_w (vl_lt i hi)] at p0
    exact bI_0 (show bI (isWd (dc (x 0)) (wdO i) (x 1).toNat) = 0 by unfold wdO; omega))
  refine vr_H.mpr ?_
  show x 6 = x 2 ↔ isVl (dc (x 0)) (x 1).toNat = false
  rw [hw]
  exact ⟨fun _ => rfl, fun _ => by omega⟩
/-! what is told at once of facts -/
def cv1 : eRu := (vr 4 0 1 6 6, [vr 36 0 1 8 6], [(6, 0, 2)], [], [])
def cv2 : eRu := (vr 4 0 1 6 5, [vr 36 0 1 8 6, vr 1000 0 1 9 4, vr 31 4 10 11 5], [(6, 3, 3)], [], [])
def cv3 : eRu := ((4, [(0, 0), (1, 0), (6, 0), (6, -1)]), [vr 36 0 1 8 6], [(6, 4, 4)], [], [])
def cv4 : eRu := ((9, [(0, 0), (1, 0), (2, 0), (2, 1)]), [vr 1005 0 1 2 6], [(2, 0, 0), (6, -7, -1)], [], [])
def cv5 : eRu := ((9, [(0, 0), (1, 0), (2, 0), (2, 2)]), [vr 1005 0 1 2 6], [(2, -1, -1), (6, 0, 6)], [], [])
def cv6 (c : Int) : eRu := ((9, [(0, 0), (1, 0), (2, 0), (2, -c)]), [vr 1005 0 1 2 6], [(2, c, c), (6, c, c)], [], [])
theorem go4 {k : Nat} {x : Nat → Int} {a b c d : Nat} {o : Int} (h : RK k (x a) (x b) (x c) (x d + o)) : rlH x (k, [(a, 0), (b, 0), (c, 0), (d, o)]) := by
  show RK k (x a + 0) (x b + 0) (x c + 0) (x d + o)
  rw [Int.add_zero, Int.add_zero, Int.add_zero]
  exact h
theorem RK_36 {a b c d : Int} (h : RK 36 a b c d) : d = tk (dc a) b.toNat := h
theorem tk_c {L : List Int} {p : Nat} {t : Int} (h : t = tk L p) : (t ≤ 2 → kd L p = t) ∧ (t = 4 → kd L p = 3) ∧ (t = 3 → bt L p ≠ -1 ∧ kd L p = bt L p) := by
  unfold tk at h
  by_cases h3 : kd L p = 3
  · rw [if_pos h3] at h
    exact ⟨fun e => by omega, fun _ => h3, fun e => by omega⟩
  · rw [if_neg h3] at h
    by_cases h2 : kd L p ≤ 2
    · rw [if_pos h2] at h
      exact ⟨fun e => by omega, fun e => by omega, fun e => by omega⟩
    · rw [if_neg h2] at h
      refine ⟨fun e => by omega, fun e => by omega, fun _ => ?_⟩
      have hb : bt L p ≠ -1 := fun e => h2 (by rw [kd_e e]; decide)
      refine ⟨hb, ?_⟩
      unfold kd at h2 h3 ⊢
      rw [if_neg hb] at h2 h3 ⊢
      split at h2
      next => omega
      next g1 =>
        rw [if_neg g1] at h3 ⊢
        split at h2
        next => omega
        next g2 =>
          rw [if_neg g2] at h3 ⊢
          split at h3
          next g3 => rw [if_pos g3]
          next => exact absurd rfl h3
theorem cv1_ok : ruH cv1 := fun x hp hc _ _ => by
  have p0 := tk_c (RK_36 (vr_H.mp (hp _ lm0)))
  have c1 := hc (6, 0, 2) lm0
  dsimp only at c1
  exact vr_H.mpr (p0.1 c1.2).symm
theorem cv2_ok : ruH cv2 := fun x hp hc _ _ => by
  have p0 := tk_c (RK_36 (vr_H.mp (hp _ lm0)))
  have p1 : bt (dc (x 0)) (x 1).toNat ≠ -1 → bt (dc (x 0)) (x 1).toNat = x 4 % 256 := vr_H.mp (hp _ lm1)
  have p2 := RK_31 (vr_H.mp (hp _ lm2))
  have c1 := hc (6, 3, 3) lm0
  dsimp only at c1
  obtain ⟨q1, q2⟩ := p0.2.2 (by omega)
  refine vr_H.mpr ?_
  show x 5 = kd (dc (x 0)) (x 1).toNat
  rw [q2, p1 q1]
  exact p2
theorem cv3_ok : ruH cv3 := fun x hp hc _ _ => by
  have p0 := tk_c (RK_36 (vr_H.mp (hp _ lm0)))
  have c1 := hc (6, 4, 4) lm0
  dsimp only at c1
  refine go4 ?_
  show x 6 + -1 = kd (dc (x 0)) (x 1).toNat
  rw [p0.2.1 (by omega)]
  omega
theorem RK_1005 {a b c d : Int} (h : RK 1005 a b c d) : d = c ↔ isVl (dc a) b.toNat = false := h
theorem isVl_t {L : List Int} {p : Nat} {c d : Int} (h : d = c ↔ isVl L p = false) (hn : d ≠ c) : isVl L p = true := by
  cases hb : isVl L p with
  | true => rfl
  | false => exact absurd (h.mpr hb) hn
theorem cv4_ok : ruH cv4 := fun x hp hc _ _ => by
  have p0 := RK_1005 (vr_H.mp (hp _ lm0))
  have c1 := hc (2, 0, 0) lm0
  have c2 := hc (6, -7, -1) lm1
  dsimp only at c1 c2
  refine go4 ?_
  show x 2 + 1 = bI (isVl (dc (x 0)) (x 1).toNat)
  rw [isVl_t p0 (by omega)]
  show x 2 + 1 = 1
  omega
theorem cv5_ok : ruH cv5 := fun x hp hc _ _ => by
  have p0 := RK_1005 (vr_H.mp (hp _ lm0))
  have c1 := hc (2, -1, -1) lm0
  have c2 := hc (6, 0, 6) lm1
  dsimp only at c1 c2
  refine go4 ?_
  show x 2 + 2 = bI (isVl (dc (x 0)) (x 1).toNat)
  rw [isVl_t p0 (by omega)]
  show x 2 + 2 = 1
  omega
theorem cv6_ok (c : Int) : ruH (cv6 c) := fun x hp hc _ _ => by
  have p0 := RK_1005 (vr_H.mp (hp _ lm0))
  have c1 := hc (2, c, c) lm0
  have c2 := hc (6, c, c) lm1
  dsimp only at c1 c2
  refine go4 ?_
  show x 2 + -c = bI (isVl (dc (x 0)) (x 1).toNat)
  rw [p0.mp (by omega)]
  show x 2 + -c = 0
  omega
def fwTab : List eRu := [cv1, cv2, cv3, cv4, cv5, cv6 0, cv6 (-1)]
theorem fwTab_ok : ∀ r ∈ fwTab, ruH r := fun r hr => by
  simp only [fwTab, List.mem_cons, List.not_mem_nil, or_false] at hr
  rcases hr with rfl | rfl | rfl | rfl | rfl | rfl | rfl
  · exact cv1_ok
  · exact cv2_ok
  · exact cv3_ok
  · exact cv4_ok
  · exact cv5_ok
  · exact cv6_ok 0
  · exact cv6_ok (-1)
def wdRules (i : Nat) : List eRu := [wd0 i, wd1 i, wd4 i] ++ ((List.range (wdO i).length).map (wd2 i) ++ (List.range (wdO i).length).map (wd3 i))
theorem wdRules_ok {i : Nat} (hi : i < 14) : ∀ r ∈ wdRules i, ruH r := fun r hr => by
  unfold wdRules at hr
  rcases List.mem_append.mp hr with hr | hr
  · simp only [List.mem_cons, List.not_mem_nil, or_false] at hr
    rcases hr with rfl | rfl | rfl
    · exact wd0_ok hi
    · exact wd1_ok hi
    · exact wd4_ok hi
  · rcases List.mem_append.mp hr with hr | hr
    · obtain ⟨j, hj, rfl⟩ := List.mem_map.mp hr
      exact wd2_ok hi (List.mem_range.mp hj)
    · obtain ⟨j, hj, rfl⟩ := List.mem_map.mp hr
      exact wd3_ok hi (List.mem_range.mp hj)
def tkA : List eRu := [clb0 0, clb0 1, clb0 2, clb1 1, clb1 2, sk1 32, sk1 10, sk2, sk3, nx2, nx3, kd0, kd1 1, kd1 2, tk0, tk1 1, tk1 2, te0, te1 1, te1 2, nu0, nu1, nu2, nm1, mu0, mu1, mu2, mr1, mr2, va0 0, va0 (-1)]
theorem tkA_ok : ∀ r ∈ tkA, ruH r := fun r hr => by
  simp only [tkA, List.mem_cons, List.not_mem_nil, or_false] at hr
  rcases hr with rfl | rfl | rfl | rfl | rfl | rfl | rfl | rfl | rfl | rfl | rfl | rfl | rfl | rfl | rfl | rfl | rfl | rfl | rfl | rfl | rfl | rfl | rfl | rfl | rfl | rfl | rfl | rfl | rfl | rfl | rfl
  · exact clb0_ok (by decide)
  · exact clb0_ok (by decide)
  · exact clb0_ok (by decide)
  · exact clb1_ok (Or.inl rfl)
  · exact clb1_ok (Or.inr rfl)
  · exact sk1_ok (Or.inl rfl)
  · exact sk1_ok (Or.inr rfl)
  · exact sk2_ok
  · exact sk3_ok
  · exact nx2_ok
  · exact nx3_ok
  · exact kd0_ok
  · exact kd1_ok (Or.inl rfl)
  · exact kd1_ok (Or.inr rfl)
  · exact tk0_ok
  · exact tk1_ok (Or.inl rfl)
  · exact tk1_ok (Or.inr rfl)
  · exact te0_ok
  · exact te1_ok (Or.inl rfl)
  · exact te1_ok (Or.inr rfl)
  · exact nu0_ok
  · exact nu1_ok
  · exact nu2_ok
  · exact nm1_ok
  · exact mu0_ok
  · exact mu1_ok
  · exact mu2_ok
  · exact mr1_ok
  · exact mr2_ok
  · exact va0_ok 0
  · exact va0_ok (-1)
def tkRules : List eRu := tkA ++ (gaps.map (fun p => kd3 p.1 p.2) ++ (gaps.map (fun p => kd4 p.1 p.2) ++ (gaps.map (fun p => tk4 p.1 p.2) ++ (gaps.map (fun p => te3 p.1 p.2) ++ (mkL.map tk3 ++ ((offs 1).map (fun p => te2 1 p.1 p.2) ++ ((offs 2).map (fun p => te2 2 p.1 p.2) ++ ((offs 2).map (fun p => nm2 p.1 p.2) ++ (vlI.map (fun i => va1 i 0 (-7) (-1)) ++ (vlI.map (fun i => va1 i (-1) 0 6) ++ (List.range 14).flatMap wdRules))))))))))
theorem all_app {P : eRu → Prop} {l r : List eRu} (h1 : ∀ x ∈ l, P x) (h2 : ∀ x ∈ r, P x) : ∀ x ∈ l ++ r, P x := fun x hx => (List.mem_append.mp hx).elim (h1 x) (h2 x)
theorem all_map {α : Type} {P : eRu → Prop} {f : α → eRu} {l : List α} (h : ∀ a ∈ l, P (f a)) : ∀ x ∈ l.map f, P x := fun x hx => by
  obtain ⟨a, ha, rfl⟩ := List.mem_map.mp hx
  exact h a ha
theorem tkRules_ok : ∀ r ∈ tkRules, ruH r := all_app tkA_ok (all_app (all_map fun _ h => kd3_ok h) (all_app (all_map fun _ h => kd4_ok h) (all_app (all_map fun _ h => tk4_ok h) (all_app (all_map fun _ h => te3_ok h) (all_app (all_map fun _ h => tk3_ok h) (all_app (all_map fun _ h => te2_ok (Or.inl rfl) h) (all_app (all_map fun _ h => te2_ok (Or.inr rfl) h) (all_app (all_map fun _ h => nm2_ok h) (all_app (all_map fun _ h => va1_ok h (Or.inr (by decide))) (all_app (all_map fun _ h => va1_ok h (Or.inl (by decide))) (fun r hr => by
  obtain ⟨i, hi, h⟩ := List.mem_flatMap.mp hr
  exact wdRules_ok (List.mem_range.mp hi) r h)))))))))))
