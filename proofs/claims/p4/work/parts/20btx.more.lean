/-! ===== MORE RULES: signs, numbers if a token is one, lengths, texts one byte longer; which rules tell a kind ===== -/
def mk0 : eRu := (vr 1002 0 1 2 3, [], [(3, -1, -1)], [(0, mkL)], [])
def mk1 (v : Int) : eRu := (vr 1002 0 1 2 3, [], [(0, v, v), (3, 0, big)], [], [])
theorem mk0_ok : ruH mk0 := fun x _ hc hn _ => by
  have c1 := hc (3, -1, -1) lm0
  have n1 := hn (0, mkL) lm0
  dsimp only at c1 n1
  refine vr_H.mpr ?_
  show 0 ≤ x 3 ↔ isMk (x 0) = true
  constructor
  · intro h
    omega
  · intro h
    exfalso
    unfold isMk at h
    obtain ⟨y, hy1, hy2⟩ := List.any_eq_true.mp h
    rw [decide_eq_true_eq] at hy2
    rw [hy2] at n1
    exact n1 hy1
theorem mk1_ok {v : Int} (hv : v ∈ mkL) : ruH (mk1 v) := fun x _ hc _ _ => by
  have c1 := hc (0, v, v) lm0
  have c2 := hc (3, 0, big) lm1
  dsimp only at c1 c2
  refine vr_H.mpr ?_
  show 0 ≤ x 3 ↔ isMk (x 0) = true
  have e : x 0 = v := by omega
  refine ⟨fun _ => ?_, fun _ => c2.1⟩
  rw [e]
  unfold isMk
  exact List.any_eq_true.mpr ⟨v, hv, decide_eq_true rfl⟩
def n10a : eRu := (vr 1010 0 1 5 7, [vr 6 0 1 20 7], [], [], [])
def n10b : eRu := (vr 1010 0 1 5 7, [], [], [(5, [2])], [])
def n11a : eRu := (vr 1011 0 1 5 7, [vr 1003 0 1 2 7, vr 5 0 1 8 2], [], [], [])
def n11b : eRu := (vr 1011 0 1 5 7, [], [], [(5, [2])], [])
theorem n10a_ok : ruH n10a := fun x hp _ _ _ => by
  have p0 := (RK_f (by decide)).mp (vr_H.mp (hp _ lm0))
  exact vr_H.mpr (show x 5 = 2 → x 7 = FK 6 (x 0) (x 1) 0 from fun _ => p0)
theorem n10b_ok : ruH n10b := fun x _ _ hn _ => by
  have n1 := hn (5, [2]) lm0
  dsimp only at n1
  exact vr_H.mpr (show x 5 = 2 → x 7 = FK 6 (x 0) (x 1) 0 from fun e => absurd (by rw [e]; exact List.mem_singleton.mpr rfl) n1)
theorem n11a_ok : ruH n11a := fun x hp _ _ _ => by
  have p0 : x 2 - x 1 ≤ 4 → x 7 = nvN (dc (x 0)) (x 2 - x 1).toNat (x 1).toNat ∧ 0 ≤ x 7 ∧ x 7 < 10 ^ (x 2 - x 1).toNat := vr_H.mp (hp _ lm0)
  have p1 := (RK_f (by decide)).mp (vr_H.mp (hp _ lm1))
  have p1 : x 2 = FK 5 (x 0) (x 1) 0 := p1
  refine vr_H.mpr (show x 5 = 2 → FK 5 (x 0) (x 1) 0 - x 1 ≤ 4 → x 7 = nvN (dc (x 0)) (FK 5 (x 0) (x 1) 0 - x 1).toNat (x 1).toNat ∧ 0 ≤ x 7 ∧ x 7 < 10 ^ (FK 5 (x 0) (x 1) 0 - x 1).toNat from fun _ => ?_)
  rw [← p1]
  exact p0
theorem n11b_ok : ruH n11b := fun x _ _ hn _ => by
  have n1 := hn (5, [2]) lm0
  dsimp only at n1
  exact vr_H.mpr (show x 5 = 2 → FK 5 (x 0) (x 1) 0 - x 1 ≤ 4 → x 7 = nvN (dc (x 0)) (FK 5 (x 0) (x 1) 0 - x 1).toNat (x 1).toNat ∧ 0 ≤ x 7 ∧ x 7 < 10 ^ (FK 5 (x 0) (x 1) 0 - x 1).toNat from fun e => absurd (by rw [e]; exact List.mem_singleton.mpr rfl) n1)
def n11c : eRu := (vr 1011 0 1 25 7, [vr 1003 0 1 2 7, vr 4 0 1 8 6, vr 3042 0 1 2 13, vr 1001 0 9 10 3], [(6, 2, 2), (2, 0, big)], [], [(3, 2, 0)])
def n11d (l h : Int) : eRu := (vr 1011 0 1 25 7, [vr 1003 0 1 2 7, vr 4 0 1 8 6, vr 3042 0 1 2 13, vr 1001 0 9 10 3, vr 1000 0 2 11 4, vr 31 4 12 14 5], [(6, 2, 2), (2, 0, big), (5, l, h)], [], [(2, 3, 1)])
theorem n11c_ok : ruH n11c := fun x hp hc hn hl => by
  have p0 : x 2 - x 1 ≤ 4 → x 7 = nvN (dc (x 0)) (x 2 - x 1).toNat (x 1).toNat ∧ 0 ≤ x 7 ∧ x 7 < 10 ^ (x 2 - x 1).toNat := vr_H.mp (hp _ lm0)
  have p1 : x 2 = FK 5 (x 0) (x 1) 0 := (RK_f (by decide)).mp (vr_H.mp (te1_ok (i := 2) (Or.inr rfl) x (fun p h => hp p (List.mem_cons_of_mem _ h)) hc hn hl))
  refine vr_H.mpr (show x 25 = 2 → FK 5 (x 0) (x 1) 0 - x 1 ≤ 4 → x 7 = nvN (dc (x 0)) (FK 5 (x 0) (x 1) 0 - x 1).toNat (x 1).toNat ∧ 0 ≤ x 7 ∧ x 7 < 10 ^ (FK 5 (x 0) (x 1) 0 - x 1).toNat from fun _ => ?_)
  rw [← p1]
  exact p0
theorem n11d_ok {p : Int × Int} (hg : p ∈ offs 2) : ruH (n11d p.1 p.2) := fun x hp hc hn hl => by
  have p0 : x 2 - x 1 ≤ 4 → x 7 = nvN (dc (x 0)) (x 2 - x 1).toNat (x 1).toNat ∧ 0 ≤ x 7 ∧ x 7 < 10 ^ (x 2 - x 1).toNat := vr_H.mp (hp _ lm0)
  have p1 : x 2 = FK 5 (x 0) (x 1) 0 := (RK_f (by decide)).mp (vr_H.mp (te2_ok (i := 2) (Or.inr rfl) hg x (fun p h => hp p (List.mem_cons_of_mem _ h)) hc hn hl))
  refine vr_H.mpr (show x 25 = 2 → FK 5 (x 0) (x 1) 0 - x 1 ≤ 4 → x 7 = nvN (dc (x 0)) (FK 5 (x 0) (x 1) 0 - x 1).toNat (x 1).toNat ∧ 0 ≤ x 7 ∧ x 7 < 10 ^ (FK 5 (x 0) (x 1) 0 - x 1).toNat from fun _ => ?_)
  rw [← p1]
  exact p0
/-- told at once: a number, if the token is one -/
def cv7 : eRu := (vr 6 0 1 20 7, [vr 1010 0 1 20 7], [(20, 2, 2)], [], [])
def cv8 : eRu := (vr 1003 0 1 2 7, [vr 1011 0 1 20 7, vr 5 0 1 8 2], [(20, 2, 2)], [], [])
theorem cv7_ok : ruH cv7 := fun x hp hc _ _ => by
  have p0 : x 20 = 2 → x 7 = FK 6 (x 0) (x 1) 0 := vr_H.mp (hp _ lm0)
  have c1 := hc (20, 2, 2) lm0
  dsimp only at c1
  exact vr_H.mpr ((RK_f (by decide)).mpr (p0 (by omega)))
theorem cv8_ok : ruH cv8 := fun x hp hc _ _ => by
  have p0 : x 20 = 2 → FK 5 (x 0) (x 1) 0 - x 1 ≤ 4 → x 7 = nvN (dc (x 0)) (FK 5 (x 0) (x 1) 0 - x 1).toNat (x 1).toNat ∧ 0 ≤ x 7 ∧ x 7 < 10 ^ (FK 5 (x 0) (x 1) 0 - x 1).toNat := vr_H.mp (hp _ lm0)
  have p1 : x 2 = FK 5 (x 0) (x 1) 0 := (RK_f (by decide)).mp (vr_H.mp (hp _ lm1))
  have c1 := hc (20, 2, 2) lm0
  dsimp only at c1
  refine vr_H.mpr (show x 2 - x 1 ≤ 4 → x 7 = nvN (dc (x 0)) (x 2 - x 1).toNat (x 1).toNat ∧ 0 ≤ x 7 ∧ x 7 < 10 ^ (x 2 - x 1).toNat from ?_)
  rw [p1]
  exact p0 (by omega)
/-! a token's kind by its one sign; a byte without its sign -/
def kdS (v : Int) : eRu := (vr 4 0 2 20 6, [vr 1001 0 8 9 3, vr 1000 0 2 10 4, vr 31 4 11 12 5], [(2, 0, big), (5, v, v), (6, v, v)], [], [(2, 3, 1)])
def kdN (l h : Int) : eRu := (vr 4 0 2 20 6, [vr 1001 0 8 9 3, vr 1000 0 2 10 4, vr 31 4 11 12 5], [(2, 0, big), (5, l, h), (6, 3, 3)], [(5, mkL)], [(2, 3, 1)])
def by1 : eRu := (vr 1000 0 1 2 5, [vr 1000 0 1 3 4, vr 31 4 6 7 5], [], [], [])
def by2 : eRu := (vr 31 0 1 2 0, [], [(0, 0, 255)], [], [])
theorem kdS_ok {v : Int} (hv : v ∈ mkL) : ruH (kdS v) := fun x hp hc _ hl => by
  have c1 := hc (2, 0, big) lm0
  have c2 := hc (5, v, v) lm1
  have c3 := hc (6, v, v) lm2
  have l1 := hl (2, 3, 1) lm0
  have b1 := by_at (vr_H.mp (hp _ lm0)) (vr_H.mp (hp _ lm1)) c1.1 l1
  have b2 := RK_31 (vr_H.mp (hp _ lm2))
  dsimp only at c1 c2 c3 l1
  refine vr_H.mpr ?_
  show x 6 = kd (dc (x 0)) (x 2).toNat
  have e : bt (dc (x 0)) (x 2).toNat = v := by omega
  have hk : kd (dc (x 0)) (x 2).toNat = v := by
    unfold kd
    rw [e]
    simp only [mkL, List.mem_cons, List.not_mem_nil, or_false] at hv
    rcases hv with rfl | rfl | rfl | rfl | rfl | rfl | rfl | rfl | rfl <;> rfl
  rw [hk]
  omega
theorem kdN_ok {p : Int × Int} (hg : p ∈ gaps) : ruH (kdN p.1 p.2) := fun x hp hc hn hl => by
  have c1 := hc (2, 0, big) lm0
  have c2 := hc (5, p.1, p.2) lm1
  have c3 := hc (6, 3, 3) lm2
  have n1 := hn (5, mkL) lm0
  have l1 := hl (2, 3, 1) lm0
  have b1 := by_at (vr_H.mp (hp _ lm0)) (vr_H.mp (hp _ lm1)) c1.1 l1
  have b2 := RK_31 (vr_H.mp (hp _ lm2))
  dsimp only at c1 c2 c3 n1 l1
  refine vr_H.mpr ?_
  show x 6 = kd (dc (x 0)) (x 2).toNat
  have hm : isMk (x 5) = false := by
    cases hb : isMk (x 5) with
    | false => rfl
    | true => exact absurd (isMk_i.mp hb) n1
  have hk := kd_g hg (b1.trans b2.symm) c2.1 c2.2
  rw [hm, if_neg (by decide)] at hk
  rw [hk]
  omega
theorem by1_ok : ruH by1 := fun x hp _ _ _ => by
  have p0 : bt (dc (x 0)) (x 1).toNat ≠ -1 → bt (dc (x 0)) (x 1).toNat = x 4 % 256 := vr_H.mp (hp _ lm0)
  have p1 := RK_31 (vr_H.mp (hp _ lm1))
  refine vr_H.mpr (show bt (dc (x 0)) (x 1).toNat ≠ -1 → bt (dc (x 0)) (x 1).toNat = x 5 % 256 from fun h => ?_)
  have := p0 h
  omega
theorem by2_ok : ruH by2 := fun x _ hc _ _ => by
  have c1 := hc (0, 0, 255) lm0
  dsimp only at c1
  refine vr_H.mpr (show x 0 = x 0 % 256 from ?_)
  omega
/-- a number's first digit -/
def nu1z : eRu := ((7, [(0, 0), (1, 0), (2, 1), (5, -48)]), [vr 7 0 1 2 6, vr 1001 0 8 9 3, vr 1000 0 2 10 4, vr 31 4 11 12 5, vr 34 2 1 17 18], [(1, 0, big), (2, 0, big), (18, 0, 3), (6, 0, 0)], [], [(2, 3, 1)])
theorem nu1z_ok : ruH nu1z := fun x hp hc _ hl => by
  have p1 := RK_7 (vr_H.mp (hp _ lm0))
  have c0 := hc (1, 0, big) lm0
  have c1 := hc (2, 0, big) lm1
  have c2 := hc (18, 0, 3) lm2
  have c3 := hc (6, 0, 0) lm3
  have l1 := hl (2, 3, 1) lm0
  have b1 := by_at (vr_H.mp (hp _ lm1)) (vr_H.mp (hp _ lm2)) c1.1 l1
  have b2 := RK_31 (vr_H.mp (hp _ lm3))
  have b5 := RK_34 (vr_H.mp (hp _ lm4))
  dsimp only at c0 c1 c2 c3 l1
  refine go34 ?_
  show x 5 + -48 = if x 2 + 1 - x 1 ≤ 4 then nvN (dc (x 0)) (x 2 + 1 - x 1).toNat (x 1).toNat else -1
  rw [if_pos (by omega)] at p1 ⊢
  rw [nvN_s c0.1 (by omega), ← p1]
  omega
def moK : List eRu := nu1z :: (mkL.map kdS ++ (gaps.map (fun p => kdN p.1 p.2) ++ [by1, by2]))
theorem moK_ok : ∀ r ∈ moK, ruH r := List.forall_mem_cons.mpr ⟨nu1z_ok, all_app (all_map fun _ h => kdS_ok h) (all_app (all_map fun _ h => kdN_ok h) (fun r hr => by
  simp only [List.mem_cons, List.not_mem_nil, or_false] at hr
  rcases hr with rfl | rfl
  · exact by1_ok
  · exact by2_ok))⟩
def cv9 : eRu := (vr 31 4 10 10 4, [vr 1000 0 2 10 4], [(4, 0, 255)], [], [])
theorem cv9_ok : ruH cv9 := fun x _ hc _ _ => by
  have c1 := hc (4, 0, 255) lm0
  dsimp only at c1
  refine vr_H.mpr (show x 4 = x 4 % 256 from ?_)
  omega
/-! how much longer a rule is, against how far it goes: a rule's length and place before, and behind -/
def l12a : eRu := (vr 1012 0 1 0 1, [], [], [], [])
def l12b (i : Nat) : eRu := ((1012, [(0, 0), (1, 0), (2, (i : Int)), (3, 0)]), [vr 1012 0 1 2 4], [], [], [(4, 3, (i : Int))])
def l12c (i : Nat) : eRu := ((1012, [(0, 0), (1, 0), (2, (i : Int)), (3, 0)]), [vr 1012 0 1 4 5, vr 1012 4 6 2 3], [], [], [(5, 6, (i : Int))])
def l12d (i : Nat) : eRu := ((1012, [(0, 0), (1, 0), (2, (i : Int)), (3, 0)]), [vr 1012 0 6 2 3], [], [], [(1, 6, (i : Int))])
def l12z (i : Nat) : eRu := ((1012, [(0, 0), (1, 0), (0, (i : Int)), (3, 0)]), [], [], [], [(1, 3, (i : Int))])
def l12e (i : Nat) : eRu := ((1012, [(0, 0), (1, 0), (2, (i : Int)), (3, 0)]), [vr 1012 0 6 2 5], [], [], [(1, 6, 0), (5, 3, (i : Int))])
theorem RK_12 {a b c d : Int} : RK 1012 a b c d ↔ c + b ≤ d + a := Iff.rfl
theorem goA {k : Nat} {x : Nat → Int} {a b c d : Nat} {o : Int} (h : RK k (x a) (x b) (x c + o) (x d)) : rlH x (k, [(a, 0), (b, 0), (c, o), (d, 0)]) := by
  show RK k (x a + 0) (x b + 0) (x c + o) (x d + 0)
  rw [Int.add_zero, Int.add_zero, Int.add_zero]
  exact h
theorem l12a_ok : ruH l12a := fun x _ _ _ _ => vr_H.mpr (RK_12.mpr (by omega))
theorem l12b_ok (i : Nat) : ruH (l12b i) := fun x hp _ _ hl => by
  have p0 := RK_12.mp (vr_H.mp (hp _ lm0))
  have c1 := hl (4, 3, (i : Int)) lm0
  dsimp only at c1
  exact goA (RK_12.mpr (by omega))
theorem l12c_ok (i : Nat) : ruH (l12c i) := fun x hp _ _ hl => by
  have p0 := RK_12.mp (vr_H.mp (hp _ lm0))
  have p1 := RK_12.mp (vr_H.mp (hp _ lm1))
  have c1 := hl (5, 6, (i : Int)) lm0
  dsimp only at c1
  exact goA (RK_12.mpr (by omega))
theorem l12d_ok (i : Nat) : ruH (l12d i) := fun x hp _ _ hl => by
  have p0 := RK_12.mp (vr_H.mp (hp _ lm0))
  have c1 := hl (1, 6, (i : Int)) lm0
  dsimp only at c1
  exact goA (RK_12.mpr (by omega))
theorem l12z_ok (i : Nat) : ruH (l12z i) := fun x _ _ _ hl => by
  have c1 := hl (1, 3, (i : Int)) lm0
  dsimp only at c1
  exact goA (RK_12.mpr (by omega))
theorem l12e_ok (i : Nat) : ruH (l12e i) := fun x hp _ _ hl => by
  have p0 := RK_12.mp (vr_H.mp (hp _ lm0))
  have c1 := hl (1, 6, 0) lm0
  have c2 := hl (5, 3, (i : Int)) lm1
  dsimp only at c1 c2
  exact goA (RK_12.mpr (by omega))
/-! lengths of texts -/
def ln0 : eRu := (vr 1001 0 1 2 3, [], [(0, 0, 0), (3, 0, 0)], [], [])
def ln5 : eRu := (vr 1001 0 1 2 3, [vr 205 4 3 5 0, vr 1001 4 6 7 8], [(3, 0, big), (8, 0, big)], [], [(3, 8, 0)])
theorem ln0_ok : ruH ln0 := fun x _ hc _ _ => by
  have c1 := hc (0, 0, 0) lm0
  have c2 := hc (3, 0, 0) lm1
  dsimp only at c1 c2
  refine vr_H.mpr (ln_is ?_)
  have e : x 0 = 0 := by omega
  rw [e]
  show ((dcN 700 0).length : Int) = x 3
  have e2 : dcN 700 0 = [] := rfl
  rw [e2]
  show (0 : Int) = x 3
  omega
theorem ln5_ok : ruH ln5 := fun x hp hc _ hl => by
  have p0 : x 0 = enc ((dc (x 4)).take (x 3).toNat) := (RK_f (by decide)).mp (vr_H.mp (hp _ lm0))
  have c1 := hc (3, 0, big) lm0
  have c2 := hc (8, 0, big) lm1
  have c3 := hl (3, 8, 0) lm0
  dsimp only at c1 c2 c3
  have p1 := ln_of (vr_H.mp (hp _ lm1)) c2.1
  refine vr_H.mpr (ln_is ?_)
  rw [p0, dc_take, List.length_take]
  omega
/-! four bytes more: as the class takes them, as the other one does -/
def f4P (c : Bool) : List eRl := (List.range 4).flatMap (fun j => [vr 37 1 (40 + j) (50 + j) (60 + j), vr (if c then 38 else 31) (60 + j) (70 + j) (80 + j) (90 + j), vr 201 (if j = 0 then 0 else 100 + (j - 1)) (90 + j) (110 + j) (if j = 3 then 2 else 100 + j)])
def f4 (c : Bool) : eRu := (vr 203 0 1 20 2, f4P c, [(40, 24, 24), (41, 16, 16), (42, 8, 8), (43, 0, 0)], [], [])
theorem ap1_m (g a b : Int) (h : a % 256 = b % 256) : ap1 g a = ap1 g b := by unfold ap1; rw [h]
theorem m38 (a : Int) : ((a + 128) % 256 - 128) % 256 = a % 256 := by omega
theorem RK_37 {a b c d : Int} (h : RK 37 a b c d) : d = a / 2 ^ b.toNat := h
theorem RK_201 {a b c d : Int} (h : RK 201 a b c d) : d = ap1 a b := h
theorem f4_ok (c : Bool) : ruH (f4 c) := fun x hp hc _ _ => by
  have hb : ∀ j, j < 4 → ∃ s : Int, x (40 + j) = s → True := fun j _ => ⟨0, fun _ => trivial⟩
  have step : ∀ j, j < 4 → x (if j = 3 then 2 else 100 + j) = ap1 (x (if j = 0 then 0 else 100 + (j - 1))) (x 1 / 2 ^ (x (40 + j)).toNat) := fun j hj => by
    have m : ∀ q ∈ [vr 37 1 (40 + j) (50 + j) (60 + j), vr (if c then 38 else 31) (60 + j) (70 + j) (80 + j) (90 + j), vr 201 (if j = 0 then 0 else 100 + (j - 1)) (90 + j) (110 + j) (if j = 3 then 2 else 100 + j)], rlH x q := fun q hq => hp q (List.mem_flatMap.mpr ⟨j, List.mem_range.mpr hj, hq⟩)
    have a1 := RK_37 (vr_H.mp (m _ lm0))
    have a3 := RK_201 (vr_H.mp (m _ lm2))
    have a2 := vr_H.mp (m _ lm1)
    rw [a3, ← a1]
    refine ap1_m _ _ _ ?_
    cases c with
    | true =>
      have a2 : x (90 + j) = (x (60 + j) + 128) % 256 - 128 := a2
      rw [a2, m38]
    | false =>
      have a2 : x (90 + j) = x (60 + j) % 256 := a2
      rw [a2]
      omega
  have s0 := step 0 (by decide)
  have s1 := step 1 (by decide)
  have s2 := step 2 (by decide)
  have s3 := step 3 (by decide)
  have c0 := hc (40, 24, 24) lm0
  have c1 := hc (41, 16, 16) lm1
  have c2 := hc (42, 8, 8) lm2
  have c3 := hc (43, 0, 0) lm3
  dsimp only at c0 c1 c2 c3
  have e0 : (x 40).toNat = 24 := by omega
  have e1 : (x 41).toNat = 16 := by omega
  have e2 : (x 42).toNat = 8 := by omega
  have e3 : (x 43).toNat = 0 := by omega
  have s0 : x 100 = ap1 (x 0) (x 1 / 2 ^ (x 40).toNat) := s0
  have s1 : x 101 = ap1 (x 100) (x 1 / 2 ^ (x 41).toNat) := s1
  have s2 : x 102 = ap1 (x 101) (x 1 / 2 ^ (x 42).toNat) := s2
  have s3 : x 2 = ap1 (x 102) (x 1 / 2 ^ (x 43).toNat) := s3
  rw [e0] at s0
  rw [e1] at s1
  rw [e2] at s2
  rw [e3, Int.pow_zero, Int.ediv_one] at s3
  refine vr_H.mpr ((RK_f (by decide)).mpr ?_)
  show x 2 = ap1 (ap1 (ap1 (ap1 (x 0) (x 1 / 2 ^ 24)) (x 1 / 2 ^ 16)) (x 1 / 2 ^ 8)) (x 1)
  rw [s3, s2, s1, s0]
/-- the same, the first byte as it is -/
def f4s : eRu := (vr 203 0 1 20 2, [vr 37 1 40 50 60, vr 201 0 60 110 100, vr 37 1 41 51 61, vr 38 61 71 81 91, vr 201 100 91 111 101, vr 37 1 42 52 62, vr 38 62 72 82 92, vr 201 101 92 112 102, vr 37 1 43 53 63, vr 38 63 73 83 93, vr 201 102 93 113 2], [(40, 24, 24), (41, 16, 16), (42, 8, 8), (43, 0, 0)], [], [])
theorem f4s_ok : ruH f4s := fun x hp hc _ _ => by
  have m : ∀ k (h : k < f4s.2.1.length), rlH x (f4s.2.1[k]'h) := fun k h => hp _ (List.getElem_mem h)
  have s0 : x 100 = ap1 (x 0) (x 1 / 2 ^ (x 40).toNat) := by
    have a1 : x 60 = x 1 / 2 ^ (x 40).toNat := RK_37 (vr_H.mp (m 0 (by decide)))
    have a3 : x 100 = ap1 (x 0) (x 60) := RK_201 (vr_H.mp (m 1 (by decide)))
    rw [a3, ← a1]
  have s1 : x 101 = ap1 (x 100) (x 1 / 2 ^ (x 41).toNat) := by
    have a1 : x 61 = x 1 / 2 ^ (x 41).toNat := RK_37 (vr_H.mp (m 2 (by decide)))
    have a2 : x 91 = (x 61 + 128) % 256 - 128 := (show RK 38 (x 61) (x 71) (x 81) (x 91) from vr_H.mp (m 3 (by decide)))
    have a3 : x 101 = ap1 (x 100) (x 91) := RK_201 (vr_H.mp (m 4 (by decide)))
    rw [a3, ← a1]
    refine ap1_m _ _ _ ?_
    rw [a2]
    exact m38 _
  have s2 : x 102 = ap1 (x 101) (x 1 / 2 ^ (x 42).toNat) := by
    have a1 : x 62 = x 1 / 2 ^ (x 42).toNat := RK_37 (vr_H.mp (m 5 (by decide)))
    have a2 : x 92 = (x 62 + 128) % 256 - 128 := (show RK 38 (x 62) (x 72) (x 82) (x 92) from vr_H.mp (m 6 (by decide)))
    have a3 : x 102 = ap1 (x 101) (x 92) := RK_201 (vr_H.mp (m 7 (by decide)))
    rw [a3, ← a1]
    refine ap1_m _ _ _ ?_
    rw [a2]
    exact m38 _
  have s3 : x 2 = ap1 (x 102) (x 1 / 2 ^ (x 43).toNat) := by
    have a1 : x 63 = x 1 / 2 ^ (x 43).toNat := RK_37 (vr_H.mp (m 8 (by decide)))
    have a2 : x 93 = (x 63 + 128) % 256 - 128 := (show RK 38 (x 63) (x 73) (x 83) (x 93) from vr_H.mp (m 9 (by decide)))
    have a3 : x 2 = ap1 (x 102) (x 93) := RK_201 (vr_H.mp (m 10 (by decide)))
    rw [a3, ← a1]
    refine ap1_m _ _ _ ?_
    rw [a2]
    exact m38 _
  have c0 := hc (40, 24, 24) lm0
  have c1 := hc (41, 16, 16) lm1
  have c2 := hc (42, 8, 8) lm2
  have c3 := hc (43, 0, 0) lm3
  dsimp only at c0 c1 c2 c3
  have e0 : (x 40).toNat = 24 := by omega
  have e1 : (x 41).toNat = 16 := by omega
  have e2 : (x 42).toNat = 8 := by omega
  have e3 : (x 43).toNat = 0 := by omega
  rw [e0] at s0
  rw [e1] at s1
  rw [e2] at s2
  rw [e3, Int.pow_zero, Int.ediv_one] at s3
  refine vr_H.mpr ((RK_f (by decide)).mpr ?_)
  show x 2 = ap1 (ap1 (ap1 (ap1 (x 0) (x 1 / 2 ^ 24)) (x 1 / 2 ^ 16)) (x 1 / 2 ^ 8)) (x 1)
  rw [s3, s2, s1, s0]
/-! how long a text is behind four bytes, behind twenty -/
theorem ap4_len {a b c n : Int} (h : ((dc a).length : Int) = n) (hn : n ≤ 696) : ((dc (FK 203 a b c)).length : Int) = n + 4 := by
  have one : ∀ z v : Int, (dc z).length ≤ 699 → (dc (ap1 z v)).length = (dc z).length + 1 := fun z v h => by
    rw [dc_ap1 h, List.length_append]
    rfl
  have h1 := one a (b / 2 ^ 24) (by omega)
  have h2 := one (ap1 a (b / 2 ^ 24)) (b / 2 ^ 16) (by omega)
  have h3 := one (ap1 (ap1 a (b / 2 ^ 24)) (b / 2 ^ 16)) (b / 2 ^ 8) (by omega)
  have h4 := one (ap1 (ap1 (ap1 a (b / 2 ^ 24)) (b / 2 ^ 16)) (b / 2 ^ 8)) b (by omega)
  show ((dc (ap1 (ap1 (ap1 (ap1 a (b / 2 ^ 24)) (b / 2 ^ 16)) (b / 2 ^ 8)) b)).length : Int) = n + 4
  omega
def ln4 : eRu := ((1001, [(0, 0), (1, 0), (2, 0), (3, 4)]), [vr 203 10 11 12 0, vr 1001 10 7 8 3], [(3, 0, 696)], [], [])
def ln20 : eRu := ((1001, [(0, 0), (1, 0), (2, 0), (3, 20)]), [vr 203 10 20 21 11, vr 203 11 22 23 12, vr 203 12 24 25 13, vr 203 13 26 27 14, vr 203 14 28 29 0, vr 1001 10 7 8 3], [(3, 0, 680)], [], [])
theorem go1001 {x : Nat → Int} {k : Int} (h : ((dc (x 0)).length : Int) = x 3 + k) : rlH x (1001, [(0, 0), (1, 0), (2, 0), (3, k)]) := ln_is (by
  show ((dc (x 0 + 0)).length : Int) = x 3 + k
  rw [Int.add_zero]
  exact h)
theorem ln4_ok : ruH ln4 := fun x hp hc _ _ => by
  have p0 := (RK_f (by decide)).mp (vr_H.mp (hp _ lm0))
  have c1 := hc (3, 0, 696) lm0
  dsimp only at c1
  have p1 := ln_of (vr_H.mp (hp _ lm1)) c1.1
  refine go1001 ?_
  rw [p0]
  exact ap4_len p1 c1.2
theorem ln20_ok : ruH ln20 := fun x hp hc _ _ => by
  have p0 := (RK_f (by decide)).mp (vr_H.mp (hp _ lm0))
  have p1 := (RK_f (by decide)).mp (vr_H.mp (hp _ lm1))
  have p2 := (RK_f (by decide)).mp (vr_H.mp (hp _ lm2))
  have p3 := (RK_f (by decide)).mp (vr_H.mp (hp _ lm3))
  have p4 := (RK_f (by decide)).mp (vr_H.mp (hp _ lm4))
  have c1 := hc (3, 0, 680) lm0
  dsimp only at c1
  have q := ln_of (vr_H.mp (hp _ lm5)) c1.1
  refine go1001 ?_
  have q0 := ap4_len (b := x 20) (c := x 21) q (by omega)
  rw [← p0] at q0
  have q1 := ap4_len (b := x 22) (c := x 23) q0 (by omega)
  rw [← p1] at q1
  have q2 := ap4_len (b := x 24) (c := x 25) q1 (by omega)
  rw [← p2] at q2
  have q3 := ap4_len (b := x 26) (c := x 27) q2 (by omega)
  rw [← p3] at q3
  have q4 := ap4_len (b := x 28) (c := x 29) q3 (by omega)
  rw [← p4] at q4
  omega
def moA : List eRu := [mk0, n10a, n10b, n11a, n11b, n11c, l12a, ln0, ln5, f4 true, f4 false, ln4, ln20, f4s]
def moRules : List eRu := moA ++ ((offs 2).map (fun p => n11d p.1 p.2) ++ (mkL.map mk1 ++ ((List.range 8).map l12b ++ ((List.range 8).map l12c ++ ((List.range 8).map l12d ++ ((List.range 8).map l12z ++ (List.range 2).map l12e))))))
theorem moA_ok : ∀ r ∈ moA, ruH r := fun r hr => by
  simp only [moA, List.mem_cons, List.not_mem_nil, or_false] at hr
  rcases hr with rfl | rfl | rfl | rfl | rfl | rfl | rfl | rfl | rfl | rfl | rfl | rfl | rfl | rfl
  · exact mk0_ok
  · exact n10a_ok
  · exact n10b_ok
  · exact n11a_ok
  · exact n11b_ok
  · exact n11c_ok
  · exact l12a_ok
  · exact ln0_ok
  · exact ln5_ok
  · exact f4_ok true
  · exact f4_ok false
  · exact ln4_ok
  · exact ln20_ok
  · exact f4s_ok
theorem moRules_ok : ∀ r ∈ moRules, ruH r := all_app moA_ok (all_app (all_map fun _ h => n11d_ok h) (all_app (all_map fun _ h => mk1_ok h) (all_app (all_map fun i _ => l12b_ok i) (all_app (all_map fun i _ => l12c_ok i) (all_app (all_map fun i _ => l12d_ok i) (all_app (all_map fun i _ => l12z_ok i) (all_map fun i _ => l12e_ok i)))))))
def fwTab2 : List eRu := fwTab ++ [cv7, cv8, cv9, mr1f, fwE1, fwE2]
theorem fwTab2_ok : ∀ r ∈ fwTab2, ruH r := all_app fwTab_ok (fun r hr => by
  simp only [List.mem_cons, List.not_mem_nil, or_false] at hr
  rcases hr with rfl | rfl | rfl | rfl | rfl | rfl
  · exact cv7_ok
  · exact cv8_ok
  · exact cv9_ok
  · exact mr1f_ok
  · exact fwE1_ok
  · exact fwE2_ok)
/-- the rules of tokens but those of words -/
def tkS : List eRu := tkA ++ (gaps.map (fun p => kd3 p.1 p.2) ++ (gaps.map (fun p => kd4 p.1 p.2) ++ (gaps.map (fun p => tk4 p.1 p.2) ++ (gaps.map (fun p => te3 p.1 p.2) ++ (mkL.map tk3 ++ ((offs 1).map (fun p => te2 1 p.1 p.2) ++ ((offs 2).map (fun p => te2 2 p.1 p.2) ++ ((offs 2).map (fun p => nm2 p.1 p.2) ++ (vlI.map (fun i => va1 i 0 (-7) (-1)) ++ vlI.map (fun i => va1 i (-1) 0 6))))))))))
theorem tkS_ok : ∀ r ∈ tkS, ruH r := fun r hr => tkRules_ok r (by
  unfold tkS at hr
  unfold tkRules
  simp only [List.mem_append] at hr ⊢
  rcases hr with h | h | h | h | h | h | h | h | h | h | h <;> simp only [h, or_true, true_or])
def exR (m : Nat) : List eRu := bif Nat.blt m 9 then exRules m ++ exM m else []
theorem exR_ok (m : Nat) : ∀ r ∈ exR m, ruH r := fun r hr => by
  unfold exR at hr
  cases hb : Nat.blt m 9 with
  | false => rw [hb] at hr; cases hr
  | true =>
    rw [hb, cond_true] at hr
    exact all_app (exRules_ok (Nat.le_of_ble_eq_true hb)) (exM_ok (Nat.le_of_ble_eq_true hb)) r hr
def wdR (i : Nat) : List eRu := bif Nat.blt i 14 then wd0k i :: wdRules i else []
theorem wdR_ok (i : Nat) : ∀ r ∈ wdR i, ruH r := fun r hr => by
  unfold wdR at hr
  cases hb : Nat.blt i 14 with
  | false => rw [hb] at hr; cases hr
  | true =>
    rw [hb, cond_true] at hr
    rcases List.mem_cons.mp hr with rfl | hr
    · exact wd0k_ok (Nat.le_of_ble_eq_true hb)
    · exact wdRules_ok (Nat.le_of_ble_eq_true hb) r hr
/-- the rules that may tell the kind k -/
def isEv (k : Nat) : Bool := (Nat.ble 340 k && Nat.blt k 460) || ((Nat.beq k 1030 || (Nat.beq k 1031 || Nat.beq k 1032)) || ((Nat.ble 2340 k && Nat.blt k 2460) || (Nat.ble 3300 k && Nat.blt k 3420)))
def ruIx (k : Nat) : List eRu :=
  bif isEv k then evA else
  bif Nat.blt k 10 then tkS ++ moK else
  bif Nat.blt k 30 then wdR (k - 10) else
  bif Nat.blt k 40 then tkS ++ (moK ++ mdRules) else
  bif Nat.blt k 50 then exR (k - 40) ++ exR (k - 41) else
  bif Nat.blt k 160 then exR (k % 10) else
  bif Nat.blt k 190 then nuRules else
  bif Nat.blt k 200 then lnRules else
  bif Nat.blt k 1000 then moRules ++ boRules else
  bif Nat.blt k 2000 then (tkS ++ (nuRules ++ (moRules ++ (moK ++ (boRules ++ mdRules))))) else
  bif Nat.blt k 2050 then exR (k - 2040) ++ exR (k - 2041) else
  bif Nat.blt k 2160 then exR (k % 10) else
  bif Nat.blt k 2190 then nuRules ++ mdRules else
  bif Nat.blt k 3000 then lnRules ++ (lnB ++ (lnX ++ boRules)) else
  bif Nat.blt k 3040 then exR (k % 10) else
  bif Nat.blt k 3050 then tkS else
  bif Nat.blt k 4000 then exR (k % 10) else lnRules ++ (lnB ++ lnX)
theorem ruIx_ok (k : Nat) : ∀ r ∈ ruIx k, ruH r := by
  have cnd : ∀ {b : Bool} {l r : List eRu}, (∀ x ∈ l, ruH x) → (∀ x ∈ r, ruH x) → ∀ x ∈ (bif b then l else r), ruH x := fun {b l r} h1 h2 => by
    cases b
    · exact h2
    · exact h1
  unfold ruIx
  exact cnd evA_ok <| cnd (all_app tkS_ok moK_ok) (cnd (wdR_ok _) (cnd (all_app tkS_ok (all_app moK_ok mdRules_ok)) (cnd (all_app (exR_ok _) (exR_ok _)) (cnd (exR_ok _) (cnd nuRules_ok (cnd lnRules_ok (cnd (all_app moRules_ok boRules_ok) (cnd (all_app tkS_ok (all_app nuRules_ok (all_app moRules_ok (all_app moK_ok (all_app boRules_ok mdRules_ok))))) (cnd (all_app (exR_ok _) (exR_ok _)) (cnd (exR_ok _) (cnd (all_app nuRules_ok mdRules_ok) (cnd (all_app lnRules_ok (all_app lnB_ok (all_app lnX_ok boRules_ok))) (cnd (exR_ok _) (cnd tkS_ok (cnd (exR_ok _) (all_app lnRules_ok (all_app lnB_ok lnX_ok)))))))))))))))))
