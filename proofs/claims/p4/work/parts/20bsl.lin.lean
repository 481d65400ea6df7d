/-! ===== THE RULES OF NUMBERS AND LINES ===== -/
theorem FK_16 {i : Nat} (hi : i < 10) {a b c : Int} : FK (160 + i) a b c = rNum (dc a) (nbL.getD i (0, 0)).1 (nbL.getD i (0, 0)).2 b.toNat := by
  obtain ⟨h1, h2⟩ := FK_l hi 16 (show 160 + i = 10 * 16 + i by omega)
  unfold FK
  rw [h1, h2]
  rfl
theorem FK_17 {i : Nat} (hi : i < 10) {a b c : Int} : FK (170 + i) a b c = rNs (dc a) (nsL.getD i []) b.toNat := by
  obtain ⟨h1, h2⟩ := FK_l hi 17 (show 170 + i = 10 * 17 + i by omega)
  unfold FK
  rw [h1, h2]
  rfl
theorem RK_6 {a b c d : Int} (h : RK 6 a b c d) : d = nm (dc a) b.toNat := h
theorem RK_8 {a b c d : Int} (h : RK 8 a b c d) : d = (nx (dc a) b.toNat : Nat) := h
/-- a number's bounds -/
def nlo (i : Nat) : Int := (nbL.getD i (0, 0)).1
def nhi (i : Nat) : Int := (nbL.getD i (0, 0)).2
def rQ1 (i : Nat) : eRu := (vr (160 + i) 0 1 20 2, [vr 4 0 1 8 5, vr 6 0 1 9 6, vr 8 0 1 10 2], [(5, 2, 2), (6, nlo i, nhi i)], [], [])
def rQ2 (i : Nat) : eRu := (vr (2160 + i) 0 7 6 7, [vr 4 0 7 8 5], [(6, 1, 1), (7, 0, big)], [(5, [2])], [])
def rQ2b (i : Nat) : eRu := (vr (2160 + i) 0 7 6 7, [vr 36 0 7 8 5], [(6, 1, 1), (7, 0, big)], [(5, [2])], [])
def rQ3 (i : Nat) : eRu := (vr (2160 + i) 0 7 6 7, [vr 4 0 7 8 5, vr 6 0 7 9 4], [(5, 2, 2), (4, -1000000, nlo i - 1), (6, 2, 2), (7, 0, big)], [], [])
def rQ4 (i : Nat) : eRu := (vr (2160 + i) 0 7 6 7, [vr 4 0 7 8 5, vr 6 0 7 9 4], [(5, 2, 2), (4, nhi i + 1, big), (6, 2, 2), (7, 0, big)], [], [])
theorem RK_q {i : Nat} (hi : i < 10) {a b c d : Int} (hc : 1 ≤ c) (h : rNum (dc a) (nlo i) (nhi i) b.toNat = -(1 + c + 8 * d)) : RK (2160 + i) a b c d := by
  rw [show 2160 + i = 2000 + (160 + i) by omega]
  refine RK_ti (by omega) (by omega) ?_
  rw [FK_16 hi]
  exact h
theorem rQ1_ok {i : Nat} (hi : i < 10) : ruH (rQ1 i) := fun x hp hc _ _ => by
  have p1 := RK_4 (vr_H.mp (hp _ lm0))
  have p2 := RK_6 (vr_H.mp (hp _ lm1))
  have p3 := RK_8 (vr_H.mp (hp _ lm2))
  have c1 := hc (5, 2, 2) lm0
  have c2 := hc (6, nlo i, nhi i) lm1
  dsimp only at c1 c2
  refine vr_H.mpr ((RK_f (by omega)).mpr ?_)
  rw [FK_16 hi]
  unfold rNum
  rw [if_neg (by omega), if_neg (by unfold nlo nhi at c2; omega)]
  exact p3
theorem rQ2_ok {i : Nat} (hi : i < 10) : ruH (rQ2 i) := fun x hp hc hn _ => by
  have p1 := RK_4 (vr_H.mp (hp _ lm0))
  have c1 := hc (6, 1, 1) lm0
  have c2 := hc (7, 0, big) lm1
  have n1 := hn (5, [2]) lm0
  dsimp only at c1 c2 n1
  refine vr_H.mpr (RK_q hi (by omega) ?_)
  unfold rNum
  rw [if_pos (fun e => n1 (List.mem_singleton.mpr (p1.trans e)))]
  unfold flt
  rw [Int.toNat_of_nonneg c2.1]
  omega
theorem rQ2b_ok {i : Nat} (hi : i < 10) : ruH (rQ2b i) := fun x hp hc hn _ => by
  have p1 := RK_36 (vr_H.mp (hp _ lm0))
  have c1 := hc (6, 1, 1) lm0
  have c2 := hc (7, 0, big) lm1
  have n1 := hn (5, [2]) lm0
  dsimp only at c1 c2 n1
  refine vr_H.mpr (RK_q hi (by omega) ?_)
  unfold rNum
  rw [if_pos (fun e => n1 (List.mem_singleton.mpr (by rw [p1]; unfold tk; rw [e]; decide)))]
  unfold flt
  rw [Int.toNat_of_nonneg c2.1]
  omega
theorem rQ3_ok {i : Nat} (hi : i < 10) : ruH (rQ3 i) := fun x hp hc _ _ => by
  have p1 := RK_4 (vr_H.mp (hp _ lm0))
  have p2 := RK_6 (vr_H.mp (hp _ lm1))
  have c1 := hc (5, 2, 2) lm0
  have c2 := hc (4, -1000000, nlo i - 1) lm1
  have c3 := hc (6, 2, 2) lm2
  have c4 := hc (7, 0, big) lm3
  dsimp only at c1 c2 c3 c4
  refine vr_H.mpr (RK_q hi (by omega) ?_)
  unfold rNum
  rw [if_neg (by omega), if_pos (Or.inl (by omega))]
  unfold flt
  rw [Int.toNat_of_nonneg c4.1]
  omega
theorem rQ4_ok {i : Nat} (hi : i < 10) : ruH (rQ4 i) := fun x hp hc _ _ => by
  have p1 := RK_4 (vr_H.mp (hp _ lm0))
  have p2 := RK_6 (vr_H.mp (hp _ lm1))
  have c1 := hc (5, 2, 2) lm0
  have c2 := hc (4, nhi i + 1, big) lm1
  have c3 := hc (6, 2, 2) lm2
  have c4 := hc (7, 0, big) lm3
  dsimp only at c1 c2 c3 c4
  refine vr_H.mpr (RK_q hi (by omega) ?_)
  unfold rNum
  rw [if_neg (by omega), if_pos (Or.inr (by omega))]
  unfold flt
  rw [Int.toNat_of_nonneg c4.1]
  omega
/-- the sign that ends a line -/
def rZ1 : eRu := (vr 173 0 1 20 2, [vr 4 0 1 8 5, vr 8 0 1 10 2], [(5, 59, 59)], [], [])
def rZ2 : eRu := (vr 2173 0 7 6 7, [vr 4 0 7 8 5], [(6, 1, 1), (7, 0, big)], [(5, [59])], [])
theorem RK_z {i : Nat} (hi : i < 10) {a b c d : Int} (hc : 1 ≤ c) (h : rNs (dc a) (nsL.getD i []) b.toNat = -(1 + c + 8 * d)) : RK (2170 + i) a b c d := by
  rw [show 2170 + i = 2000 + (170 + i) by omega]
  refine RK_ti (by omega) (by omega) ?_
  rw [FK_17 hi]
  exact h
theorem rZ1_ok : ruH rZ1 := fun x hp hc _ _ => by
  have p1 := RK_4 (vr_H.mp (hp _ lm0))
  have p2 := RK_8 (vr_H.mp (hp _ lm1))
  have c1 := hc (5, 59, 59) lm0
  dsimp only at c1
  refine vr_H.mpr ?_
  show x 2 = rEnd (dc (x 0)) 59 (x 1).toNat
  unfold rEnd
  rw [if_pos (by omega)]
  exact p2
theorem rZ2_ok : ruH rZ2 := fun x hp hc hn _ => by
  have p1 := RK_4 (vr_H.mp (hp _ lm0))
  have c1 := hc (6, 1, 1) lm0
  have c2 := hc (7, 0, big) lm1
  have n1 := hn (5, [59]) lm0
  dsimp only at c1 c2 n1
  refine vr_H.mpr (RK_z (i := 3) (by decide) (by omega) ?_)
  show rEnd (dc (x 0)) 59 (x 7).toNat = _
  unfold rEnd
  rw [if_neg (fun e => n1 (List.mem_singleton.mpr (p1.trans e)))]
  unfold flt
  rw [Int.toNat_of_nonneg c2.1]
  omega
/-- a row of numbers and its end: which bounds each has -/
def nsI (k : Nat) : List Nat := match k with
  | 0 => [0, 1, 2, 3]
  | 1 => [1, 4]
  | 2 => [5, 1, 1]
  | _ => []
def bdI (i : Nat) : Int × Int := nbL.getD i (0, 0)
theorem nsI_e {k : Nat} (hk : k < 3) : nsL.getD k [] = (nsI k).map bdI := by
  match k, hk with
  | 0, _ => rfl
  | 1, _ => rfl
  | 2, _ => rfl
/-- premises: one number behind the other, from the variable v on -/
def nsP : List Nat → Nat → List eRl
  | [], _ => []
  | i :: r, v => vr (160 + i) 0 v (v + 100) (v + 1) :: nsP r (v + 1)
def nsB : List Nat → Nat → List (Nat × Int × Int)
  | [], _ => []
  | _ :: r, v => (v + 1, 0, big) :: nsB r (v + 1)
/-- all numbers and the end stand -/
def rR1 (k : Nat) : eRu := (vr (170 + k) 0 30 20 2, nsP (nsI k) 30 ++ [vr 173 0 (30 + (nsI k).length) 21 2], nsB (nsI k) 30, [], [])
/-- so many stand, then one doesn't -/
def rR2 (k j : Nat) : eRu := (vr (2170 + k) 0 30 6 7, nsP ((nsI k).take j) 30 ++ [vr (2160 + (nsI k).getD j 0) 0 (30 + j) 6 7], nsB ((nsI k).take j) 30 ++ [(6, 1, big), (7, 0, big)], [], [])
/-- all stand, the end doesn't -/
def rR3 (k : Nat) : eRu := (vr (2170 + k) 0 30 6 7, nsP (nsI k) 30 ++ [vr 2173 0 (30 + (nsI k).length) 6 7], nsB (nsI k) 30 ++ [(6, 1, big), (7, 0, big)], [], [])
theorem nsP_run {x : Nat → Int} : ∀ (is : List Nat) (v : Nat) (l : List (Int × Int)), (∀ i ∈ is, i < 10) → (∀ p ∈ nsP is v, rlH x p) → (∀ c ∈ nsB is v, c.2.1 ≤ x c.1 ∧ x c.1 ≤ c.2.2) → rNs (dc (x 0)) (is.map bdI ++ l) (x v).toNat = rNs (dc (x 0)) l (x (v + is.length)).toNat
  | [], _, _, _, _, _ => rfl
  | i :: r, v, l, hi, hp, hc => by
    have p1 := (RK_f (by have := hi i List.mem_cons_self; omega)).mp (vr_H.mp (hp _ List.mem_cons_self))
    have c1 := hc (v + 1, 0, big) List.mem_cons_self
    dsimp only at c1
    rw [FK_16 (hi i List.mem_cons_self)] at p1
    have ih := nsP_run (x := x) r (v + 1) l (fun j hj => hi j (List.mem_cons_of_mem _ hj)) (fun p h => hp p (List.mem_cons_of_mem _ h)) (fun c h => hc c (List.mem_cons_of_mem _ h))
    show thn (rNum (dc (x 0)) (bdI i).1 (bdI i).2 (x v).toNat) (rNs (dc (x 0)) (r.map bdI ++ l)) = _
    unfold bdI
    rw [← p1]
    have e : thn (x (v + 1)) (rNs (dc (x 0)) (r.map bdI ++ l)) = rNs (dc (x 0)) (r.map bdI ++ l) (x (v + 1)).toNat := if_neg (by omega)
    refine Eq.trans e (ih.trans ?_)
    rw [List.length_cons, show v + 1 + r.length = v + (r.length + 1) by omega]
theorem nsI_lt {k : Nat} : ∀ i ∈ nsI k, i < 10 := by
  match k with
  | 0 => decide
  | 1 => decide
  | 2 => decide
  | _ + 3 => exact fun i hi => by cases hi
theorem rR1_ok {k : Nat} (hk : k < 3) : ruH (rR1 k) := fun x hp hc _ _ => by
  have p1 : x 2 = FK 173 (x 0) (x (30 + (nsI k).length)) (x 21) := vr_H.mp (hp _ (List.mem_append_right _ lm0))
  have h := nsP_run (x := x) (nsI k) 30 [] nsI_lt (fun p h => hp p (List.mem_append_left _ h)) hc
  refine vr_H.mpr ((RK_f (by omega)).mpr ?_)
  rw [FK_17 (by omega), nsI_e hk]
  rw [List.append_nil] at h
  rw [h]
  exact p1
theorem rR3_ok {k : Nat} (hk : k < 3) : ruH (rR3 k) := fun x hp hc _ _ => by
  have p1 := RK_tm (k := 173) (by decide) (vr_H.mp (hp _ (List.mem_append_right _ lm0)))
  have h := nsP_run (x := x) (nsI k) 30 [] nsI_lt (fun p h => hp p (List.mem_append_left _ h)) (fun c h => hc c (List.mem_append_left _ h))
  have c1 := hc (6, 1, big) (List.mem_append_right _ lm0)
  have c2 := hc (7, 0, big) (List.mem_append_right _ lm1)
  dsimp only at c1 c2
  have p1 := p1 (by omega)
  refine vr_H.mpr (RK_z (by omega) (by omega) ?_)
  rw [nsI_e hk]
  rw [List.append_nil] at h
  rw [h]
  exact p1
theorem rR2_ok {k j : Nat} (hk : k < 3) (hj : j < (nsI k).length) : ruH (rR2 k j) := fun x hp hc _ _ => by
  have hi : (nsI k).getD j 0 < 10 := by
    rw [getD_in hj]
    exact nsI_lt _ (List.getElem_mem hj)
  have p1 := RK_tm (k := 160 + (nsI k).getD j 0) (by omega) (by
    have := vr_H.mp (hp _ (List.mem_append_right _ lm0))
    rwa [show 2160 + (nsI k).getD j 0 = 2000 + (160 + (nsI k).getD j 0) by omega] at this)
  have h := nsP_run (x := x) ((nsI k).take j) 30 (((nsI k).drop j).map bdI) (fun i h => nsI_lt i (List.mem_of_mem_take h)) (fun p h => hp p (List.mem_append_left _ h)) (fun c h => hc c (List.mem_append_left _ h))
  have c1 := hc (6, 1, big) (List.mem_append_right _ lm0)
  have c2 := hc (7, 0, big) (List.mem_append_right _ lm1)
  dsimp only at c1 c2
  have p1 := p1 (by omega)
  refine vr_H.mpr (RK_z (by omega) (by omega) ?_)
  rw [← List.map_append, List.take_append_drop, List.length_take, Nat.min_eq_left (Nat.le_of_lt hj)] at h
  rw [nsI_e hk, h]
  rw [FK_16 hi] at p1
  rw [List.drop_eq_getElem_cons hj]
  show thn (rNum (dc (x 0)) (bdI (nsI k)[j]).1 (bdI (nsI k)[j]).2 (x (30 + j)).toNat) _ = _
  rw [getD_in hj] at p1
  unfold bdI
  rw [p1]
  exact if_pos (by omega)
/-- the row of TIMES -/
def rM0 : eRu := (vr 1009 0 1 1 6, [], [(6, 1, 1)], [], [])
def rM1 : eRu := ((1009, [(0, 0), (1, 0), (3, 0), (6, 1)]), [vr 1009 0 1 2 6, vr 4 0 2 8 5, vr 162 0 2 9 3], [(5, 2, 2), (3, 0, big), (6, 1, 9)], [], [])
def rM2 : eRu := (vr 180 0 1 20 3, [vr 1009 0 1 2 6, vr 4 0 2 8 5, vr 173 0 2 9 3], [(6, 1, 10)], [(5, [2])], [])
def rM3 : eRu := (vr 2180 0 1 4 7, [vr 1009 0 1 2 6, vr 4 0 2 8 5, vr 2162 0 2 4 7], [(5, 2, 2), (6, 1, 9), (4, 1, big), (7, 0, big)], [], [])
def rM4 : eRu := (vr 2180 0 1 4 7, [vr 1009 0 1 2 6, vr 4 0 2 8 5, vr 2173 0 2 4 7], [(6, 1, 10), (4, 1, big), (7, 0, big)], [(5, [2])], [])
def rM5 : eRu := (vr 2180 0 1 4 7, [vr 1009 0 1 7 6, vr 4 0 7 8 5], [(5, 2, 2), (6, 10, 10), (4, 2, 2), (7, 0, big)], [], [])
theorem RK_1009 {a b c d : Int} (h : RK 1009 a b c d) : rTm (dc a) 9 b.toNat = rTm (dc a) (10 - d).toNat c.toNat := h
theorem rTm_2 {L : List Int} {j p : Nat} (h : kd L p = 2) : rTm L (j + 1) p = thn (rNum L 0 9 p) (rTm L j) := if_pos h
theorem rTm_e {L : List Int} {j p : Nat} (h : kd L p ≠ 2) : rTm L j p = rEnd L 59 p := by
  cases j with
  | zero => exact if_neg h
  | succ j => exact if_neg h
theorem rM0_ok : ruH rM0 := fun x _ hc _ _ => by
  have c1 := hc (6, 1, 1) lm0
  dsimp only at c1
  refine vr_H.mpr ?_
  show rTm (dc (x 0)) 9 (x 1).toNat = rTm (dc (x 0)) (10 - x 6).toNat (x 1).toNat
  rw [show (10 - x 6).toNat = 9 by omega]
theorem rM1_ok : ruH rM1 := fun x hp hc _ _ => by
  have p1 := RK_1009 (vr_H.mp (hp _ lm0))
  have p2 := RK_4 (vr_H.mp (hp _ lm1))
  have p3 : x 3 = rNum (dc (x 0)) 0 9 (x 2).toNat := vr_H.mp (hp _ lm2)
  have c1 := hc (5, 2, 2) lm0
  have c2 := hc (3, 0, big) lm1
  have c3 := hc (6, 1, 9) lm2
  dsimp only at c1 c2 c3
  refine go4 ?_
  show rTm (dc (x 0)) 9 (x 1).toNat = rTm (dc (x 0)) (10 - (x 6 + 1)).toNat (x 3).toNat
  rw [p1, show (10 - x 6).toNat = (10 - (x 6 + 1)).toNat + 1 by omega, rTm_2 (by omega), ← p3]
  exact if_neg (by omega)
theorem rM2_ok : ruH rM2 := fun x hp hc hn _ => by
  have p1 := RK_1009 (vr_H.mp (hp _ lm0))
  have p2 := RK_4 (vr_H.mp (hp _ lm1))
  have p3 : x 3 = rEnd (dc (x 0)) 59 (x 2).toNat := vr_H.mp (hp _ lm2)
  have n1 := hn (5, [2]) lm0
  dsimp only at n1
  refine vr_H.mpr ?_
  show x 3 = rTm (dc (x 0)) 9 (x 1).toNat
  rw [p1, rTm_e (fun e => n1 (List.mem_singleton.mpr (p2.trans e)))]
  exact p3
theorem rM3_ok : ruH rM3 := fun x hp hc _ _ => by
  have p1 := RK_1009 (vr_H.mp (hp _ lm0))
  have p2 := RK_4 (vr_H.mp (hp _ lm1))
  have p3 := RK_tm (k := 162) (by decide) (vr_H.mp (hp _ lm2))
  have c1 := hc (5, 2, 2) lm0
  have c2 := hc (6, 1, 9) lm1
  have c3 := hc (4, 1, big) lm2
  have c4 := hc (7, 0, big) lm3
  dsimp only at c1 c2 c3 c4
  have p3 : rNum (dc (x 0)) 0 9 (x 2).toNat = -(1 + x 4 + 8 * x 7) := p3 (by omega)
  refine vr_H.mpr (RK_ti (k := 180) (by decide) (by omega) ?_)
  show rTm (dc (x 0)) 9 (x 1).toNat = _
  rw [p1, show (10 - x 6).toNat = (10 - (x 6 + 1)).toNat + 1 by omega, rTm_2 (by omega), p3]
  exact if_pos (by omega)
theorem rM4_ok : ruH rM4 := fun x hp hc hn _ => by
  have p1 := RK_1009 (vr_H.mp (hp _ lm0))
  have p2 := RK_4 (vr_H.mp (hp _ lm1))
  have p3 := RK_tm (k := 173) (by decide) (vr_H.mp (hp _ lm2))
  have c3 := hc (4, 1, big) lm1
  have n1 := hn (5, [2]) lm0
  dsimp only at c3 n1
  have p3 : rEnd (dc (x 0)) 59 (x 2).toNat = -(1 + x 4 + 8 * x 7) := p3 (by omega)
  refine vr_H.mpr (RK_ti (k := 180) (by decide) (by omega) ?_)
  show rTm (dc (x 0)) 9 (x 1).toNat = _
  rw [p1, rTm_e (fun e => n1 (List.mem_singleton.mpr (p2.trans e)))]
  exact p3
theorem rM5_ok : ruH rM5 := fun x hp hc _ _ => by
  have p1 := RK_1009 (vr_H.mp (hp _ lm0))
  have p2 := RK_4 (vr_H.mp (hp _ lm1))
  have c1 := hc (5, 2, 2) lm0
  have c2 := hc (6, 10, 10) lm1
  have c3 := hc (4, 2, 2) lm2
  have c4 := hc (7, 0, big) lm3
  dsimp only at c1 c2 c3 c4
  refine vr_H.mpr (RK_ti (k := 180) (by decide) (by omega) ?_)
  show rTm (dc (x 0)) 9 (x 1).toNat = _
  rw [p1, show (10 - x 6).toNat = 0 by omega]
  show (if kd (dc (x 0)) (x 7).toNat = 2 then flt 2 (x 7).toNat else _) = _
  rw [if_pos (by omega)]
  unfold flt
  rw [Int.toNat_of_nonneg c4.1]
  omega
theorem nvN_rg {L : List Int} {p : Nat} : ∀ (k : Nat), (∀ q, p ≤ q → q < p + k → isDg (bt L q) = true) → 0 ≤ nvN L k p ∧ nvN L k p < 10 ^ k
  | 0, _ => ⟨Int.le_refl _, by show (0 : Int) < 10 ^ 0; decide⟩
  | k + 1, h => by
    obtain ⟨h1, h2⟩ := nvN_rg k (fun q a b => h q a (by omega))
    have h3 := h (p + k) (by omega) (by omega)
    unfold isDg at h3
    rw [Bool.and_eq_true, decide_eq_true_eq, decide_eq_true_eq] at h3
    show 0 ≤ nvN L k p * 10 + bt L (p + k) - 48 ∧ nvN L k p * 10 + bt L (p + k) - 48 < 10 ^ (k + 1)
    rw [Int.pow_succ]
    omega
theorem nm_rg {L : List Int} {p : Nat} (h : kd L p = 2) : nm L p = -1 ∨ (0 ≤ nm L p ∧ nm L p ≤ 9999) := by
  unfold nm
  have ht : te L p = fw isDg L p := te_i (i := 2) (Or.inr rfl) h
  by_cases h4 : te L p - p ≤ 4
  · rw [if_pos h4]
    refine Or.inr ?_
    have hr := nvN_rg (L := L) (p := p) (te L p - p) (fun q a b => fw_in (P := isDg) a (by omega))
    have h9 : (10 : Int) ^ (te L p - p) ≤ 10000 := by
      generalize te L p - p = j at h4 ⊢
      match j, h4 with
      | 0, _ => decide
      | 1, _ => decide
      | 2, _ => decide
      | 3, _ => decide
      | 4, _ => decide
    omega
  · rw [if_neg h4]
    exact Or.inl rfl
def nuA (i : Nat) : List eRu := [rQ1 i, rQ2 i, rQ2b i, rQ3 i, rQ4 i]
def nuB (k : Nat) : List eRu := rR1 k :: rR3 k :: (List.range (nsI k).length).map (rR2 k)
def nuRules : List eRu := (List.range 7).flatMap nuA ++ ((List.range 3).flatMap nuB ++ [rZ1, rZ2, rM0, rM1, rM2, rM3, rM4, rM5])
theorem nuRules_ok : ∀ r ∈ nuRules, ruH r := all_app (fun r hr => by
  obtain ⟨i, hi, h⟩ := List.mem_flatMap.mp hr
  have hi : i < 10 := by have := List.mem_range.mp hi; omega
  simp only [nuA, List.mem_cons, List.not_mem_nil, or_false] at h
  rcases h with rfl | rfl | rfl | rfl | rfl
  · exact rQ1_ok hi
  · exact rQ2_ok hi
  · exact rQ2b_ok hi
  · exact rQ3_ok hi
  · exact rQ4_ok hi) (all_app (fun r hr => by
  obtain ⟨k, hk, h⟩ := List.mem_flatMap.mp hr
  have hk := List.mem_range.mp hk
  unfold nuB at h
  rcases List.mem_cons.mp h with rfl | h
  · exact rR1_ok hk
  · rcases List.mem_cons.mp h with rfl | h
    · exact rR3_ok hk
    · obtain ⟨j, hj, rfl⟩ := List.mem_map.mp h
      exact rR2_ok hk (List.mem_range.mp hj)) (fun r hr => by
  simp only [List.mem_cons, List.not_mem_nil, or_false] at hr
  rcases hr with rfl | rfl | rfl | rfl | rfl | rfl | rfl | rfl
  · exact rZ1_ok
  · exact rZ2_ok
  · exact rM0_ok
  · exact rM1_ok
  · exact rM2_ok
  · exact rM3_ok
  · exact rM4_ok
  · exact rM5_ok))
