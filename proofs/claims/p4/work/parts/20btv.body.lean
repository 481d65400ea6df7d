/-! ===== RULES OF LINES' BODIES: what follows a line's word, told from the word's place on ===== -/
theorem FK_b {i : Nat} (hi : i < 5) {a b c : Int} : FK (206 + i) a b c = rBody (dc a) i (nx (dc a) b.toNat) := by
  match i, hi with
  | 0, _ => rfl
  | 1, _ => rfl
  | 2, _ => rfl
  | 3, _ => rfl
  | 4, _ => rfl
theorem FK_n {i : Nat} (hi : i < 2) {a b c : Int} : FK (211 + i) a b c = nsN (dc a) (nsL.getD i []) (nx (dc a) b.toNat) := by
  match i, hi with
  | 0, _ => rfl
  | 1, _ => rfl
def bo1 (i : Nat) : eRu := (vr (206 + i) 0 1 20 2, vr 8 0 1 9 6 :: bdP i, bdC i, [], [])
def bo2 (i j : Nat) : eRu := (vr (2206 + i) 0 1 21 22, vr 8 0 1 9 6 :: bdF i j, [(21, 1, big), (22, 0, big)] ++ bdCf i j, [], [])
theorem bo1_ok {i : Nat} (hi : i < 5) : ruH (bo1 i) := fun x hp hc _ _ => by
  have p2 := RK_8 (vr_H.mp (hp _ lm0))
  have hb := bodyG (x := x) hi (fun p h => hp p (List.mem_cons_of_mem _ h)) hc
  rw [p2, Int.toNat_natCast] at hb
  refine vr_H.mpr ((RK_f (by omega)).mpr ?_)
  rw [FK_b hi]
  exact hb.symm
theorem bo2_ok {i j : Nat} (hi : i < 5) : ruH (bo2 i j) := fun x hp hc _ _ => by
  have c1 := hc (21, 1, big) (List.mem_append_left _ lm0)
  have c2 := hc (22, 0, big) (List.mem_append_left _ lm1)
  dsimp only at c1 c2
  have p2 := RK_8 (vr_H.mp (hp _ lm0))
  have hb := bodyF (x := x) (j := j) hi c1.1 c2.1 (fun p h => hp p (List.mem_cons_of_mem _ h)) (fun c h => hc c (List.mem_append_right _ h))
  rw [p2, Int.toNat_natCast] at hb
  refine vr_H.mpr ?_
  rw [show 2206 + i = 2000 + (206 + i) by omega]
  refine RK_ti (by omega) (by omega) ?_
  rw [FK_b hi]
  exact hb
def bl1 (fl i : Nat) : eRu := ((4000 + nfl fl i, [(0, 0), (2, 0), (3, z0 i), (4, z1 i)]), [vr (4000 + fl) 0 1 3 4, vr (10 + i) 0 1 8 5, vr (206 + i) 0 1 9 2], [(5, 1, 1), (2, 0, big), (3, 0, big), (4, 0, big)] ++ ovC i, [], [])
def bl2 (fl i : Nat) : eRu := (vr 2199 0 20 21 22, [vr (4000 + fl) 0 1 3 4, vr (10 + i) 0 1 8 5, vr (2206 + i) 0 1 21 22], [(5, 1, 1), (21, 1, big), (22, 0, big), (3, 0, big), (4, 0, big)] ++ ovC i, [], [])
theorem bl1_ok {fl i : Nat} (hf : fl < 8) (hi : i < 5) (hF : freeF fl i = true) : ruH (bl1 fl i) := fun x hp hc _ _ => by
  have p0 := (RK_l hf).mp (vr_H.mp (hp _ lm0))
  have c0 := hc (5, 1, 1) (List.mem_append_left _ lm0)
  have c1 := hc (2, 0, big) (List.mem_append_left _ lm1)
  have c2 := hc (3, 0, big) (List.mem_append_left _ lm2)
  have c3 := hc (4, 0, big) (List.mem_append_left _ lm3)
  dsimp only at c0 c1 c2 c3
  have hw := wd_of (x := x) (i := i) (by omega) (hp _ lm1) c0.1
  have hb := (RK_f (k := 206 + i) (by omega)).mp (vr_H.mp (hp _ lm2))
  rw [FK_b hi] at hb
  have ho := over_n (x := x) hi hF (fun c h => hc c (List.mem_append_right _ h))
  have hg := line_go hi hw ho hb.symm c1.1
  obtain ⟨b0, b1, b2⟩ := nfl_b fl hf i hi hF
  show RK (4000 + nfl fl i) (x 0 + 0) (x 2 + 0) (x 3 + z0 i) (x 4 + z1 i)
  rw [Int.add_zero, Int.add_zero]
  refine (RK_l (nfl_lt fl hf i hi hF)).mpr ?_
  rw [p0, hg, b0, b1, b2]
  have e0 : (x 3 + z0 i).toNat = (x 3).toNat + b2n (decide (i = 0)) := by
    unfold z0 b2n
    by_cases h : i = 0
    · rw [if_pos h, decide_eq_true h, if_pos rfl]
      omega
    · rw [if_neg h, decide_eq_false h, if_neg (by decide)]
      omega
  have e1 : (x 4 + z1 i).toNat = (x 4).toNat + b2n (decide (i = 1)) := by
    unfold z1 b2n
    by_cases h : i = 1
    · rw [if_pos h, decide_eq_true h, if_pos rfl]
      omega
    · rw [if_neg h, decide_eq_false h, if_neg (by decide)]
      omega
  rw [e0, e1]
theorem bl2_ok {fl i : Nat} (hf : fl < 8) (hi : i < 5) (hF : freeF fl i = true) : ruH (bl2 fl i) := fun x hp hc _ _ => by
  have p0 := (RK_l hf).mp (vr_H.mp (hp _ lm0))
  have c0 := hc (5, 1, 1) (List.mem_append_left _ lm0)
  have c1 := hc (21, 1, big) (List.mem_append_left _ lm1)
  have c2 := hc (22, 0, big) (List.mem_append_left _ lm2)
  dsimp only at c0 c1 c2
  have hw := wd_of (x := x) (i := i) (by omega) (hp _ lm1) c0.1
  have hz := vr_H.mp (hp _ lm2)
  rw [show 2206 + i = 2000 + (206 + i) by omega] at hz
  have hb := RK_tm (k := 206 + i) (by omega) hz (by omega)
  rw [FK_b hi] at hb
  have ho := over_n (x := x) hi hF (fun c h => hc c (List.mem_append_right _ h))
  have hg := line_no hi hw ho hb (by omega)
  exact vr_H.mpr (RK_99 c1.1 (p0.trans hg))
/-! numbers behind a word, without the line's end -/
theorem nsN_ns {L : List Int} : ∀ {l : List (Int × Int)} {p : Nat}, rNs L l p = thn (nsN L l p) (rEnd L 59)
  | [], p => by
    show rEnd L 59 p = thn (p : Int) (rEnd L 59)
    unfold thn
    rw [if_neg (by omega), Int.toNat_natCast]
  | q :: r, p => by
    show thn (rNum L q.1 q.2 p) (rNs L r) = thn (thn (rNum L q.1 q.2 p) (nsN L r)) (rEnd L 59)
    by_cases h : rNum L q.1 q.2 p < 0
    · have e1 : thn (rNum L q.1 q.2 p) (rNs L r) = rNum L q.1 q.2 p := if_pos h
      have e2 : thn (rNum L q.1 q.2 p) (nsN L r) = rNum L q.1 q.2 p := if_pos h
      rw [e1, e2]
      exact (if_pos h).symm
    · have e1 : thn (rNum L q.1 q.2 p) (rNs L r) = rNs L r (rNum L q.1 q.2 p).toNat := if_neg h
      have e2 : thn (rNum L q.1 q.2 p) (nsN L r) = nsN L r (rNum L q.1 q.2 p).toNat := if_neg h
      rw [e1, e2]
      exact nsN_ns
theorem nsN_run {x : Nat → Int} : ∀ (is : List Nat) (v : Nat) (l : List (Int × Int)), (∀ i ∈ is, i < 10) → (∀ p ∈ nsP is v, rlH x p) → (∀ c ∈ nsB is v, c.2.1 ≤ x c.1 ∧ x c.1 ≤ c.2.2) → nsN (dc (x 0)) (is.map bdI ++ l) (x v).toNat = nsN (dc (x 0)) l (x (v + is.length)).toNat
  | [], _, _, _, _, _ => rfl
  | i :: r, v, l, hi, hp, hc => by
    have p1 := (RK_f (by have := hi i List.mem_cons_self; omega)).mp (vr_H.mp (hp _ List.mem_cons_self))
    have c1 := hc (v + 1, 0, big) List.mem_cons_self
    dsimp only at c1
    rw [FK_16 (hi i List.mem_cons_self)] at p1
    have ih := nsN_run (x := x) r (v + 1) l (fun j hj => hi j (List.mem_cons_of_mem _ hj)) (fun p h => hp p (List.mem_cons_of_mem _ h)) (fun c h => hc c (List.mem_cons_of_mem _ h))
    show thn (rNum (dc (x 0)) (bdI i).1 (bdI i).2 (x v).toNat) (nsN (dc (x 0)) (r.map bdI ++ l)) = _
    unfold bdI
    rw [← p1]
    have e : thn (x (v + 1)) (nsN (dc (x 0)) (r.map bdI ++ l)) = nsN (dc (x 0)) (r.map bdI ++ l) (x (v + 1)).toNat := if_neg (by omega)
    refine Eq.trans e (ih.trans ?_)
    rw [List.length_cons, show v + 1 + r.length = v + (r.length + 1) by omega]
def rb0 (i : Nat) : eRu := (vr (211 + i) 0 1 20 2, vr 8 0 1 9 30 :: nsP (nsI i) 30, nsB (nsI i) 30, [], [(2, 30 + (nsI i).length, 0), (30 + (nsI i).length, 2, 0)])
def rb1 (i j : Nat) : eRu := (vr (2211 + i) 0 1 6 7, vr 8 0 1 9 30 :: (nsP ((nsI i).take j) 30 ++ [vr (2160 + (nsI i).getD j 0) 0 (30 + j) 6 7]), nsB ((nsI i).take j) 30 ++ [(6, 1, big), (7, 0, big)], [], [])
def rb2 (i : Nat) : eRu := (vr (206 + i) 0 1 20 2, [vr (211 + i) 0 1 8 3, vr 173 0 3 9 2], [(3, 0, big)], [], [])
def rb3 (i : Nat) : eRu := (vr (2206 + i) 0 1 6 7, [vr (2211 + i) 0 1 6 7], [(6, 1, big), (7, 0, big)], [], [])
def rb4 (i : Nat) : eRu := (vr (2206 + i) 0 1 6 7, [vr (211 + i) 0 1 8 3, vr 2173 0 3 6 7], [(3, 0, big), (6, 1, big), (7, 0, big)], [], [])
theorem nsI_pos {i : Nat} (hi : i < 2) : 0 < (nsI i).length := by
  match i, hi with
  | 0, _ => decide
  | 1, _ => decide
theorem nsB_end : ∀ (is : List Nat) (v : Nat), 0 < is.length → (v + is.length, (0 : Int), big) ∈ nsB is v
  | [i], v, _ => List.mem_cons_self
  | i :: j :: r, v, _ => by
    have h := nsB_end (j :: r) (v + 1) (by rw [List.length_cons]; omega)
    have e : v + (i :: j :: r).length = v + 1 + (j :: r).length := by
      rw [List.length_cons (a := i)]
      omega
    rw [e]
    exact List.mem_cons_of_mem _ h
theorem rb0_ok {i : Nat} (hi : i < 2) : ruH (rb0 i) := fun x hp hc _ hl => by
  have p2 := RK_8 (vr_H.mp (hp _ lm0))
  have h := nsN_run (x := x) (nsI i) 30 [] nsI_lt (fun p h => hp p (List.mem_cons_of_mem _ h)) hc
  have l1 := hl (2, 30 + (nsI i).length, 0) lm0
  have l2 := hl (30 + (nsI i).length, 2, 0) lm1
  have c1 := hc _ (nsB_end (nsI i) 30 (nsI_pos hi))
  dsimp only at l1 l2 c1
  refine vr_H.mpr ((RK_f (by omega)).mpr ?_)
  rw [FK_n hi, nsI_e (by omega)]
  rw [List.append_nil, p2, Int.toNat_natCast] at h
  rw [h]
  show x 2 = ((x (30 + (nsI i).length)).toNat : Int)
  omega
theorem rb1_ok {i j : Nat} (hk : i < 2) (hj : j < (nsI i).length) : ruH (rb1 i j) := fun x hp hc _ _ => by
  have p2 := RK_8 (vr_H.mp (hp _ lm0))
  have hi : (nsI i).getD j 0 < 10 := by
    rw [getD_in hj]
    exact nsI_lt _ (List.getElem_mem hj)
  have p1 := RK_tm (k := 160 + (nsI i).getD j 0) (by omega) (by
    have := vr_H.mp (hp _ (List.mem_cons_of_mem _ (List.mem_append_right _ lm0)))
    rwa [show 2160 + (nsI i).getD j 0 = 2000 + (160 + (nsI i).getD j 0) by omega] at this)
  have h := nsN_run (x := x) ((nsI i).take j) 30 (((nsI i).drop j).map bdI) (fun i h => nsI_lt i (List.mem_of_mem_take h)) (fun p h => hp p (List.mem_cons_of_mem _ (List.mem_append_left _ h))) (fun c h => hc c (List.mem_append_left _ h))
  have c1 := hc (6, 1, big) (List.mem_append_right _ lm0)
  have c2 := hc (7, 0, big) (List.mem_append_right _ lm1)
  dsimp only at c1 c2
  have p1 := p1 (by omega)
  refine vr_H.mpr ?_
  rw [show 2211 + i = 2000 + (211 + i) by omega]
  refine RK_ti (by omega) (by omega) ?_
  rw [FK_n hk]
  rw [← List.map_append, List.take_append_drop, List.length_take, Nat.min_eq_left (Nat.le_of_lt hj), p2, Int.toNat_natCast] at h
  rw [nsI_e (by omega), h]
  rw [FK_16 hi] at p1
  rw [List.drop_eq_getElem_cons hj]
  show thn (rNum (dc (x 0)) (bdI (nsI i)[j]).1 (bdI (nsI i)[j]).2 (x (30 + j)).toNat) _ = _
  rw [getD_in hj] at p1
  unfold bdI
  rw [p1]
  exact if_pos (by omega)
theorem rb_body {L : List Int} {i p : Nat} (hi : i < 2) : rBody L i p = thn (nsN L (nsL.getD i []) p) (rEnd L 59) := by
  match i, hi with
  | 0, _ => exact nsN_ns
  | 1, _ => exact nsN_ns
theorem rb2_ok {i : Nat} (hi : i < 2) : ruH (rb2 i) := fun x hp hc _ _ => by
  have p1 := (RK_f (k := 211 + i) (by omega)).mp (vr_H.mp (hp _ lm0))
  have p2 : x 2 = rEnd (dc (x 0)) 59 (x 3).toNat := vr_H.mp (hp _ lm1)
  have c1 := hc (3, 0, big) lm0
  dsimp only at c1
  rw [FK_n hi] at p1
  refine vr_H.mpr ((RK_f (by omega)).mpr ?_)
  rw [FK_b (by omega), rb_body hi, ← p1, p2]
  exact (if_neg (by omega)).symm
theorem rb3_ok {i : Nat} (hi : i < 2) : ruH (rb3 i) := fun x hp hc _ _ => by
  have hz := vr_H.mp (hp _ lm0)
  rw [show 2211 + i = 2000 + (211 + i) by omega] at hz
  have c1 := hc (6, 1, big) lm0
  have c2 := hc (7, 0, big) lm1
  dsimp only at c1 c2
  have p1 := RK_tm (k := 211 + i) (by omega) hz (by omega)
  rw [FK_n hi] at p1
  refine vr_H.mpr ?_
  rw [show 2206 + i = 2000 + (206 + i) by omega]
  refine RK_ti (by omega) (by omega) ?_
  rw [FK_b (by omega), rb_body hi, p1]
  exact if_pos (by omega)
theorem rb4_ok {i : Nat} (hi : i < 2) : ruH (rb4 i) := fun x hp hc _ _ => by
  have p1 := (RK_f (k := 211 + i) (by omega)).mp (vr_H.mp (hp _ lm0))
  have p2 := RK_tm (k := 173) (by decide) (vr_H.mp (hp _ lm1))
  have c0 := hc (3, 0, big) lm0
  have c1 := hc (6, 1, big) lm1
  have c2 := hc (7, 0, big) lm2
  dsimp only at c0 c1 c2
  have p2 : rEnd (dc (x 0)) 59 (x 3).toNat = -(1 + x 6 + 8 * x 7) := p2 (by omega)
  rw [FK_n hi] at p1
  refine vr_H.mpr ?_
  rw [show 2206 + i = 2000 + (206 + i) by omega]
  refine RK_ti (by omega) (by omega) ?_
  rw [FK_b (by omega), rb_body hi, ← p1, ← p2]
  exact if_neg (by omega)
/-! numbers and the line's end behind a word, at once -/
def bR1 (k : Nat) : eRu := (vr (206 + k) 0 1 20 2, vr 8 0 1 9 30 :: (nsP (nsI k) 30 ++ [vr 173 0 (30 + (nsI k).length) 21 2]), nsB (nsI k) 30, [], [])
def bR2 (k j : Nat) : eRu := (vr (2206 + k) 0 1 6 7, vr 8 0 1 9 30 :: (nsP ((nsI k).take j) 30 ++ [vr (2160 + (nsI k).getD j 0) 0 (30 + j) 6 7]), nsB ((nsI k).take j) 30 ++ [(6, 1, big), (7, 0, big)], [], [])
def bR3 (k : Nat) : eRu := (vr (2206 + k) 0 1 6 7, vr 8 0 1 9 30 :: (nsP (nsI k) 30 ++ [vr 2173 0 (30 + (nsI k).length) 6 7]), nsB (nsI k) 30 ++ [(6, 1, big), (7, 0, big)], [], [])
theorem rb_ns {L : List Int} {k p : Nat} (hk : k < 3) : rBody L k p = rNs L (nsL.getD k []) p := by
  match k, hk with
  | 0, _ => rfl
  | 1, _ => rfl
  | 2, _ => rfl
theorem bR1_ok {k : Nat} (hk : k < 3) : ruH (bR1 k) := fun x hp hc hn hl => by
  have p2 := RK_8 (vr_H.mp (hp _ lm0))
  have h := vr_H.mp (rR1_ok hk x (fun p h => hp p (List.mem_cons_of_mem _ h)) hc hn hl)
  have h := (RK_f (k := 170 + k) (by omega)).mp h
  rw [FK_17 (by omega), p2, Int.toNat_natCast] at h
  refine vr_H.mpr ((RK_f (by omega)).mpr ?_)
  rw [FK_b (by omega), rb_ns hk]
  exact h
theorem bR2_ok {k j : Nat} (hk : k < 3) (hj : j < (nsI k).length) : ruH (bR2 k j) := fun x hp hc hn hl => by
  have p2 := RK_8 (vr_H.mp (hp _ lm0))
  have c1 := hc (6, 1, big) (List.mem_append_right _ lm0)
  dsimp only at c1
  have h := vr_H.mp (rR2_ok hk hj x (fun p h => hp p (List.mem_cons_of_mem _ h)) hc hn hl)
  rw [show 2170 + k = 2000 + (170 + k) by omega] at h
  have h := RK_tm (k := 170 + k) (by omega) h (by omega)
  rw [FK_17 (by omega), p2, Int.toNat_natCast] at h
  refine vr_H.mpr ?_
  rw [show 2206 + k = 2000 + (206 + k) by omega]
  refine RK_ti (by omega) (by omega) ?_
  rw [FK_b (by omega), rb_ns hk]
  exact h
theorem bR3_ok {k : Nat} (hk : k < 3) : ruH (bR3 k) := fun x hp hc hn hl => by
  have p2 := RK_8 (vr_H.mp (hp _ lm0))
  have c1 := hc (6, 1, big) (List.mem_append_right _ lm0)
  dsimp only at c1
  have h := vr_H.mp (rR3_ok hk x (fun p h => hp p (List.mem_cons_of_mem _ h)) hc hn hl)
  rw [show 2170 + k = 2000 + (170 + k) by omega] at h
  have h := RK_tm (k := 170 + k) (by omega) h (by omega)
  rw [FK_17 (by omega), p2, Int.toNat_natCast] at h
  refine vr_H.mpr ?_
  rw [show 2206 + k = 2000 + (206 + k) by omega]
  refine RK_ti (by omega) (by omega) ?_
  rw [FK_b (by omega), rb_ns hk]
  exact h
/-! TIMES from its word on: so many are behind us -/
def tm0 : eRu := (vr 1013 0 1 2 6, [vr 8 0 1 9 3, vr 162 0 3 10 2], [(2, 0, big), (6, 1, 1)], [], [])
def tm1 : eRu := ((1013, [(0, 0), (1, 0), (3, 0), (6, 1)]), [vr 1013 0 1 2 6, vr 4 0 2 8 5, vr 162 0 2 9 3], [(5, 2, 2), (3, 0, big), (6, 1, 9)], [], [])
def tm2 (k : Nat) : eRu := (vr 209 0 1 20 3, [vr 1013 0 1 2 6, vr k 0 2 8 5, vr 173 0 2 9 3], [(6, 1, 10)], [(5, [2])], [])
def tm3 : eRu := (vr 2209 0 1 4 7, [vr 1013 0 1 2 6, vr 4 0 2 8 5, vr 2162 0 2 4 7], [(5, 2, 2), (6, 1, 9), (4, 1, big), (7, 0, big)], [], [])
def tm4 (k : Nat) : eRu := (vr 2209 0 1 4 7, [vr 1013 0 1 2 6, vr k 0 2 8 5, vr 2173 0 2 4 7], [(6, 1, 10), (4, 1, big), (7, 0, big)], [(5, [2])], [])
def tm5 : eRu := (vr 2209 0 1 4 7, [vr 1013 0 1 7 6, vr 4 0 7 8 5], [(5, 2, 2), (6, 10, 10), (4, 2, 2), (7, 0, big)], [], [])
def tm6 : eRu := (vr 2209 0 1 6 7, [vr 8 0 1 9 3, vr 2162 0 3 6 7], [(6, 1, big), (7, 0, big)], [], [])
theorem RK_1013 {a b c d : Int} (h : RK 1013 a b c d) : FK 209 a b 0 = rTm (dc a) (10 - d).toNat c.toNat := h
/-- by its kind, or by its sort: no number -/
theorem no_2 {k : Nat} (hk : k = 4 ∨ k = 36) {a b c d : Int} (h : RK k a b c d) (hn : d ∉ [(2 : Int)]) : kd (dc a) b.toNat ≠ 2 := fun e => by
  rcases hk with rfl | rfl
  · have h : d = kd (dc a) b.toNat := RK_4 h
    exact hn (List.mem_singleton.mpr (h.trans e))
  · have h : d = tk (dc a) b.toNat := RK_36 h
    refine hn (List.mem_singleton.mpr (h.trans ?_))
    unfold tk
    rw [e]
    rfl
theorem tm0_ok : ruH tm0 := fun x hp hc _ _ => by
  have p1 := RK_8 (vr_H.mp (hp _ lm0))
  have p2 : x 2 = rNum (dc (x 0)) 0 9 (x 3).toNat := vr_H.mp (hp _ lm1)
  have c1 := hc (2, 0, big) lm0
  have c2 := hc (6, 1, 1) lm1
  dsimp only at c1 c2
  refine vr_H.mpr ?_
  show thn (rNum (dc (x 0)) 0 9 (nx (dc (x 0)) (x 1).toNat)) (rTm (dc (x 0)) 9) = rTm (dc (x 0)) (10 - x 6).toNat (x 2).toNat
  rw [p1, Int.toNat_natCast] at p2
  rw [← p2, show (10 - x 6).toNat = 9 by omega]
  exact if_neg (by omega)
theorem tm1_ok : ruH tm1 := fun x hp hc _ _ => by
  have p1 := RK_1013 (vr_H.mp (hp _ lm0))
  have p2 := RK_4 (vr_H.mp (hp _ lm1))
  have p3 : x 3 = rNum (dc (x 0)) 0 9 (x 2).toNat := vr_H.mp (hp _ lm2)
  have c1 := hc (5, 2, 2) lm0
  have c2 := hc (3, 0, big) lm1
  have c3 := hc (6, 1, 9) lm2
  dsimp only at c1 c2 c3
  refine go4 ?_
  show FK 209 (x 0) (x 1) 0 = rTm (dc (x 0)) (10 - (x 6 + 1)).toNat (x 3).toNat
  rw [p1, show (10 - x 6).toNat = (10 - (x 6 + 1)).toNat + 1 by omega, rTm_2 (by omega), ← p3]
  exact if_neg (by omega)
theorem tm2_ok {k : Nat} (hk : k = 4 ∨ k = 36) : ruH (tm2 k) := fun x hp hc hn _ => by
  have p1 := RK_1013 (vr_H.mp (hp _ lm0))
  have p3 : x 3 = rEnd (dc (x 0)) 59 (x 2).toNat := vr_H.mp (hp _ lm2)
  have n1 := hn (5, [2]) lm0
  dsimp only at n1
  have hne := no_2 hk (vr_H.mp (hp _ lm1)) n1
  refine vr_H.mpr ((RK_f (by decide)).mpr ?_)
  have e : FK 209 (x 0) (x 1) (x 20) = FK 209 (x 0) (x 1) 0 := rfl
  rw [e, p1, rTm_e hne]
  exact p3
theorem tm3_ok : ruH tm3 := fun x hp hc _ _ => by
  have p1 := RK_1013 (vr_H.mp (hp _ lm0))
  have p2 := RK_4 (vr_H.mp (hp _ lm1))
  have p3 := RK_tm (k := 162) (by decide) (vr_H.mp (hp _ lm2))
  have c1 := hc (5, 2, 2) lm0
  have c2 := hc (6, 1, 9) lm1
  have c3 := hc (4, 1, big) lm2
  have c4 := hc (7, 0, big) lm3
  dsimp only at c1 c2 c3 c4
  have p3 : rNum (dc (x 0)) 0 9 (x 2).toNat = -(1 + x 4 + 8 * x 7) := p3 (by omega)
  refine vr_H.mpr (RK_ti (k := 209) (by decide) (by omega) ?_)
  rw [p1, show (10 - x 6).toNat = (10 - (x 6 + 1)).toNat + 1 by omega, rTm_2 (by omega), p3]
  exact if_pos (by omega)
theorem tm4_ok {k : Nat} (hk : k = 4 ∨ k = 36) : ruH (tm4 k) := fun x hp hc hn _ => by
  have p1 := RK_1013 (vr_H.mp (hp _ lm0))
  have p3 := RK_tm (k := 173) (by decide) (vr_H.mp (hp _ lm2))
  have c3 := hc (4, 1, big) lm1
  have n1 := hn (5, [2]) lm0
  dsimp only at c3 n1
  have hne := no_2 hk (vr_H.mp (hp _ lm1)) n1
  have p3 : rEnd (dc (x 0)) 59 (x 2).toNat = -(1 + x 4 + 8 * x 7) := p3 (by omega)
  refine vr_H.mpr (RK_ti (k := 209) (by decide) (by omega) ?_)
  rw [p1, rTm_e hne]
  exact p3
theorem tm5_ok : ruH tm5 := fun x hp hc _ _ => by
  have p1 := RK_1013 (vr_H.mp (hp _ lm0))
  have p2 := RK_4 (vr_H.mp (hp _ lm1))
  have c1 := hc (5, 2, 2) lm0
  have c2 := hc (6, 10, 10) lm1
  have c3 := hc (4, 2, 2) lm2
  have c4 := hc (7, 0, big) lm3
  dsimp only at c1 c2 c3 c4
  refine vr_H.mpr (RK_ti (k := 209) (by decide) (by omega) ?_)
  rw [p1, show (10 - x 6).toNat = 0 by omega]
  show (if kd (dc (x 0)) (x 7).toNat = 2 then flt 2 (x 7).toNat else _) = _
  rw [if_pos (by omega)]
  unfold flt
  rw [Int.toNat_of_nonneg c4.1]
  omega
theorem tm6_ok : ruH tm6 := fun x hp hc _ _ => by
  have p1 := RK_8 (vr_H.mp (hp _ lm0))
  have p3 := RK_tm (k := 162) (by decide) (vr_H.mp (hp _ lm1))
  have c1 := hc (6, 1, big) lm0
  have c2 := hc (7, 0, big) lm1
  dsimp only at c1 c2
  have p3 : rNum (dc (x 0)) 0 9 (x 3).toNat = -(1 + x 6 + 8 * x 7) := p3 (by omega)
  rw [p1, Int.toNat_natCast] at p3
  refine vr_H.mpr (RK_ti (k := 209) (by decide) (by omega) ?_)
  show thn (rNum (dc (x 0)) 0 9 (nx (dc (x 0)) (x 1).toNat)) (rTm (dc (x 0)) 9) = _
  rw [p3]
  exact if_pos (by omega)
def boA : List eRu := [tm0, tm1, tm2 4, tm2 36, tm3, tm4 4, tm4 36, tm5, tm6]
theorem boA_ok : ∀ r ∈ boA, ruH r := fun r hr => by
  simp only [boA, List.mem_cons, List.not_mem_nil, or_false] at hr
  rcases hr with rfl | rfl | rfl | rfl | rfl | rfl | rfl | rfl | rfl
  · exact tm0_ok
  · exact tm1_ok
  · exact tm2_ok (Or.inl rfl)
  · exact tm2_ok (Or.inr rfl)
  · exact tm3_ok
  · exact tm4_ok (Or.inl rfl)
  · exact tm4_ok (Or.inr rfl)
  · exact tm5_ok
  · exact tm6_ok
def boRules : List eRu := boA ++ ((List.range 5).map bo1 ++ ((List.range 5).map (fun i => bo2 i 0) ++ ((List.range 5).map (fun i => bo2 i 1) ++ ((List.range 2).map rb0 ++ ((List.range 2).flatMap (fun i => (List.range (nsI i).length).map (rb1 i)) ++ ((List.range 2).map rb2 ++ ((List.range 2).map rb3 ++ ((List.range 2).map rb4 ++ ((List.range 3).map bR1 ++ ((List.range 3).flatMap (fun i => (List.range (nsI i).length).map (bR2 i)) ++ (List.range 3).map bR3))))))))))
theorem boRules_ok : ∀ r ∈ boRules, ruH r := all_app boA_ok (all_app (all_map fun i h => bo1_ok (List.mem_range.mp h)) (all_app (all_map fun i h => bo2_ok (List.mem_range.mp h)) (all_app (all_map fun i h => bo2_ok (List.mem_range.mp h)) (all_app (all_map fun i h => rb0_ok (List.mem_range.mp h)) (all_app (fun r hr => by
  obtain ⟨i, hi, h⟩ := List.mem_flatMap.mp hr
  obtain ⟨j, hj, rfl⟩ := List.mem_map.mp h
  exact rb1_ok (List.mem_range.mp hi) (List.mem_range.mp hj)) (all_app (all_map fun i h => rb2_ok (List.mem_range.mp h)) (all_app (all_map fun i h => rb3_ok (List.mem_range.mp h)) (all_app (all_map fun i h => rb4_ok (List.mem_range.mp h)) (all_app (all_map fun i h => bR1_ok (List.mem_range.mp h)) (all_app (fun r hr => by
  obtain ⟨i, hi, h⟩ := List.mem_flatMap.mp hr
  obtain ⟨j, hj, rfl⟩ := List.mem_map.mp h
  exact bR2_ok (List.mem_range.mp hi) (List.mem_range.mp hj)) (all_map fun i h => bR3_ok (List.mem_range.mp h))))))))))))
def lnB : List eRu := (List.range 8).flatMap (fun fl => ((List.range 5).filter (freeF fl)).flatMap (fun i => [bl1 fl i, bl2 fl i]))
theorem lnB_ok : ∀ r ∈ lnB, ruH r := fun r hr => by
  obtain ⟨fl, hf, h⟩ := List.mem_flatMap.mp hr
  obtain ⟨i, hi, h⟩ := List.mem_flatMap.mp h
  obtain ⟨h1, h2⟩ := List.mem_filter.mp hi
  simp only [List.mem_cons, List.not_mem_nil, or_false] at h
  rcases h with rfl | rfl
  · exact bl1_ok (List.mem_range.mp hf) (List.mem_range.mp h1) h2
  · exact bl2_ok (List.mem_range.mp hf) (List.mem_range.mp h1) h2
