/-! ===== RULES AS THE OTHER READER NEEDS THEM: what a token isn't; sorts of tokens; numbers ===== -/
theorem RK_14 {a b c d : Int} : RK 1014 a b c d ↔ FK 4 a b 0 ≠ c := Iff.rfl
def ne1 (v : Int) : eRu := (vr 1014 0 1 2 9, [vr 4 0 1 8 5], [(2, v, v)], [(5, [v])], [])
def ne2 (v : Int) : eRu := (vr 1014 0 1 2 9, [vr 36 0 1 8 5], [(2, v, v)], [(5, [3])], [])
theorem ne1_ok (v : Int) : ruH (ne1 v) := fun x hp hc hn _ => by
  have p1 : x 5 = FK 4 (x 0) (x 1) 0 := (RK_f (by decide)).mp (vr_H.mp (hp _ lm0))
  have c1 := hc (2, v, v) lm0
  have n1 := hn (5, [v]) lm0
  dsimp only at c1 n1
  refine vr_H.mpr (RK_14.mpr (fun e => n1 (List.mem_singleton.mpr ?_)))
  omega
theorem ne2_ok {v : Int} (hv : v ∈ mkL) : ruH (ne2 v) := fun x hp hc hn _ => by
  have p1 : x 5 = tk (dc (x 0)) (x 1).toNat := RK_36 (vr_H.mp (hp _ lm0))
  have c1 := hc (2, v, v) lm0
  have n1 := hn (5, [3]) lm0
  dsimp only at c1 n1
  refine vr_H.mpr (RK_14.mpr (fun e => n1 (List.mem_singleton.mpr ?_)))
  have e : kd (dc (x 0)) (x 1).toNat = v := by
    have e : kd (dc (x 0)) (x 1).toNat = x 2 := e
    omega
  rw [p1]
  unfold tk
  rw [e]
  simp only [mkL, List.mem_cons, List.not_mem_nil, or_false] at hv
  rcases hv with rfl | rfl | rfl | rfl | rfl | rfl | rfl | rfl | rfl <;> rfl
def ch3n (kW e : Nat) (v w : Int) : eRu := (vr kW 0 1 8 2, [vr (3000 + e) 0 1 2 9, vr 1014 0 2 4 10, vr 1014 0 2 5 11], [(2, 0, big), (4, v, v), (5, w, w)], [], [])
theorem ch3n_ok {kW kF kR e : Nat} {sep : List Int → Nat → Bool} (H : CH kW kF kR e sep) {v w : Int} (hs : ∀ a b : Int, FK 4 a b 0 ≠ v → FK 4 a b 0 ≠ w → sep (dc a) b.toNat = false) : ruH (ch3n kW e v w) := fun x hp hc _ _ => by
  obtain ⟨⟨h1, h2, h3, h4⟩, hI, hE⟩ := H
  have p1 := (RK_e h3).mp (vr_H.mp (hp _ lm0))
  have p2 := RK_14.mp (vr_H.mp (hp _ lm1))
  have p3 := RK_14.mp (vr_H.mp (hp _ lm2))
  have c2 := hc (2, 0, big) lm0
  have c3 := hc (4, v, v) lm1
  have c4 := hc (5, w, w) lm2
  refine vr_H.mpr ((RK_f h1).mpr ?_)
  rw [h4] at p1
  dsimp only at c2 c3 c4 p1
  rw [(hI _ _ _).1, p1, (hE _ _).2, hs _ _ (fun e => p2 (by omega)) (fun e => p3 (by omega))]
  exact (Int.toNat_of_nonneg c2.1).symm
def rT1n (m : Nat) : eRu := (vr (70 + m) 0 1 8 2, [vr (80 + m) 0 1 9 2, vr 1014 0 2 4 10, vr 1014 0 2 5 11], [(2, 0, big), (4, 60, 60), (5, 61, 61)], [], [])
theorem rT1n_ok {m : Nat} (hm : m < 10) : ruH (rT1n m) := fun x hp hc _ _ => by
  have p1 := (RK_f (by omega)).mp (vr_H.mp (hp _ lm0))
  have p2 := RK_14.mp (vr_H.mp (hp _ lm1))
  have p3 := RK_14.mp (vr_H.mp (hp _ lm2))
  have c1 := hc (2, 0, big) lm0
  have c2 := hc (4, 60, 60) lm1
  have c3 := hc (5, 61, 61) lm2
  refine vr_H.mpr ((RK_f (by omega)).mpr ?_)
  dsimp only at c1 c2 c3
  rw [FK_8 hm] at p1
  rw [FK_4k] at p2 p3
  rw [FK_7 hm]
  unfold rTest
  rw [← p1, thn_ge c1.1]
  have hs : spC (dc (x 0)) (x 2).toNat = false := by
    unfold spC
    rw [decide_eq_false (fun e => p2 (by omega)), decide_eq_false (fun e => p3 (by omega))]
    rfl
  rw [hs, if_neg (by decide)]
  exact (Int.toNat_of_nonneg c1.1).symm
theorem noMay2 {a p t w c : Int} (h1 : FK 4 a p 0 ≠ c) (hc : c = 40) (h2 : t = FK 36 a p w) (n2 : t ∉ [(1 : Int), 2]) : kd (dc a) p.toNat ≠ 1 ∧ kd (dc a) p.toNat ≠ 2 ∧ kd (dc a) p.toNat ≠ 40 := by
  rw [FK_4k] at h1
  rw [FK_36k] at h2
  refine ⟨fun e => n2 ?_, fun e => n2 ?_, fun e => h1 (e.trans hc.symm)⟩
  · rw [h2]
    unfold tk
    rw [e]
    decide
  · rw [h2]
    unfold tk
    rw [e]
    decide
def rP8n (m : Nat) : eRu := (vr (2100 + m) 0 7 6 7, [vr 1014 0 7 4 9, vr 36 0 7 10 5], [(6, 1, 1), (7, 0, big), (4, 40, 40)], [(5, [1, 2])], [])
theorem rP8n_ok {m : Nat} (hm : m < 10) : ruH (rP8n m) := fun x hp hc hn _ => by
  have p1 := RK_14.mp (vr_H.mp (hp _ lm0))
  have p2 := (RK_f (by decide)).mp (vr_H.mp (hp _ lm1))
  have c3 := hc (6, 1, 1) lm0
  have c4 := hc (7, 0, big) lm1
  have c5 := hc (4, 40, 40) lm2
  have n2 := hn (5, [1, 2]) lm0
  dsimp only at c3 c4 c5 n2
  refine vr_H.mpr (RK_p hm (by omega) ?_)
  obtain ⟨q1, q2, q3⟩ := noMay2 p1 (by omega) p2 n2
  unfold rPart
  rw [if_neg q3, if_neg q2, if_neg q1]
  unfold flt
  rw [Int.toNat_of_nonneg c4.1]
  omega
def rO1n (m : Nat) : eRu := (vr (2040 + m) 0 7 6 7, [vr 1014 0 7 4 9, vr 36 0 7 10 5], [(6, 1, 1), (7, 0, big), (4, 40, 40)], [(5, [1, 2])], [])
theorem rO1n_ok {m : Nat} (hm : m < 10) : ruH (rO1n m) := fun x hp hc hn _ => by
  have p1 := RK_14.mp (vr_H.mp (hp _ lm0))
  have p2 := (RK_f (by decide)).mp (vr_H.mp (hp _ lm1))
  have c3 := hc (6, 1, 1) lm0
  have c4 := hc (7, 0, big) lm1
  have c5 := hc (4, 40, 40) lm2
  have n2 := hn (5, [1, 2]) lm0
  dsimp only at c3 c4 c5 n2
  refine vr_H.mpr (RK_o hm (by omega) ?_)
  obtain ⟨q1, q2, q3⟩ := noMay2 p1 (by omega) p2 n2
  rw [rOr_no (mayB_no q1 q2 q3)]
  unfold flt
  rw [Int.toNat_of_nonneg c4.1]
  omega
def rP3n (m : Nat) : eRu := (vr (2100 + m) 0 1 6 7, [vr 4 0 1 9 4, vr 8 0 1 10 3, vr (40 + m) 0 3 11 7, vr 1014 0 7 5 12], [(4, 40, 40), (6, 1, 1), (7, 0, big), (5, 41, 41)], [], [])
theorem rP3n_ok {m : Nat} (hm : m < 10) : ruH (rP3n m) := fun x hp hc _ _ => by
  have p1 := (RK_f (by decide)).mp (vr_H.mp (hp _ lm0))
  have p2 := (RK_f (by decide)).mp (vr_H.mp (hp _ lm1))
  have p3 := (RK_f (by omega)).mp (vr_H.mp (hp _ lm2))
  have p4 := RK_14.mp (vr_H.mp (hp _ lm3))
  have c1 := hc (4, 40, 40) lm0
  have c2 := hc (6, 1, 1) lm1
  have c3 := hc (7, 0, big) lm2
  have c4 := hc (5, 41, 41) lm3
  dsimp only at c1 c2 c3 c4
  refine vr_H.mpr (RK_p hm (by omega) ?_)
  rw [FK_4k] at p1 p4
  rw [FK_8k] at p2
  rw [FK_4 hm, p2, Int.toNat_natCast] at p3
  unfold rPart
  rw [if_pos (by omega), ← p3, thn_ge c3.1]
  unfold rEnd
  rw [if_neg (fun e => p4 (by omega))]
  unfold flt
  rw [Int.toNat_of_nonneg c3.1]
  omega
def rZ2n : eRu := (vr 2173 0 7 6 7, [vr 1014 0 7 5 8], [(6, 1, 1), (7, 0, big), (5, 59, 59)], [], [])
theorem rZ2n_ok : ruH rZ2n := fun x hp hc _ _ => by
  have p1 := RK_14.mp (vr_H.mp (hp _ lm0))
  have c1 := hc (6, 1, 1) lm0
  have c2 := hc (7, 0, big) lm1
  have c3 := hc (5, 59, 59) lm2
  dsimp only at c1 c2 c3
  refine vr_H.mpr (RK_z (i := 3) (by decide) (by omega) ?_)
  show rEnd (dc (x 0)) 59 (x 7).toNat = _
  rw [FK_4k] at p1
  unfold rEnd
  rw [if_neg (fun e => p1 (by omega))]
  unfold flt
  rw [Int.toNat_of_nonneg c2.1]
  omega
/-- a number of too many digits -/
def rQ5 (i : Nat) : eRu := (vr (2160 + i) 0 7 6 7, [vr 4 0 7 8 5, vr 5 0 7 9 2, vr 34 2 7 10 15], [(5, 2, 2), (15, 5, big), (6, 2, 2), (7, 0, big)], [], [])
theorem nlo_0 : ∀ i, i < 10 → 0 ≤ nlo i := by decide
theorem rQ5_ok {i : Nat} (hi : i < 10) : ruH (rQ5 i) := fun x hp hc _ _ => by
  have p1 := RK_4 (vr_H.mp (hp _ lm0))
  have p2 := RK_5 (vr_H.mp (hp _ lm1))
  have p3 := RK_34 (vr_H.mp (hp _ lm2))
  have c1 := hc (5, 2, 2) lm0
  have c2 := hc (15, 5, big) lm1
  have c3 := hc (6, 2, 2) lm2
  have c4 := hc (7, 0, big) lm3
  dsimp only at c1 c2 c3 c4
  have hz := nlo_0 i hi
  have hm : nm (dc (x 0)) (x 7).toNat = -1 := (nm_of (v := -1) c4.1 p2 (by rw [if_neg (by omega)])).symm
  refine vr_H.mpr (RK_q hi (by omega) ?_)
  unfold rNum
  rw [if_neg (by omega), if_pos (Or.inl (by rw [hm]; omega))]
  unfold flt
  rw [Int.toNat_of_nonneg c4.1]
  omega
/-- the first digit -/
def mu1z : eRu := ((1003, [(0, 0), (1, 0), (2, 1), (25, -48)]), [vr 1003 0 1 2 6, vr 1001 0 8 9 3, vr 1000 0 2 10 4, vr 31 4 11 12 5, vr 1000 0 2 21 22, vr 31 22 23 24 25], [(1, 0, big), (2, 0, big), (5, 48, 57), (6, 0, 0)], [], [(2, 3, 1), (1, 2, 0)])
theorem mu1z_ok : ruH mu1z := fun x hp hc _ hl => by
  have c0 := hc (1, 0, big) lm0
  have c1 := hc (2, 0, big) lm1
  have c2 := hc (5, 48, 57) lm2
  have c3 := hc (6, 0, 0) lm3
  have l1 := hl (2, 3, 1) lm0
  have l2 := hl (1, 2, 0) lm1
  dsimp only at c0 c1 c2 c3 l1 l2
  refine go34 ?_
  show x 2 + 1 - x 1 ≤ 4 → x 25 + -48 = nvN (dc (x 0)) (x 2 + 1 - x 1).toNat (x 1).toNat ∧ 0 ≤ x 25 + -48 ∧ x 25 + -48 < 10 ^ (x 2 + 1 - x 1).toNat
  intro h4
  have k32 : RK 32 (x 6) 0 0 (10 * x 6) := rfl
  have k33 : RK 33 (10 * x 6) (x 25) 0 (10 * x 6 + x 25) := rfl
  obtain ⟨z1, z2, z3, -⟩ := mu_of (vr_H.mp (hp _ lm0)) (vr_H.mp (hp _ lm1)) (vr_H.mp (hp _ lm2)) (RK_31 (vr_H.mp (hp _ lm3))) (vr_H.mp (hp _ lm4)) (RK_31 (vr_H.mp (hp _ lm5))) (RK_32 k32) (RK_33 k33) c0.1 c1.1 c2.1 c2.2 l1 (by omega) h4
  have e : 10 * x 6 + x 25 = x 25 := by omega
  rw [e] at z1 z2 z3
  exact ⟨z1, z2, z3⟩
def tkK : eRu := (vr 36 0 1 20 6, [vr 4 0 1 8 6], [(6, 0, 2)], [], [])
theorem tkK_ok : ruH tkK := fun x hp hc _ _ => by
  have p1 : x 6 = kd (dc (x 0)) (x 1).toNat := RK_4 (vr_H.mp (hp _ lm0))
  have c1 := hc (6, 0, 2) lm0
  dsimp only at c1
  refine vr_H.mpr ((RK_f (by decide)).mpr ?_)
  show x 6 = tk (dc (x 0)) (x 1).toNat
  unfold tk
  rw [← p1, if_neg (by omega), if_pos (by omega)]
def wd0k (i : Nat) : eRu := (vr (10 + i) 0 1 20 5, [vr 36 0 1 8 6], [(5, 0, 0)], [(6, [1])], [])
theorem wd0k_ok {i : Nat} (hi : i < 14) : ruH (wd0k i) := fun x hp hc hn _ => by
  have p0 : x 6 = tk (dc (x 0)) (x 1).toNat := RK_36 (vr_H.mp (hp _ lm0))
  have c1 := hc (5, 0, 0) lm0
  have n1 := hn (6, [1]) lm0
  dsimp only at c1 n1
  refine vr_w hi ?_
  have : isWd (dc (x 0)) (wdO i) (x 1).toNat = false := by
    unfold isWd
    rw [decide_eq_false (fun e => n1 (List.mem_singleton.mpr (p0.trans (by unfold tk; rw [e]; rfl)))), Bool.false_and]
  rw [this]
  show x 5 = 0
  omega
/-- told at once: a number of at most four digits -/
def mr1f : eRu := (vr 6 0 1 9 7, [vr 1003 0 1 2 7, vr 5 0 1 8 2, vr 34 2 1 9 15], [(1, 0, big), (15, 0, 4)], [], [])
theorem mr1f_ok : ruH mr1f := fun x hp hc hn hl => by
  have h := (RK_f (k := 6) (by decide)).mp (vr_H.mp (mr1_ok x hp hc hn hl))
  exact vr_H.mpr ((RK_f (k := 6) (by decide)).mpr h)
/-! nots, then one sum or two: told without the test between them -/
def mvN : List (Nat × Nat) → Nat → Nat
  | [], i => i
  | p :: t, i => bif Nat.beq i p.1 then p.2 else mvN t i
def nt1 (m j : Nat) : eRu := (vr (60 + m) 0 1 8 2, [vr (3050 + 10 * j + m) 0 1 3 9, vr 15 0 3 10 4, vr (80 + m) 0 3 11 2, vr 1014 0 2 12 13, vr 1014 0 2 14 15], [(4, 0, 0), (2, 0, big), (12, 60, 60), (14, 61, 61)], [], [])
def nt1k (m j : Nat) : eRu := (vr (60 + m) 0 1 8 2, [vr (3050 + 10 * j + m) 0 1 3 9, vr 15 0 3 10 4, vr (80 + m) 0 3 11 2, vr 4 0 2 12 13, vr 4 0 2 14 15], [(4, 0, 0), (2, 0, big)], [(13, [60]), (15, [61])], [])
def nt2 (m j : Nat) (v : Int) : eRu := (vr (60 + m) 0 1 8 2, [vr (3050 + 10 * j + m) 0 1 3 9, vr 15 0 3 10 4, vr (80 + m) 0 3 11 16, vr 4 0 16 12 13, vr 8 0 16 14 17, vr (80 + m) 0 17 18 2], [(4, 0, 0), (16, 0, big), (13, v, v)], [], [])
def nt3 (m j : Nat) : eRu := (vr (2060 + m) 0 1 6 7, [vr (3050 + 10 * j + m) 0 1 3 9, vr 15 0 3 10 4, vr (2080 + m) 0 3 6 7], [(4, 0, 0), (6, 1, big), (7, 0, big)], [], [])
def nt4 (m j : Nat) (v : Int) : eRu := (vr (2060 + m) 0 1 6 7, [vr (3050 + 10 * j + m) 0 1 3 9, vr 15 0 3 10 4, vr (80 + m) 0 3 11 16, vr 4 0 16 12 13, vr 8 0 16 14 17, vr (2080 + m) 0 17 6 7], [(4, 0, 0), (16, 0, big), (13, v, v), (6, 1, big)], [], [])
theorem nt1_ok {m j : Nat} (hm : m < 10) (hj : j < 7) : ruH (nt1 m j) := fun x hp hc hn hl => by
  have q := vr_H.mp (rT1n_ok hm (fun i => x (mvN [(1, 3), (8, 11), (9, 11), (4, 12), (10, 13), (5, 14), (11, 15)] i)) (List.forall_mem_cons.mpr ⟨vr_H.mpr (vr_H.mp (hp _ lm2)), (List.forall_mem_cons.mpr ⟨vr_H.mpr (vr_H.mp (hp _ lm3)), (List.forall_mem_cons.mpr ⟨vr_H.mpr (vr_H.mp (hp _ lm4)), (fun _ h => absurd h List.not_mem_nil)⟩)⟩)⟩) (List.forall_mem_cons.mpr ⟨hc _ lm1, (List.forall_mem_cons.mpr ⟨hc _ lm2, (List.forall_mem_cons.mpr ⟨hc _ lm3, (fun _ h => absurd h List.not_mem_nil)⟩)⟩)⟩) (fun _ h => absurd h List.not_mem_nil) (fun _ h => absurd h List.not_mem_nil))
  exact rN3_ok hm hj x (List.forall_mem_cons.mpr ⟨hp _ lm0, (List.forall_mem_cons.mpr ⟨hp _ lm1, (List.forall_mem_cons.mpr ⟨vr_H.mpr q, (fun _ h => absurd h List.not_mem_nil)⟩)⟩)⟩) (List.forall_mem_cons.mpr ⟨hc _ lm0, (fun _ h => absurd h List.not_mem_nil)⟩) (fun _ h => absurd h List.not_mem_nil) (fun _ h => absurd h List.not_mem_nil)
theorem nt1k_ok {m j : Nat} (hm : m < 10) (hj : j < 7) : ruH (nt1k m j) := fun x hp hc hn hl => by
  have q := vr_H.mp (rT1_ok hm (fun i => x (mvN [(1, 3), (8, 11), (9, 11), (10, 12), (4, 13), (11, 14), (5, 15)] i)) (List.forall_mem_cons.mpr ⟨vr_H.mpr (vr_H.mp (hp _ lm2)), (List.forall_mem_cons.mpr ⟨vr_H.mpr (vr_H.mp (hp _ lm3)), (List.forall_mem_cons.mpr ⟨vr_H.mpr (vr_H.mp (hp _ lm4)), (fun _ h => absurd h List.not_mem_nil)⟩)⟩)⟩) (List.forall_mem_cons.mpr ⟨hc _ lm1, (fun _ h => absurd h List.not_mem_nil)⟩) (List.forall_mem_cons.mpr ⟨hn _ lm0, (List.forall_mem_cons.mpr ⟨hn _ lm1, (fun _ h => absurd h List.not_mem_nil)⟩)⟩) (fun _ h => absurd h List.not_mem_nil))
  exact rN3_ok hm hj x (List.forall_mem_cons.mpr ⟨hp _ lm0, (List.forall_mem_cons.mpr ⟨hp _ lm1, (List.forall_mem_cons.mpr ⟨vr_H.mpr q, (fun _ h => absurd h List.not_mem_nil)⟩)⟩)⟩) (List.forall_mem_cons.mpr ⟨hc _ lm0, (fun _ h => absurd h List.not_mem_nil)⟩) (fun _ h => absurd h List.not_mem_nil) (fun _ h => absurd h List.not_mem_nil)
theorem nt2_ok {m j : Nat} (hm : m < 10) (hj : j < 7) {v : Int} (hv : v = 60 ∨ v = 61) : ruH (nt2 m j v) := fun x hp hc hn hl => by
  have q := vr_H.mp (rT2_ok hm hv (fun i => x (mvN [(1, 3), (8, 11), (9, 11), (3, 16), (10, 12), (4, 13), (11, 14), (5, 17), (12, 18)] i)) (List.forall_mem_cons.mpr ⟨vr_H.mpr (vr_H.mp (hp _ lm2)), (List.forall_mem_cons.mpr ⟨vr_H.mpr (vr_H.mp (hp _ lm3)), (List.forall_mem_cons.mpr ⟨vr_H.mpr (vr_H.mp (hp _ lm4)), (List.forall_mem_cons.mpr ⟨vr_H.mpr (vr_H.mp (hp _ lm5)), (fun _ h => absurd h List.not_mem_nil)⟩)⟩)⟩)⟩) (List.forall_mem_cons.mpr ⟨hc _ lm1, (List.forall_mem_cons.mpr ⟨hc _ lm2, (fun _ h => absurd h List.not_mem_nil)⟩)⟩) (fun _ h => absurd h List.not_mem_nil) (fun _ h => absurd h List.not_mem_nil))
  exact rN3_ok hm hj x (List.forall_mem_cons.mpr ⟨hp _ lm0, (List.forall_mem_cons.mpr ⟨hp _ lm1, (List.forall_mem_cons.mpr ⟨vr_H.mpr q, (fun _ h => absurd h List.not_mem_nil)⟩)⟩)⟩) (List.forall_mem_cons.mpr ⟨hc _ lm0, (fun _ h => absurd h List.not_mem_nil)⟩) (fun _ h => absurd h List.not_mem_nil) (fun _ h => absurd h List.not_mem_nil)
theorem nt3_ok {m j : Nat} (hm : m < 10) (hj : j < 7) : ruH (nt3 m j) := fun x hp hc hn hl => by
  have q := vr_H.mp (rT3_ok hm (fun i => x (mvN [(1, 3)] i)) (List.forall_mem_cons.mpr ⟨vr_H.mpr (vr_H.mp (hp _ lm2)), (fun _ h => absurd h List.not_mem_nil)⟩) (List.forall_mem_cons.mpr ⟨hc _ lm1, (List.forall_mem_cons.mpr ⟨hc _ lm2, (fun _ h => absurd h List.not_mem_nil)⟩)⟩) (fun _ h => absurd h List.not_mem_nil) (fun _ h => absurd h List.not_mem_nil))
  exact rN4_ok hm hj x (List.forall_mem_cons.mpr ⟨hp _ lm0, (List.forall_mem_cons.mpr ⟨hp _ lm1, (List.forall_mem_cons.mpr ⟨vr_H.mpr q, (fun _ h => absurd h List.not_mem_nil)⟩)⟩)⟩) (List.forall_mem_cons.mpr ⟨hc _ lm0, (List.forall_mem_cons.mpr ⟨hc _ lm1, (fun _ h => absurd h List.not_mem_nil)⟩)⟩) (fun _ h => absurd h List.not_mem_nil) (fun _ h => absurd h List.not_mem_nil)
theorem nt4_ok {m j : Nat} (hm : m < 10) (hj : j < 7) {v : Int} (hv : v = 60 ∨ v = 61) : ruH (nt4 m j v) := fun x hp hc hn hl => by
  have q := vr_H.mp (rT4_ok hm hv (fun i => x (mvN [(1, 3), (9, 11), (3, 16), (10, 12), (4, 13), (11, 14), (5, 17)] i)) (List.forall_mem_cons.mpr ⟨vr_H.mpr (vr_H.mp (hp _ lm2)), (List.forall_mem_cons.mpr ⟨vr_H.mpr (vr_H.mp (hp _ lm3)), (List.forall_mem_cons.mpr ⟨vr_H.mpr (vr_H.mp (hp _ lm4)), (List.forall_mem_cons.mpr ⟨vr_H.mpr (vr_H.mp (hp _ lm5)), (fun _ h => absurd h List.not_mem_nil)⟩)⟩)⟩)⟩) (List.forall_mem_cons.mpr ⟨hc _ lm1, (List.forall_mem_cons.mpr ⟨hc _ lm2, (List.forall_mem_cons.mpr ⟨hc _ lm3, (fun _ h => absurd h List.not_mem_nil)⟩)⟩)⟩) (fun _ h => absurd h List.not_mem_nil) (fun _ h => absurd h List.not_mem_nil))
  exact rN4_ok hm hj x (List.forall_mem_cons.mpr ⟨hp _ lm0, (List.forall_mem_cons.mpr ⟨hp _ lm1, (List.forall_mem_cons.mpr ⟨vr_H.mpr q, (fun _ h => absurd h List.not_mem_nil)⟩)⟩)⟩) (List.forall_mem_cons.mpr ⟨hc _ lm0, (List.forall_mem_cons.mpr ⟨hc _ lm3, (fun _ h => absurd h List.not_mem_nil)⟩)⟩) (fun _ h => absurd h List.not_mem_nil) (fun _ h => absurd h List.not_mem_nil)
def ntR (m : Nat) : List eRu := (List.range 7).map (nt1 m) ++ ((List.range 7).map (nt1k m) ++ ((List.range 7).map (fun j => nt2 m j 60) ++ ((List.range 7).map (fun j => nt2 m j 61) ++ ((List.range 7).map (nt3 m) ++ ((List.range 7).map (fun j => nt4 m j 60) ++ (List.range 7).map (fun j => nt4 m j 61))))))
theorem ntR_ok {m : Nat} (hm : m < 10) : ∀ r ∈ ntR m, ruH r := all_app (all_map fun _ h => nt1_ok hm (List.mem_range.mp h)) (all_app (all_map fun _ h => nt1k_ok hm (List.mem_range.mp h)) (all_app (all_map fun _ h => nt2_ok hm (List.mem_range.mp h) (Or.inl rfl)) (all_app (all_map fun _ h => nt2_ok hm (List.mem_range.mp h) (Or.inr rfl)) (all_app (all_map fun _ h => nt3_ok hm (List.mem_range.mp h)) (all_app (all_map fun _ h => nt4_ok hm (List.mem_range.mp h) (Or.inl rfl)) (all_map fun _ h => nt4_ok hm (List.mem_range.mp h) (Or.inr rfl)))))))
def exM (m : Nat) : List eRu := ntR m ++ [ch3n (90 + m) m 42 47, ch3n (80 + m) (10 + m) 43 45, rT1n m, rP8n m, rO1n m, rO1n (m + 1), rP3n m]
theorem exM_ok {m : Nat} (hm : m < 9) : ∀ r ∈ exM m, ruH r := fun r hr => by
  have hm' : m < 10 := by omega
  have k3 : ∀ a b : Int, FK 4 a b 0 ≠ 42 → FK 4 a b 0 ≠ 47 → spM (dc a) b.toNat = false := fun a b h h2 => by
    rw [FK_4k] at h h2
    unfold spM
    rw [decide_eq_false h, decide_eq_false h2]
    rfl
  have k6 : ∀ a b : Int, FK 4 a b 0 ≠ 43 → FK 4 a b 0 ≠ 45 → spAd (dc a) b.toNat = false := fun a b h h2 => by
    rw [FK_4k] at h h2
    unfold spAd
    rw [decide_eq_false h, decide_eq_false h2]
    rfl
  unfold exM at hr
  rcases List.mem_append.mp hr with hr | hr
  · exact ntR_ok hm' r hr
  simp only [List.mem_cons, List.not_mem_nil, or_false] at hr
  rcases hr with rfl | rfl | rfl | rfl | rfl | rfl | rfl
  · exact ch3n_ok (CH_prod hm') k3
  · exact ch3n_ok (CH_sum hm') k6
  · exact rT1n_ok hm'
  · exact rP8n_ok hm'
  · exact rO1n_ok hm'
  · exact rO1n_ok (by omega)
  · exact rP3n_ok hm'
def mdA : List eRu := [rZ2n, mu1z, tkK]
def mdRules : List eRu := mdA ++ (mkL.map ne1 ++ (mkL.map ne2 ++ (List.range 7).map rQ5))
theorem mdRules_ok : ∀ r ∈ mdRules, ruH r := all_app (fun r hr => by
  simp only [mdA, List.mem_cons, List.not_mem_nil, or_false] at hr
  rcases hr with rfl | rfl | rfl
  · exact rZ2n_ok
  · exact mu1z_ok
  · exact tkK_ok) (all_app (all_map fun v _ => ne1_ok v) (all_app (all_map fun _ h => ne2_ok h) (all_map fun i h => rQ5_ok (by have := List.mem_range.mp h; omega))))
