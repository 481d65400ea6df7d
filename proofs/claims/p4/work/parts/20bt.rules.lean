/-! ===== THE RULES OF THE GRAMMAR ===== -/
/-- one behind another as long as a sign parts them -/
def CH (kW kF kR e : Nat) (sep : List Int → Nat → Bool) : Prop := (kW < 1000 ∧ kF < 1000 ∧ e < 1000 ∧ eqT e = ((kW, 0), (kR, 0))) ∧ (∀ a b c : Int, FK kW a b c = FK kW a b 0 ∧ FK kF a b c = FK kF a b 0) ∧ ∀ a b : Int, FK kW a b 0 = thn (FK kF a b 0) (fun q => FK kR a q 0) ∧ FK kR a b 0 = if sep (dc a) b.toNat then thn (FK kF a (nx (dc a) b.toNat : Nat) 0) (fun q => FK kR a q 0) else (b.toNat : Int)
theorem thn_ge {r : Int} {f : Nat → Int} (h : 0 ≤ r) : thn r f = f r.toNat := if_neg (by omega)
theorem thn_lt {r : Int} {f : Nat → Int} (h : r < 0) : thn r f = r := if_pos h
/-- its first is behind us -/
def ch1 (kF e : Nat) : eRu := (vr (3000 + e) 0 1 2 8, [vr kF 0 1 9 2], [(2, 0, big)], [], [])
/-- a sign and one more -/
def ch2 (kF e kS : Nat) (v : Int) : eRu := (vr (3000 + e) 0 1 2 8, [vr (3000 + e) 0 1 3 9, vr kS 0 3 10 4, vr 8 0 3 11 5, vr kF 0 5 12 2], [(4, v, v), (2, 0, big), (3, 0, big)], [], [])
/-- no sign: the end -/
def ch3 (kW e kS : Nat) (v w : Int) : eRu := (vr kW 0 1 8 2, [vr (3000 + e) 0 1 2 9, vr kS 0 2 10 4, vr kS 0 2 11 5], [(2, 0, big)], [(4, [v]), (5, [w])], [])
/-- a fault behind a sign -/
def ch4 (kW kF e kS : Nat) (v : Int) : eRu := (vr (2000 + kW) 0 1 6 7, [vr (3000 + e) 0 1 3 9, vr kS 0 3 10 4, vr 8 0 3 11 5, vr (2000 + kF) 0 5 6 7], [(4, v, v), (3, 0, big), (6, 1, big), (7, 0, big)], [], [])
/-- a fault of the first -/
def ch5 (kW kF : Nat) : eRu := (vr (2000 + kW) 0 1 6 7, [vr (2000 + kF) 0 1 6 7], [(6, 1, big), (7, 0, big)], [], [])
section CHS
variable {kW kF kR e kS : Nat} {sep : List Int → Nat → Bool}
theorem ch1_ok (H : CH kW kF kR e sep) : ruH (ch1 kF e) := fun x hp hc _ _ => by
  obtain ⟨⟨h1, h2, h3, h4⟩, hI, hE⟩ := H
  have p1 := (RK_f h2).mp (vr_H.mp (hp _ List.mem_cons_self))
  have c1 := hc (2, 0, big) List.mem_cons_self
  refine vr_H.mpr ((RK_e h3).mpr ?_)
  rw [h4]
  dsimp only at c1 ⊢
  rw [(hI _ _ _).2] at p1
  rw [(hE _ _).1, ← p1, thn_ge c1.1, Int.toNat_of_nonneg c1.1]
theorem ch2_ok (H : CH kW kF kR e sep) (hk : kS < 1000) {v : Int} (hs : ∀ a b : Int, FK kS a b 0 = v → sep (dc a) b.toNat = true) (hsI : ∀ a b c : Int, FK kS a b c = FK kS a b 0) : ruH (ch2 kF e kS v) := fun x hp hc _ _ => by
  obtain ⟨⟨h1, h2, h3, h4⟩, hI, hE⟩ := H
  have p1 := (RK_e h3).mp (vr_H.mp (hp _ List.mem_cons_self))
  have p2 := (RK_f hk).mp (vr_H.mp (hp _ (List.mem_cons_of_mem _ List.mem_cons_self)))
  have p3 := (RK_f (k := 8) (by decide)).mp (vr_H.mp (hp _ (List.mem_cons_of_mem _ (List.mem_cons_of_mem _ List.mem_cons_self))))
  have p4 := (RK_f h2).mp (vr_H.mp (hp _ (List.mem_cons_of_mem _ (List.mem_cons_of_mem _ (List.mem_cons_of_mem _ List.mem_cons_self)))))
  have c1 := hc (4, v, v) List.mem_cons_self
  have c2 := hc (2, 0, big) (List.mem_cons_of_mem _ List.mem_cons_self)
  refine vr_H.mpr ((RK_e h3).mpr ?_)
  rw [h4] at p1 ⊢
  dsimp only at c1 c2 p1 ⊢
  rw [hsI] at p2
  rw [(hI _ _ _).2] at p4
  have hsep := hs (x 0) (x 3) (by omega)
  rw [p1, (hE _ _).2, hsep, if_pos rfl]
  rw [FK_8k] at p3
  rw [← p3, ← p4, thn_ge c2.1, Int.toNat_of_nonneg c2.1]
theorem ch3_ok (H : CH kW kF kR e sep) (hk : kS < 1000) {v w : Int} (hs : ∀ a b : Int, FK kS a b 0 ≠ v → FK kS a b 0 ≠ w → sep (dc a) b.toNat = false) (hsI : ∀ a b c : Int, FK kS a b c = FK kS a b 0) : ruH (ch3 kW e kS v w) := fun x hp hc hn _ => by
  obtain ⟨⟨h1, h2, h3, h4⟩, hI, hE⟩ := H
  have p1 := (RK_e h3).mp (vr_H.mp (hp _ lm0))
  have p2 := (RK_f hk).mp (vr_H.mp (hp _ lm1))
  have p3 := (RK_f hk).mp (vr_H.mp (hp _ lm2))
  have c2 := hc (2, 0, big) lm0
  have n1 := hn (4, [v]) lm0
  have n2 := hn (5, [w]) lm1
  refine vr_H.mpr ((RK_f h1).mpr ?_)
  rw [h4] at p1
  dsimp only at c2 p1 n1 n2
  rw [hsI] at p2 p3
  rw [p2] at n1
  rw [p3] at n2
  rw [(hI _ _ _).1, p1, (hE _ _).2, hs _ _ (fun e => n1 (List.mem_singleton.mpr e)) (fun e => n2 (List.mem_singleton.mpr e))]
  exact (Int.toNat_of_nonneg c2.1).symm
theorem ch4_ok (H : CH kW kF kR e sep) (hk : kS < 1000) {v : Int} (hs : ∀ a b : Int, FK kS a b 0 = v → sep (dc a) b.toNat = true) (hsI : ∀ a b c : Int, FK kS a b c = FK kS a b 0) : ruH (ch4 kW kF e kS v) := fun x hp hc _ _ => by
  obtain ⟨⟨h1, h2, h3, h4⟩, hI, hE⟩ := H
  have p1 := (RK_e h3).mp (vr_H.mp (hp _ List.mem_cons_self))
  have p2 := (RK_f hk).mp (vr_H.mp (hp _ (List.mem_cons_of_mem _ List.mem_cons_self)))
  have p3 := (RK_f (k := 8) (by decide)).mp (vr_H.mp (hp _ (List.mem_cons_of_mem _ (List.mem_cons_of_mem _ List.mem_cons_self))))
  have p4 := RK_tm h2 (vr_H.mp (hp _ (List.mem_cons_of_mem _ (List.mem_cons_of_mem _ (List.mem_cons_of_mem _ List.mem_cons_self)))))
  have c1 := hc (4, v, v) List.mem_cons_self
  have c3 := hc (6, 1, big) (List.mem_cons_of_mem _ (List.mem_cons_of_mem _ List.mem_cons_self))
  have c4 := hc (7, 0, big) (List.mem_cons_of_mem _ (List.mem_cons_of_mem _ (List.mem_cons_of_mem _ List.mem_cons_self)))
  rw [h4] at p1
  dsimp only at c1 c3 c4 p1
  have p4 := p4 (by omega)
  refine vr_H.mpr (RK_ti h1 (by omega) ?_)
  rw [hsI] at p2
  have hsep := hs (x 0) (x 3) (by omega)
  rw [FK_8k] at p3
  rw [p1, (hE _ _).2, hsep, if_pos rfl, ← p3, p4, thn_lt (by omega)]
theorem ch5_ok (H : CH kW kF kR e sep) : ruH (ch5 kW kF) := fun x hp hc _ _ => by
  obtain ⟨⟨h1, h2, h3, h4⟩, hI, hE⟩ := H
  have p1 := RK_tm h2 (vr_H.mp (hp _ List.mem_cons_self))
  have c3 := hc (6, 1, big) List.mem_cons_self
  have c4 := hc (7, 0, big) (List.mem_cons_of_mem _ List.mem_cons_self)
  dsimp only at c3 c4
  have p1 := p1 (by omega)
  refine vr_H.mpr (RK_ti h1 (by omega) ?_)
  rw [(hE _ _).1, p1, thn_lt (by omega)]
end CHS
theorem CH_prod {m : Nat} (hm : m < 10) : CH (90 + m) (100 + m) (110 + m) m spM := by
  refine ⟨⟨by omega, by omega, by omega, ?_⟩, fun a b c => ⟨by rw [FK_9 hm, FK_9 hm], by rw [FK_10 hm, FK_10 hm]⟩, fun a b => ⟨?_, ?_⟩⟩
  · unfold eqT
    rw [show m / 10 = 0 by omega, show m % 10 = m by omega]
  · rw [FK_9 hm, FK_10 hm]
    unfold rProd
    congr 1
    funext q
    rw [FK_11 hm, Int.toNat_natCast]
  · rw [FK_11 hm, rst_at (fun p h => spM_kd h) (rPart_mv (rOr_mv _ m))]
    congr 1
    rw [FK_10 hm, Int.toNat_natCast]
    congr 1
    funext q
    rw [FK_11 hm, Int.toNat_natCast]
theorem CH_sum {m : Nat} (hm : m < 10) : CH (80 + m) (90 + m) (120 + m) (10 + m) spAd := by
  refine ⟨⟨by omega, by omega, by omega, ?_⟩, fun a b c => ⟨by rw [FK_8 hm, FK_8 hm], by rw [FK_9 hm, FK_9 hm]⟩, fun a b => ⟨?_, ?_⟩⟩
  · unfold eqT
    rw [show (10 + m) / 10 = 1 by omega, show (10 + m) % 10 = m by omega]
  · rw [FK_8 hm, FK_9 hm]
    unfold rSum
    congr 1
    funext q
    rw [FK_12 hm, Int.toNat_natCast]
  · rw [FK_12 hm, rst_at (fun p h => spAd_kd h) (rProd_mv (rOr_mv _ m))]
    congr 1
    rw [FK_9 hm, Int.toNat_natCast]
    congr 1
    funext q
    rw [FK_12 hm, Int.toNat_natCast]
theorem CH_and {m : Nat} (hm : m < 10) : CH (50 + m) (60 + m) (130 + m) (20 + m) (fun L => isWd L wAnd) := by
  refine ⟨⟨by omega, by omega, by omega, ?_⟩, fun a b c => ⟨by rw [FK_5 hm, FK_5 hm], by rw [FK_6 hm, FK_6 hm]⟩, fun a b => ⟨?_, ?_⟩⟩
  · unfold eqT
    rw [show (20 + m) / 10 = 2 by omega, show (20 + m) % 10 = m by omega]
  · rw [FK_5 hm, FK_6 hm]
    unfold rAnd
    congr 1
    funext q
    rw [FK_13 hm, Int.toNat_natCast]
  · rw [FK_13 hm, rst_at (fun p h => wd_kd h) (rNotN_mv (rOr_mv _ m) 6)]
    congr 1
    rw [FK_6 hm, Int.toNat_natCast]
    congr 1
    funext q
    rw [FK_13 hm, Int.toNat_natCast]
theorem CH_or {m : Nat} (hm : m < 9) : CH (41 + m) (50 + m) (140 + m) (30 + m) (fun L => isWd L wOr) := by
  refine ⟨⟨by omega, by omega, by omega, ?_⟩, fun a b c => ⟨by rw [show 41 + m = 40 + (m + 1) by omega, FK_4 (by omega), FK_4 (by omega)], by rw [FK_5 (by omega), FK_5 (by omega)]⟩, fun a b => ⟨?_, ?_⟩⟩
  · unfold eqT
    rw [show (30 + m) / 10 = 3 by omega, show (30 + m) % 10 = m by omega]
  · rw [show 41 + m = 40 + (m + 1) by omega, FK_4 (by omega), FK_5 (by omega)]
    show thn (rAnd (dc a) (rOr (dc a) m) b.toNat) (rst (dc a) (isWd (dc a) wOr) (rAnd (dc a) (rOr (dc a) m))) = _
    congr 1
    funext q
    rw [FK_14 (by omega), Int.toNat_natCast]
  · rw [FK_14 (by omega), rst_at (fun p h => wd_kd h) (rAnd_mv (rOr_mv _ m))]
    congr 1
    rw [FK_5 (by omega), Int.toNat_natCast]
    congr 1
    funext q
    rw [FK_14 (by omega), Int.toNat_natCast]
/-- the chains of a level -/
def chRules (m : Nat) : List eRu := [ch1 (100 + m) m, ch2 (100 + m) m 4 42, ch2 (100 + m) m 4 47, ch3 (90 + m) m 4 42 47, ch4 (90 + m) (100 + m) m 4 42, ch4 (90 + m) (100 + m) m 4 47, ch5 (90 + m) (100 + m),
  ch1 (90 + m) (10 + m), ch2 (90 + m) (10 + m) 4 43, ch2 (90 + m) (10 + m) 4 45, ch3 (80 + m) (10 + m) 4 43 45, ch4 (80 + m) (90 + m) (10 + m) 4 43, ch4 (80 + m) (90 + m) (10 + m) 4 45, ch5 (80 + m) (90 + m),
  ch1 (60 + m) (20 + m), ch2 (60 + m) (20 + m) 16 1, ch3 (50 + m) (20 + m) 16 1 1, ch4 (50 + m) (60 + m) (20 + m) 16 1, ch5 (50 + m) (60 + m),
  ch1 (50 + m) (30 + m), ch2 (50 + m) (30 + m) 17 1, ch3 (41 + m) (30 + m) 17 1 1, ch4 (41 + m) (50 + m) (30 + m) 17 1, ch5 (41 + m) (50 + m)]
theorem chRules_ok {m : Nat} (hm : m < 9) : ∀ r ∈ chRules m, ruH r := by
  have hm' : m < 10 := by omega
  have k1 : ∀ a b : Int, FK 4 a b 0 = 42 → spM (dc a) b.toNat = true := fun a b h => by rw [FK_4k] at h; unfold spM; rw [h]; rfl
  have k2 : ∀ a b : Int, FK 4 a b 0 = 47 → spM (dc a) b.toNat = true := fun a b h => by rw [FK_4k] at h; unfold spM; rw [h]; rfl
  have k3 : ∀ a b : Int, FK 4 a b 0 ≠ 42 → FK 4 a b 0 ≠ 47 → spM (dc a) b.toNat = false := fun a b h h2 => by
    rw [FK_4k] at h h2
    unfold spM
    rw [decide_eq_false h, decide_eq_false h2]
    rfl
  have k4 : ∀ a b : Int, FK 4 a b 0 = 43 → spAd (dc a) b.toNat = true := fun a b h => by rw [FK_4k] at h; unfold spAd; rw [h]; rfl
  have k5 : ∀ a b : Int, FK 4 a b 0 = 45 → spAd (dc a) b.toNat = true := fun a b h => by rw [FK_4k] at h; unfold spAd; rw [h]; rfl
  have k6 : ∀ a b : Int, FK 4 a b 0 ≠ 43 → FK 4 a b 0 ≠ 45 → spAd (dc a) b.toNat = false := fun a b h h2 => by
    rw [FK_4k] at h h2
    unfold spAd
    rw [decide_eq_false h, decide_eq_false h2]
    rfl
  have i4 : ∀ a b c : Int, FK 4 a b c = FK 4 a b 0 := fun _ _ _ => rfl
  have w1 : ∀ a b : Int, FK 16 a b 0 = 1 → isWd (dc a) wAnd b.toNat = true := fun a b h => bI_1 h
  have w2 : ∀ a b : Int, FK 16 a b 0 ≠ 1 → FK 16 a b 0 ≠ 1 → isWd (dc a) wAnd b.toNat = false := fun a b h _ => bI_m h
  have w3 : ∀ a b : Int, FK 17 a b 0 = 1 → isWd (dc a) wOr b.toNat = true := fun a b h => bI_1 h
  have w4 : ∀ a b : Int, FK 17 a b 0 ≠ 1 → FK 17 a b 0 ≠ 1 → isWd (dc a) wOr b.toNat = false := fun a b h _ => bI_m h
  have j1 : ∀ a b c : Int, FK 16 a b c = FK 16 a b 0 := fun _ _ _ => rfl
  have j2 : ∀ a b c : Int, FK 17 a b c = FK 17 a b 0 := fun _ _ _ => rfl
  intro r hr
  unfold chRules at hr
  simp only [List.mem_cons, List.not_mem_nil, or_false] at hr
  rcases hr with rfl | rfl | rfl | rfl | rfl | rfl | rfl | rfl | rfl | rfl | rfl | rfl | rfl | rfl | rfl | rfl | rfl | rfl | rfl | rfl | rfl | rfl | rfl | rfl
  · exact ch1_ok (CH_prod hm')
  · exact ch2_ok (CH_prod hm') (by decide) k1 i4
  · exact ch2_ok (CH_prod hm') (by decide) k2 i4
  · exact ch3_ok (CH_prod hm') (by decide) k3 i4
  · exact ch4_ok (CH_prod hm') (by decide) k1 i4
  · exact ch4_ok (CH_prod hm') (by decide) k2 i4
  · exact ch5_ok (CH_prod hm')
  · exact ch1_ok (CH_sum hm')
  · exact ch2_ok (CH_sum hm') (by decide) k4 i4
  · exact ch2_ok (CH_sum hm') (by decide) k5 i4
  · exact ch3_ok (CH_sum hm') (by decide) k6 i4
  · exact ch4_ok (CH_sum hm') (by decide) k4 i4
  · exact ch4_ok (CH_sum hm') (by decide) k5 i4
  · exact ch5_ok (CH_sum hm')
  · exact ch1_ok (CH_and hm')
  · exact ch2_ok (CH_and hm') (by decide) w1 j1
  · exact ch3_ok (CH_and hm') (by decide) w2 j1
  · exact ch4_ok (CH_and hm') (by decide) w1 j1
  · exact ch5_ok (CH_and hm')
  · exact ch1_ok (CH_or hm)
  · exact ch2_ok (CH_or hm) (by decide) w3 j2
  · exact ch3_ok (CH_or hm) (by decide) w4 j2
  · exact ch4_ok (CH_or hm) (by decide) w3 j2
  · exact ch5_ok (CH_or hm)
/-! tests, nots, parts -/
def vr2 (k a b c d : Nat) : eRl := vr k a b c d
/-- a SUM alone -/
def rT1 (m : Nat) : eRu := (vr (70 + m) 0 1 8 2, [vr (80 + m) 0 1 9 2, vr 4 0 2 10 4, vr 4 0 2 11 5], [(2, 0, big)], [(4, [60]), (5, [61])], [])
/-- two of them -/
def rT2 (m : Nat) (v : Int) : eRu := (vr (70 + m) 0 1 8 2, [vr (80 + m) 0 1 9 3, vr 4 0 3 10 4, vr 8 0 3 11 5, vr (80 + m) 0 5 12 2], [(3, 0, big), (4, v, v)], [], [])
def rT3 (m : Nat) : eRu := (vr (2070 + m) 0 1 6 7, [vr (2080 + m) 0 1 6 7], [(6, 1, big), (7, 0, big)], [], [])
def rT4 (m : Nat) (v : Int) : eRu := (vr (2070 + m) 0 1 6 7, [vr (80 + m) 0 1 9 3, vr 4 0 3 10 4, vr 8 0 3 11 5, vr (2080 + m) 0 5 6 7], [(3, 0, big), (4, v, v), (6, 1, big)], [], [])
section TS
variable {m : Nat}
theorem spC_1 {L : List Int} {q : Nat} {v : Int} (hv : v = 60 ∨ v = 61) (h : kd L q = v) : spC L q = true := by
  unfold spC
  rw [h]
  rcases hv with rfl | rfl <;> rfl
theorem rT1_ok (hm : m < 10) : ruH (rT1 m) := fun x hp hc hn _ => by
  have p1 := (RK_f (by omega)).mp (vr_H.mp (hp _ lm0))
  have p2 := (RK_f (by decide)).mp (vr_H.mp (hp _ lm1))
  have p3 := (RK_f (by decide)).mp (vr_H.mp (hp _ lm2))
  have c1 := hc (2, 0, big) lm0
  have n1 := hn (4, [60]) lm0
  have n2 := hn (5, [61]) lm1
  refine vr_H.mpr ((RK_f (by omega)).mpr ?_)
  dsimp only at c1 n1 n2
  rw [FK_8 hm] at p1
  rw [FK_4k] at p2 p3
  rw [FK_7 hm]
  unfold rTest
  rw [← p1, thn_ge c1.1]
  have hs : spC (dc (x 0)) (x 2).toNat = false := by
    unfold spC
    rw [decide_eq_false (fun e => n1 (List.mem_singleton.mpr (p2.trans e))), decide_eq_false (fun e => n2 (List.mem_singleton.mpr (p3.trans e)))]
    rfl
  rw [hs, if_neg (by decide)]
  exact (Int.toNat_of_nonneg c1.1).symm
theorem rT2_ok (hm : m < 10) {v : Int} (hv : v = 60 ∨ v = 61) : ruH (rT2 m v) := fun x hp hc _ _ => by
  have p1 := (RK_f (by omega)).mp (vr_H.mp (hp _ lm0))
  have p2 := (RK_f (by decide)).mp (vr_H.mp (hp _ lm1))
  have p3 := (RK_f (by decide)).mp (vr_H.mp (hp _ lm2))
  have p4 := (RK_f (by omega)).mp (vr_H.mp (hp _ lm3))
  have c1 := hc (3, 0, big) lm0
  have c2 := hc (4, v, v) lm1
  refine vr_H.mpr ((RK_f (by omega)).mpr ?_)
  dsimp only at c1 c2
  rw [FK_8 hm] at p1 p4
  rw [FK_4k] at p2
  rw [FK_8k] at p3
  rw [FK_7 hm]
  unfold rTest
  rw [← p1, thn_ge c1.1, spC_1 hv (show kd (dc (x 0)) (x 3).toNat = v by omega), if_pos rfl, p4, p3, Int.toNat_natCast]
theorem rT3_ok (hm : m < 10) : ruH (rT3 m) := fun x hp hc _ _ => by
  have p1 := RK_tm (k := 80 + m) (by omega) (by have := vr_H.mp (hp _ lm0); rwa [show 2080 + m = 2000 + (80 + m) by omega] at this)
  have c1 := hc (6, 1, big) lm0
  have c2 := hc (7, 0, big) lm1
  dsimp only at c1 c2
  have p1 := p1 (by omega)
  refine vr_H.mpr ?_
  rw [show 2070 + m = 2000 + (70 + m) by omega]
  refine RK_ti (by omega) (by omega) ?_
  rw [FK_8 hm] at p1
  rw [FK_7 hm]
  unfold rTest
  rw [p1, thn_lt (by omega)]
theorem rT4_ok (hm : m < 10) {v : Int} (hv : v = 60 ∨ v = 61) : ruH (rT4 m v) := fun x hp hc _ _ => by
  have p1 := (RK_f (by omega)).mp (vr_H.mp (hp _ lm0))
  have p2 := (RK_f (by decide)).mp (vr_H.mp (hp _ lm1))
  have p3 := (RK_f (by decide)).mp (vr_H.mp (hp _ lm2))
  have p4 := RK_tm (k := 80 + m) (by omega) (by have := vr_H.mp (hp _ lm3); rwa [show 2080 + m = 2000 + (80 + m) by omega] at this)
  have c1 := hc (3, 0, big) lm0
  have c2 := hc (4, v, v) lm1
  have c3 := hc (6, 1, big) lm2
  dsimp only at c1 c2 c3
  have p4 := p4 (by omega)
  refine vr_H.mpr ?_
  rw [show 2070 + m = 2000 + (70 + m) by omega]
  refine RK_ti (by omega) (by omega) ?_
  rw [FK_8 hm] at p1 p4
  rw [FK_4k] at p2
  rw [FK_8k] at p3
  rw [FK_7 hm]
  unfold rTest
  rw [← p1, thn_ge c1.1, spC_1 hv (show kd (dc (x 0)) (x 3).toNat = v by omega), if_pos rfl, ← p4, p3, Int.toNat_natCast]
end TS
/-- nots: j more are allowed -/
def rN1 (m : Nat) : eRu := (vr (3110 + m) 0 1 1 8, [], [], [], [])
def rN2 (m j : Nat) : eRu := (vr (3050 + 10 * j + m) 0 1 2 8, [vr (3060 + 10 * j + m) 0 1 3 9, vr 15 0 3 10 4, vr 8 0 3 11 2], [(4, 1, 1)], [], [])
def rN3 (m j : Nat) : eRu := (vr (60 + m) 0 1 8 2, [vr (3050 + 10 * j + m) 0 1 3 9, vr 15 0 3 10 4, vr (70 + m) 0 3 11 2], [(4, 0, 0)], [], [])
def rN4 (m j : Nat) : eRu := (vr (2060 + m) 0 1 6 7, [vr (3050 + 10 * j + m) 0 1 3 9, vr 15 0 3 10 4, vr (2070 + m) 0 3 6 7], [(4, 0, 0), (6, 1, big)], [], [])
def rN5 (m : Nat) : eRu := (vr (2060 + m) 0 1 6 7, [vr (3050 + m) 0 1 7 9, vr 15 0 7 10 4], [(4, 1, 1), (6, 2, 2), (7, 0, big)], [], [])
section NS
variable {m j : Nat}
theorem eqN9 (hm : m < 10) (hj : j < 20) : eqT (50 + 10 * j + m) = ((60 + m, 0), (150 + m, (j : Int))) := by
  unfold eqT
  have h1 : (50 + 10 * j + m) / 10 = j + 5 := by omega
  have h2 : (50 + 10 * j + m) % 10 = m := by omega
  rw [h1, h2]
  show (if 25 ≤ j then eqE (j - 25) else ((60 + m, (0 : Int)), (150 + m, (j : Int)))) = _
  exact if_neg (by omega)
theorem RK_n (hm : m < 10) (hj : j < 20) {a b c d : Int} : RK (3050 + 10 * j + m) a b c d ↔ rNotN (dc a) (rOr (dc a) m) 6 b.toNat = rNotN (dc a) (rOr (dc a) m) j c.toNat := by
  rw [show 3050 + 10 * j + m = 3000 + (50 + 10 * j + m) by omega, RK_e (by omega), eqN9 hm hj]
  dsimp only
  rw [FK_6 hm, FK_15 hm, Int.toNat_natCast]
theorem FK_15k {a b c : Int} : FK 15 a b c = bI (isWd (dc a) wNot b.toNat) := rfl
theorem rNotN_no {L : List Int} {E : Nat → Int} {p : Nat} (h : isWd L wNot p = false) : ∀ j, rNotN L E j p = rTest L E p
  | 0 => by show (if isWd L wNot p then flt 2 p else rTest L E p) = _; rw [h]; rfl
  | j + 1 => by show (if isWd L wNot p then rNotN L E j (nx L p) else rTest L E p) = _; rw [h]; rfl
theorem rN1_ok (hm : m < 10) : ruH (rN1 m) := fun x _ _ _ _ => vr_H.mpr ((RK_n (j := 6) hm (by decide)).mpr rfl)
theorem rN2_ok (hm : m < 10) (hj : j < 6) : ruH (rN2 m j) := fun x hp hc _ _ => by
  have p1 := vr_H.mp (hp _ lm0)
  rw [show 3060 + 10 * j + m = 3050 + 10 * (j + 1) + m by omega] at p1
  have p1 := (RK_n (j := j + 1) hm (by omega)).mp p1
  have p2 := (RK_f (by decide)).mp (vr_H.mp (hp _ lm1))
  have p3 := (RK_f (by decide)).mp (vr_H.mp (hp _ lm2))
  have c1 := hc (4, 1, 1) lm0
  refine vr_H.mpr ((RK_n hm (by omega)).mpr ?_)
  dsimp only at c1
  rw [FK_15k] at p2
  rw [FK_8k] at p3
  have hw := bI_1 (show bI (isWd (dc (x 0)) wNot (x 3).toNat) = 1 by omega)
  rw [p1]
  show (if isWd (dc (x 0)) wNot (x 3).toNat then rNotN _ _ j (nx (dc (x 0)) (x 3).toNat) else _) = _
  rw [hw, if_pos rfl, p3, Int.toNat_natCast]
theorem rN3_ok (hm : m < 10) (hj : j < 7) : ruH (rN3 m j) := fun x hp hc _ _ => by
  have p1 := (RK_n hm (by omega)).mp (vr_H.mp (hp _ lm0))
  have p2 := (RK_f (by decide)).mp (vr_H.mp (hp _ lm1))
  have p3 := (RK_f (by omega)).mp (vr_H.mp (hp _ lm2))
  have c1 := hc (4, 0, 0) lm0
  refine vr_H.mpr ((RK_f (by omega)).mpr ?_)
  dsimp only at c1
  rw [FK_15k] at p2
  rw [FK_7 hm] at p3
  rw [FK_6 hm, p1, rNotN_no (bI_0 (show bI (isWd (dc (x 0)) wNot (x 3).toNat) = 0 by omega)), ← p3]
theorem rN4_ok (hm : m < 10) (hj : j < 7) : ruH (rN4 m j) := fun x hp hc _ _ => by
  have p1 := (RK_n hm (by omega)).mp (vr_H.mp (hp _ lm0))
  have p2 := (RK_f (by decide)).mp (vr_H.mp (hp _ lm1))
  have p3 := RK_tm (k := 70 + m) (by omega) (by have := vr_H.mp (hp _ lm2); rwa [show 2070 + m = 2000 + (70 + m) by omega] at this)
  have c1 := hc (4, 0, 0) lm0
  have c3 := hc (6, 1, big) lm1
  dsimp only at c1 c3
  have p3 := p3 (by omega)
  refine vr_H.mpr ?_
  rw [show 2060 + m = 2000 + (60 + m) by omega]
  refine RK_ti (by omega) (by omega) ?_
  rw [FK_15k] at p2
  rw [FK_7 hm] at p3
  rw [FK_6 hm, p1, rNotN_no (bI_0 (show bI (isWd (dc (x 0)) wNot (x 3).toNat) = 0 by omega)), ← p3]
theorem rN5_ok (hm : m < 10) : ruH (rN5 m) := fun x hp hc _ _ => by
  have p1 := vr_H.mp (hp _ lm0)
  rw [show 3050 + m = 3050 + 10 * 0 + m by omega] at p1
  have p1 := (RK_n hm (by decide)).mp p1
  have p2 := (RK_f (by decide)).mp (vr_H.mp (hp _ lm1))
  have c1 := hc (4, 1, 1) lm0
  have c2 := hc (6, 2, 2) lm1
  have c3 := hc (7, 0, big) lm2
  dsimp only at c1 c2 c3
  refine vr_H.mpr ?_
  rw [show 2060 + m = 2000 + (60 + m) by omega]
  refine RK_ti (by omega) (by omega) ?_
  rw [FK_15k] at p2
  have hw := bI_1 (show bI (isWd (dc (x 0)) wNot (x 7).toNat) = 1 by omega)
  rw [FK_6 hm, p1]
  show (if isWd (dc (x 0)) wNot (x 7).toNat then flt 2 (x 7).toNat else _) = _
  rw [hw, if_pos rfl]
  unfold flt
  rw [Int.toNat_of_nonneg c3.1]
  omega
end NS
/-- parts -/
def rP1 (m : Nat) : eRu := (vr (100 + m) 0 1 8 2, [vr 4 0 1 9 4, vr 8 0 1 10 3, vr (40 + m) 0 3 11 5, vr 4 0 5 12 6, vr 8 0 5 13 2], [(4, 40, 40), (5, 0, big), (6, 41, 41)], [], [])
def rP2 (m : Nat) : eRu := (vr (2100 + m) 0 1 6 7, [vr 4 0 1 9 4, vr 8 0 1 10 3, vr (2040 + m) 0 3 6 7], [(4, 40, 40), (6, 1, big), (7, 0, big)], [], [])
def rP3 (m : Nat) : eRu := (vr (2100 + m) 0 1 6 7, [vr 4 0 1 9 4, vr 8 0 1 10 3, vr (40 + m) 0 3 11 7, vr 4 0 7 12 5], [(4, 40, 40), (6, 1, 1), (7, 0, big)], [(5, [41])], [])
def rP4 (m : Nat) : eRu := (vr (100 + m) 0 1 8 2, [vr 4 0 1 9 4, vr 6 0 1 10 3, vr 8 0 1 11 2], [(4, 2, 2)], [(3, [-1])], [])
def rP5 (m : Nat) : eRu := (vr (2100 + m) 0 7 6 7, [vr 4 0 7 9 4, vr 6 0 7 10 3], [(4, 2, 2), (3, -1, -1), (6, 2, 2), (7, 0, big)], [], [])
def rP6 (m : Nat) : eRu := (vr (100 + m) 0 1 8 2, [vr 4 0 1 9 4, vr 9 0 1 10 3, vr 8 0 1 11 2], [(4, 1, 1), (3, 1, 1)], [], [])
def rP7 (m : Nat) : eRu := (vr (2100 + m) 0 7 6 7, [vr 4 0 7 9 4, vr 9 0 7 10 3], [(4, 1, 1), (3, 0, 0), (6, 3, 3), (7, 0, big)], [], [])
def rP8 (m : Nat) : eRu := (vr (2100 + m) 0 7 6 7, [vr 4 0 7 9 4], [(6, 1, 1), (7, 0, big)], [(4, [1, 2, 40])], [])
def rP8b (m : Nat) : eRu := (vr (2100 + m) 0 7 6 7, [vr 4 0 7 9 4, vr 36 0 7 10 5], [(6, 1, 1), (7, 0, big)], [(4, [40]), (5, [1, 2])], [])
theorem FK_36k {a b c : Int} : FK 36 a b c = tk (dc a) b.toNat := rfl
theorem noMay {a p k t u w : Int} (h1 : k = FK 4 a p u) (h2 : t = FK 36 a p w) (n1 : k ∉ [(40 : Int)]) (n2 : t ∉ [(1 : Int), 2]) : kd (dc a) p.toNat ≠ 1 ∧ kd (dc a) p.toNat ≠ 2 ∧ kd (dc a) p.toNat ≠ 40 := by
  rw [FK_4k] at h1
  rw [FK_36k] at h2
  refine ⟨fun e => n2 ?_, fun e => n2 ?_, fun e => n1 (List.mem_singleton.mpr (h1.trans e))⟩
  · rw [h2]
    unfold tk
    rw [e]
    decide
  · rw [h2]
    unfold tk
    rw [e]
    decide
/-- a number's PART as the other reader has it -/
def rP9 (m : Nat) : eRu := (vr (100 + m) 0 1 20 2, [vr 4 0 1 8 5, vr 166 0 1 9 2], [(5, 2, 2), (2, 0, big)], [], [])
def rP9f (m : Nat) : eRu := (vr (2100 + m) 0 1 6 7, [vr 4 0 1 8 5, vr 2166 0 1 6 7], [(5, 2, 2), (6, 1, big), (7, 0, big)], [], [])
section PS
variable {m : Nat}
theorem RK_p (hm : m < 10) {a b c d : Int} (hc : 1 ≤ c) (h : rPart (dc a) (rOr (dc a) m) b.toNat = -(1 + c + 8 * d)) : RK (2100 + m) a b c d := by
  rw [show 2100 + m = 2000 + (100 + m) by omega]
  refine RK_ti (by omega) (by omega) ?_
  rw [FK_10 hm]
  exact h
theorem rP1_ok (hm : m < 10) : ruH (rP1 m) := fun x hp hc _ _ => by
  have p1 := (RK_f (by decide)).mp (vr_H.mp (hp _ lm0))
  have p2 := (RK_f (by decide)).mp (vr_H.mp (hp _ lm1))
  have p3 := (RK_f (by omega)).mp (vr_H.mp (hp _ lm2))
  have p4 := (RK_f (by decide)).mp (vr_H.mp (hp _ lm3))
  have p5 := (RK_f (by decide)).mp (vr_H.mp (hp _ lm4))
  have c1 := hc (4, 40, 40) lm0
  have c2 := hc (5, 0, big) lm1
  have c3 := hc (6, 41, 41) lm2
  refine vr_H.mpr ((RK_f (by omega)).mpr ?_)
  dsimp only at c1 c2 c3
  rw [FK_4k] at p1 p4
  rw [FK_8k] at p2 p5
  rw [FK_4 hm, p2, Int.toNat_natCast] at p3
  rw [FK_10 hm]
  unfold rPart
  rw [if_pos (by omega), ← p3, thn_ge c2.1]
  unfold rEnd
  rw [if_pos (by omega)]
  exact p5
theorem rP2_ok (hm : m < 10) : ruH (rP2 m) := fun x hp hc _ _ => by
  have p1 := (RK_f (by decide)).mp (vr_H.mp (hp _ lm0))
  have p2 := (RK_f (by decide)).mp (vr_H.mp (hp _ lm1))
  have p3 := RK_tm (k := 40 + m) (by omega) (by have := vr_H.mp (hp _ lm2); rwa [show 2040 + m = 2000 + (40 + m) by omega] at this)
  have c1 := hc (4, 40, 40) lm0
  have c2 := hc (6, 1, big) lm1
  have c3 := hc (7, 0, big) lm2
  dsimp only at c1 c2 c3
  have p3 := p3 (by omega)
  refine vr_H.mpr (RK_p hm (by omega) ?_)
  rw [FK_4k] at p1
  rw [FK_8k] at p2
  rw [FK_4 hm, p2, Int.toNat_natCast] at p3
  unfold rPart
  rw [if_pos (by omega), p3, thn_lt (by omega)]
theorem rP3_ok (hm : m < 10) : ruH (rP3 m) := fun x hp hc hn _ => by
  have p1 := (RK_f (by decide)).mp (vr_H.mp (hp _ lm0))
  have p2 := (RK_f (by decide)).mp (vr_H.mp (hp _ lm1))
  have p3 := (RK_f (by omega)).mp (vr_H.mp (hp _ lm2))
  have p4 := (RK_f (by decide)).mp (vr_H.mp (hp _ lm3))
  have c1 := hc (4, 40, 40) lm0
  have c2 := hc (6, 1, 1) lm1
  have c3 := hc (7, 0, big) lm2
  have n1 := hn (5, [41]) lm0
  dsimp only at c1 c2 c3 n1
  refine vr_H.mpr (RK_p hm (by omega) ?_)
  rw [FK_4k] at p1 p4
  rw [FK_8k] at p2
  rw [FK_4 hm, p2, Int.toNat_natCast] at p3
  unfold rPart
  rw [if_pos (by omega), ← p3, thn_ge c3.1]
  unfold rEnd
  rw [if_neg (fun e => n1 (by rw [p4, e]; exact List.mem_singleton.mpr rfl))]
  unfold flt
  rw [Int.toNat_of_nonneg c3.1]
  omega
theorem rP4_ok (hm : m < 10) : ruH (rP4 m) := fun x hp hc hn _ => by
  have p1 := (RK_f (by decide)).mp (vr_H.mp (hp _ lm0))
  have p2 := (RK_f (by decide)).mp (vr_H.mp (hp _ lm1))
  have p3 := (RK_f (by decide)).mp (vr_H.mp (hp _ lm2))
  have c1 := hc (4, 2, 2) lm0
  have n1 := hn (3, [-1]) lm0
  refine vr_H.mpr ((RK_f (by omega)).mpr ?_)
  dsimp only at c1 n1
  rw [FK_4k] at p1
  rw [FK_6k] at p2
  rw [FK_8k] at p3
  rw [FK_10 hm]
  unfold rPart
  rw [if_neg (by omega), if_pos (by omega), if_neg (fun e => n1 (by rw [p2, e]; exact List.mem_singleton.mpr rfl))]
  exact p3
theorem rP5_ok (hm : m < 10) : ruH (rP5 m) := fun x hp hc _ _ => by
  have p1 := (RK_f (by decide)).mp (vr_H.mp (hp _ lm0))
  have p2 := (RK_f (by decide)).mp (vr_H.mp (hp _ lm1))
  have c1 := hc (4, 2, 2) lm0
  have c2 := hc (3, -1, -1) lm1
  have c3 := hc (6, 2, 2) lm2
  have c4 := hc (7, 0, big) lm3
  dsimp only at c1 c2 c3 c4
  refine vr_H.mpr (RK_p hm (by omega) ?_)
  rw [FK_4k] at p1
  rw [FK_6k] at p2
  unfold rPart
  rw [if_neg (by omega), if_pos (by omega), if_pos (by omega)]
  unfold flt
  rw [Int.toNat_of_nonneg c4.1]
  omega
theorem rP6_ok (hm : m < 10) : ruH (rP6 m) := fun x hp hc _ _ => by
  have p1 := (RK_f (by decide)).mp (vr_H.mp (hp _ lm0))
  have p2 := (RK_f (by decide)).mp (vr_H.mp (hp _ lm1))
  have p3 := (RK_f (by decide)).mp (vr_H.mp (hp _ lm2))
  have c1 := hc (4, 1, 1) lm0
  have c2 := hc (3, 1, 1) lm1
  refine vr_H.mpr ((RK_f (by omega)).mpr ?_)
  dsimp only at c1 c2
  rw [FK_4k] at p1
  rw [FK_9k] at p2
  rw [FK_8k] at p3
  rw [FK_10 hm]
  unfold rPart
  rw [if_neg (by omega), if_neg (by omega), if_pos (by omega), bI_1 (show bI (isVl (dc (x 0)) (x 1).toNat) = 1 by omega), if_pos rfl]
  exact p3
theorem rP7_ok (hm : m < 10) : ruH (rP7 m) := fun x hp hc _ _ => by
  have p1 := (RK_f (by decide)).mp (vr_H.mp (hp _ lm0))
  have p2 := (RK_f (by decide)).mp (vr_H.mp (hp _ lm1))
  have c1 := hc (4, 1, 1) lm0
  have c2 := hc (3, 0, 0) lm1
  have c3 := hc (6, 3, 3) lm2
  have c4 := hc (7, 0, big) lm3
  dsimp only at c1 c2 c3 c4
  refine vr_H.mpr (RK_p hm (by omega) ?_)
  rw [FK_4k] at p1
  rw [FK_9k] at p2
  unfold rPart
  rw [if_neg (by omega), if_neg (by omega), if_pos (by omega), bI_0 (show bI (isVl (dc (x 0)) (x 7).toNat) = 0 by omega), if_neg (by decide)]
  unfold flt
  rw [Int.toNat_of_nonneg c4.1]
  omega
theorem rP8_ok (hm : m < 10) : ruH (rP8 m) := fun x hp hc hn _ => by
  have p1 := (RK_f (by decide)).mp (vr_H.mp (hp _ lm0))
  have c3 := hc (6, 1, 1) lm0
  have c4 := hc (7, 0, big) lm1
  have n1 := hn (4, [1, 2, 40]) lm0
  dsimp only at c3 c4 n1
  refine vr_H.mpr (RK_p hm (by omega) ?_)
  rw [FK_4k] at p1
  unfold rPart
  rw [if_neg (fun e => n1 (by rw [p1, e]; decide)), if_neg (fun e => n1 (by rw [p1, e]; decide)), if_neg (fun e => n1 (by rw [p1, e]; decide))]
  unfold flt
  rw [Int.toNat_of_nonneg c4.1]
  omega
theorem rP8b_ok (hm : m < 10) : ruH (rP8b m) := fun x hp hc hn _ => by
  have p1 := (RK_f (by decide)).mp (vr_H.mp (hp _ lm0))
  have p2 := (RK_f (by decide)).mp (vr_H.mp (hp _ lm1))
  have c3 := hc (6, 1, 1) lm0
  have c4 := hc (7, 0, big) lm1
  have n1 := hn (4, [40]) lm0
  have n2 := hn (5, [1, 2]) lm1
  dsimp only at c3 c4 n1 n2
  refine vr_H.mpr (RK_p hm (by omega) ?_)
  obtain ⟨q1, q2, q3⟩ := noMay p1 p2 n1 n2
  unfold rPart
  rw [if_neg q3, if_neg q2, if_neg q1]
  unfold flt
  rw [Int.toNat_of_nonneg c4.1]
  omega
theorem rP9_ok (hm : m < 10) : ruH (rP9 m) := fun x hp hc _ _ => by
  have p1 := RK_4 (vr_H.mp (hp _ lm0))
  have p2 : x 2 = rNum (dc (x 0)) 0 9999 (x 1).toNat := vr_H.mp (hp _ lm1)
  have c1 := hc (5, 2, 2) lm0
  have c2 := hc (2, 0, big) lm1
  dsimp only at c1 c2
  refine vr_H.mpr ((RK_f (by omega)).mpr ?_)
  rw [FK_10 hm]
  have hk : kd (dc (x 0)) (x 1).toNat = 2 := by omega
  have f2 := flt_neg (k := 2) (by decide) (x 1).toNat
  unfold rNum at p2
  rw [if_neg (by omega)] at p2
  have hr := nm_rg hk
  unfold rPart
  rw [if_neg (by omega), if_pos hk]
  by_cases h1 : nm (dc (x 0)) (x 1).toNat = -1
  · rw [if_pos (Or.inl (by omega))] at p2
    omega
  · rw [if_neg (by omega)] at p2
    rw [if_neg h1]
    exact p2
theorem rP9f_ok (hm : m < 10) : ruH (rP9f m) := fun x hp hc _ _ => by
  have p1 := RK_4 (vr_H.mp (hp _ lm0))
  have p2 := RK_tm (k := 166) (by decide) (vr_H.mp (hp _ lm1))
  have c1 := hc (5, 2, 2) lm0
  have c2 := hc (6, 1, big) lm1
  have c3 := hc (7, 0, big) lm2
  dsimp only at c1 c2 c3
  have p2 : rNum (dc (x 0)) 0 9999 (x 1).toNat = -(1 + x 6 + 8 * x 7) := p2 (by omega)
  refine vr_H.mpr (RK_p hm (by omega) ?_)
  have hk : kd (dc (x 0)) (x 1).toNat = 2 := by omega
  unfold rNum at p2
  rw [if_neg (by omega)] at p2
  have hr := nm_rg hk
  unfold rPart
  rw [if_neg (by omega), if_pos hk]
  by_cases h1 : nm (dc (x 0)) (x 1).toNat = -1
  · rw [if_pos (Or.inl (by omega))] at p2
    rw [if_pos h1]
    exact p2
  · rw [if_neg (by omega)] at p2
    omega
end PS
/-- the whole EXPR where no level is left, or where none can begin -/
def rO1 (m : Nat) : eRu := (vr (2040 + m) 0 7 6 7, [vr 4 0 7 9 4, vr 36 0 7 10 5], [(6, 1, 1), (7, 0, big)], [(4, [40]), (5, [1, 2])], [])
def rO0 : eRu := (vr 2040 0 7 6 7, [vr 4 0 7 9 4], [(6, 1, 1), (7, 0, big)], [(4, [1, 2, 40])], [])
def rO2 (v : Int) : eRu := (vr 2040 0 7 6 7, [vr 4 0 7 9 4], [(4, v, v), (6, 2, 2), (7, 0, big)], [], [])
section OS
variable {m : Nat}
theorem RK_o (hm : m < 10) {a b c d : Int} (hc : 1 ≤ c) (h : rOr (dc a) m b.toNat = -(1 + c + 8 * d)) : RK (2040 + m) a b c d := by
  rw [show 2040 + m = 2000 + (40 + m) by omega]
  refine RK_ti (by omega) (by omega) ?_
  rw [FK_4 hm]
  exact h
theorem mayB_no {L : List Int} {p : Nat} (h1 : kd L p ≠ 1) (h2 : kd L p ≠ 2) (h3 : kd L p ≠ 40) : mayB L p = false := by
  unfold mayB
  rw [decide_eq_false h1, decide_eq_false h2, decide_eq_false h3]
  rfl
theorem rOr_no {L : List Int} {p : Nat} (h : mayB L p = false) : ∀ m, rOr L m p = flt 1 p
  | 0 => by show (if mayB L p then flt 2 p else flt 1 p) = _; rw [h]; rfl
  | m + 1 => by
    show thn (rAnd L (rOr L m) p) _ = _
    rw [rAnd_may h]
    exact if_pos (flt_neg (by decide) p)
theorem rO1_ok (hm : m < 10) : ruH (rO1 m) := fun x hp hc hn _ => by
  have p1 := (RK_f (by decide)).mp (vr_H.mp (hp _ lm0))
  have p2 := (RK_f (by decide)).mp (vr_H.mp (hp _ lm1))
  have c3 := hc (6, 1, 1) lm0
  have c4 := hc (7, 0, big) lm1
  have n1 := hn (4, [40]) lm0
  have n2 := hn (5, [1, 2]) lm1
  dsimp only at c3 c4 n1 n2
  refine vr_H.mpr (RK_o hm (by omega) ?_)
  obtain ⟨q1, q2, q3⟩ := noMay p1 p2 n1 n2
  rw [rOr_no (mayB_no q1 q2 q3)]
  unfold flt
  rw [Int.toNat_of_nonneg c4.1]
  omega
theorem rO0_ok : ruH rO0 := fun x hp hc hn _ => by
  have p1 := (RK_f (by decide)).mp (vr_H.mp (hp _ lm0))
  have c3 := hc (6, 1, 1) lm0
  have c4 := hc (7, 0, big) lm1
  have n1 := hn (4, [1, 2, 40]) lm0
  dsimp only at c3 c4 n1
  refine vr_H.mpr (RK_o (m := 0) (by decide) (by omega) ?_)
  rw [FK_4k] at p1
  rw [rOr_no (mayB_no (fun e => n1 (by rw [p1, e]; decide)) (fun e => n1 (by rw [p1, e]; decide)) (fun e => n1 (by rw [p1, e]; decide)))]
  unfold flt
  rw [Int.toNat_of_nonneg c4.1]
  omega
theorem rO2_ok {v : Int} (hv : v = 1 ∨ v = 2 ∨ v = 40) : ruH (rO2 v) := fun x hp hc _ _ => by
  have p1 := (RK_f (by decide)).mp (vr_H.mp (hp _ lm0))
  have c1 := hc (4, v, v) lm0
  have c3 := hc (6, 2, 2) lm1
  have c4 := hc (7, 0, big) lm2
  dsimp only at c1 c3 c4
  refine vr_H.mpr (RK_o (m := 0) (by decide) (by omega) ?_)
  rw [FK_4k] at p1
  have hk : kd (dc (x 0)) (x 7).toNat = v := by omega
  have hb : mayB (dc (x 0)) (x 7).toNat = true := by
    unfold mayB
    rw [hk]
    rcases hv with rfl | rfl | rfl <;> rfl
  show (if mayB (dc (x 0)) (x 7).toNat then flt 2 (x 7).toNat else flt 1 (x 7).toNat) = _
  rw [hb, if_pos rfl]
  unfold flt
  rw [Int.toNat_of_nonneg c4.1]
  omega
end OS
/-! the table -/
def exRules (m : Nat) : List eRu := chRules m ++ ([rT1 m, rT2 m 60, rT2 m 61, rT3 m, rT4 m 60, rT4 m 61, rN1 m, rN5 m, rP1 m, rP2 m, rP3 m, rP4 m, rP5 m, rP6 m, rP7 m, rP8 m, rP8b m, rP9 m, rP9f m, rO1 m, rO1 (m + 1), rO0, rO2 1, rO2 2, rO2 40] ++ ((List.range 6).map (rN2 m) ++ ((List.range 7).map (rN3 m) ++ (List.range 7).map (rN4 m))))
theorem exRules_ok {m : Nat} (hm : m < 9) : ∀ r ∈ exRules m, ruH r := by
  have hm' : m < 10 := by omega
  intro r hr
  unfold exRules at hr
  simp only [List.mem_append] at hr
  rcases hr with hr | hr | hr | hr | hr
  · exact chRules_ok hm r hr
  · simp only [List.mem_cons, List.not_mem_nil, or_false] at hr
    rcases hr with rfl | rfl | rfl | rfl | rfl | rfl | rfl | rfl | rfl | rfl | rfl | rfl | rfl | rfl | rfl | rfl | rfl | rfl | rfl | rfl | rfl | rfl | rfl | rfl | rfl
    · exact rT1_ok hm'
    · exact rT2_ok hm' (Or.inl rfl)
    · exact rT2_ok hm' (Or.inr rfl)
    · exact rT3_ok hm'
    · exact rT4_ok hm' (Or.inl rfl)
    · exact rT4_ok hm' (Or.inr rfl)
    · exact rN1_ok hm'
    · exact rN5_ok hm'
    · exact rP1_ok hm'
    · exact rP2_ok hm'
    · exact rP3_ok hm'
    · exact rP4_ok hm'
    · exact rP5_ok hm'
    · exact rP6_ok hm'
    · exact rP7_ok hm'
    · exact rP8_ok hm'
    · exact rP8b_ok hm'
    · exact rP9_ok hm'
    · exact rP9f_ok hm'
    · exact rO1_ok hm'
    · exact rO1_ok (by omega)
    · exact rO0_ok
    · exact rO2_ok (Or.inl rfl)
    · exact rO2_ok (Or.inr (Or.inl rfl))
    · exact rO2_ok (Or.inr (Or.inr rfl))
  · obtain ⟨j, hj, rfl⟩ := List.mem_map.mp hr
    exact rN2_ok hm' (List.mem_range.mp hj)
  · obtain ⟨j, hj, rfl⟩ := List.mem_map.mp hr
    exact rN3_ok hm' (List.mem_range.mp hj)
  · obtain ⟨j, hj, rfl⟩ := List.mem_map.mp hr
    exact rN4_ok hm' (List.mem_range.mp hj)
def ruTab : List eRu := tkRules ++ (nuRules ++ (lnRules ++ (List.range 6).flatMap exRules))
theorem ruTab_ok : ∀ r ∈ ruTab, ruH r := fun r hr => by
  rcases List.mem_append.mp hr with hr | hr
  · exact tkRules_ok r hr
  rcases List.mem_append.mp hr with hr | hr
  · exact nuRules_ok r hr
  rcases List.mem_append.mp hr with hr | hr
  · exact lnRules_ok r hr
  obtain ⟨m, hm, h⟩ := List.mem_flatMap.mp hr
  exact exRules_ok (by have := List.mem_range.mp hm; omega) r h
