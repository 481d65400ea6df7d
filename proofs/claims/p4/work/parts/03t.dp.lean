/-! ===== SIGNS of a rule, ROWS of 66: what loads and stores do ===== -/
theorem dpR_congr {f g : Nat → Int} {a : Nat} : ∀ {n : Nat}, (∀ j, j < n → g (a + j) = f (a + j)) → dpR g a n = dpR f a n
  | 0, _ => rfl
  | n + 1, h => by
    unfold dpR
    rw [dpR_congr (fun j hj => h j (by omega)), h n (by omega)]
theorem dpR_pre {f : Nat → Int} {a : Nat} : ∀ {n m : Nat} {x : Nat}, n ≤ m → dpR f a m = some x → ∃ y, dpR f a n = some y
  | n, 0, x, h, e => ⟨x, by rw [show n = 0 by omega]; exact e⟩
  | n, m + 1, x, h, e => by
    by_cases hn : n = m + 1
    · exact ⟨x, by rw [hn]; exact e⟩
    · unfold dpR at e
      cases h1 : dpR f a m with
      | none => rw [h1] at e; cases e
      | some y => exact dpR_pre (by omega) h1
theorem dpR_step {f : Nat → Int} {a n k : Nat} (h : dpR f a n = some k) : dpR f a (n + 1) = dpS (f (a + n)) k := by
  show (match dpR f a n with
    | none => none
    | some k => dpS (f (a + n)) k) = _
  rw [h]
theorem dpR_shift {f : Nat → Int} {b : Nat} : ∀ {n : Nat}, dpR (fun j => f (b + j)) 0 n = dpR f b n
  | 0 => rfl
  | n + 1 => by
    unfold dpR
    rw [dpR_shift, Nat.zero_add]
/-- what may stand where a sign is read -/
theorem dpS_some {z : Int} {k y : Nat} (h : dpS z k = some y) : (-7 ≤ z ∧ k ≤ 63 ∧ y = k + 1) ∨ (z = -28 ∧ 1 ≤ k ∧ y = k) ∨ ((-27 ≤ z ∧ z ≤ -20) ∧ 2 ≤ k ∧ y = k - 1) := by
  unfold dpS at h
  by_cases h1 : -8 < z
  · rw [if_pos h1] at h
    by_cases h2 : k < 64
    · rw [if_pos h2] at h
      exact Or.inl ⟨by omega, by omega, (Option.some.inj h).symm⟩
    · rw [if_neg h2] at h; cases h
  · rw [if_neg h1] at h
    by_cases h3 : z = -28
    · rw [if_pos h3] at h
      by_cases h2 : 1 ≤ k
      · rw [if_pos h2] at h
        exact Or.inr (Or.inl ⟨h3, h2, (Option.some.inj h).symm⟩)
      · rw [if_neg h2] at h; cases h
    · rw [if_neg h3] at h
      by_cases h4 : -27 ≤ z ∧ z ≤ -20
      · rw [if_pos h4] at h
        by_cases h2 : 2 ≤ k
        · rw [if_pos h2] at h
          exact Or.inr (Or.inr ⟨h4, h2, (Option.some.inj h).symm⟩)
        · rw [if_neg h2] at h; cases h
      · rw [if_neg h4] at h; cases h
theorem dpS_push {z : Int} {k : Nat} (h1 : -7 ≤ z) (h2 : k ≤ 63) : dpS z k = some (k + 1) := by
  unfold dpS
  rw [if_pos (by omega), if_pos (by omega)]
theorem dpS_not {k : Nat} (h2 : 1 ≤ k) : dpS (-28) k = some k := by
  unfold dpS
  rw [if_neg (by omega), if_pos rfl, if_pos h2]
theorem dpS_two {z : Int} {k : Nat} (h1 : -27 ≤ z) (h3 : z ≤ -20) (h2 : 2 ≤ k) : dpS z k = some (k - 1) := by
  unfold dpS
  rw [if_neg (by omega), if_neg (by omega), if_pos ⟨h1, h3⟩, if_pos h2]
/-- a sign is read at the cursor -/
theorem sg_read {n : Nat} {f : Nat → Int32} {t6 k d : Int} (h : PRD 3 n f [0, 1, 2] [t6, k, d]) (hk : k + 1 ≤ t6) : (k.toNat < n ∧ 0 ≤ k) ∧ ((-7 ≤ (f k.toNat).toInt ∧ d ≤ 63 ∧ PRD 3 n f [0, 1, 2] [t6, k + 1, d + 1]) ∨ ((f k.toNat).toInt = -28 ∧ 1 ≤ d ∧ PRD 3 n f [0, 1, 2] [t6, k + 1, d]) ∨ ((-27 ≤ (f k.toNat).toInt ∧ (f k.toNat).toInt ≤ -20) ∧ 2 ≤ d ∧ PRD 3 n f [0, 1, 2] [t6, k + 1, d - 1])) := by
  obtain ⟨h1, ⟨h2, h3, h4⟩, h5, h6, h7⟩ := h
  refine ⟨⟨by omega, h5⟩, ?_⟩
  have hz : dpR (fun j => (f j).toInt) 0 t6.toNat = some 1 := by
    rcases h4 with q | q
    · omega
    · exact q
  obtain ⟨y, hy⟩ := dpR_pre (n := k.toNat + 1) (by omega) hz
  have hs := dpR_step h7
  rw [hy] at hs
  rw [Nat.zero_add] at hs
  have e1 : (k + 1).toNat = k.toNat + 1 := by omega
  rcases dpS_some hs.symm with ⟨q1, q2, q3⟩ | ⟨q1, q2, q3⟩ | ⟨q1, q2, q3⟩
  · refine Or.inl ⟨q1, by omega, h1, ⟨h2, h3, h4⟩, by omega, by omega, ?_⟩
    rw [e1, hy, q3, show (d + 1).toNat = d.toNat + 1 by omega]
  · refine Or.inr (Or.inl ⟨q1, by omega, h1, ⟨h2, h3, h4⟩, by omega, by omega, ?_⟩)
    rw [e1, hy, q3]
  · refine Or.inr (Or.inr ⟨q1, by omega, h1, ⟨h2, h3, h4⟩, by omega, by omega, ?_⟩)
    rw [e1, hy, q3, show (d - 1).toNat = d.toNat - 1 by omega]
/-- a sign is laid -/
theorem sg_lay {n : Nat} {f : Nat → Int32} {t6 t13 d p bg e : Int} {x : Int32} (h : PRD 2 n f [0, 1, 2, 3, 4] [t6, t13, d, p, bg]) (hp : bg - p ≤ 699) (he : (-7 ≤ x.toInt ∧ d ≤ 63 ∧ e = 1) ∨ (x.toInt = -28 ∧ 1 ≤ d ∧ e = 0) ∨ ((-27 ≤ x.toInt ∧ x.toInt ≤ -20) ∧ 2 ≤ d ∧ e = -1)) : (700 + t13.toNat < n ∧ t13 ≤ bg - p) ∧ PRD 2 n (fun j => if j = 700 + t13.toNat then x else f j) [0, 1, 2, 3, 4] [t6, t13 + 1, d + e, p - 1, bg] := by
  obtain ⟨h1, ⟨h2, h3, h4⟩, h5, h6, h7, h8⟩ := h
  refine ⟨⟨by omega, by omega⟩, h1, ⟨h2, h3, ?_⟩, by omega, by omega, ?_, by omega⟩
  · rcases h4 with q | q
    · exact Or.inl q
    · refine Or.inr ?_
      rw [← q]
      refine dpR_congr (fun j hj => ?_)
      show ((if 0 + j = 700 + t13.toNat then x else f (0 + j)) : Int32).toInt = (f (0 + j)).toInt
      rw [if_neg (by omega)]
  · have hc : dpR (fun j => ((if j = 700 + t13.toNat then x else f j) : Int32).toInt) 700 t13.toNat = some d.toNat := by
      rw [← h7]
      refine dpR_congr (fun j hj => ?_)
      show ((if 700 + j = 700 + t13.toNat then x else f (700 + j)) : Int32).toInt = (f (700 + j)).toInt
      rw [if_neg (by omega)]
    have hs := dpR_step hc
    rw [show (t13 + 1).toNat = t13.toNat + 1 by omega, hs]
    show dpS ((if 700 + t13.toNat = 700 + t13.toNat then x else f (700 + t13.toNat)) : Int32).toInt d.toNat = some (d + e).toNat
    rw [if_pos rfl]
    rcases he with ⟨q1, q2, q3⟩ | ⟨q1, q2, q3⟩ | ⟨q1, q2, q3⟩
    · rw [dpS_push q1 (by omega), show (d + e).toNat = d.toNat + 1 by omega]
    · rw [q1, dpS_not (by omega), show (d + e).toNat = d.toNat by omega]
    · rw [dpS_two q1.1 q1.2 (by omega), show (d + e).toNat = d.toNat - 1 by omega]
/-- the new signs taken over -/
theorem sg_half {n : Nat} {f g : Nat → Int32} {t6 t13 p bg : Int} (h : PRD 2 n f [0, 1, 2, 3, 4] [t6, t13, 1, p, bg]) (h7 : t13 ≤ 700) (hg : ∀ j, j < 700 → g j = f (700 + j)) : PRD 3 n g [0] [t13] := by
  obtain ⟨h1, -, h5, -, h6, -⟩ := h
  refine ⟨h1, h5, h7, Or.inr ?_⟩
  have e1 : dpR (fun j => (g j).toInt) 0 t13.toNat = dpR (fun j => (fun i => (f i).toInt) (700 + j)) 0 t13.toNat := by
    refine dpR_congr (fun j hj => ?_)
    show (g (0 + j)).toInt = (f (700 + (0 + j))).toInt
    rw [hg _ (by omega)]
  rw [e1]
  exact (dpR_shift (f := fun i => (f i).toInt) (b := 700) (n := t13.toNat)).trans h6
theorem sg_none {n : Nat} {f g : Nat → Int32} {t6 : Int} (h : PRD 3 n f [0] [t6]) : PRD 3 n g [0] [0] := ⟨h.1, by omega, by omega, Or.inl rfl⟩
theorem sg_6to7 {n : Nat} {f : Nat → Int32} {t6 t13 d p bg : Int} (h : PRD 2 n f [0, 1, 2, 3, 4] [t6, t13, d, p, bg]) : PRD 3 n f [0] [t6] := ⟨h.1, h.2.1⟩
theorem sg_7to6 {n : Nat} {f : Nat → Int32} {t6 p bg : Int} (h : PRD 3 n f [0] [t6]) (hp : p ≤ bg) : PRD 2 n f [0, 1, 2, 3, 4] [t6, 0, 0, p, bg] := ⟨h.1, h.2, by omega, by omega, rfl, by omega⟩
theorem sg_cur {n : Nat} {f : Nat → Int32} {t6 : Int} (h : PRD 3 n f [0] [t6]) : PRD 3 n f [0, 1, 2] [t6, 0, 0] := ⟨h.1, h.2, by omega, by omega, rfl⟩
theorem sg_nocur {n : Nat} {f : Nat → Int32} {t6 k d : Int} (h : PRD 3 n f [0, 1, 2] [t6, k, d]) : PRD 3 n f [0] [t6] := ⟨h.1, h.2.1⟩
theorem sg_left {n : Nat} {f : Nat → Int32} {t6 t13 d p bg p2 bg2 : Int} (h : PRD 2 n f [0, 1, 2, 3, 4] [t6, t13, d, p, bg]) (hp : bg + (p2 - p) ≤ bg2) : PRD 2 n f [0, 1, 2, 3, 4] [t6, t13, d, p2, bg2] := by
  obtain ⟨h1, h2, h3, h4, h5, h6⟩ := h
  exact ⟨h1, h2, h3, h4, h5, by omega⟩
-- rows moved up by one
theorem mv_begin {n : Nat} {f : Nat → Int32} (h : PRD 1 n f [] []) (hn : 66 ≤ n) : PRD 1 n f [2000] [66] := by
  obtain ⟨h1, h2⟩ := h
  refine ⟨h1, by omega, by omega, fun j => (f j).toInt, h2, fun j hj => ?_⟩
  rw [if_neg (by omega)]
theorem mv_end {n : Nat} {f : Nat → Int32} {k : Int} (h : PRD 1 n f [2000] [k]) (hk : k = n) : PRD 1 n f [] [] := by
  obtain ⟨h1, h2, h3, g, h4, h5⟩ := h
  refine ⟨h1, fun r hr => ?_⟩
  by_cases hl : 66 * r + 132 ≤ n
  · have h6 := h4 (r + 1) (by omega)
    have he : ∀ j, j < 66 → (f (66 * r + j)).toInt = g (66 * (r + 1) + j) := fun j hj => by
      rw [h5 _ (by omega), if_pos (by omega), show 66 * r + j + 66 = 66 * (r + 1) + j by omega]
    obtain ⟨a1, a2⟩ := h6
    refine ⟨by dsimp only at a1 ⊢; rw [he 0 (by omega)]; exact a1, fun b hb => ?_⟩
    have a3 := a2 b hb
    dsimp only at a3 ⊢
    rw [he (2 + b) (by omega), he (12 + b) (by omega), he (32 + b) (by omega)]
    exact a3
  · have h6 := h4 r hr
    have he : ∀ j, j < 66 → (f (66 * r + j)).toInt = g (66 * r + j) := fun j hj => by
      rw [h5 _ (by omega), if_neg (by omega)]
    obtain ⟨a1, a2⟩ := h6
    refine ⟨by dsimp only at a1 ⊢; rw [he 0 (by omega)]; exact a1, fun b hb => ?_⟩
    have a3 := a2 b hb
    dsimp only at a3 ⊢
    rw [he (2 + b) (by omega), he (12 + b) (by omega), he (32 + b) (by omega)]
    exact a3
theorem mv_read {n : Nat} {f : Nat → Int32} {k : Int} (h : PRD 1 n f [2000] [k]) (hk : k < n) : PRD 1 n f [2000, 2001] [k, (f k.toNat).toInt] := by
  obtain ⟨h1, h2, h3, g, h4, h5⟩ := h
  exact ⟨h1, h2, hk, rfl, g, h4, h5⟩
theorem mv_write {n : Nat} {f : Nat → Int32} {k : Int} {x : Int32} (h : PRD 1 n f [2000, 2001] [k, x.toInt]) : PRD 1 n (fun j => if j = k.toNat - 66 then x else f j) [2000] [k + 1] := by
  obtain ⟨h1, h2, h3, h9, g, h4, h5⟩ := h
  refine ⟨h1, by omega, by omega, g, h4, fun j hj => ?_⟩
  by_cases hj2 : j = k.toNat - 66
  · show ((if j = k.toNat - 66 then x else f j) : Int32).toInt = _
    rw [if_pos hj2, if_pos (by omega), ← h9, h5 _ (by omega), if_neg (by omega), show j + 66 = k.toNat by omega]
  · show ((if j = k.toNat - 66 then x else f j) : Int32).toInt = _
    rw [if_neg hj2, h5 _ hj]
    by_cases hj3 : (j : Int) + 66 < k
    · rw [if_pos hj3, if_pos (by omega)]
    · rw [if_neg hj3, if_neg (by omega)]
-- a row opened
theorem op_begin {n : Nat} {f : Nat → Int32} {fr : Int} (h : PRD 1 n f [] []) (h0 : 0 ≤ fr) (h1 : fr.toNat % 66 = 0) (h2 : fr.toNat + 66 ≤ n) : PRD 1 n f [1000] [fr] := by
  refine ⟨h.1, h0, h1, h2, fun j => (f j).toInt, h.2, fun j hj => ?_⟩
  unfold oRow
  by_cases hz : fr.toNat ≤ j ∧ j < fr.toNat + 66
  · rw [if_pos hz]; rfl
  · rw [if_neg hz]
theorem op_write {n : Nat} {f : Nat → Int32} {fr : Int} {ks : List Nat} {zs : List Int} {o : Nat} {x : Int32} (h : PRD 1 n f (1000 :: ks) (fr :: zs)) (ho : o < 66) : PRD 1 n (fun j => if j = fr.toNat + o then x else f j) (1000 :: o :: ks) (fr :: x.toInt :: zs) := by
  obtain ⟨h1, h2, h3, h4, g, h5, h6⟩ := h
  refine ⟨h1, h2, h3, h4, g, h5, fun j hj => ?_⟩
  show ((if j = fr.toNat + o then x else f j) : Int32).toInt = oRow fr.toNat (o :: ks) (x.toInt :: zs) g j
  unfold oRow
  by_cases hz : fr.toNat ≤ j ∧ j < fr.toNat + 66
  · rw [if_pos hz]
    show _ = (bif Nat.beq o (j - fr.toNat) then some x.toInt else pZ ks zs (j - fr.toNat)).getD (g j)
    by_cases hj2 : j = fr.toNat + o
    · rw [if_pos hj2, show j - fr.toNat = o by omega, Nat.beq_refl, cond_true]
      rfl
    · rw [if_neg hj2, show Nat.beq o (j - fr.toNat) = false from by
        cases hb : Nat.beq o (j - fr.toNat) with
        | false => rfl
        | true => exact absurd (Nat.eq_of_beq_eq_true hb) (by omega), cond_false, h6 j hj]
      unfold oRow
      rw [if_pos hz]
  · rw [if_neg hz, if_neg (by omega), h6 j hj]
    unfold oRow
    rw [if_neg hz]
/-- what is told of a place is what stands there -/
theorem op_told {n : Nat} {f : Nat → Int32} {fr : Int} {ks : List Nat} {zs : List Int} {o : Nat} {z : Int} (h : PRD 1 n f (1000 :: ks) (fr :: zs)) (ho : o < 66) (hz : pZ ks zs o = some z) : (f (fr.toNat + o)).toInt = z := by
  obtain ⟨h1, h2, h3, h4, g, h5, h6⟩ := h
  rw [h6 _ (by omega)]
  unfold oRow
  rw [if_pos (by omega), show fr.toNat + o - fr.toNat = o by omega, hz]
  rfl
/-- where nothing is told the row is as it must be -/
theorem op_rest {n : Nat} {f : Nat → Int32} {fr : Int} {ks : List Nat} {zs : List Int} (h : PRD 1 n f (1000 :: ks) (fr :: zs)) : ∃ g : Nat → Int, r66 (fun j => g (fr.toNat + j)) ∧ ∀ o, o < 66 → pZ ks zs o = none → (f (fr.toNat + o)).toInt = g (fr.toNat + o) := by
  obtain ⟨h1, h2, h3, h4, g, h5, h6⟩ := h
  have e1 : 66 * (fr.toNat / 66) = fr.toNat := by omega
  have h7 := h5 (fr.toNat / 66) (by omega)
  rw [e1] at h7
  refine ⟨g, h7, fun o ho hn => ?_⟩
  rw [h6 _ (by omega)]
  unfold oRow
  rw [if_pos (by omega), show fr.toNat + o - fr.toNat = o by omega, hn]
  rfl
/-- a place's content is told from now on -/
theorem op_name {n : Nat} {f : Nat → Int32} {fr : Int} {ks : List Nat} {zs : List Int} {o : Nat} (h : PRD 1 n f (1000 :: ks) (fr :: zs)) (ho : o < 66) : PRD 1 n f (1000 :: o :: ks) (fr :: (f (fr.toNat + o)).toInt :: zs) := by
  have h1 := op_write (x := f (fr.toNat + o)) h ho
  have e : (fun j => if j = fr.toNat + o then f (fr.toNat + o) else f j) = f := funext (fun j => by
    by_cases hj : j = fr.toNat + o
    · rw [if_pos hj, hj]
    · rw [if_neg hj])
  rw [e] at h1
  exact h1
/-- a row that is opened is as it must be -/
theorem op_close {n : Nat} {f : Nat → Int32} {fr : Int} {ks : List Nat} {zs : List Int} (h : PRD 1 n f (1000 :: ks) (fr :: zs)) (h0 : ∀ z, pZ ks zs 0 = some z → 0 ≤ z ∧ z ≤ 999)
    (hb : ∀ b, b < 10 → (∀ z, pZ ks zs (32 + b) = some z → 0 ≤ z ∧ z ≤ 9) ∧ ((pZ ks zs (2 + b) = none ∧ pZ ks zs (12 + b) = none) ∨ ∃ x y, pZ ks zs (2 + b) = some x ∧ pZ ks zs (12 + b) = some y ∧ (0 ≤ x ∧ x ≤ 4) ∧ (-1 ≤ y ∧ y ≤ 9) ∧ (x = 3 → 0 ≤ y))) : PRD 1 n f [] [] := by
  obtain ⟨g0, g1, g2⟩ := op_rest h
  have htold := fun {o : Nat} {z : Int} (ho : o < 66) (hz : pZ ks zs o = some z) => op_told h ho hz
  obtain ⟨h1, h2, h3, h4, g, h5, h6⟩ := h
  refine ⟨h1, fun r hr => ?_⟩
  by_cases hfr : 66 * r = fr.toNat
  · obtain ⟨a1, a2⟩ := g1
    rw [hfr]
    have cell : ∀ o, o < 66 → (∃ z, pZ ks zs o = some z ∧ (f (fr.toNat + o)).toInt = z) ∨ (pZ ks zs o = none ∧ (f (fr.toNat + o)).toInt = g0 (fr.toNat + o)) := fun o ho => by
      cases hz : pZ ks zs o with
      | some z => exact Or.inl ⟨z, rfl, htold ho hz⟩
      | none => exact Or.inr ⟨rfl, g2 o ho hz⟩
    refine ⟨?_, fun b hb9 => ?_⟩
    · dsimp only at a1 ⊢
      rcases cell 0 (by omega) with ⟨z, q1, q2⟩ | ⟨q1, q2⟩
      · rw [q2]; exact h0 z q1
      · rw [q2]; exact a1
    · obtain ⟨c1, c2, c3, c4⟩ := a2 b hb9
      obtain ⟨d1, d2⟩ := hb b hb9
      dsimp only at c1 c2 c3 c4 ⊢
      have k4 : 0 ≤ (f (fr.toNat + (32 + b))).toInt ∧ (f (fr.toNat + (32 + b))).toInt ≤ 9 := by
        rcases cell (32 + b) (by omega) with ⟨z, q1, q2⟩ | ⟨q1, q2⟩
        · rw [q2]; exact d1 z q1
        · rw [q2]; exact c4
      rcases d2 with ⟨e1, e2⟩ | ⟨x, y, e1, e2, e3, e4, e5⟩
      · rw [g2 (2 + b) (by omega) e1, g2 (12 + b) (by omega) e2]
        exact ⟨c1, c2, c3, k4⟩
      · rw [htold (o := 2 + b) (by omega) e1, htold (o := 12 + b) (by omega) e2]
        exact ⟨e3, e4, e5, k4⟩
  · have h6r : ∀ j, j < 66 → (f (66 * r + j)).toInt = g (66 * r + j) := fun j hj => by
      rw [h6 _ (by omega)]
      unfold oRow
      rw [if_neg (by omega)]
    obtain ⟨a1, a2⟩ := h5 r hr
    refine ⟨by dsimp only at a1 ⊢; rw [h6r 0 (by omega)]; exact a1, fun b hb9 => ?_⟩
    have a3 := a2 b hb9
    dsimp only at a3 ⊢
    rw [h6r (2 + b) (by omega), h6r (12 + b) (by omega), h6r (32 + b) (by omega)]
    exact a3
