/-! ===== RULES OF THE LEVELS, told of a code that bears how deep the reader is ===== -/
/-- the sort of a level's relation where m are left, told of such a code; how much more the code is -/
def lvK0 (m k : Nat) : Option (Nat × Int) := bif Nat.beq k (41 + m) then some (340, 0) else bif Nat.beq k (40 + m) then some (340, 1) else bif (Nat.ble 50 k && Nat.blt k 160) && Nat.beq (k % 10) m then some (300 + 10 * (k / 10), 0) else none
def lvK3 (m i : Nat) : Option (Nat × Int) := bif Nat.beq (i % 10) m then (bif Nat.blt i 40 then some (3300 + 10 * (i / 10), 0) else bif Nat.ble 50 i then some (3350 + 10 * (i / 10 - 5), 0) else none) else none
def lvK (m k : Nat) : Option (Nat × Int) := bif Nat.blt k 1000 then lvK0 m k else bif Nat.blt k 2000 then none else bif Nat.blt k 3000 then (match lvK0 m (k - 2000) with
  | some q => some (2000 + q.1, q.2)
  | none => none) else bif Nat.blt k 3120 then lvK3 m (k - 3000) else none
def lvP (m : Nat) (p : eRl) : eRl := match lvK m p.1 with
  | some q => (q.1, (60, q.2) :: p.2.tail)
  | none => p
def lvLk : eRl := vr 1030 60 0 61 62
def lvRw (m : Nat) (r : eRu) : eRu := (lvP m r.1, lvLk :: r.2.1.map (lvP m), (61, 0, 5) :: r.2.2.1, r.2.2.2.1, r.2.2.2.2)
/-- the text stands first in all that is told of a level -/
def hd0 (m : Nat) (p : eRl) : Bool := match lvK m p.1 with
  | some _ => (match p.2 with
    | q :: _ => decide (q = (0, 0))
    | [] => false)
  | none => true
theorem FK_E {m k : Nat} {q : Nat × Int} (hm : m < 6) (h : lvK0 m k = some q) {e g b c : Int} (hd : dc (e + q.2) = dc g) (hA : (e + q.2) % 16 = 5 - m + q.2) : q.1 < 1000 ∧ FK q.1 (e + q.2) b c = FK k g b c := by
  unfold lvK0 at h
  cases h1 : Nat.beq k (41 + m) with
  | true =>
    rw [h1, cond_true] at h
    cases h
    have e1 := Nat.eq_of_beq_eq_true h1
    subst e1
    dsimp only at hd hA ⊢
    refine ⟨by decide, ?_⟩
    rw [show 41 + m = 40 + (m + 1) by omega, FK_4 (by omega)]
    show rOr (dc (e + 0)) (6 - ((e + 0) % 16).toNat) b.toNat = _
    rw [hd, show 6 - ((e + 0) % 16).toNat = m + 1 by omega]
  | false =>
    rw [h1, cond_false] at h
    cases h2 : Nat.beq k (40 + m) with
    | true =>
      rw [h2, cond_true] at h
      cases h
      have e1 := Nat.eq_of_beq_eq_true h2
      subst e1
      dsimp only at hd hA ⊢
      refine ⟨by decide, ?_⟩
      rw [FK_4 (by omega)]
      show rOr (dc (e + 1)) (6 - ((e + 1) % 16).toNat) b.toNat = _
      rw [hd, show 6 - ((e + 1) % 16).toNat = m by omega]
    | false =>
      rw [h2, cond_false] at h
      cases h3 : ((Nat.ble 50 k && Nat.blt k 160) && Nat.beq (k % 10) m) with
      | false => rw [h3] at h; cases h
      | true =>
        rw [h3, cond_true] at h
        cases h
        simp only [Bool.and_eq_true] at h3
        obtain ⟨⟨a1, a2⟩, a3⟩ := h3
        have a1 := Nat.le_of_ble_eq_true a1
        have a2 : k + 1 ≤ 160 := Nat.le_of_ble_eq_true a2
        have a3 := Nat.eq_of_beq_eq_true a3
        dsimp only at hd hA ⊢
        rw [Int.add_zero] at hd hA ⊢
        have ht : 5 - (e % 16).toNat = m := by omega
        have hk : k = 10 * (k / 10) + m := by omega
        have hj : k / 10 = 5 ∨ k / 10 = 6 ∨ k / 10 = 7 ∨ k / 10 = 8 ∨ k / 10 = 9 ∨ k / 10 = 10 ∨ k / 10 = 11 ∨ k / 10 = 12 ∨ k / 10 = 13 ∨ k / 10 = 14 ∨ k / 10 = 15 := by omega
        have hm' : m < 10 := by omega
        refine ⟨by omega, ?_⟩
        rcases hj with q | q | q | q | q | q | q | q | q | q | q <;> rw [q] at hk ⊢ <;> subst hk
        · show rAnd (dc e) (rOr (dc e) (5 - (e % 16).toNat)) b.toNat = FK (50 + m) g b c
          rw [FK_5 hm', ht, hd]
        · show rNotN (dc e) (rOr (dc e) (5 - (e % 16).toNat)) 6 b.toNat = FK (60 + m) g b c
          rw [FK_6 hm', ht, hd]
        · show rTest (dc e) (rOr (dc e) (5 - (e % 16).toNat)) b.toNat = FK (70 + m) g b c
          rw [FK_7 hm', ht, hd]
        · show rSum (dc e) (rOr (dc e) (5 - (e % 16).toNat)) b.toNat = FK (80 + m) g b c
          rw [FK_8 hm', ht, hd]
        · show rProd (dc e) (rOr (dc e) (5 - (e % 16).toNat)) b.toNat = FK (90 + m) g b c
          rw [FK_9 hm', ht, hd]
        · show rPart (dc e) (rOr (dc e) (5 - (e % 16).toNat)) b.toNat = FK (100 + m) g b c
          rw [FK_10 hm', ht, hd]
        · show rst (dc e) (spM (dc e)) (rPart (dc e) (rOr (dc e) (5 - (e % 16).toNat))) b.toNat = FK (110 + m) g b c
          rw [FK_11 hm', ht, hd]
        · show rst (dc e) (spAd (dc e)) (rProd (dc e) (rOr (dc e) (5 - (e % 16).toNat))) b.toNat = FK (120 + m) g b c
          rw [FK_12 hm', ht, hd]
        · show rst (dc e) (isWd (dc e) wAnd) (rNotN (dc e) (rOr (dc e) (5 - (e % 16).toNat)) 6) b.toNat = FK (130 + m) g b c
          rw [FK_13 hm', ht, hd]
        · show rst (dc e) (isWd (dc e) wOr) (rAnd (dc e) (rOr (dc e) (5 - (e % 16).toNat))) b.toNat = FK (140 + m) g b c
          rw [FK_14 hm', ht, hd]
        · show rNotN (dc e) (rOr (dc e) (5 - (e % 16).toNat)) c.toNat b.toNat = FK (150 + m) g b c
          rw [FK_15 hm', ht, hd]
theorem eK0_lt {m k : Nat} {q : Nat × Int} (hm : m < 6) (h : lvK0 m k = some q) : k < 1000 ∧ q.1 < 1000 := by
  unfold lvK0 at h
  cases h1 : Nat.beq k (41 + m) with
  | true =>
    rw [h1, cond_true] at h
    cases h
    have := Nat.eq_of_beq_eq_true h1
    exact ⟨by omega, by decide⟩
  | false =>
    rw [h1, cond_false] at h
    cases h2 : Nat.beq k (40 + m) with
    | true =>
      rw [h2, cond_true] at h
      cases h
      have := Nat.eq_of_beq_eq_true h2
      exact ⟨by omega, by decide⟩
    | false =>
      rw [h2, cond_false] at h
      cases h3 : ((Nat.ble 50 k && Nat.blt k 160) && Nat.beq (k % 10) m) with
      | false => rw [h3] at h; cases h
      | true =>
        rw [h3, cond_true] at h
        cases h
        simp only [Bool.and_eq_true] at h3
        have a2 : k + 1 ≤ 160 := Nat.le_of_ble_eq_true h3.1.2
        exact ⟨by omega, by dsimp only; omega⟩
theorem eqT_E {q : Nat} (h : q < 12) (h4 : q ≠ 4) : eqT (300 + 10 * q) = eqE q := by
  unfold eqT
  rw [show (300 + 10 * q) / 10 = (25 + q) + 5 by omega]
  show (if 25 ≤ 25 + q then eqE (25 + q - 25) else _) = _
  rw [if_pos (by omega), show 25 + q - 25 = q by omega]
theorem RK_E {m k : Nat} {q : Nat × Int} (hm : m < 6) (h : lvK m k = some q) {e g b c d : Int} (hd : dc (e + q.2) = dc g) (hA : (e + q.2) % 16 = 5 - m + q.2) : RK q.1 (e + q.2) b c d ↔ RK k g b c d := by
  unfold lvK at h
  cases h1 : Nat.blt k 1000 with
  | true =>
    rw [h1, cond_true] at h
    have hl := eK0_lt hm h
    rw [RK_f hl.1, RK_f hl.2, (FK_E hm h hd hA (b := b) (c := c)).2]
  | false =>
    rw [h1, cond_false] at h
    cases h2 : Nat.blt k 2000 with
    | true => rw [h2] at h; cases h
    | false =>
      rw [h2, cond_false] at h
      have n2 : 2000 ≤ k := by
        have : ¬ k < 2000 := fun z => by rw [show Nat.blt k 2000 = true from Nat.ble_eq_true_of_le z] at h2; cases h2
        omega
      cases h3 : Nat.blt k 3000 with
      | true =>
        rw [h3, cond_true] at h
        split at h
        next q0 hq =>
          cases h
          dsimp only at hd hA ⊢
          have hl := eK0_lt hm hq
          have hk : k = 2000 + (k - 2000) := by omega
          rw [hk, RK_t hl.1, RK_t hl.2, (FK_E hm hq hd hA (b := b) (c := 0)).2]
        next => cases h
      | false =>
        rw [h3, cond_false] at h
        have n3 : 3000 ≤ k := by
          have : ¬ k < 3000 := fun z => by rw [show Nat.blt k 3000 = true from Nat.ble_eq_true_of_le z] at h3; cases h3
          omega
        cases h4 : Nat.blt k 3120 with
        | false => rw [h4] at h; cases h
        | true =>
          rw [h4, cond_true] at h
          have n4 : k + 1 ≤ 3120 := Nat.le_of_ble_eq_true h4
          unfold lvK3 at h
          obtain ⟨i, hi⟩ : ∃ i, k = 3000 + i := ⟨k - 3000, by omega⟩
          subst hi
          rw [show 3000 + i - 3000 = i by omega] at h
          cases h5 : Nat.beq (i % 10) m with
          | false => rw [h5] at h; cases h
          | true =>
            rw [h5, cond_true] at h
            have e5 := Nat.eq_of_beq_eq_true h5
            have hm' : m < 10 := by omega
            have f1 : ∀ (K : Nat), (K = 5 ∨ K = 6 ∨ K = 8 ∨ K = 9 ∨ K = 11 ∨ K = 12 ∨ K = 13 ∨ K = 14 ∨ K = 15) → dc (e + 0) = dc g → (e + 0) % 16 = 5 - m + 0 → ∀ b c : Int, FK (300 + 10 * K) (e + 0) b c = FK (10 * K + m) g b c := fun K hK hd hA b c => by
              have hq : lvK0 m (10 * K + m) = some (300 + 10 * K, 0) := by
                unfold lvK0
                have b1 : Nat.beq (10 * K + m) (41 + m) = false := by
                  cases hb : Nat.beq (10 * K + m) (41 + m) with
                  | false => rfl
                  | true => have := Nat.eq_of_beq_eq_true hb; omega
                have b2 : Nat.beq (10 * K + m) (40 + m) = false := by
                  cases hb : Nat.beq (10 * K + m) (40 + m) with
                  | false => rfl
                  | true => have := Nat.eq_of_beq_eq_true hb; omega
                have b3 : Nat.ble 50 (10 * K + m) = true := Nat.ble_eq_true_of_le (by omega)
                have b4 : Nat.blt (10 * K + m) 160 = true := Nat.ble_eq_true_of_le (by omega)
                have b5 : (10 * K + m) % 10 = m := by omega
                have b6 : (10 * K + m) / 10 = K := by omega
                rw [b1, b2, b3, b4, b5, b6, Nat.beq_refl]
                rfl
              exact (FK_E (q := (300 + 10 * K, 0)) hm hq hd hA).2
            have f4 : dc (e + 0) = dc g → (e + 0) % 16 = 5 - m + 0 → ∀ b c : Int, FK 340 (e + 0) b c = FK (41 + m) g b c := fun hd hA b c => by
              have hq : lvK0 m (41 + m) = some (340, 0) := by
                unfold lvK0
                rw [Nat.beq_refl]
                rfl
              exact (FK_E (q := (340, 0)) hm hq hd hA).2
            cases h6 : Nat.blt i 40 with
            | true =>
              rw [h6, cond_true] at h
              cases h
              have n6 : i + 1 ≤ 40 := Nat.le_of_ble_eq_true h6
              dsimp only at hd hA ⊢
              have hi : i = 10 * (i / 10) + m := by omega
              rw [show 3300 + 10 * (i / 10) = 3000 + (300 + 10 * (i / 10)) by omega, RK_e (by omega), RK_e (by omega), eqT_E (by omega) (by omega)]
              have hj : i / 10 = 0 ∨ i / 10 = 1 ∨ i / 10 = 2 ∨ i / 10 = 3 := by omega
              rcases hj with z | z | z | z
              · rw [z] at hi ⊢
                rw [show eqT i = ((90 + m, 0), (110 + m, 0)) by unfold eqT; rw [z, e5]]
                rw [show eqE 0 = ((390, 0), (410, 0)) from rfl]
                dsimp only
                have g1 : ∀ b c : Int, FK 390 (e + 0) b c = FK (90 + m) g b c := f1 9 (by omega) hd hA
                have g2 : ∀ b c : Int, FK 410 (e + 0) b c = FK (110 + m) g b c := f1 11 (by omega) hd hA
                rw [g1, g2]
              · rw [z] at hi ⊢
                rw [show eqT i = ((80 + m, 0), (120 + m, 0)) by unfold eqT; rw [z, e5]]
                rw [show eqE 1 = ((380, 0), (420, 0)) from rfl]
                dsimp only
                have g1 : ∀ b c : Int, FK 380 (e + 0) b c = FK (80 + m) g b c := f1 8 (by omega) hd hA
                have g2 : ∀ b c : Int, FK 420 (e + 0) b c = FK (120 + m) g b c := f1 12 (by omega) hd hA
                rw [g1, g2]
              · rw [z] at hi ⊢
                rw [show eqT i = ((50 + m, 0), (130 + m, 0)) by unfold eqT; rw [z, e5]]
                rw [show eqE 2 = ((350, 0), (430, 0)) from rfl]
                dsimp only
                have g1 : ∀ b c : Int, FK 350 (e + 0) b c = FK (50 + m) g b c := f1 5 (by omega) hd hA
                have g2 : ∀ b c : Int, FK 430 (e + 0) b c = FK (130 + m) g b c := f1 13 (by omega) hd hA
                rw [g1, g2]
              · rw [z] at hi ⊢
                rw [show eqT i = ((41 + m, 0), (140 + m, 0)) by unfold eqT; rw [z, e5]]
                rw [show eqE 3 = ((340, 0), (440, 0)) from rfl]
                dsimp only
                have g2 : ∀ b c : Int, FK 440 (e + 0) b c = FK (140 + m) g b c := f1 14 (by omega) hd hA
                rw [f4 hd hA, g2]
            | false =>
              rw [h6, cond_false] at h
              cases h7 : Nat.ble 50 i with
              | false => rw [h7] at h; cases h
              | true =>
                rw [h7, cond_true] at h
                cases h
                have n7 := Nat.le_of_ble_eq_true h7
                dsimp only at hd hA ⊢
                obtain ⟨j, hj⟩ : ∃ j, i / 10 = j + 5 := ⟨i / 10 - 5, by omega⟩
                have hi : i = 50 + 10 * j + m := by omega
                rw [hj, show 3350 + 10 * (j + 5 - 5) = 3000 + (300 + 10 * (j + 5)) by omega, RK_e (by omega), RK_e (by omega), eqT_E (by omega) (by omega)]
                subst hi
                rw [eqN9 hm' (by omega)]
                have he : eqE (j + 5) = ((360, 0), (450, ((j : Nat) : Int))) := by
                  show ((360, (0 : Int)), (450, ((j + 5 - 5 : Nat) : Int))) = _
                  rw [show j + 5 - 5 = j by omega]
                rw [he]
                dsimp only
                have g1 : ∀ b c : Int, FK 360 (e + 0) b c = FK (60 + m) g b c := f1 6 (by omega) hd hA
                have g2 : ∀ b c : Int, FK 450 (e + 0) b c = FK (150 + m) g b c := f1 15 (by omega) hd hA
                rw [g1, g2]
theorem vx_tl {x : Nat → Int} {a b : Nat × Int} {l : List (Nat × Int)} {k : Nat} : vx x (a :: l) (k + 1) = vx x (b :: l) (k + 1) := rfl
theorem lvP_H {m : Nat} (hm : m < 6) {x : Nat → Int} (hd : dc (x 60) = dc (x 0)) (hA : x 60 % 16 = 5 - m) {p : eRl} (h0 : hd0 m p = true) : rlH x (lvP m p) ↔ rlH x p := by
  unfold hd0 at h0
  unfold lvP
  cases hk : lvK m p.1 with
  | none => exact Iff.rfl
  | some q =>
    rw [hk] at h0
    obtain ⟨k, ps⟩ := p
    cases ps with
    | nil => cases h0
    | cons a l =>
      have ha : a = (0, 0) := of_decide_eq_true h0
      subst ha
      dsimp only at hk ⊢
      have hq : q.2 = 0 ∨ q.2 = 1 := by
        have h9 : ∀ k q, lvK0 m k = some q → q.2 = 0 ∨ q.2 = 1 := fun k q h => by
          unfold lvK0 at h
          cases h1 : Nat.beq k (41 + m) with
          | true => rw [h1, cond_true] at h; cases h; exact Or.inl rfl
          | false =>
            rw [h1, cond_false] at h
            cases h2 : Nat.beq k (40 + m) with
            | true => rw [h2, cond_true] at h; cases h; exact Or.inr rfl
            | false =>
              rw [h2, cond_false] at h
              cases h3 : ((Nat.ble 50 k && Nat.blt k 160) && Nat.beq (k % 10) m) with
              | false => rw [h3] at h; cases h
              | true => rw [h3, cond_true] at h; cases h; exact Or.inl rfl
        unfold lvK at hk
        cases h1 : Nat.blt k 1000 with
        | true => rw [h1, cond_true] at hk; exact h9 _ _ hk
        | false =>
          rw [h1, cond_false] at hk
          cases h2 : Nat.blt k 2000 with
          | true => rw [h2] at hk; cases hk
          | false =>
            rw [h2, cond_false] at hk
            cases h3 : Nat.blt k 3000 with
            | true =>
              rw [h3, cond_true] at hk
              split at hk
              next q0 hq => cases hk; exact (show q0.2 = 0 ∨ q0.2 = 1 from h9 _ _ hq)
              next => cases hk
            | false =>
              rw [h3, cond_false] at hk
              cases h4 : Nat.blt k 3120 with
              | false => rw [h4] at hk; cases hk
              | true =>
                rw [h4, cond_true] at hk
                unfold lvK3 at hk
                cases h5 : Nat.beq ((k - 3000) % 10) m with
                | false => rw [h5] at hk; cases hk
                | true =>
                  rw [h5, cond_true] at hk
                  cases h6 : Nat.blt (k - 3000) 40 with
                  | true => rw [h6, cond_true] at hk; cases hk; exact Or.inl rfl
                  | false =>
                    rw [h6, cond_false] at hk
                    cases h7 : Nat.ble 50 (k - 3000) with
                    | false => rw [h7] at hk; cases hk
                    | true => rw [h7, cond_true] at hk; cases hk; exact Or.inl rfl
      have hd9 : dc (x 60 + q.2) = dc (x 0) := by
        rw [← hd]
        rcases hq with e | e
        · rw [e, Int.add_zero]
        · rw [e]
          unfold dc
          congr 1
          omega
      have hA9 : (x 60 + q.2) % 16 = 5 - m + q.2 := by
        rcases hq with e | e <;> rw [e] <;> omega
      show RK q.1 (x 60 + q.2) _ _ _ ↔ RK k (x 0 + 0) _ _ _
      rw [Int.add_zero]
      exact RK_E hm hk hd9 hA9
/-- the rules of a level, but those of no level at all -/
def exL (m : Nat) : List eRu := chRules m ++ ([rT1 m, rT2 m 60, rT2 m 61, rT3 m, rT4 m 60, rT4 m 61, rN1 m, rN5 m, rP1 m, rP2 m, rP3 m, rP4 m, rP5 m, rP6 m, rP7 m, rP8 m, rP8b m, rP9 m, rP9f m] ++ ((List.range 6).map (rN2 m) ++ ((List.range 7).map (rN3 m) ++ ((List.range 7).map (rN4 m) ++ (ntR m ++ [ch3n (90 + m) m 42 47, ch3n (80 + m) (10 + m) 43 45, rT1n m, rP8n m, rP3n m])))))
theorem exL_ok' {m : Nat} (hm : m < 6) : ∀ r ∈ exL m, ruH r := fun r hr => by
  have h1 := exRules_ok (m := m) (by omega)
  have h2 := exM_ok (m := m) (by omega)
  unfold exL at hr
  simp only [List.mem_append] at hr
  rcases hr with hr | hr | hr | hr | hr | hr | hr
  · exact h1 r (by unfold exRules; simp only [List.mem_append]; exact Or.inl hr)
  · refine h1 r ?_
    unfold exRules
    simp only [List.mem_append]
    refine Or.inr (Or.inl ?_)
    simp only [List.mem_cons, List.not_mem_nil, or_false] at hr ⊢
    rcases hr with rfl | rfl | rfl | rfl | rfl | rfl | rfl | rfl | rfl | rfl | rfl | rfl | rfl | rfl | rfl | rfl | rfl | rfl | rfl
    all_goals (repeat (first | exact Or.inl rfl | exact rfl | apply Or.inr))
  · exact h1 r (by unfold exRules; simp only [List.mem_append]; exact Or.inr (Or.inr (Or.inl hr)))
  · exact h1 r (by unfold exRules; simp only [List.mem_append]; exact Or.inr (Or.inr (Or.inr (Or.inl hr))))
  · exact h1 r (by unfold exRules; simp only [List.mem_append]; exact Or.inr (Or.inr (Or.inr (Or.inr hr))))
  · exact h2 r (by unfold exM; simp only [List.mem_append]; exact Or.inl hr)
  · refine h2 r ?_
    unfold exM
    simp only [List.mem_append]
    refine Or.inr ?_
    simp only [List.mem_cons, List.not_mem_nil, or_false] at hr ⊢
    rcases hr with rfl | rfl | rfl | rfl | rfl
    all_goals (repeat (first | exact Or.inl rfl | exact rfl | apply Or.inr))
def evR : List eRu := (exL 0).map (lvRw 0)
def eqRl (p q : eRl) : Bool := Nat.beq p.1 q.1 && decide (p.2 = q.2)
theorem eqRl_ok {p q : eRl} (h : eqRl p q = true) : p = q := by
  obtain ⟨h1, h2⟩ := Bool.and_eq_true_iff.mp h
  exact Prod.ext (Nat.eq_of_beq_eq_true h1) (of_decide_eq_true h2)
def eqRls : List eRl → List eRl → Bool
  | [], [] => true
  | p :: l, q :: r => eqRl p q && eqRls l r
  | _, _ => false
theorem eqRls_ok : ∀ {l r : List eRl}, eqRls l r = true → l = r
  | [], [], _ => rfl
  | p :: l, q :: r, h => by
    have h' : (eqRl p q && eqRls l r) = true := h
    obtain ⟨h1, h2⟩ := Bool.and_eq_true_iff.mp h'
    rw [eqRl_ok h1, eqRls_ok h2]
  | [], _ :: _, h => by cases h
  | _ :: _, [], h => by cases h
def eqRu (p q : eRu) : Bool := eqRl p.1 q.1 && (eqRls p.2.1 q.2.1 && (decide (p.2.2.1 = q.2.2.1) && (decide (p.2.2.2.1 = q.2.2.2.1) && decide (p.2.2.2.2 = q.2.2.2.2))))
theorem eqRu_ok {p q : eRu} (h : eqRu p q = true) : p = q := by
  obtain ⟨h1, h⟩ := Bool.and_eq_true_iff.mp h
  obtain ⟨h2, h⟩ := Bool.and_eq_true_iff.mp h
  obtain ⟨h3, h⟩ := Bool.and_eq_true_iff.mp h
  obtain ⟨h4, h5⟩ := Bool.and_eq_true_iff.mp h
  exact Prod.ext (eqRl_ok h1) (Prod.ext (eqRls_ok h2) (Prod.ext (of_decide_eq_true h3) (Prod.ext (of_decide_eq_true h4) (of_decide_eq_true h5))))
def eqRus : List eRu → List eRu → Bool
  | [], [] => true
  | p :: l, q :: r => eqRu p q && eqRus l r
  | _, _ => false
theorem eqRus_ok : ∀ {l r : List eRu}, eqRus l r = true → l = r
  | [], [], _ => rfl
  | p :: l, q :: r, h => by
    have h' : (eqRu p q && eqRus l r) = true := h
    obtain ⟨h1, h2⟩ := Bool.and_eq_true_iff.mp h'
    rw [eqRu_ok h1, eqRus_ok h2]
  | [], _ :: _, h => by cases h
  | _ :: _, [], h => by cases h
theorem evR_b : (List.range 6).all (fun m => eqRus ((exL m).map (lvRw m)) evR && (exL m).all (fun r => (r.1 :: r.2.1).all (hd0 m))) = true := by decide +kernel
theorem evR_m (m : Nat) (hm : m < 6) : (exL m).map (lvRw m) = evR ∧ (exL m).all (fun r => (r.1 :: r.2.1).all (hd0 m)) = true := by
  have h := List.all_eq_true.mp evR_b m (List.mem_range.mpr hm)
  obtain ⟨h1, h2⟩ := Bool.and_eq_true_iff.mp h
  exact ⟨eqRus_ok h1, h2⟩
theorem evR_ok : ∀ r ∈ evR, ruH r := fun r hr x hp hc hn hl => by
  have hlk : dc (x 60) = dc (x 0) ∧ x 60 % 16 = x 61 := by
    have h0 : lvLk ∈ r.2.1 := by
      obtain ⟨r0, -, rfl⟩ := List.mem_map.mp hr
      exact List.mem_cons_self
    exact vr_H.mp (hp _ h0)
  have hA : 0 ≤ x 61 ∧ x 61 ≤ 5 := by
    have h0 : ((61, 0, 5) : Nat × Int × Int) ∈ r.2.2.1 := by
      obtain ⟨r0, -, rfl⟩ := List.mem_map.mp hr
      exact List.mem_cons_self
    exact hc _ h0
  obtain ⟨m, hm⟩ : ∃ m : Nat, x 61 = 5 - (m : Int) := ⟨(5 - x 61).toNat, by omega⟩
  have hm6 : m < 6 := by omega
  obtain ⟨q1, q2⟩ := evR_m m hm6
  rw [← q1] at hr
  obtain ⟨r1, hr1, rfl⟩ := List.mem_map.mp hr
  have h9 := List.all_eq_true.mp (List.all_eq_true.mp q2 r1 hr1)
  refine (lvP_H hm6 hlk.1 (by rw [hlk.2, hm]) (h9 _ List.mem_cons_self)).mpr ?_
  refine exL_ok' hm6 r1 hr1 x (fun p hp9 => ?_) (fun c hc9 => hc c (List.mem_cons_of_mem _ hc9)) hn hl
  exact (lvP_H hm6 hlk.1 (by rw [hlk.2, hm]) (h9 p (List.mem_cons_of_mem _ hp9))).mp (hp _ (List.mem_cons_of_mem _ (List.mem_map.mpr ⟨p, hp9, rfl⟩)))
/-! where no EXPR can begin; where no level is left -/
def lO0 : eRu := (vr 2340 60 7 6 7, [lvLk, vr 4 0 7 9 4], [(6, 1, 1), (7, 0, big)], [(4, [1, 2, 40])], [])
def lO1 : eRu := (vr 2340 60 7 6 7, [lvLk, vr 4 0 7 9 4, vr 36 0 7 10 5], [(6, 1, 1), (7, 0, big)], [(4, [40]), (5, [1, 2])], [])
def lO1n : eRu := (vr 2340 60 7 6 7, [lvLk, vr 1014 0 7 4 9, vr 36 0 7 10 5], [(6, 1, 1), (7, 0, big), (4, 40, 40)], [(5, [1, 2])], [])
def lO2 (v : Int) : eRu := (vr 2340 60 7 6 7, [lvLk, vr 4 0 7 9 4], [(61, 6, 6), (4, v, v), (6, 2, 2), (7, 0, big)], [], [])
theorem RK_oE {a b c d : Int} (hc : 1 ≤ c) (h : rOr (dc a) (6 - (a % 16).toNat) b.toNat = -(1 + c + 8 * d)) : RK 2340 a b c d := RK_ti (k := 340) (by decide) (by omega) h
theorem flt1 {d c : Int} (hd : 0 ≤ d) (hc : c = 1) : flt 1 d.toNat = -(1 + c + 8 * d) := by
  unfold flt
  rw [Int.toNat_of_nonneg hd]
  omega
theorem lO0_ok : ruH lO0 := fun x hp hc hn _ => by
  have hlk : dc (x 60) = dc (x 0) ∧ x 60 % 16 = x 61 := vr_H.mp (hp _ lm0)
  have p1 := (RK_f (by decide)).mp (vr_H.mp (hp _ lm1))
  have c3 := hc (6, 1, 1) lm0
  have c4 := hc (7, 0, big) lm1
  have n1 := hn (4, [1, 2, 40]) lm0
  dsimp only at c3 c4 n1
  refine vr_H.mpr (RK_oE (by omega) ?_)
  rw [FK_4k] at p1
  rw [hlk.1, rOr_no (mayB_no (fun e => n1 (by rw [p1, e]; decide)) (fun e => n1 (by rw [p1, e]; decide)) (fun e => n1 (by rw [p1, e]; decide)))]
  exact flt1 c4.1 (by omega)
theorem lO1_ok : ruH lO1 := fun x hp hc hn _ => by
  have hlk : dc (x 60) = dc (x 0) ∧ x 60 % 16 = x 61 := vr_H.mp (hp _ lm0)
  have p1 := (RK_f (by decide)).mp (vr_H.mp (hp _ lm1))
  have p2 := (RK_f (by decide)).mp (vr_H.mp (hp _ lm2))
  have c3 := hc (6, 1, 1) lm0
  have c4 := hc (7, 0, big) lm1
  have n1 := hn (4, [40]) lm0
  have n2 := hn (5, [1, 2]) lm1
  dsimp only at c3 c4 n1 n2
  refine vr_H.mpr (RK_oE (by omega) ?_)
  obtain ⟨q1, q2, q3⟩ := noMay p1 p2 n1 n2
  rw [hlk.1, rOr_no (mayB_no q1 q2 q3)]
  exact flt1 c4.1 (by omega)
theorem lO1n_ok : ruH lO1n := fun x hp hc hn _ => by
  have hlk : dc (x 60) = dc (x 0) ∧ x 60 % 16 = x 61 := vr_H.mp (hp _ lm0)
  have p1 := RK_14.mp (vr_H.mp (hp _ lm1))
  have p2 := (RK_f (by decide)).mp (vr_H.mp (hp _ lm2))
  have c3 := hc (6, 1, 1) lm0
  have c4 := hc (7, 0, big) lm1
  have c5 := hc (4, 40, 40) lm2
  have n2 := hn (5, [1, 2]) lm0
  dsimp only at c3 c4 c5 n2
  refine vr_H.mpr (RK_oE (by omega) ?_)
  obtain ⟨q1, q2, q3⟩ := noMay2 p1 (by omega) p2 n2
  rw [hlk.1, rOr_no (mayB_no q1 q2 q3)]
  exact flt1 c4.1 (by omega)
theorem lO2_ok {v : Int} (hv : v = 1 ∨ v = 2 ∨ v = 40) : ruH (lO2 v) := fun x hp hc _ _ => by
  have hlk : dc (x 60) = dc (x 0) ∧ x 60 % 16 = x 61 := vr_H.mp (hp _ lm0)
  have p1 := (RK_f (by decide)).mp (vr_H.mp (hp _ lm1))
  have c0 := hc (61, 6, 6) lm0
  have c1 := hc (4, v, v) lm1
  have c3 := hc (6, 2, 2) lm2
  have c4 := hc (7, 0, big) lm3
  dsimp only at c0 c1 c3 c4
  refine vr_H.mpr (RK_oE (by omega) ?_)
  rw [FK_4k] at p1
  have hk : kd (dc (x 0)) (x 7).toNat = v := by omega
  have hb : mayB (dc (x 0)) (x 7).toNat = true := by
    unfold mayB
    rw [hk]
    rcases hv with rfl | rfl | rfl <;> rfl
  rw [hlk.1, show 6 - (x 60 % 16).toNat = 0 by omega]
  show (if mayB (dc (x 0)) (x 7).toNat then flt 2 (x 7).toNat else flt 1 (x 7).toNat) = _
  rw [hb, if_pos rfl]
  unfold flt
  rw [Int.toNat_of_nonneg c4.1]
  omega
/-! a code and its text: at the outmost level; a level further in -/
def lkA : eRu := (vr 1030 0 0 61 62, [vr 205 4 5 6 0], [(61, 0, 0)], [], [])
def lkB : eRu := ((1030, [(60, 1), (0, 0), (61, 1), (62, 0)]), [vr 1030 60 0 61 63], [(61, 0, 14)], [], [])
theorem lkA_ok : ruH lkA := fun x hp hc _ _ => by
  have p0 : x 0 = enc ((dc (x 4)).take (x 5).toNat) := (RK_f (by decide)).mp (vr_H.mp (hp _ lm0))
  have c0 := hc (61, 0, 0) lm0
  dsimp only at c0
  refine vr_H.mpr (show dc (x 0) = dc (x 0) ∧ x 0 % 16 = x 61 from ⟨rfl, ?_⟩)
  unfold enc at p0
  omega
theorem lkB_ok : ruH lkB := fun x hp hc _ _ => by
  have p0 : dc (x 60) = dc (x 0) ∧ x 60 % 16 = x 61 := vr_H.mp (hp _ lm0)
  have c0 := hc (61, 0, 14) lm0
  dsimp only at c0
  show dc (x 60 + 1) = dc (x 0 + 0) ∧ (x 60 + 1) % 16 = x 61 + 1
  rw [Int.add_zero, ← p0.1]
  refine ⟨?_, by omega⟩
  unfold dc
  congr 1
  omega
/-! how many numbers lie on the stack, by how deep the reader is -/
def dl0 : eRu := (vr 1031 1 2 3 4, [], [(1, -big, 0), (2, 0, big), (3, 0, big)], [], [])
def dlG : eRu := (vr 1031 1 2 1 4, [], [(2, 0, big)], [], [])
theorem dlG_ok : ruH dlG := fun x _ hc _ _ => by
  have c2 := hc (2, 0, big) lm0
  dsimp only at c2
  refine vr_H.mpr (show x 1 ≤ 5 * x 2 + x 1 from ?_)
  omega
def dlS (dd s : Int) : eRu := ((1031, [(1, dd), (2, s), (3, 0), (4, 0)]), [vr 1031 1 2 5 6], [], [], [(5, 3, dd - 5 * s)])
theorem dl0_ok : ruH dl0 := fun x _ hc _ _ => by
  have c1 := hc (1, -big, 0) lm0
  have c2 := hc (2, 0, big) lm1
  have c3 := hc (3, 0, big) lm2
  dsimp only at c1 c2 c3
  refine vr_H.mpr (show x 1 ≤ 5 * x 2 + x 3 from ?_)
  omega
theorem dlS_ok (dd s : Int) : ruH (dlS dd s) := fun x hp _ _ hl => by
  have p0 : x 1 ≤ 5 * x 2 + x 5 := vr_H.mp (hp _ lm0)
  have c1 := hl (5, 3, dd - 5 * s) lm0
  dsimp only at c1
  refine (show RK 1031 (x 1 + dd) (x 2 + s) (x 3 + 0) (x 4 + 0) from (show x 1 + dd ≤ 5 * (x 2 + s) + (x 3 + 0) from ?_))
  omega
def dq0 : eRu := (vr 1032 1 2 3 4, [], [(1, -big, 0), (2, 0, big), (3, 0, big)], [], [])
def dqS (dd s : Int) : eRu := ((1032, [(1, dd), (2, s), (3, 0), (4, 0)]), [vr 1032 1 2 5 6], [], [], [(5, 3, dd - 12 * s)])
theorem dq0_ok : ruH dq0 := fun x _ hc _ _ => by
  have c1 := hc (1, -big, 0) lm0
  have c2 := hc (2, 0, big) lm1
  have c3 := hc (3, 0, big) lm2
  dsimp only at c1 c2 c3
  refine vr_H.mpr (show x 1 ≤ 12 * x 2 + x 3 from ?_)
  omega
theorem dqS_ok (dd s : Int) : ruH (dqS dd s) := fun x hp _ _ hl => by
  have p0 : x 1 ≤ 12 * x 2 + x 5 := vr_H.mp (hp _ lm0)
  have c1 := hl (5, 3, dd - 12 * s) lm0
  dsimp only at c1
  refine (show RK 1032 (x 1 + dd) (x 2 + s) (x 3 + 0) (x 4 + 0) from (show x 1 + dd ≤ 12 * (x 2 + s) + (x 3 + 0) from ?_))
  omega
def dqL : List Int := [-2, -1, 0, 1, 2, 3, 4, 5, 6, 7, 8, 9, 10]
def dlR : List eRu := dl0 :: dq0 :: dlG :: (dqL.map (fun dd => dqS dd 0) ++ (dqL.map (fun dd => dqS dd 1) ++ ([-2, -1, 0, 1, 2, 3].map (fun dd => dlS dd 0) ++ [-2, -1, 0, 1, 2, 3].map (fun dd => dlS dd 1))))
theorem dlR_ok : ∀ r ∈ dlR, ruH r := fun r hr => by
  rcases List.mem_cons.mp hr with rfl | hr
  · exact dl0_ok
  rcases List.mem_cons.mp hr with rfl | hr
  · exact dq0_ok
  rcases List.mem_cons.mp hr with rfl | hr
  · exact dlG_ok
  simp only [List.mem_append] at hr
  rcases hr with hr | hr | hr | hr
  · obtain ⟨dd, -, rfl⟩ := List.mem_map.mp hr
    exact dqS_ok _ _
  · obtain ⟨dd, -, rfl⟩ := List.mem_map.mp hr
    exact dqS_ok _ _
  · obtain ⟨dd, -, rfl⟩ := List.mem_map.mp hr
    exact dlS_ok _ _
  · obtain ⟨dd, -, rfl⟩ := List.mem_map.mp hr
    exact dlS_ok _ _
def lvR : List eRu := [lkA, lkB, lO0, lO1, lO1n, lO2 1, lO2 2, lO2 40]
theorem lvR_ok : ∀ r ∈ lvR, ruH r := fun r hr => by
  simp only [lvR, List.mem_cons, List.not_mem_nil, or_false] at hr
  rcases hr with rfl | rfl | rfl | rfl | rfl | rfl | rfl | rfl
  · exact lkA_ok
  · exact lkB_ok
  · exact lO0_ok
  · exact lO1_ok
  · exact lO1n_ok
  · exact lO2_ok (Or.inl rfl)
  · exact lO2_ok (Or.inr (Or.inl rfl))
  · exact lO2_ok (Or.inr (Or.inr rfl))
def evA : List eRu := evR ++ (lvR ++ dlR)
theorem evA_ok : ∀ r ∈ evA, ruH r := all_app evR_ok (all_app lvR_ok dlR_ok)
/-! told at once: an EXPR at the outmost level -/
def fwE1 : eRu := (vr 46 0 6 12 7, [vr 340 0 6 12 7, vr 1030 0 0 61 62], [(61, 0, 0)], [], [])
def fwE2 : eRu := (vr 2046 0 6 21 22, [vr 2340 0 6 21 22, vr 1030 0 0 61 62], [(61, 0, 0)], [], [])
theorem FK_E0 {a b c : Int} (h : a % 16 = 0) : FK 46 a b c = FK 340 a b c := by
  rw [show (46 : Nat) = 40 + 6 from rfl, FK_4 (by decide)]
  show _ = rOr (dc a) (6 - (a % 16).toNat) b.toNat
  rw [h]
  rfl
theorem fwE1_ok : ruH fwE1 := fun x hp hc _ _ => by
  have p1 := (RK_f (by decide)).mp (vr_H.mp (hp _ lm0))
  have p2 : dc (x 0) = dc (x 0) ∧ x 0 % 16 = x 61 := vr_H.mp (hp _ lm1)
  have c0 := hc (61, 0, 0) lm0
  dsimp only at c0
  refine vr_H.mpr ((RK_f (by decide)).mpr ?_)
  rw [FK_E0 (by omega)]
  exact p1
theorem fwE2_ok : ruH fwE2 := fun x hp hc _ _ => by
  have p1 := (RK_t (k := 340) (by decide)).mp (vr_H.mp (hp _ lm0))
  have p2 : dc (x 0) = dc (x 0) ∧ x 0 % 16 = x 61 := vr_H.mp (hp _ lm1)
  have c0 := hc (61, 0, 0) lm0
  dsimp only at c0
  refine vr_H.mpr ((RK_t (k := 46) (by decide)).mpr ?_)
  rw [FK_E0 (by omega)]
  exact p1
