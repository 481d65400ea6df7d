/-! ===== THE LAW, 3: pictures that say the same; the law's runs ===== -/
section E22
variable {p : Program} {l : Launch} {e : Env} {R : Room} {s : State} {m : MethodId} {args : Array Value} {below : List Frame} {meth : Method} {c : Code} {Q : State → Prop}
variable {D : va_G} {cl : List vw_C} {cA : Nat → ClassId} {A : Nat → Prop} {sb : Nat} {ρ : Nat → Int} {ad0 : Nat → Nat} {h0 nL : Nat} {cc : ByteArray} {own : String}
theorem aG_miss (d : eV) (j : Nat) : ∀ (l : List (Nat × eV)), (∀ q ∈ l, q.1 ≠ j) → aG d l j = d
  | [], _ => rfl
  | q :: r, h => by
    unfold aG
    have h1 : Nat.beq q.1 j = false := by
      cases hb : Nat.beq q.1 j with
      | false => rfl
      | true => exact absurd (Nat.eq_of_beq_eq_true hb) (h q List.mem_cons_self)
    rw [h1, cond_false]
    exact aG_miss d j r (fun z hz => h z (List.mem_cons_of_mem _ hz))
def sbA (d : eV) (l1 l2 : List (Nat × eV)) : Bool := l1.all (fun q => eEq (aG d l1 q.1) (aG d l2 q.1)) && l2.all (fun q => eEq (aG d l1 q.1) (aG d l2 q.1))
theorem sbA_ok {d : eV} {l1 l2 : List (Nat × eV)} (h : sbA d l1 l2 = true) (j : Nat) : aG d l1 j = aG d l2 j := by
  unfold sbA at h
  rw [Bool.and_eq_true] at h
  by_cases h1 : ∃ q ∈ l1, q.1 = j
  · obtain ⟨q, hq, e⟩ := h1
    rw [← e]
    exact eEq_eq (List.all_eq_true.mp h.1 q hq)
  · by_cases h2 : ∃ q ∈ l2, q.1 = j
    · obtain ⟨q, hq, e⟩ := h2
      rw [← e]
      exact eEq_eq (List.all_eq_true.mp h.2 q hq)
    · rw [aG_miss d j l1 (fun q hq e => h1 ⟨q, hq, e⟩), aG_miss d j l2 (fun q hq e => h2 ⟨q, hq, e⟩)]
def sbC (a b : eC) : Bool := match a, b with
  | .inl x, .inl y => Nat.beq x.1 y.1 && eqVs x.2 y.2
  | .inr x, .inr y => Nat.beq x.1 y.1 && (Nat.beq x.2.1 y.2.1 && (eEq x.2.2.1 y.2.2.1 && sbA y.2.2.1 x.2.2.2 y.2.2.2))
  | _, _ => false
theorem sbC_ok {ad : Nat → Nat} {a b : eC} (h : sbC a b = true) {x : va_E} (g : gC ρ ad sb cA a x) : gC ρ ad sb cA b x := by
  match a, b, h with
  | .inl a, .inl b, h =>
    unfold sbC at h
    rw [Bool.and_eq_true] at h
    obtain ⟨a1, a2⟩ := a
    obtain ⟨b1, b2⟩ := b
    have e1 := Nat.eq_of_beq_eq_true h.1
    have e2 := eqVs_eq h.2
    dsimp only at e1 e2
    subst e1 e2
    exact g
  | .inr a, .inr b, h =>
    unfold sbC at h
    simp only [Bool.and_eq_true] at h
    obtain ⟨a1, a2, a3, a4⟩ := a
    obtain ⟨b1, b2, b3, b4⟩ := b
    obtain ⟨q1, q2, q3, e4⟩ := h
    have e1 : a1 = b1 := Nat.eq_of_beq_eq_true q1
    have e2 : a2 = b2 := Nat.eq_of_beq_eq_true q2
    have e3 : a3 = b3 := eEq_eq q3
    have e4 : sbA b3 a4 b4 = true := e4
    subst e1
    subst e2
    subst e3
    have e5 := sbA_ok e4
    unfold gC at g ⊢
    dsimp only at g ⊢
    split at g
    · obtain ⟨f, h1, h2⟩ := g
      exact ⟨f, h1, fun j hj => by rw [← e5 j]; exact h2 j hj⟩
    · obtain ⟨f, h1, h2⟩ := g
      exact ⟨f, h1, fun j hj => by rw [← e5 j]; exact h2 j hj⟩
    · obtain ⟨f, h1, h2⟩ := g
      exact ⟨f, h1, fun j hj => by rw [← e5 j]; exact h2 j hj⟩
    · trivial
  | .inl _, .inr _, h => cases h
  | .inr _, .inl _, h => cases h
def sbH : eH → eH → Bool
  | [], [] => true
  | a :: as, b :: bs => sbC a b && sbH as bs
  | _, _ => false
theorem sbH_at : ∀ {h h' : eH}, sbH h h' = true → h.length = h'.length ∧ ∀ (k : Nat) (c' : eC), h'[k]? = some c' → ∃ c, h[k]? = some c ∧ sbC c c' = true
  | [], [], _ => ⟨rfl, fun k c' hk => by simp at hk⟩
  | a :: as, b :: bs, h => by
    unfold sbH at h
    rw [Bool.and_eq_true] at h
    obtain ⟨h1, h2⟩ := sbH_at h.2
    refine ⟨by show as.length + 1 = bs.length + 1; rw [h1], fun k c' hk => ?_⟩
    cases k with
    | zero =>
      have e : b = c' := Option.some.inj hk
      subst e
      exact ⟨a, rfl, h.1⟩
    | succ k =>
      rw [List.getElem?_cons_succ] at hk ⊢
      exact h2 k c' hk
  | [], _ :: _, h => by cases h
  | _ :: _, [], h => by cases h
theorem sbH_ok {ad : Nat → Nat} {h h' : eH} {ws : va_W} (hs : sbH h h' = true) (g : gH ρ ad sb cA h ws) : gH ρ ad sb cA h' ws := by
  obtain ⟨h1, h2⟩ := sbH_at hs
  refine ⟨by rw [← h1]; exact g.1, fun k c' hk => ?_⟩
  obtain ⟨c, hc1, hc2⟩ := h2 k c' hk
  obtain ⟨x, g1, g2⟩ := g.2 k c hc1
  exact ⟨x, g1, sbC_ok hc2 g2⟩
/-- the states say the same -/
def sbS (a b : eS) : Bool := Nat.beq a.1 b.1 && (eqL a.2.1 b.2.1 && (eqVs a.2.2.1 b.2.2.1 && (eqB a.2.2.2.1 b.2.2.2.1 && (Nat.beq a.2.2.2.2.2.1 b.2.2.2.2.2.1 && (Nat.beq a.2.2.2.2.2.2 b.2.2.2.2.2.2 && sbH a.2.2.2.2.1 b.2.2.2.2.1)))))
theorem sbS_ok {a b : eS} (h : sbS a b = true) (hw : eW p l e R s m args below meth c Q D cl cA A sb ρ ad0 h0 nL b) : eW p l e R s m args below meth c Q D cl cA A sb ρ ad0 h0 nL a := by
  obtain ⟨a1, a2, a3, a4, a5, a6, a7⟩ := a
  obtain ⟨b1, b2, b3, b4, b5, b6, b7⟩ := b
  unfold sbS eqL at h
  simp only [Bool.and_eq_true] at h
  obtain ⟨h1, h2, h3, h4, h6, h7, h5⟩ := h
  have e1 : a1 = b1 := Nat.eq_of_beq_eq_true h1
  have e2 : a2 = b2 := eqOv_eq h2
  have e3 : a3 = b3 := eqVs_eq h3
  have e4 : a4 = b4 := eqB_eq h4
  have e6 : a6 = b6 := Nat.eq_of_beq_eq_true h6
  have e7 : a7 = b7 := Nat.eq_of_beq_eq_true h7
  subst e1
  subst e2
  subst e3
  subst e4
  subst e6
  subst e7
  have e5 : a5.length = b5.length := (sbH_at h5).1
  intro ad ls lc vs ws H locs g1 g2 g3 g4 g5 g6 g7 g8 g9
  dsimp only at g1
  rw [e5] at g1
  exact hw ad ls lc vs ws H locs g1 g2 g3 g4 (sbH_ok h5 g5) g6 g7 g8 g9
end E22
-- the law's runs
def B0 : eB := [(-2147483648, 2147483647), (-2147483648, 2147483647), (-2147483648, 2147483647), (-2147483648, 2147483647), (-2147483648, 2147483647), (-2147483648, 2147483647)]
def S0 : eS := (0, [(0, (5, 0, 0, 0))], [], B0, [], 0, 0)
def FH : eH := [
  .inl (9, [(2, 1, 0, 0), (2, 15, 0, 0), (2, 27, 0, 0), (2, 37, 0, 0), (2, 47, 0, 0), (2, 50, 0, 0), (2, 52, 0, 0), (2, 56, 0, 0), (0, 0, 0, 0)]),
  .inl (4, [(2, 2, 0, 0), (2, 14, 0, 0), (0, 0, 0, 0), (0, 0, (-1), (-1)), (0, 0, 0, 0), (0, 0, 0, 0), (0, 0, 0, 0), (0, 0, 0, 0), (0, 0, 0, 0), (0, 0, 0, 0), (0, 0, 0, 0)]),
  .inl (3, [(0, 0, 0, 0), (0, 0, 0, 0), (0, 0, 0, 0), (0, 0, 0, 0), (2, 3, 0, 0), (2, 4, 0, 0), (2, 5, 0, 0), (2, 6, 0, 0), (2, 7, 0, 0), (2, 8, 0, 0), (2, 9, 0, 0), (2, 10, 0, 0), (2, 11, 0, 0), (2, 12, 0, 0), (2, 13, 0, 0)]),
  .inr (0, 10, (0, 0, 0, 0), []),
  .inr (0, 10, (0, 0, 0, 0), []),
  .inr (0, 10, (0, 0, 0, 0), []),
  .inr (0, 10, (0, 0, 0, 0), []),
  .inr (0, 10, (0, 0, 0, 0), []),
  .inr (0, 10, (0, 0, 0, 0), []),
  .inr (0, 3, (0, 0, 0, 0), [(0, (0, 0, 30, 30)), (1, (0, 0, 3, 3)), (2, (0, 0, 2, 2))]),
  .inr (0, 10, (0, 0, 0, 0), []),
  .inr (0, 700, (0, 0, 0, 0), []),
  .inr (0, 4, (0, 0, 0, 0), []),
  .inr (0, 10, (0, 0, 0, 0), []),
  .inr (2, 700, (0, 0, 0, 0), []),
  .inl (3, [(0, 0, 0, 0), (0, 0, 0, 0), (0, 0, 0, 0), (0, 0, 0, 0), (2, 16, 0, 0), (2, 17, 0, 0), (2, 18, 0, 0), (2, 19, 0, 0), (2, 20, 0, 0), (2, 21, 0, 0), (2, 22, 0, 0), (2, 23, 0, 0), (2, 24, 0, 0), (2, 25, 0, 0), (2, 26, 0, 0)]),
  .inr (0, 10, (0, 0, 0, 0), []),
  .inr (0, 10, (0, 0, 0, 0), []),
  .inr (0, 10, (0, 0, 0, 0), []),
  .inr (0, 10, (0, 0, 0, 0), []),
  .inr (0, 10, (0, 0, 0, 0), []),
  .inr (0, 10, (0, 0, 0, 0), []),
  .inr (0, 3, (0, 0, 0, 0), [(0, (0, 0, 30, 30)), (1, (0, 0, 3, 3)), (2, (0, 0, 2, 2))]),
  .inr (0, 10, (0, 0, 0, 0), []),
  .inr (0, 700, (0, 0, 0, 0), []),
  .inr (0, 4, (0, 0, 0, 0), []),
  .inr (0, 10, (0, 0, 0, 0), []),
  .inl (7, [(2, 34, 0, 0), (2, 28, 0, 0), (2, 30, 0, 0), (2, 33, 0, 0)]),
  .inl (0, [(2, 29, 0, 0), (0, 0, 0, 0), (0, 0, 0, 0)]),
  .inr (0, 3280, (0, 0, 0, 0), []),
  .inl (6, [(0, 0, 0, 0), (2, 31, 0, 0), (2, 32, 0, 0)]),
  .inr (0, 8, (0, 0, 0, 0), []),
  .inr (0, 8, (0, 0, 0, 0), []),
  .inr (0, 3, (0, 0, 0, 0), []),
  .inl (5, [(2, 15, 0, 0), (2, 35, 0, 0), (2, 36, 0, 0)]),
  .inr (0, 82, (0, 0, 0, 0), [(22, (0, 0, (-1), (-1))), (52, (0, 0, (-1), (-1))), (23, (0, 0, (-1), (-1))), (53, (0, 0, (-1), (-1))), (24, (0, 0, (-1), (-1))), (54, (0, 0, (-1), (-1))), (25, (0, 0, (-1), (-1))), (55, (0, 0, (-1), (-1))), (26, (0, 0, (-1), (-1))), (56, (0, 0, (-1), (-1))), (27, (0, 0, (-1), (-1))), (57, (0, 0, (-1), (-1))), (28, (0, 0, (-1), (-1))), (58, (0, 0, (-1), (-1))), (29, (0, 0, (-1), (-1))), (59, (0, 0, (-1), (-1))), (30, (0, 0, (-1), (-1))), (60, (0, 0, (-1), (-1))), (31, (0, 0, (-1), (-1))), (61, (0, 0, (-1), (-1)))]),
  .inr (0, 64, (0, 0, 0, 0), []),
  .inl (7, [(2, 44, 0, 0), (2, 38, 0, 0), (2, 40, 0, 0), (2, 43, 0, 0)]),
  .inl (0, [(2, 39, 0, 0), (0, 0, 0, 0), (0, 0, 0, 0)]),
  .inr (0, 3280, (0, 0, 0, 0), []),
  .inl (6, [(0, 0, 0, 0), (2, 41, 0, 0), (2, 42, 0, 0)]),
  .inr (0, 8, (0, 0, 0, 0), []),
  .inr (0, 8, (0, 0, 0, 0), []),
  .inr (0, 3, (0, 0, 0, 0), []),
  .inl (5, [(2, 15, 0, 0), (2, 45, 0, 0), (2, 46, 0, 0)]),
  .inr (0, 82, (0, 0, 0, 0), [(22, (0, 0, (-1), (-1))), (52, (0, 0, (-1), (-1))), (23, (0, 0, (-1), (-1))), (53, (0, 0, (-1), (-1))), (24, (0, 0, (-1), (-1))), (54, (0, 0, (-1), (-1))), (25, (0, 0, (-1), (-1))), (55, (0, 0, (-1), (-1))), (26, (0, 0, (-1), (-1))), (56, (0, 0, (-1), (-1))), (27, (0, 0, (-1), (-1))), (57, (0, 0, (-1), (-1))), (28, (0, 0, (-1), (-1))), (58, (0, 0, (-1), (-1))), (29, (0, 0, (-1), (-1))), (59, (0, 0, (-1), (-1))), (30, (0, 0, (-1), (-1))), (60, (0, 0, (-1), (-1))), (31, (0, 0, (-1), (-1))), (61, (0, 0, (-1), (-1)))]),
  .inr (0, 64, (0, 0, 0, 0), []),
  .inl (5, [(2, 15, 0, 0), (2, 48, 0, 0), (2, 49, 0, 0)]),
  .inr (0, 82, (0, 0, 0, 0), [(22, (0, 0, (-1), (-1))), (52, (0, 0, (-1), (-1))), (23, (0, 0, (-1), (-1))), (53, (0, 0, (-1), (-1))), (24, (0, 0, (-1), (-1))), (54, (0, 0, (-1), (-1))), (25, (0, 0, (-1), (-1))), (55, (0, 0, (-1), (-1))), (26, (0, 0, (-1), (-1))), (56, (0, 0, (-1), (-1))), (27, (0, 0, (-1), (-1))), (57, (0, 0, (-1), (-1))), (28, (0, 0, (-1), (-1))), (58, (0, 0, (-1), (-1))), (29, (0, 0, (-1), (-1))), (59, (0, 0, (-1), (-1))), (30, (0, 0, (-1), (-1))), (60, (0, 0, (-1), (-1))), (31, (0, 0, (-1), (-1))), (61, (0, 0, (-1), (-1)))]),
  .inr (0, 64, (0, 0, 0, 0), []),
  .inl (8, [(2, 15, 0, 0), (0, 0, 0, 0), (0, 0, 0, 0), (2, 51, 0, 0)]),
  .inr (0, 1024, (0, 0, 0, 0), []),
  .inl (2, [(2, 15, 0, 0), (2, 53, 0, 0), (0, 0, 0, 0), (2, 54, 0, 0), (2, 55, 0, 0)]),
  .inr (0, 10, (0, 0, 0, 0), []),
  .inr (0, 10, (0, 0, 0, 0), []),
  .inr (0, 10, (0, 0, 0, 0), []),
  .inl (1, [(2, 15, 0, 0), (2, 47, 0, 0), (0, 0, 0, 0), (0, 0, 0, 0), (0, 0, 0, 0), (0, 0, 0, 0), (2, 57, 0, 0), (2, 58, 0, 0)]),
  .inr (0, 31, (0, 0, 0, 0), []),
  .inr (1, 62, (1, 0, 0, 0), []),
  .inl (10, [(2, 60, 0, 0), (0, 0, 0, 0), (2, 61, 0, 0), (2, 62, 0, 0), (2, 63, 0, 0), (2, 64, 0, 0), (2, 65, 0, 0), (2, 66, 0, 0), (2, 67, 0, 0), (2, 68, 0, 0), (2, 69, 0, 0), (2, 70, 0, 0), (2, 71, 0, 0), (0, 0, 0, 0), (0, 0, 0, 0), (0, 0, 0, 0), (0, 0, 0, 0), (0, 0, 0, 0), (0, 0, 0, 0), (0, 0, 0, 0), (0, 0, 0, 0), (0, 0, 0, 0), (0, 0, (-1), (-1)), (2, 72, 0, 0), (2, 73, 0, 0), (2, 74, 0, 0), (2, 75, 0, 0), (2, 76, 0, 0), (2, 77, 0, 0), (2, 78, 0, 0), (2, 79, 0, 0), (0, 0, 0, 0), (0, 0, 0, 0), (0, 0, 0, 0), (0, 0, 0, 0), (2, 80, 0, 0), (2, 81, 0, 0), (2, 82, 0, 0), (2, 83, 0, 0), (2, 84, 0, 0), (2, 85, 0, 0), (2, 86, 0, 0), (2, 87, 0, 0), (2, 88, 0, 0), (2, 89, 0, 0), (2, 90, 0, 0), (0, 0, 0, 0), (0, 0, 0, 0), (0, 0, 0, 0), (0, 0, 0, 0), (0, 0, 0, 0), (2, 91, 0, 0), (2, 92, 0, 0), (2, 93, 0, 0), (2, 94, 0, 0), (2, 95, 0, 0)]),
  .inr (9, 7, (3, 0, 0, 0), []),
  .inr (0, 14, (0, 0, 0, 0), [(2, (0, 0, 30, 30)), (3, (0, 0, 3, 3)), (4, (0, 0, 2, 2))]),
  .inr (0, 20, (0, 0, 0, 0), []),
  .inr (0, 20, (0, 0, 0, 0), []),
  .inr (0, 20, (0, 0, 0, 0), []),
  .inr (0, 20, (0, 0, 0, 0), []),
  .inr (0, 20, (0, 0, 0, 0), []),
  .inr (0, 20, (0, 0, 0, 0), []),
  .inr (0, 20, (0, 0, 0, 0), []),
  .inr (0, 1400, (0, 0, 0, 0), []),
  .inr (0, 3, (0, 0, 0, 0), []),
  .inr (0, 700, (0, 0, 0, 0), []),
  .inr (0, 10, (0, 0, 0, 0), []),
  .inr (0, 10, (0, 0, 0, 0), []),
  .inr (0, 10, (0, 0, 0, 0), []),
  .inr (0, 10, (0, 0, 0, 0), []),
  .inr (0, 10, (0, 0, 0, 0), []),
  .inr (0, 10, (0, 0, 0, 0), []),
  .inr (0, 4, (0, 0, 0, 0), []),
  .inr (0, 2640, (0, 0, 0, 0), []),
  .inr (0, 7, (0, 0, 0, 0), []),
  .inr (0, 64, (0, 0, 0, 0), []),
  .inr (0, 66, (0, 0, 0, 0), []),
  .inr (0, 1024, (0, 0, 0, 0), []),
  .inr (0, 1024, (0, 0, 0, 0), []),
  .inr (0, 11264, (0, 0, 0, 0), []),
  .inr (0, 8, (0, 0, 0, 0), []),
  .inr (0, 8, (0, 0, 0, 0), []),
  .inr (0, 66, (0, 0, 0, 0), []),
  .inr (0, 100, (0, 0, 0, 0), []),
  .inr (0, 3000, (0, 0, 0, 0), []),
  .inr (0, 66, (0, 0, 0, 0), []),
  .inr (0, 2640, (0, 0, 0, 0), []),
  .inr (0, 8, (0, 0, 0, 0), []),
  .inr (0, 8, (0, 0, 0, 0), []),
  .inr (0, 3, (0, 0, 0, 0), []),
  .inr (1, 1, (1, 0, 0, 0), [])]
def SL (pc : Nat) (st : List eV) : eS := (pc, [(4, eI 0), (3, (2, 96, 0, 0)), (2, (2, 59, 0, 0)), (1, (2, 0, 0, 0)), (0, (5, 0, 0, 0))], st, B0, FH, 97, 34934)
def xL (mgF : Nat → Option eHt) (cuF : Nat → Option (Nat × List Nat × eHt)) (sc : Option (Nat × Nat)) : eQ → eS → eR := ex (callL mgF cuF 40000 10) mtF npF ciF dfF 7 600002 7302232 sc (fun _ _ => none)
def lawEnd (o : Nat × eS) : Bool := Nat.beq o.1 0 && (match ft_L o.2.1 with
  | some q => (match q.1 with
    | .ireturn => (match o.2.2.2.1 with
      | [v] => Nat.beq v.1 0 && (decide (eLo o.2.2.2.2.1 v = 1) && (decide (eHi o.2.2.2.2.1 v = 1) && (Nat.ble o.2.2.2.2.2.2.1 600002 && Nat.ble o.2.2.2.2.2.2.2 7302232)))
      | _ => false)
    | _ => false)
  | none => false)
def lawRun (mgF : Nat → Option eHt) (cuF : Nat → Option (Nat × List Nat × eHt)) (sc : Option (Nat × Nat)) (S : eS) : Bool := match run ft_L 99999 (xL mgF cuF sc) 40000 [S] [] with
  | some os => os.all lawEnd
  | none => false
def lawPre : Bool := match run ft_L 40 (xL (fun _ => none) (fun _ => none) (some (6, 6))) 40000 [S0] [] with
  | some os => os.all (fun o => Nat.beq o.1 0 && sbS o.2 (SL 40 [(0, 0, 0, 63)]))
  | none => false
def TGs : List Nat := [212, 285, 341, 354, 410, 478, 546, 614, 639, 707, 775, 838, 901, 969, 982, 1062, 1118, 1174, 1242, 1298, 1354, 1410, 1423, 1479, 1535, 1591, 1647, 1703, 1716, 1772, 1828, 1841, 1878, 1934, 1990, 2001, 2093, 2173, 2184, 2197]
def lawTab : Bool := match ft_L 40 with
  | some q => (match xL (fun _ => none) (fun _ => none) (some (6, 6)) q (SL 40 [(0, 0, 0, 63)]) with
    | some rs => (!stp q) && rs.all (fun r => Nat.beq r.1 0 && TGs.any (fun t => sbS r.2 (SL t [])))
    | none => false)
  | none => false
