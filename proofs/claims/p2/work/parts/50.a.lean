/-! dev -/
def hB : List (Int × Int) := [(0, 3072), (0, 3072), (0, 700), (0, 700), (0, 4), (0, 4), (0, 4), (0, 4), (0, 4), (0, 4), (0, 4), (0, 4), (0, 4), (0, 4), ((-1), 9), ((-1), 9), ((-1), 9), ((-1), 9), ((-1), 9), ((-1), 9), ((-1), 9), ((-1), 9), ((-1), 9), ((-1), 9)]
def hF : List eF := [(0, 4, 3, 14, 0), (0, 5, 3, 15, 0), (0, 6, 3, 16, 0), (0, 7, 3, 17, 0), (0, 8, 3, 18, 0), (0, 9, 3, 19, 0), (0, 10, 3, 20, 0), (0, 11, 3, 21, 0), (0, 12, 3, 22, 0), (0, 13, 3, 23, 0)]
def hP : eH := [.inl (9, [(2, 1, 0, 0), (2, 15, 0, 0), (2, 27, 0, 0), (2, 37, 0, 0), (2, 47, 0, 0), (2, 50, 0, 0), (2, 52, 0, 0), (2, 56, 0, 0), (0, 0, 0, 1)]), .inl (4, [(2, 2, 0, 0), (2, 14, 0, 0), (0, 20481, 0, 700), (0, 0, (-1), 700), (0, 0, 0, 5), (0, 0, 0, 700), (0, 0, 0, 700), (0, 0, 0, 255), (0, 0, 0, 700), eTop, (0, 0, 0, 1)]), .inl (3, [(0, 0, 0, 10), (0, 0, 0, 10), (0, 0, 0, 10), (0, 0, 0, 700), (2, 3, 0, 0), (2, 4, 0, 0), (2, 5, 0, 0), (2, 6, 0, 0), (2, 7, 0, 0), (2, 8, 0, 0), (2, 9, 0, 0), (2, 10, 0, 0), (2, 11, 0, 0), (2, 12, 0, 0), (2, 13, 0, 0)]), .inr (0, 10, (0, 0, 0, 20), []), .inr (0, 10, (0, 0, 0, 9), []), .inr (0, 10, (0, 0, 0, 9), []), .inr (0, 10, (0, 0, 0, 3), []), .inr (0, 10, (0, 0, 0, 9), []), .inr (0, 10, (0, 0, 0, 20), []), .inr (0, 3, (0, 0, 1, 9), [(0, (0, 0, 1, 99))]), .inr (0, 10, (0, 0, 0, 9), []), .inr (0, 700, eTop, []), .inr (0, 4, (0, 0, 0, 1023), []), .inr (0, 10, (0, 0, 0, 1023), []), .inr (2, 700, (0, 0, (-128), 127), []), .inl (3, [(0, 0, 0, 10), (0, 0, 0, 10), (0, 0, 0, 10), (0, 0, 0, 700), (2, 16, 0, 0), (2, 17, 0, 0), (2, 18, 0, 0), (2, 19, 0, 0), (2, 20, 0, 0), (2, 21, 0, 0), (2, 22, 0, 0), (2, 23, 0, 0), (2, 24, 0, 0), (2, 25, 0, 0), (2, 26, 0, 0)]), .inr (0, 10, (0, 0, 0, 20), []), .inr (0, 10, (0, 0, 0, 9), []), .inr (0, 10, (0, 0, 0, 9), []), .inr (0, 10, (0, 0, 0, 3), []), .inr (0, 10, (0, 0, 0, 9), []), .inr (0, 10, (0, 0, 0, 20), []), .inr (0, 3, (0, 0, 1, 9), [(0, (0, 0, 1, 99))]), .inr (0, 10, (0, 0, 0, 9), []), .inr (0, 700, eTop, []), .inr (0, 4, (0, 0, 0, 1023), []), .inr (0, 10, (0, 0, 0, 1023), []), .inl (7, [(2, 28, 0, 0), (2, 31, 0, 0), (2, 33, 0, 0), (2, 36, 0, 0)]), .inl (5, [(2, 15, 0, 0), (2, 29, 0, 0), (2, 30, 0, 0)]), .inr (0, 82, eTop, [(0, (0, 0, 0, 999)), (5, (0, 0, 0, 1023)), (6, (0, 0, 0, 1023)), (7, (0, 0, 0, 1023)), (8, (0, 0, 0, 1023)), (9, (0, 0, 0, 1023)), (12, (0, 0, 0, 4)), (13, (0, 0, 0, 4)), (14, (0, 0, 0, 4)), (15, (0, 0, 0, 4)), (16, (0, 0, 0, 4)), (17, (0, 0, 0, 4)), (18, (0, 0, 0, 4)), (19, (0, 0, 0, 4)), (20, (0, 0, 0, 4)), (21, (0, 0, 0, 4)), (22, (0, 0, (-1), 9)), (23, (0, 0, (-1), 9)), (24, (0, 0, (-1), 9)), (25, (0, 0, (-1), 9)), (26, (0, 0, (-1), 9)), (27, (0, 0, (-1), 9)), (28, (0, 0, (-1), 9)), (29, (0, 0, (-1), 9)), (30, (0, 0, (-1), 9)), (31, (0, 0, (-1), 9)), (42, (0, 0, 0, 9)), (43, (0, 0, 0, 9)), (44, (0, 0, 0, 9)), (45, (0, 0, 0, 9)), (46, (0, 0, 0, 9)), (47, (0, 0, 0, 9)), (48, (0, 0, 0, 9)), (49, (0, 0, 0, 9)), (50, (0, 0, 0, 9)), (51, (0, 0, 0, 9)), (62, (0, 0, 0, 9)), (63, (0, 0, 0, 9)), (64, (0, 0, 0, 9)), (65, (0, 0, 0, 9)), (66, (0, 0, 0, 9)), (67, (0, 0, 0, 9)), (68, (0, 0, 0, 9)), (69, (0, 0, 0, 9)), (70, (0, 0, 0, 9)), (71, (0, 0, 0, 9))]), .inr (0, 64, eTop, []), .inl (0, [(2, 32, 0, 0), (0, 0, 0, 40), (0, 0, 0, 39)]), .inr (4, 3280, (eI 0), []), .inl (6, [(0, 0, 0, 8), (2, 34, 0, 0), (2, 35, 0, 0)]), .inr (0, 8, (0, 0, 0, 30), []), .inr (0, 8, (0, 0, 0, 99), []), .inr (0, 3, eTop, []), .inl (7, [(2, 38, 0, 0), (2, 41, 0, 0), (2, 43, 0, 0), (2, 46, 0, 0)]), .inl (5, [(2, 15, 0, 0), (2, 39, 0, 0), (2, 40, 0, 0)]), .inr (0, 82, eTop, [(0, (0, 0, 0, 999)), (5, (0, 0, 0, 1023)), (6, (0, 0, 0, 1023)), (7, (0, 0, 0, 1023)), (8, (0, 0, 0, 1023)), (9, (0, 0, 0, 1023)), (12, (0, 0, 0, 4)), (13, (0, 0, 0, 4)), (14, (0, 0, 0, 4)), (15, (0, 0, 0, 4)), (16, (0, 0, 0, 4)), (17, (0, 0, 0, 4)), (18, (0, 0, 0, 4)), (19, (0, 0, 0, 4)), (20, (0, 0, 0, 4)), (21, (0, 0, 0, 4)), (22, (0, 0, (-1), 9)), (23, (0, 0, (-1), 9)), (24, (0, 0, (-1), 9)), (25, (0, 0, (-1), 9)), (26, (0, 0, (-1), 9)), (27, (0, 0, (-1), 9)), (28, (0, 0, (-1), 9)), (29, (0, 0, (-1), 9)), (30, (0, 0, (-1), 9)), (31, (0, 0, (-1), 9)), (42, (0, 0, 0, 9)), (43, (0, 0, 0, 9)), (44, (0, 0, 0, 9)), (45, (0, 0, 0, 9)), (46, (0, 0, 0, 9)), (47, (0, 0, 0, 9)), (48, (0, 0, 0, 9)), (49, (0, 0, 0, 9)), (50, (0, 0, 0, 9)), (51, (0, 0, 0, 9)), (62, (0, 0, 0, 9)), (63, (0, 0, 0, 9)), (64, (0, 0, 0, 9)), (65, (0, 0, 0, 9)), (66, (0, 0, 0, 9)), (67, (0, 0, 0, 9)), (68, (0, 0, 0, 9)), (69, (0, 0, 0, 9)), (70, (0, 0, 0, 9)), (71, (0, 0, 0, 9))]), .inr (0, 64, eTop, []), .inl (0, [(2, 42, 0, 0), (0, 0, 0, 40), (0, 0, 0, 39)]), .inr (4, 3280, (eI 0), []), .inl (6, [(0, 0, 0, 8), (2, 44, 0, 0), (2, 45, 0, 0)]), .inr (0, 8, (0, 0, 0, 30), []), .inr (0, 8, (0, 0, 0, 99), []), .inr (0, 3, eTop, []), .inl (5, [(2, 15, 0, 0), (2, 48, 0, 0), (2, 49, 0, 0)]), .inr (0, 82, eTop, [(0, (0, 0, 0, 1060)), (5, (0, 0, 0, 1023)), (6, (0, 0, 0, 1023)), (7, (0, 0, 0, 1023)), (8, (0, 0, 0, 1023)), (9, (0, 0, 0, 1023)), (12, (0, 0, 0, 4)), (13, (0, 0, 0, 4)), (14, (0, 0, 0, 4)), (15, (0, 0, 0, 4)), (16, (0, 0, 0, 4)), (17, (0, 0, 0, 4)), (18, (0, 0, 0, 4)), (19, (0, 0, 0, 4)), (20, (0, 0, 0, 4)), (21, (0, 0, 0, 4)), (22, (0, 0, (-1), 9)), (23, (0, 0, (-1), 9)), (24, (0, 0, (-1), 9)), (25, (0, 0, (-1), 9)), (26, (0, 0, (-1), 9)), (27, (0, 0, (-1), 9)), (28, (0, 0, (-1), 9)), (29, (0, 0, (-1), 9)), (30, (0, 0, (-1), 9)), (31, (0, 0, (-1), 9)), (42, (0, 0, 0, 9)), (43, (0, 0, 0, 9)), (44, (0, 0, 0, 9)), (45, (0, 0, 0, 9)), (46, (0, 0, 0, 9)), (47, (0, 0, 0, 9)), (48, (0, 0, 0, 9)), (49, (0, 0, 0, 9)), (50, (0, 0, 0, 9)), (51, (0, 0, 0, 9)), (62, (0, 0, 0, 9)), (63, (0, 0, 0, 9)), (64, (0, 0, 0, 9)), (65, (0, 0, 0, 9)), (66, (0, 0, 0, 9)), (67, (0, 0, 0, 9)), (68, (0, 0, 0, 9)), (69, (0, 0, 0, 9)), (70, (0, 0, 0, 9)), (71, (0, 0, 0, 9))]), .inr (0, 64, eTop, []), .inl (8, [(2, 15, 0, 0), eTop, eTop, (2, 51, 0, 0)]), .inr (0, 1024, eTop, []), .inl (2, [(2, 15, 0, 0), (2, 53, 0, 0), eTop, (2, 54, 0, 0), (2, 55, 0, 0)]), .inr (0, 10, eTop, []), .inr (0, 10, (0, 0, 0, 9), []), .inr (0, 10, eTop, []), .inl (1, [(2, 15, 0, 0), (2, 47, 0, 0), eTop, eTop, eTop, eTop, (2, 57, 0, 0), (2, 58, 0, 0)]), .inr (0, 31, (0, 0, 0, 90), []), .inr (1, 62, eTopL, []), .inl (10, [(5, 59, 0, 0), eTop, (2, 60, 0, 0), (2, 61, 0, 0), (2, 62, 0, 0), (2, 63, 0, 0), (2, 64, 0, 0), (2, 65, 0, 0), (2, 66, 0, 0), (2, 67, 0, 0), (2, 68, 0, 0), (2, 69, 0, 0), (2, 70, 0, 0), (0, 20481, 0, 700), (0, 0, 0, 700), (0, 0, 0, 700), (0, 0, 0, 4), eTop, (0, 0, 0, 700), (0, 0, 0, 700), (0, 0, 0, 5), eTop, eTop, (2, 71, 0, 0), (2, 72, 0, 0), (2, 73, 0, 0), (2, 74, 0, 0), (2, 75, 0, 0), (2, 76, 0, 0), (2, 77, 0, 0), (2, 78, 0, 0), (0, 0, 0, 999), eTop, (0, 0, 0, 40), (0, 0, 0, 8), (2, 79, 0, 0), (2, 80, 0, 0), (2, 81, 0, 0), (2, 82, 0, 0), (2, 83, 0, 0), (2, 84, 0, 0), (2, 85, 0, 0), (2, 86, 0, 0), (2, 87, 0, 0), (2, 88, 0, 0), (2, 89, 0, 0), (0, 0, 0, 100), eTop, (0, 0, 0, 1), (0, 0, 0, 40), (0, 0, 0, 8), (2, 90, 0, 0), (2, 91, 0, 0), (2, 92, 0, 0), (2, 93, 0, 0), (2, 94, 0, 0)]), .inr (0, 14, eTop, [(0, (0, 0, 0, 10)), (1, (0, 0, 0, 10)), (2, (0, 0, 1, 99)), (3, (0, 0, 1, 9)), (4, (0, 0, 1, 9)), (5, (0, 0, 0, 10)), (6, (0, 28673, 0, 700)), (7, (0, 0, 0, 10)), (8, (0, 0, 0, 10)), (9, (0, 0, 0, 99)), (10, (0, 0, 0, 9)), (11, (0, 0, 0, 9)), (12, (0, 0, 0, 10)), (13, (0, 0, 0, 700))]), .inr (0, 20, eTop, []), .inr (0, 20, eTop, []), .inr (0, 20, (0, 0, 0, 9), []), .inr (0, 20, (0, 0, 0, 3), []), .inr (0, 20, eTop, []), .inr (0, 20, eTop, []), .inr (0, 20, eTop, []), .inr (7, 1400, (eI 0), [(0, (0, 28673, 0, 700))]), .inr (0, 3, eTop, []), .inr (0, 700, eTop, []), .inr (0, 10, (0, 0, 0, 4), [(0, (0, 36865, 0, 4)), (1, (0, 45057, 0, 4)), (2, (0, 53249, 0, 4)), (3, (0, 61441, 0, 4)), (4, (0, 69633, 0, 4)), (5, (0, 77825, 0, 4)), (6, (0, 86017, 0, 4)), (7, (0, 94209, 0, 4)), (8, (0, 102401, 0, 4)), (9, (0, 110593, 0, 4))]), .inr (0, 10, (0, 0, (-1), 9), [(0, (0, 118785, (-1), 9)), (1, (0, 126977, (-1), 9)), (2, (0, 135169, (-1), 9)), (3, (0, 143361, (-1), 9)), (4, (0, 151553, (-1), 9)), (5, (0, 159745, (-1), 9)), (6, (0, 167937, (-1), 9)), (7, (0, 176129, (-1), 9)), (8, (0, 184321, (-1), 9)), (9, (0, 192513, (-1), 9))]), .inr (0, 10, eTop, []), .inr (0, 10, (0, 0, 0, 9), []), .inr (0, 10, eTop, []), .inr (0, 10, eTop, []), .inr (0, 4, eTop, []), .inr (5, 2640, (eI 0), []), .inr (0, 7, eTop, []), .inr (0, 64, eTop, []), .inr (5, 66, (eI 0), []), .inr (0, 1024, eTop, []), .inr (0, 1024, eTop, []), .inr (0, 11264, eTop, []), .inr (0, 8, eTop, []), .inr (0, 8, eTop, []), .inr (5, 66, (eI 0), []), .inr (0, 100, (0, 0, 0, 99), []), .inr (0, 3000, eTop, []), .inr (5, 66, (eI 0), []), .inr (5, 2640, (eI 0), []), .inr (0, 8, eTop, []), .inr (0, 8, eTop, []), .inr (0, 3, eTop, []), .inr (1, 1, eTopL, [])]
def hTH : List (Option eP) := [none, some (0, 4, 0), some (1, 1, 2), some (2, 60, 6), some (2, 71, 0), some (2, 71, 1), some (2, 71, 2), some (2, 71, 3), some (2, 71, 4), some (2, 71, 5), some (2, 71, 6), some (2, 71, 7), some (2, 71, 8), some (2, 71, 9), some (2, 72, 0), some (2, 72, 1), some (2, 72, 2), some (2, 72, 3), some (2, 72, 4), some (2, 72, 5), some (2, 72, 6), some (2, 72, 7), some (2, 72, 8), some (2, 72, 9)]
def hLo : eL := [(0, (5, 0, 0, 0)), (1, (2, 0, 0, 0)), (2, (2, 59, 0, 0)), (3, (2, 95, 0, 0)), (4, (0, 12289, 0, 3072))]
def hHead : eS := (23, hLo, [], (hB, hF), hP, 0, 0)
def hMe : eMe := [(5000, -1, 1)]
theorem hMe_ok : meOk hHead.2.2.2.1 hMe = true := by decide +kernel
def hLev : Nat := 53
section LP
variable {p : Program} {l : Launch} {e : Env} {R : Room} {s : State} {m : MethodId} {args : Array Value} {below : List Frame} {meth : Method} {c : Code} {Q : State → Prop}
variable {D : va_G} {cA : Nat → ClassId} {A : Nat → Prop} {sb : eSB} {ad0 : Nat → Nat} {h0 : Nat}
/-- what holds of the law's rows -/
def lRows (meth : Method) : Prop := ∀ (pc : Nat) (q : eQ), ft_L pc = some q → decode code pc = .ok (q.1, q.2.1) ∧ lenB q.1 q.2.1 = true ∧ (stp q = false → okE GT eCls RL meth mtF npF ciF dfF q)
/-- more made before is no less good -/
theorem eW_wid {ρ : Nat → Int} {S : eS} {c1 z1 c2 z2 : Nat} (h1 : c1 ≤ c2) (h2 : z1 ≤ z2) (h : eW p l e R s m args below meth c Q D eCls cA A sb ρ ad0 h0 7 (setZ S c2 z2)) : eW p l e R s m args below meth c Q D eCls cA A sb ρ ad0 h0 7 (setZ S c1 z1) := fun ad ls lc vs ws H locs g1 g2 g3 g4 g5 g6 g7 g8 g9 => W.widen h1 h2 (h ad ls lc vs ws H locs g1 g2 g3 g4 g5 g6 g7 g8 g9)
/-- a state within another, whatever was made -/
theorem subS_any {ρ : Nat → Int} {nP C Z : Nat} {th : List (Option eP)} {S T : eS} {me me' : eMe} (h : subS nP th (setZ S 0 0) (setZ T 0 0) = true) (hme : meOk T.2.2.2.1 me' = true) (hl : meL S.2.2.2.1 S.2.1 S.2.2.2.2.1 th me' me = true) (hw : ∀ ρ' : Nat → Int, (∀ i, i < nP → ρ' i = ρ i) → mea ρ' me' < mea ρ me → eW p l e R s m args below meth c Q D eCls cA A sb ρ' ad0 h0 7 (setZ T C Z)) : eW p l e R s m args below meth c Q D eCls cA A sb ρ ad0 h0 7 (setZ S C Z) := by
  refine subS_ok (S := setZ S C Z) (T := setZ T C Z) (me := me) (me' := me') ?_ hme hl hw
  unfold subS at h ⊢
  simp only [Bool.and_eq_true] at h ⊢
  obtain ⟨a1, a2, a3, a4, a5, a6, a7, a8, a9⟩ := h
  exact ⟨a1, a2, a3, a4, a5, a6, a7, Nat.beq_refl _, Nat.beq_refl _⟩
set_option maxRecDepth 100000 in
theorem law_loop (htr : l.stackTraces = false) (hvs : sb.1 60 = 1) (K : eK p m c s args code RL 7 GT D eCls cA A) (hZ : eZ strs sb A s s.heap) {L : Nat} {xs : Nat → Int32} (hX : va_X (sb.1 0) L xs s s.heap) (hbl : sb.1 0 < s.heap.size) (hbA : ¬ A (sb.1 0)) (hrw : lRows meth) (hfr : hLev + 9 ≤ R.frames) (hlo : 64 * hLev + 1064 ≤ R.locals) (hL : L ≤ 3072)
    (hQ : ∀ (o : Nat × eS) (ρ1 : Nat → Int) (C Z : Nat), retB o = true → C ≤ R.cells → Z ≤ R.slots → eW p l e R s m args below meth c Q D eCls cA A sb ρ1 ad0 h0 7 (setZ o.2 C Z)) :
    ∀ (n u v : Nat) (ρ : Nat → Int), mea ρ hMe < n → ρ 0 = (L : Int) → u + nC * (n + 1) ≤ R.cells → v + nZ * (n + 1) ≤ R.slots → eW p l e R s m args below meth c Q D eCls cA A sb ρ ad0 h0 7 (setZ hHead u v) :=  sorry
end LP
/-! ===== THE LAW, 7: to begin anew in the midst ===== -/
/-- the law's end, from s on, no more made than so much -/
def lwZ (below : List Frame) (s : State) (C Z : Nat) : State → Prop := fun t => t.status = .running ∧ Ended t below (.returned (some (.int 1))) ∧ Framed s (.returned (some (.int 1))) t [] C Z
/-- the same, from a later start: cells from N on may be written -/
def lwY (below : List Frame) (s : State) (N C Z : Nat) : State → Prop := fun t => t.status = .running ∧ Ended t below (.returned (some (.int 1))) ∧ ∃ L : List Loc, (∀ q ∈ L, N ≤ q.base) ∧ Framed s (.returned (some (.int 1))) t L C Z
theorem stand_rebase {p : Program} {l : Launch} {e : Env} {R : Room} {s : State} {m : MethodId} {args : Array Value} {below : List Frame} {meth : Method} {c : Code} {T : State} {locs : List Loc} {cells slots : Nat} (X : Stand p l e R s m args below meth c T locs cells slots) (hC : cells ≤ R.cells) (hZ : slots ≤ R.slots) :
    Stand p l e { R with cells := R.cells - cells, slots := R.slots - slots } (T.setFrames (.invoking m args :: below)) m args below meth c T [] 0 0 := by
  obtain ⟨g₀, hg⟩ := Option.isSome_iff_exists.mp X.here.top
  obtain ⟨r, hr⟩ := State.topJava?_eq_some.mp hg
  obtain ⟨x, hx, -⟩ := State.frames_cons hr
  have hcur : T.cur < T.threads.size := State.cur_lt_of_frames hr
  have hf : (T.setFrames (.invoking m args :: below)).frames = .invoking m args :: below := State.frames_setFrames _ hcur
  have hm : (T.setFrames (.invoking m args :: below)).vm.method? m = some meth := X.method'
  have hloc : (T.setFrames (.invoking m args :: below)).localsInUse = s.localsInUse := by
    rw [State.localsInUse_invoking hf hm X.code, State.localsInUse_invoking X.frames X.method X.code]
  refine ⟨X.admits, X.cas, X.clock, hf, ?_, ?_, hm, X.code, X.here, X.tail, State.WarmedH.refl _, (State.stackLimits_setFrames _ _ _).symm, (State.stackBytes_setFrames _ _).symm, ?_⟩
  · have hroom := X.room
    have h1 := X.heapSize
    have h2 := X.used
    have h3 := X.book
    simp only [State.hasRoom, Bool.and_eq_true, decide_eq_true_eq] at hroom ⊢
    rw [hloc, hf, State.stackLimits_setFrames, State.stackBytes_setFrames, X.limits, X.bytes]
    rw [X.frames] at hroom
    obtain ⟨⟨⟨⟨r1, r2, r3, r4, r5, r6⟩, r7⟩, r8⟩, r9⟩ := hroom
    refine ⟨⟨⟨⟨r1, r2, r3, r4, r5, r6⟩, ?_⟩, ?_⟩, h3⟩
    · show T.heap.size + (R.cells - cells) ≤ _
      omega
    · show T.slotsUsed + (R.slots - slots) ≤ _
      omega
  · have hh := X.hears
    unfold State.hears at hh ⊢
    split at hh
    · rename_i g r9
      have : (T.setFrames (.invoking m args :: .java g :: r9)).code? g.method = s.code? g.method := by
        rw [State.code?_eq, State.code?_eq]
        show ((T.vm.method? g.method).bind fun x => x.code) = _
        rw [X.warmed.alike.method?]
      rw [this]
      exact hh
    · rfl
    · rfl
    · rw [hm]
      rw [X.method] at hh
      exact hh
  · have h := (State.sameButNew.refl (T.setFrames (.invoking m args :: below)) (x := { x with frames := .invoking m args :: below }) (by
      show (T.threads.modify T.cur _)[T.cur]? = _
      rw [Array.getElem?_modify, if_pos rfl, hx]
      rfl)).setFrames T.frames (by rw [show (T.setFrames (.invoking m args :: below)).threads.size = T.threads.size by unfold State.setFrames; simp]; exact hcur)
    rw [State.setFrames_setFrames] at h
    have e1 : T.setFrames T.frames = T := (State.sameButNew.refl T hx).1.symm
    rw [e1] at h
    exact h
theorem lw_rebase {p : Program} {l : Launch} {e : Env} {R : Room} {s : State} {m : MethodId} {args : Array Value} {below : List Frame} {meth : Method} {c : Code} {H : Heap} {locs : List Loc} {cells slots : Nat} {g : JFrame} (hloc : ∀ q ∈ locs, s.heap.size ≤ q.base) (hC : cells ≤ R.cells) (hZ : slots ≤ R.slots)
    (hk : ∀ s2 : State, s2.heap = H → s.WarmedH s2.vm → W p l e { R with cells := R.cells - cells, slots := R.slots - slots } s2 m args below meth c H [] 0 0 (lwY below s2 s.heap.size (R.cells - cells) (R.slots - slots)) g) : W p l e R s m args below meth c H locs cells slots (lwZ below s R.cells R.slots) g := by
  intro T hT X
  obtain ⟨t, a1, b1, b2, L9, hL9, ⟨v, b3⟩, b4, b5⟩ := hk (T.setFrames (.invoking m args :: below)) hT X.warmed T hT (stand_rebase X hC hZ)
  refine ⟨t, a1, b1, b2, ⟨v, b3⟩, State.WarmedH.trans (t := T.setFrames (.invoking m args :: below)) X.warmed b4, ?_⟩
  obtain ⟨g₀, hg⟩ := Option.isSome_iff_exists.mp X.here.top
  obtain ⟨r, hr⟩ := State.topJava?_eq_some.mp hg
  obtain ⟨x, hx, -⟩ := State.frames_cons hr
  have hcur : T.cur < T.threads.size := State.cur_lt_of_frames hr
  have h1 : (T.setVm s.vm).sameButNew ((T.setVm s.vm).setFrames (.invoking m args :: below)) [] 0 0 := (State.sameButNew.refl (T.setVm s.vm) (x := x) hx).setFrames _ hcur
  have h2 : ((T.setVm s.vm).setFrames (.invoking m args :: below)).sameButNew { t with vm := s.vm } L9 (R.cells - cells) (R.slots - slots) := b5.setVm s.vm
  have h3 := (X.same.trans (h1.trans h2))
  have h4 := State.sameButNew.drop_fresh (L := []) (J := locs ++ L9) (s := s) (by simpa using h3) (fun q hq => (List.mem_append.mp hq).elim (hloc q) (hL9 q))
  exact h4.mono (by omega) (by omega)
/-! ===== THE LAW, 8: what holds at its entry ===== -/
def memT (w : Cond) : Bool := lw_tbl.any (fun v => condEq v w)
theorem memT_in {w : Cond} (h : memT w = true) : w ∈ lw_tbl := by
  obtain ⟨v, h1, h2⟩ := List.any_eq_true.mp h
  have := condEq_eq h2
  subst this
  exact h1
def memG (w : Cond) : Bool := (flatC (Jvm.Cond.and given_1 narrow_1)).any (fun v => condEq v w)
theorem memG_in {w : Cond} (h : memG w = true) : w ∈ flatC (Jvm.Cond.and given_1 narrow_1) := by
  obtain ⟨v, h1, h2⟩ := List.any_eq_true.mp h
  have := condEq_eq h2
  subst this
  exact h1
abbrev sVl (q : String × Nat × String) : Term := .field (.string q.1 q.2.1) "java/lang/String" "value" "[B"
/-- what the start tells of a text, in its order -/
def strE (i : Nat) (q : String × Nat × String) : List Cond := .exactly (.string q.1 q.2.1) "java/lang/String" :: .eq (.field (.string q.1 q.2.1) "java/lang/String" "coder" "B") (.int 0) :: .arrayOf (sVl q) .byte :: .eq (.length (sVl q)) (.int (Int32.ofNat (sB i).length)) :: (List.range (sB i).length).map (fun j => .eq (.elem (sVl q) (.int (Int32.ofNat j))) (.int (Int32.ofInt ((sB i).getD j 0))))
def preC : List Cond → List Cond → Bool
  | [], _ => true
  | _ :: _, [] => false
  | a :: as, b :: bs => condEq b a && preC as bs
theorem preC_in : ∀ {as bs : List Cond}, preC as bs = true → ∀ w ∈ as, w ∈ bs
  | [], _, _, w, hw => by cases hw
  | a :: as, [], h, _, _ => by cases h
  | a :: as, b :: bs, h, w, hw => by
    unfold preC at h
    rw [Bool.and_eq_true] at h
    have e := condEq_eq h.1
    rcases List.mem_cons.mp hw with q | q
    · rw [q, ← e]; exact List.mem_cons_self
    · exact List.mem_cons_of_mem _ (preC_in h.2 w q)
def gFlat : List Cond := flatC (Jvm.Cond.and given_1 narrow_1)
def strB (fl : List Cond) (i : Nat) (q : String × Nat × String) (k : Nat) : Bool := memT (.stringRef q.1 q.2.1 q.2.2) && preC (strE i q) (fl.drop k)
def strA (fl : List Cond) : Nat → List (String × Nat × String) → List Nat → Bool
  | _, [], _ => true
  | i, q :: r, k :: ks => strB fl i q k && strA fl (i + 1) r ks
  | _, _ :: _, [] => false
theorem strA_at {fl : List Cond} (l : List (String × Nat × String)) : ∀ (ks : List Nat) (k : Nat), strA fl k l ks = true → ∀ (i : Nat) (q : String × Nat × String), l[i]? = some q → ∃ k9, strB fl (k + i) q k9 = true := by
  induction l with
  | nil =>
    intro ks k _ i q h
    exact absurd (List.mem_of_getElem? h) List.not_mem_nil
  | cons q0 r ih =>
    intro ks k h i q hi
    cases ks with
    | nil =>
      unfold strA at h
      cases h
    | cons k0 ks =>
      unfold strA at h
      rw [Bool.and_eq_true] at h
      cases i with
      | zero =>
        have : q0 = q := Option.some.inj hi
        subst this
        exact ⟨k0, h.1⟩
      | succ i =>
        rw [List.getElem?_cons_succ] at hi
        rw [show k + (i + 1) = k + 1 + i by omega]
        exact ih ks (k + 1) h.2 i q hi
def strK : List Nat := [69, 82, 93, 101, 109, 118, 126, 133, 141, 149, 157, 167, 175, 182, 189, 423, 433, 442, 451, 460, 471, 480, 488, 497, 506, 514, 522, 529, 541]
set_option maxRecDepth 100000 in
theorem strs_all : strA gFlat 0 sIDs strK = true := by decide +kernel
def strP (s : State) (A : Nat → Prop) (i : Nat) (a t : Nat) : Prop := ∀ q : String × Nat × String, sIDs[i]? = some q → vk_R q.1 q.2.1 q.2.2 a s ∧ va_O "java/lang/String" a A s s.heap ∧ va_OF "java/lang/String" "coder" "B" (.int 0) a A s s.heap ∧ va_OF "java/lang/String" "value" "[B" (.ref t) a A s s.heap ∧ va_T .byte t (sB i).length (fun j => .int (Int32.ofInt ((sB i).getD j 0))) A s s.heap
theorem strP_ex {s : State} {b : Nat} (hts : ∀ w ∈ lw_tbl, w.before #[Value.ref b] s = true) (hgv : (Jvm.Cond.and given_1 narrow_1).before #[Value.ref b] s = true) (i : Nat) : ∃ a t : Nat, strP s (fun q : Nat => s.heap.size ≤ q) i a t := by
  have hg := flat_of_before _ hgv
  have hnA : ∀ a : Nat, a < s.heap.size → ¬ (fun q : Nat => s.heap.size ≤ q) a := fun a h => Nat.not_le.mpr h
  cases hq : sIDs[i]? with
  | none => exact ⟨0, 0, fun q h => by rw [hq] at h; cases h⟩
  | some q =>
    obtain ⟨k9, h⟩ := strA_at sIDs strK 0 strs_all i q hq
    rw [Nat.zero_add] at h
    unfold strB at h
    rw [Bool.and_eq_true] at h
    obtain ⟨h1, h9⟩ := h
    have hin : ∀ w ∈ strE i q, w ∈ flatC (Jvm.Cond.and given_1 narrow_1) := fun w hw => List.mem_of_mem_drop (preC_in h9 w hw)
    have h2 := hin (.exactly (.string q.1 q.2.1) "java/lang/String") List.mem_cons_self
    have h3 := hin (.eq (.field (.string q.1 q.2.1) "java/lang/String" "coder" "B") (.int 0)) (List.mem_cons_of_mem _ List.mem_cons_self)
    have h4 := hin (.arrayOf (sVl q) .byte) (List.mem_cons_of_mem _ (List.mem_cons_of_mem _ List.mem_cons_self))
    have h5 := hin (.eq (.length (sVl q)) (.int (Int32.ofNat (sB i).length))) (List.mem_cons_of_mem _ (List.mem_cons_of_mem _ (List.mem_cons_of_mem _ List.mem_cons_self)))
    have h6 : ∀ j, j < (sB i).length → (Jvm.Cond.eq (.elem (sVl q) (.int (Int32.ofNat j))) (.int (Int32.ofInt ((sB i).getD j 0)))) ∈ flatC (Jvm.Cond.and given_1 narrow_1) := fun j hj => hin _ (List.mem_cons_of_mem _ (List.mem_cons_of_mem _ (List.mem_cons_of_mem _ (List.mem_cons_of_mem _ (List.mem_map.mpr ⟨j, List.mem_range.mpr hj, rfl⟩)))))
    have hi : i < nSt := by rw [← sIDs_len]; exact (List.getElem?_eq_some_iff.mp hq).1
    have hlen : (sB i).length ≤ 16 := (sB_all ⟨i, hi⟩).1
    obtain ⟨a, cQ, cell, kQ, ha, -⟩ := Cond.exactly_spec (hg _ h2)
    obtain ⟨t, t1, t2⟩ := va_Tof (N := (sB i).length) (f := fun j => .int (Int32.ofInt ((sB i).getD j 0))) (A := fun q : Nat => s.heap.size ≤ q) (by omega) (hg _ h4) (va_eqt (hg _ h5)) (fun j hj => va_eqt (hg _ (h6 j hj))) hnA
    refine ⟨a, t, fun q' hq' => ?_⟩
    rw [hq] at hq'
    have := Option.some.inj hq'
    subst this
    exact ⟨vk_R.of (hts _ (memT_in h1)) ha, va_Oof (hg _ h2) ha hnA, vk_OFof ha (va_eqt (hg _ h3)) hnA, vk_OFof ha t1 hnA, t2⟩
set_option maxRecDepth 100000 in
theorem zs_all : (memT (.laysStatic "java/lang/String" "COMPACT_STRINGS" "Z") && (memT (.initialized "java/lang/String") && (memG (.eq (.static "java/lang/String" "COMPACT_STRINGS" "Z") (.int 1)) && (memT (.laysStatic "jdk/internal/util/Preconditions" "SIOOBE_FORMATTER" "Ljava/util/function/BiFunction;") && (memT (.initialized "jdk/internal/util/Preconditions") && memG (.isRef (.static "jdk/internal/util/Preconditions" "SIOOBE_FORMATTER" "Ljava/util/function/BiFunction;"))))))) = true := by decide +kernel
/-- where the texts stand, and the script; no row of texts yet -/
theorem eZs_start {s : State} {b : Nat} (hts : ∀ w ∈ lw_tbl, w.before #[Value.ref b] s = true) (hgv : (Jvm.Cond.and given_1 narrow_1).before #[Value.ref b] s = true) : ∃ fb : Nat → Nat, fb 0 = b ∧ fb 60 = 0 ∧ ∀ sb : eSB, sb.1 = fb → eZs sb (fun q : Nat => s.heap.size ≤ q) s s.heap := by
  have hg := flat_of_before _ hgv
  have hnA : ∀ a : Nat, a < s.heap.size → ¬ (fun q : Nat => s.heap.size ≤ q) a := fun a h => Nat.not_le.mpr h
  have hex := strP_ex hts hgv
  refine ⟨fun n => if n = 0 then b else if n = 60 then 0 else if n % 2 = 1 then Classical.choose (hex (n / 2)) else Classical.choose (Classical.choose_spec (hex (n / 2 - 1))), rfl, rfl, fun sb hsb => ?_⟩
  have hz := zs_all
  simp only [Bool.and_eq_true] at hz
  obtain ⟨z1, z2, z3, z4, z5, z6⟩ := hz
  refine ⟨fun i q hq => ?_, va_Zof (hts _ (memT_in z1)) (hts _ (memT_in z2)) (va_eqi (hg _ (memG_in z3))) hnA, va_Zqof (hts _ (memT_in z4)) (hts _ (memT_in z5)) (hg _ (memG_in z6)) hnA, fun h => ?_⟩
  · have hi : i < 29 := by
      have h9 : i < sIDs.length := (List.getElem?_eq_some_iff.mp hq).1
      rw [sIDs_len] at h9
      exact h9
    have e1 : sb.1 (2 * i + 1) = Classical.choose (hex i) := by
      rw [hsb]
      dsimp only
      rw [if_neg (by omega), if_neg (by omega), if_pos (by omega)]
      have e4 : (2 * i + 1) / 2 = i := by omega
      generalize (2 * i + 1) / 2 = j at e4
      subst e4
      rfl
    have e2 : sb.1 (2 * i + 2) = Classical.choose (Classical.choose_spec (hex i)) := by
      rw [hsb]
      dsimp only
      rw [if_neg (by omega), if_neg (by omega), if_neg (by omega)]
      have e3 : (2 * i + 2) / 2 - 1 = i := by omega
      generalize (2 * i + 2) / 2 - 1 = j at e3
      subst e3
      rfl
    rw [e1, e2]
    exact Classical.choose_spec (Classical.choose_spec (hex i)) q hq
  · rw [hsb] at h
    cases h
set_option maxRecDepth 100000 in
theorem str_all : strs.all (fun q => memT (.stringRef q.1 q.2.1 q.2.2) && memG (.exactly (.string q.1 q.2.1) "java/lang/String")) = true := by decide +kernel
set_option maxRecDepth 100000 in
theorem z_all : (memT (.laysStatic Bundle.tN "UNASSIGNED_STACK" Bundle.steD) && (memT (.laysStatic Bundle.tN "SUPPRESSED_SENTINEL" Bundle.listD) && (memT (.initialized Bundle.tN) && (memG (.isRef (.static Bundle.tN "UNASSIGNED_STACK" Bundle.steD)) && memG (.isRef (.static Bundle.tN "SUPPRESSED_SENTINEL" Bundle.listD)))))) = true := by decide +kernel
set_option maxRecDepth 100000 in
theorem y_all : (eNest.all (fun q => memT (.methodLinkNest q.1 q.2.1 q.2.2.1 q.2.2.2)) && (memT (.castable (exN 1) (exN 1)) && (memT (.castable (exN 2) (exN 2)) && (memG (.not (.castable (exN 1) (exN 2))) && (memG (.not (.castable (exN 2) (exN 1))) && (eDecl.all (fun y => memT (.declares y)) && memT (.arrayOver (.object "java/lang/String")))))))) = true := by decide +kernel
theorem eZ_start {s : State} {b : Nat} (hts : ∀ w ∈ lw_tbl, w.before #[Value.ref b] s = true) (hgv : (Jvm.Cond.and given_1 narrow_1).before #[Value.ref b] s = true) : ∃ fb : Nat → Nat, fb 0 = b ∧ fb 60 = 0 ∧ ∀ sb : eSB, sb.1 = fb → eZ strs sb (fun q : Nat => s.heap.size ≤ q) s s.heap := by
  obtain ⟨fb, f0, f60, fZ⟩ := eZs_start hts hgv
  refine ⟨fb, f0, f60, fun sb hsb => ?_⟩
  have hg := flat_of_before _ hgv
  have hnA : ∀ a : Nat, a < s.heap.size → ¬ (fun q : Nat => s.heap.size ≤ q) a := fun a h => Nat.not_le.mpr h
  have hz := z_all
  have hy := y_all
  rw [Bool.and_eq_true, Bool.and_eq_true, Bool.and_eq_true, Bool.and_eq_true] at hz
  rw [Bool.and_eq_true, Bool.and_eq_true, Bool.and_eq_true, Bool.and_eq_true, Bool.and_eq_true, Bool.and_eq_true] at hy
  obtain ⟨z1, z2, z3, z4, z5⟩ := hz
  obtain ⟨y1, y2, y3, y4, y5, y6, y7⟩ := hy
  refine ⟨vx_Zqof (hts _ (memT_in z1)) (hts _ (memT_in z3)) (hg _ (memG_in z4)) hnA, vx_Zqof (hts _ (memT_in z2)) (hts _ (memT_in z3)) (hg _ (memG_in z5)) hnA, ⟨fun q hq => ?_, fZ sb hsb⟩, fun q hq => va_Nw.of rfl (hts _ (memT_in (List.all_eq_true.mp y1 q hq))), fun k => ?_, va_Nc.of (hg _ (memG_in y4)), va_Nc.of (hg _ (memG_in y5)), fun y hy => va_Nw.of rfl (hts _ (memT_in (List.all_eq_true.mp y6 y hy))), va_AO.of (hts _ (memT_in y7))⟩
  · have h := List.all_eq_true.mp str_all q hq
    rw [Bool.and_eq_true] at h
    obtain ⟨a, cQ, cell, kQ, ha, hQ, hcell, hkQ, hstat, hcls, -⟩ := Cond.exactly_spec (hg _ (memG_in h.2))
    exact ⟨a, vk_R.of (hts _ (memT_in h.1)) ha, hnA a (Array.getElem?_eq_some_iff.mp hcell).1, cell, hcell, hstat, by rw [hcls]; exact hQ⟩
  · have c2 : va_Nw (.castable (exN 2) (exN 2)) s := va_Nw.of rfl (hts _ (memT_in y3))
    match k with
    | 0 => exact c2
    | 1 => exact va_Nw.of rfl (hts _ (memT_in y2))
    | k + 2 => exact c2
/-! ===== THE LAW, 9: the classes; the model's constructor, whose first field is a row of texts ===== -/
set_option maxRecDepth 100000 in
theorem inst_all : (List.range 11).all (fun ci => CLs.any (fun z => Nat.beq z.2.2.2.2.2 ci)) = true := by decide +kernel
theorem inst_ok {ci : Nat} (h : ci < 11) : Jvm.Cond.instantiable (clF ci).1 (clF ci).2.2 ∈ GT := by
  obtain ⟨z, h1, h2⟩ := List.any_eq_true.mp (List.all_eq_true.mp inst_all ci (List.mem_range.mpr h))
  have h3 := List.all_eq_true.mp CL_all z h1
  rw [Nat.eq_of_beq_eq_true h2] at h3
  simp only [Bool.and_eq_true] at h3
  exact chk_in h3.2.2.1
theorem K_start {s : State} {b : Nat} (hts : ∀ w ∈ lw_tbl, w.before #[Value.ref b] s = true) : ∃ (D : va_G) (cA : Nat → ClassId), va_K D eCls (eTys cA) s := by
  have htG : ∀ w ∈ GT, w.before #[Value.ref b] s = true := fun w hw => hts w (GT_tbl w hw)
  have hk : ∀ k : Nat, ∃ (c : ClassId) (iS : Nat → Nat), ∀ q : vw_C, eCls[k]? = some q → u_Kn s q.1 q.2.1 q.2.2 c iS := fun k => by
    by_cases h : k < 11
    · obtain ⟨c, iS, hK⟩ := u_known htG (cl_ws h) (htG _ (inst_ok h))
      refine ⟨c, iS, fun q hq => ?_⟩
      rw [cl_at k h] at hq
      rw [← Option.some.inj hq]
      exact hK
    · refine ⟨0, fun _ => 0, fun q hq => ?_⟩
      have : k < eCls.length := (List.getElem?_eq_some_iff.mp hq).1
      exact absurd this h
  obtain ⟨r1, r2, r3, -⟩ := AR_facts
  obtain ⟨c0, k0, comp0, a1, a2, a3⟩ := Cond.arrayClass_spec (htG _ r1)
  obtain ⟨c1, k1, comp1, b1, b2, b3⟩ := Cond.arrayClass_spec (htG _ r2)
  obtain ⟨c2, k2, comp2, d1, d2, d3⟩ := Cond.arrayClass_spec (htG _ r3)
  refine ⟨(fun k => Classical.choose (hk k), fun k => Classical.choose (Classical.choose_spec (hk k))), fun k => if k = 0 then c0 else if k = 1 then c1 else c2, fun k q hq => Classical.choose_spec (Classical.choose_spec (hk k)) q hq, fun k q hq => ?_⟩
  match k, hq with
  | 0, hq => cases hq; exact ⟨fun n z => ⟨fun k h => (by cases h), k0, a2, comp0, a3⟩, a1⟩
  | 1, hq => cases hq; exact ⟨fun n z => ⟨fun k h => (by cases h), k1, b2, comp1, b3⟩, b1⟩
  | 2, hq => cases hq; exact ⟨fun n z => ⟨fun k h => (by cases h), k2, d2, comp2, d3⟩, d1⟩
  | k + 3, hq => simp at hq
abbrev ar9 (cQ : ClassId) (f : Nat → Option Nat) : va_E := .inl (cQ, 7, .inr (.inr (.inr (.inr f))))
/-- the row of texts, as far as it is filled -/
def mF (g : Nat → Nat) : Nat → Nat → Option Nat
  | 0 => fun _ => none
  | k + 1 => va_up (mF g k) k (some (g k))
theorem mF_at (g : Nat → Nat) : ∀ j, j < 7 → mF g 7 j = some (g j) := fun j hj => by
  match j, hj with
  | 0, _ => rfl
  | 1, _ => rfl
  | 2, _ => rfl
  | 3, _ => rfl
  | 4, _ => rfl
  | 5, _ => rfl
  | 6, _ => rfl
  | j + 7, h => omega
/-- where the texts of that row stand -/
def sTx (sb : eSB) (k : Nat) : Nat := sb.1 (2 * (15 + k) + 1)
def nmSt : String := "[" ++ (FieldType.object "java/lang/String").toString
theorem strArr {s : State} (h : va_AO "java/lang/String" s) : ∃ cA : ClassId, ArrOfT s cA (.object "java/lang/String") ∧ s.vm.findClass nmSt = some cA := by
  obtain ⟨comp, c, k, h1, h2, h3, h4, h5⟩ := Cond.arrayOver_spec h
  exact ⟨c, fun N z => ⟨(fun k h => by cases h), k, h3, comp, h4⟩, h5⟩
section E41
variable {p : Program} {l : Launch} {e : Env} {R : Room} {s : State} {m : MethodId} {args : Array Value} {below : List Frame} {meth : Method} {c : Code} {Q : State → Prop}
variable {D : va_G} {cl : List vw_C} {cA : Nat → ClassId} {A : Nat → Prop} {sb : eSB} {ρ : Nat → Int} {ad0 : Nat → Nat} {h0 nL : Nat} {cc : ByteArray} {own : String} {Ts : List Cond}
theorem set_last {α : Type} (ws : List α) (x y : α) : (ws ++ [x]).set ws.length y = ws ++ [y] := by
  rw [List.set_append_right _ _ (Nat.le_refl _), Nat.sub_self]
  rfl
theorem get_last {α : Type} (ws : List α) (x : α) : (ws ++ [x])[ws.length]? = some x := by
  rw [List.getElem?_append_right (Nat.le_refl _), Nat.sub_self]
  rfl
/-- one text into the row: dup, the place, the text, aastore -/
theorem mdl_one (hx : p.tables.exec = Jvm.exec) (hb : c.code = cc) (hown : s.vm.findClass own = some m.cls) {tys : List (ClassId × FieldType)} (hK : va_K D cl tys s) {t0 : Nat} {cQ : ClassId} (ht : tys[t0]? = some (cQ, .object "java/lang/String")) {ix a : Nat} {tx : String} (hR : vk_R own ix tx a s) (hO : va_O "java/lang/String" a A s s.heap) {pc pl : Nat} {i : Int32} {j : Nat} (hj : i.toNatClampNeg = j) {ls : Array Slot} {k z : Nat}
    (hd0 : decode cc pc = .ok (.dup, 1)) (hpush : ∀ (H : Heap) (locs : List Loc) (vs : List Value), W p l e R s m args below meth c H locs k z Q (F0 m (pc + 1 + pl) ls (.int i :: vs)) → W p l e R s m args below meth c H locs k z Q (F0 m (pc + 1) ls vs)) (hdl : decode cc (pc + 1 + pl) = .ok (.ldc ix, 2)) (hds : decode cc (pc + 1 + pl + 2) = .ok (.aastore, 1)) (hin : vp_in i 7)
    {ws : va_W} {q : Nat} {vs : List Value} {f : Nat → Option Nat} (kk : ∀ (H : Heap) (locs : List Loc), va_P D cl (ws ++ [(q, ar9 cQ (va_up f j (some a)))]) H → va_D A (ws ++ [(q, ar9 cQ (va_up f j (some a)))]) → va_S A s.heap H locs → W p l e R s m args below meth c H locs k z Q (F0 m (pc + 1 + pl + 2 + 1) ls (.ref q :: vs))) :
    ∀ (H : Heap) (locs : List Loc), va_P D cl (ws ++ [(q, ar9 cQ f)]) H → va_D A (ws ++ [(q, ar9 cQ f)]) → va_S A s.heap H locs → W p l e R s m args below meth c H locs k z Q (F0 m pc ls (.ref q :: vs)) := by
  intro H locs hP hD hS
  subst hj
  refine lv_dup hx hb hd0 rfl ?_
  refine hpush H locs _ ?_
  refine va_ldcS hx hb hown hR hdl ?_
  have hrec : ∃ cellV : Cell, H[a]? = some cellV ∧ cellV.vm.isStatics = false ∧ s.vm.findClass "java/lang/String" = some cellV.cls := by
    obtain ⟨cell, h1, h2, h3, -⟩ := hO.kept hS.2.1
    exact ⟨cell, h1, h2, h3⟩
  refine vb_astq hx hb hK hP hD hS ws.length t0 (E := "java/lang/String") (C := "java/lang/String") (get_last ws _) ht hrec vb_asgS hin hds (fun H1 locs1 a1 a2 a3 => ?_)
  rw [set_last] at a1 a2
  exact kk H1 locs1 a1 a2 a3
/-- from the row's making to its end: the row is a cell that stays as it is -/
def x_mdl (cm sm : Nat) (S : eS) : Option eS := match S.2.2.1 with
  | n :: r => bif Nat.beq S.1 7 && (eEq n (eI 7) && (Nat.ble (S.2.2.2.2.2.1 + 1) cm && (Nat.ble (S.2.2.2.2.2.2 + 7) sm && (eScoped S.2.1 r S.2.2.2.2.1 && S.2.2.2.2.1.all (fun c => !isK3 c))))) then
      some (46, S.2.1, (2, S.2.2.2.2.1.length, 0, 0) :: r, S.2.2.2.1, S.2.2.2.2.1 ++ [fr9 S.2.2.2.2.1.length], S.2.2.2.2.2.1 + 1, S.2.2.2.2.2.2 + 7) else none
  | _ => none
theorem gH_sb9 {ad : Nat → Nat} {sb' : eSB} (hs : sb'.1 = sb.1) {hp : eH} {ws : va_W} (h3 : hp.all (fun c => !isK3 c) = true) (g : gH ρ ad sb cA hp ws) : gH ρ ad sb' cA hp ws := ⟨g.1, fun k c9 hk => by
  obtain ⟨x, h1, h2⟩ := g.2 k c9 hk
  have := List.all_eq_true.mp h3 c9 (List.mem_of_getElem? hk)
  exact ⟨x, h1, gC_sb hs (by cases hz : isK3 c9 with | false => rfl | true => rw [hz] at this; cases this) h2⟩⟩
set_option maxRecDepth 100000 in
theorem cl_str : memT (.classLink RX11 9 "java/lang/String") = true := by decide +kernel
set_option maxRecDepth 100000 in
theorem cl_strG : goodWord (.classLink RX11 9 "java/lang/String") = true := by decide +kernel
theorem cl_strIn : Jvm.Cond.classLink RX11 9 "java/lang/String" ∈ GT := List.mem_filter.mpr ⟨memT_in cl_str, cl_strG⟩
theorem k_mdl (K : eK p m c s args cX11_init RX11 nL GT D cl cA A) (hZ : eZ strs sb A s s.heap) {S S' : eS} {cm sm : Nat} (hcm : cm ≤ R.cells) (hsm : sm ≤ R.slots) (h : x_mdl cm sm S = some S')
    (hw : ∀ (cQ : ClassId) (FR : Nat → va_E), FR S.2.2.2.2.1.length = ar9 cQ (mF (sTx sb) 7) → s.vm.findClass nmSt = some cQ → eW p l e R s m args below meth c Q D cl cA A (sb.1, FR) ρ ad0 h0 nL S') : eW p l e R s m args below meth c Q D cl cA A sb ρ ad0 h0 nL S := by
  obtain ⟨hx, hb, hml, hown, hts, hK, hA⟩ := K
  obtain ⟨pc, lo, st, B, hp, c9, z9⟩ := S
  unfold x_mdl at h
  split at h
  next n r hst =>
    dsimp only at hst
    subst hst
    dsimp only at h hw
    cases hb9 : (Nat.beq pc 7 && (eEq n (eI 7) && (Nat.ble (c9 + 1) cm && (Nat.ble (z9 + 7) sm && (eScoped lo r hp && hp.all (fun c => !isK3 c)))))) with
    | false => rw [hb9] at h; cases h
    | true =>
      rw [hb9, cond_true] at h
      cases h
      simp only [Bool.and_eq_true] at hb9
      obtain ⟨b1, b2, b5, b6, b7, b8⟩ := hb9
      have e1 := Nat.eq_of_beq_eq_true b1
      have e2 := eEq_eq b2
      subst e1 e2
      have b5 := Nat.le_of_ble_eq_true b5
      have b6 := Nat.le_of_ble_eq_true b6
      unfold eScoped at b7
      rw [Bool.and_eq_true, Bool.and_eq_true] at b7
      intro ad ls lc vs ws H locs g1 g2 g3 g4 g5 g6 g7 g8 g9
      match vs, g4 with
      | w :: vs, g4 =>
        obtain ⟨⟨x, rfl, -, u1, u2⟩, g4⟩ := g4
        dsimp only at u1 u2
        have hx7 : x = 7 := i32_of (show x.toInt = 7 by omega)
        subst hx7
        have hstr : ∀ (k ix : Nat) (tx : String), sIDs[15 + k]? = some (RX11, ix, tx) → vk_R RX11 ix tx (sTx sb k) s ∧ va_O "java/lang/String" (sTx sb k) A s s.heap := fun k ix tx hin => by
          have := hZ.2.2.1.2.1 (15 + k) _ hin
          exact ⟨this.1, this.2.1⟩
        refine va_newq (N' := 7) hx hb hown (hts _ cl_strIn) hZ.2.2.2.2.2.2.2.2 hK g6 g7 g8 hA (by decide) (by decide) (by decide) (Nat.le_trans b5 hcm) (Nat.le_trans b6 hsm) (show decode cX11_init 7 = .ok (.anewarray 9, 3) by decide +kernel) (fun q cQ H1 c1 c2 c3 c4 => ?_)
        have hfc : s.vm.findClass nmSt = some cQ := by
          obtain ⟨kA, comp, -, -, -, h4⟩ := (c1.2 3 _ rfl).2
          exact h4
        have hno : ∀ k, k < hp.length → (fun k => if k = hp.length then q else ad k) k = ad k := fun k hk => if_neg (Nat.ne_of_lt hk)
        have last : ∀ (H : Heap) (locs : List Loc), va_P D cl (ws ++ [(q, ar9 cQ (mF (sTx sb) 7))]) H → va_D A (ws ++ [(q, ar9 cQ (mF (sTx sb) 7))]) → va_S A s.heap H locs → W p l e R s m args below meth c H locs (c9 + 1) (z9 + 7) Q (F0 m 46 ls (.ref q :: vs)) := fun H locs hP hD hS => by
          have hFR : (fun k => if k = hp.length then ar9 cQ (mF (sTx sb) 7) else sb.2 k) hp.length = ar9 cQ (mF (sTx sb) 7) := if_pos rfl
          refine hw cQ (fun k => if k = hp.length then ar9 cQ (mF (sTx sb) 7) else sb.2 k) hFR hfc (fun k => if k = hp.length then q else ad k) ls lc (.ref q :: vs) _ H locs ?_ g2 (gL_sb (sb := sb) (sb' := (sb.1, fun k => if k = hp.length then ar9 cQ (mF (sTx sb) 7) else sb.2 k)) rfl (gL_mono hno b7.1 g3)) ⟨?_, gS_sb (sb := sb) (sb' := (sb.1, fun k => if k = hp.length then ar9 cQ (mF (sTx sb) 7) else sb.2 k)) rfl (gS_mono hno b7.2.1 g4)⟩ (gH_push b7.2.2 (gH_sb9 (sb := sb) (sb' := (sb.1, fun k => if k = hp.length then ar9 cQ (mF (sTx sb) 7) else sb.2 k)) rfl b8 g5) ⟨hFR.symm, fun h => by cases h⟩) hP hD hS g9
          · dsimp only
            rw [List.length_append]
            exact eAd_push g1
          · show Value.ref q = .ref (if hp.length = hp.length then q else ad hp.length)
            rw [if_pos rfl]
        have s6 := mdl_one (pc := 40) (pl := 2) (i := (Int8.ofInt 6).toInt32) (j := 6) (f := mF (sTx sb) 6) hx hb hown c1 (t0 := 3) rfl (hstr 6 23 "day" (by decide +kernel)).1 (hstr 6 23 "day" (by decide +kernel)).2 (by decide) (by decide +kernel) (fun H locs vs k => lv_bipush hx hb (n := 6) (by decide +kernel) rfl k) (by decide +kernel) (by decide +kernel) (by unfold vp_in; decide) last
        have s5 := mdl_one (pc := 35) (pl := 1) (i := Int32.ofInt 5) (j := 5) (f := mF (sTx sb) 5) hx hb hown c1 (t0 := 3) rfl (hstr 5 21 "free" (by decide +kernel)).1 (hstr 5 21 "free" (by decide +kernel)).2 (by decide) (by decide +kernel) (fun H locs vs k => lv_iconst hx hb (n := 5) (by decide +kernel) rfl k) (by decide +kernel) (by decide +kernel) (by unfold vp_in; decide) s6
        have s4 := mdl_one (pc := 30) (pl := 1) (i := Int32.ofInt 4) (j := 4) (f := mF (sTx sb) 4) hx hb hown c1 (t0 := 3) rfl (hstr 4 19 "beside" (by decide +kernel)).1 (hstr 4 19 "beside" (by decide +kernel)).2 (by decide) (by decide +kernel) (fun H locs vs k => lv_iconst hx hb (n := 4) (by decide +kernel) rfl k) (by decide +kernel) (by decide +kernel) (by unfold vp_in; decide) s5
        have s3 := mdl_one (pc := 25) (pl := 1) (i := Int32.ofInt 3) (j := 3) (f := mF (sTx sb) 3) hx hb hown c1 (t0 := 3) rfl (hstr 3 17 "gone" (by decide +kernel)).1 (hstr 3 17 "gone" (by decide +kernel)).2 (by decide) (by decide +kernel) (fun H locs vs k => lv_iconst hx hb (n := 3) (by decide +kernel) rfl k) (by decide +kernel) (by decide +kernel) (by unfold vp_in; decide) s4
        have s2 := mdl_one (pc := 20) (pl := 1) (i := Int32.ofInt 2) (j := 2) (f := mF (sTx sb) 2) hx hb hown c1 (t0 := 3) rfl (hstr 2 15 "iron" (by decide +kernel)).1 (hstr 2 15 "iron" (by decide +kernel)).2 (by decide) (by decide +kernel) (fun H locs vs k => lv_iconst hx hb (n := 2) (by decide +kernel) rfl k) (by decide +kernel) (by decide +kernel) (by unfold vp_in; decide) s3
        have s1 := mdl_one (pc := 15) (pl := 1) (i := Int32.ofInt 1) (j := 1) (f := mF (sTx sb) 1) hx hb hown c1 (t0 := 3) rfl (hstr 1 13 "pots" (by decide +kernel)).1 (hstr 1 13 "pots" (by decide +kernel)).2 (by decide) (by decide +kernel) (fun H locs vs k => lv_iconst hx hb (n := 1) (by decide +kernel) rfl k) (by decide +kernel) (by decide +kernel) (by unfold vp_in; decide) s2
        have s0 := mdl_one (pc := 10) (pl := 1) (i := Int32.ofInt 0) (j := 0) (f := mF (sTx sb) 0) hx hb hown c1 (t0 := 3) rfl (hstr 0 11 "times" (by decide +kernel)).1 (hstr 0 11 "times" (by decide +kernel)).2 (by decide) (by decide +kernel) (fun H locs vs k => lv_iconst hx hb (n := 0) (by decide +kernel) rfl k) (by decide +kernel) (by decide +kernel) (by unfold vp_in; decide) s1
        exact s0 H1 locs c2 c3 c4
      | [], g4 => exact g4.elim
  next => cases h
end E41
/-! the model's constructor -/
def kLw : Nat := 9
def xM : eQ → eS → eR := ex (inl kLw) mtF npF ciF dfF (mtF 165).2.2.2.1 (mtF 165).2.2.2.2.2.1 (mtF 165).2.2.2.2.2.2 none (fun _ _ => none)
def mdlR (n : Nat) (as : List eV) (B : eB) (hp : eH) : Option (List eO) := bif Nat.ble (eWords as) (mtF 165).2.2.2.1 then (match run (ftF 165) 7 xM n [(0, eArgs 0 as, [], B, hp, 0, 0)] [] with
    | some [(0, S7)] => bif Nat.beq S7.2.2.2.2.1.length hp.length then (match x_mdl (mtF 165).2.2.2.2.2.1 (mtF 165).2.2.2.2.2.2 S7 with
      | some S9 => (match run (ftF 165) 99999 xM n [S9] [] with
        | some os => (match ends (ftF 165) (mtF 165).2.2.2.2.1 (mtF 165).2.2.2.2.2.1 (mtF 165).2.2.2.2.2.2 os with
          | some outs => bif eNoX outs then some outs else none
          | none => none)
        | none => none)
      | none => none) else none
    | _ => none) else none
def mdQ (ρ : Nat → Int) (sb : eSB) (D : va_G) (cA : Nat → ClassId) (ad : Nat → Nat) (n : Nat) (A' : Nat → Prop) (outs : List eO) : Array Value → State → Outcome → State → Prop := fun a st oc t =>
  ∃ (cQ : ClassId) (FR : Nat → va_E), FR n = ar9 cQ (mF (sTx sb) 7) ∧ t.vm.findClass nmSt = some cQ ∧ eQc ρ (sb.1, FR) D eCls cA ad n A' outs a st oc t
section E41A
variable {l : Launch} {D : va_G} {cA : Nat → ClassId} {sb : eSB} {ρ : Nat → Int} {d : Nat}
set_option maxRecDepth 20000 in
theorem mdl_met (htr : l.stackTraces = false) (hd : kLw ≤ d) {as : List eV} {B : eB} {hp : eH} {n : Nat} {outs : List eO} (h : mdlR n as B hp = some outs) {ad : Nat → Nat} {vs : List Value} {ws : va_W} {sz : Nat} (g2 : gB ρ B) (ga : gS ρ ad sb as vs) (g5 : gH ρ ad sb cA hp ws) :
    vx_Met l (mtF 165).1 ((mtF 165).2.1 :: GT) (rmD (d + 1) (mtF 165).2.2.2.2.2.1 (mtF 165).2.2.2.2.2.2) (ePc strs sb D eCls cA vs ws sz) (mdQ ρ sb D cA ad hp.length (va_A ws sz) outs) (fun _ _ _ => False) (mtF 165).2.2.2.2.2.1 (mtF 165).2.2.2.2.2.2 (va_A ws sz) := by
  have hm := mOk_of (M := 165) (by decide) (rows_all 165 (by decide))
  have hy := (mt_facts (M := 165) (by decide)).2.2.2.2.2.2.2.1 (by decide)
  have hcc : (mtF 165).2.2.1 = cX11_init := rfl
  have hcn : (mtF 165).1.cls = RX11 := rfl
  unfold mdlR xM at h
  generalize hgy : mtF 165 = y at *
  generalize ftF 165 = ft at *
  cases hw : Nat.ble (eWords as) y.2.2.2.1 with
  | false => rw [hw] at h; cases h
  | true =>
    rw [hw, cond_true] at h
    split at h
    next S7 hrun1 =>
      cases hl7 : Nat.beq S7.2.2.2.2.1.length hp.length with
      | false => rw [hl7] at h; cases h
      | true =>
        rw [hl7, cond_true] at h
        have hl7 := Nat.eq_of_beq_eq_true hl7
        split at h
        next S9 hS9 =>
          split at h
          next os hrun2 =>
            split at h
            next outs1 hends =>
              cases hnx : eNoX outs1 with
              | false => rw [hnx] at h; cases h
              | true =>
                rw [hnx, cond_true] at h
                cases h
                refine vx_ofW (cc := y.2.2.1) (maxL := y.2.2.2.1) (ret := y.2.2.2.2.1) hm.1 (by rw [hy]) ?_
                intro p e s m args below meth c s₁ Bd hml hnoex hv
                obtain ⟨rfl, hsz, hP, hK, hD0, hZ⟩ := hv
                subst hsz
                have hD := hD0.self (sz := s.heap.size)
                have hts := atoms_spec (ws := y.2.1 :: GT) Bd.pre
                have hown : s.vm.findClass y.1.cls = some m.cls := findClass_of_methodNamed Bd.named
                have hname : meth.name = y.1.name := (name_of_methodNamed Bd.named Bd.method).1
                have hA : ∀ q, s.heap.size ≤ q → va_A ws s.heap.size q := fun q h => Or.inr h
                have hts' : ∀ w ∈ GT, w.before vs.toArray s = true := fun w hw => hts w (List.mem_cons_of_mem _ hw)
                have K : eK p m c s vs.toArray y.2.2.1 y.1.cls y.2.2.2.1 GT D eCls cA (va_A ws s.heap.size) := ⟨Bd.exec, Bd.bytes, hml, hown, hts', hK, hA⟩
                have hRf : (headSpec (y.2.1 :: GT) (rmD (d + 1) y.2.2.2.2.2.1 y.2.2.2.2.2.2)).room.frames = d + 9 := by show d + 1 + 8 = d + 9; omega
                have hRl : (headSpec (y.2.1 :: GT) (rmD (d + 1) y.2.2.2.2.2.1 y.2.2.2.2.2.2)).room.locals = 64 * d + 1064 := by show 64 * (d + 1) + 1000 = 64 * d + 1064; omega
                have hnat := natW
                have hX : ∀ (sb2 : eSB), eZ strs sb2 (va_A ws s.heap.size) s s.heap → ∀ (S : eS) (q : eQ) (rs : List (Nat × eS)), ft S.1 = some q → stp q = false → ex (inl kLw) mtF npF ciF dfF y.2.2.2.1 y.2.2.2.2.2.1 y.2.2.2.2.2.2 none (fun _ _ => none) q S = some rs → (∀ r ∈ rs, eLf p l e (headSpec (y.2.1 :: GT) (rmD (d + 1) y.2.2.2.2.2.1 y.2.2.2.2.2.2)).room s m vs.toArray below meth c (vx_MQ below (mdQ ρ sb D cA ad hp.length (va_A ws s.heap.size) outs) (fun _ _ _ => False) vs.toArray s y.2.2.2.2.2.1 y.2.2.2.2.2.2 (va_A ws s.heap.size)) D eCls cA (va_A ws s.heap.size) sb2 ρ ad hp.length y.2.2.2.1 r) → eW p l e (headSpec (y.2.1 :: GT) (rmD (d + 1) y.2.2.2.2.2.1 y.2.2.2.2.2.2)).room s m vs.toArray below meth c (vx_MQ below (mdQ ρ sb D cA ad hp.length (va_A ws s.heap.size) outs) (fun _ _ _ => False) vs.toArray s y.2.2.2.2.2.1 y.2.2.2.2.2.2 (va_A ws s.heap.size)) D eCls cA (va_A ws s.heap.size) sb2 ρ ad hp.length y.2.2.2.1 S := fun sb2 hZ2 S q rs hq hs hX hr => by
                  obtain ⟨h1, h2, h3, h4⟩ := hm.2 S.1 q hq
                  refine ex_ok (d := d) (sc := none) K hZ2 trivial GT_good (Nat.le_refl _) (Nat.le_refl _) (by rw [hRf]; exact Nat.le_refl _) (by rw [hRl]; exact Nat.le_refl _) (by rw [hRl]; omega) (fun M as B hp outs ho => inl_ok htr kLw d hd M as B hp outs ho) h1 (h3 hs meth hname) (fun _ _ q => by cases q) ?_ hX hr
                  rcases lenB_ok h2 with q9 | q9
                  · exact q9
                  · exfalso
                    unfold stp at hs
                    rcases q9 with q9 | q9 | q9 <;> rw [q9] at hs <;> cases hs
                have h9 : ∀ (cQ : ClassId) (FR : Nat → va_E), FR hp.length = ar9 cQ (mF (sTx sb) 7) → s.vm.findClass nmSt = some cQ → eW p l e (headSpec (y.2.1 :: GT) (rmD (d + 1) y.2.2.2.2.2.1 y.2.2.2.2.2.2)).room s m vs.toArray below meth c (vx_MQ below (mdQ ρ sb D cA ad hp.length (va_A ws s.heap.size) outs) (fun _ _ _ => False) vs.toArray s y.2.2.2.2.2.1 y.2.2.2.2.2.2 (va_A ws s.heap.size)) D eCls cA (va_A ws s.heap.size) (sb.1, FR) ρ ad hp.length y.2.2.2.1 S9 := fun cQ FR hFR hfc =>
                  (run_ok (cut := 99999) (hX (sb.1, FR) hZ) n _ _ os hrun2 (fun o ho => by
                    obtain ⟨x, hx1, hx2⟩ := ends_in hends o ho
                    refine eLf_mono (fun t ht => ?_) (leaf_ok (own := y.1.cls) (sb := (sb.1, FR)) Bd.exec Bd.bytes hml hown hts' hK hZ htr Bd.notSynchronized hnoex hA Bd.returns (Nat.le_refl _) (Nat.le_refl _) (by rw [hRf]; omega) (by rw [hRl]; omega) (fun pc q hq => by
                      obtain ⟨h1, h2, h3, h4⟩ := hm.2 pc q hq
                      exact ⟨h1, fun hi => lenB_ret h2 hi, h4⟩) hx1 hx2)
                    obtain ⟨oc, k1, k2, k3⟩ := ht
                    refine ⟨oc, k1, k2, ?_⟩
                    rcases k3 with ⟨hq, L, hFE, hfree⟩ | ⟨q, -, E, ce, L, ⟨⟨k, o9, ho9, h09, -⟩, -⟩, -⟩
                    · exact Or.inl ⟨⟨cQ, FR, hFR, by rw [hFE.2.1.alike.findClass]; exact hfc, hq⟩, L, hFE, hfree⟩
                    · have := Nat.eq_of_beq_eq_true (List.all_eq_true.mp hnx o9 ho9)
                      rw [h09] at this
                      cases this)).1 S9 List.mem_cons_self
                have K' := K
                rw [hcc, hcn] at K'
                have h7 := k_mdl K' hZ (Nat.le_refl _) (Nat.le_refl _) hS9 (by rw [hl7]; exact h9)
                have hent := (run_ok (cut := 7) (hX sb hZ) n _ _ _ hrun1 (fun o ho => by
                  rw [List.mem_singleton.mp ho]
                  exact h7)).1 _ List.mem_cons_self
                rw [lg_entry_eq]
                exact hent ad _ (lv_args 0 vs) [] ws s.heap [] ⟨Nat.le_refl _, fun _ _ => rfl, fun _ => rfl⟩ g2 (gL_args 0 ga) trivial g5 hP hD va_S.rf (lv_entry vs (by rw [sl_len, gS_words ga]; exact Nat.le_of_ble_eq_true hw))
            next => cases h
          next => cases h
        next => cases h
    next => cases h
end E41A
