/-! ===== CONTRACTS, 2: a number's range in parts ===== -/
section C2
variable {l : Launch} {D : va_G} {cA : Nat → ClassId} {sb : eSB}
theorem ctH_union {M lev : Nat} {a b c : Int} {outs : List eO} (h1 : ctH l sb D cA M lev [(0, 4097, a, b)] ([(a, b)], []) [] outs) (h2 : ctH l sb D cA M lev [(0, 4097, b + 1, c)] ([(b + 1, c)], []) [] outs) : ctH l sb D cA M lev [(0, 4097, a, c)] ([(a, c)], []) [] outs := by
  intro d hd ρ ad vs ws sz gb gs gh
  have hb := gb.1 0 (a, c) rfl
  dsimp only at hb
  match vs, gs with
  | [v], gs =>
    obtain ⟨⟨x, rfl, gx, x1, x2⟩, -⟩ := gs
    have e := gx 4096 rfl
    have e1 : nB 4096 = 0 := by decide
    have e2 : nO 4096 = 0 := by decide
    rw [e1, e2] at e
    dsimp only at x1 x2
    by_cases hc : ρ 0 ≤ b
    · refine h1 d hd ρ ad [.int x] ws sz ⟨fun i p hi => ?_, fun f hf => by cases hf⟩ ⟨⟨x, rfl, gx, by dsimp only; omega, by dsimp only; omega⟩, trivial⟩ gh
      match i, hi with
      | 0, hi =>
        have := Option.some.inj hi
        subst this
        exact ⟨hb.1, hc⟩
      | (i + 1), hi => simp at hi
    · refine h2 d hd ρ ad [.int x] ws sz ⟨fun i p hi => ?_, fun f hf => by cases hf⟩ ⟨⟨x, rfl, gx, by dsimp only; omega, by dsimp only; omega⟩, trivial⟩ gh
      match i, hi with
      | 0, hi =>
        have := Option.some.inj hi
        subst this
        exact ⟨by dsimp only; omega, hb.2⟩
      | (i + 1), hi => simp at hi
  | [], gs => exact gs.elim
  | _ :: _ :: _, gs => exact gs.2.elim
end C2
