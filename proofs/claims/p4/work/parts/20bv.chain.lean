/-! ===== THE ENGINE, 12v: codes alike by the bytes that they were made of ===== -/
def cdsD (B : eB) : List eV := B.2.filterMap (fun f => bif Nat.beq f.1 204 then argV B f.2.1 else none)
/-- a is v: v is made of four bytes more, so is a -/
def chD (B : eB) : Nat → eV → eV → Bool
  | 0, a, v => isOff B a v 0
  | n + 1, a, v => isOff B a v 0 || B.2.any (fun f => Nat.beq f.1 206 && ((match argV B f.2.2.2.2.toNat with
    | some d => isOff B d v 0
    | none => false) && (match argV B f.2.1, argV B f.2.2.2.1 with
    | some g, some w => (cdsD B).any (fun u => prR B 203 u w (eI 0) a && chD B n u g)
    | _, _ => false)))
theorem cdsD_ok {ρ : Nat → Int} {B : eB} (hB : gB ρ B) {u : eV} (h : u ∈ cdsD B) : ∃ z, gN ρ u z := by
  unfold cdsD at h
  obtain ⟨f, _, h⟩ := List.mem_filterMap.mp h
  cases hb : Nat.beq f.1 204 with
  | false => rw [hb] at h; cases h
  | true =>
    rw [hb, cond_true] at h
    exact ⟨_, argV_ok hB h⟩
theorem chD_ok {ρ : Nat → Int} {B : eB} (hB : gB ρ B) : ∀ {n : Nat} {a v : eV} {x y : Int}, chD B n a v = true → gN ρ a x → gN ρ v y → x = y
  | 0, a, v, x, y, h, ga, gv => by
    have := isOff_ok hB ga gv h
    omega
  | n + 1, a, v, x, y, h, ga, gv => by
    unfold chD at h
    rw [Bool.or_eq_true] at h
    rcases h with h | h
    · have := isOff_ok hB ga gv h
      omega
    · obtain ⟨f, m1, h⟩ := List.any_eq_true.mp h
      simp only [Bool.and_eq_true] at h
      obtain ⟨h1, h2, h3⟩ := h
      have hg := hB.2 f m1
      obtain ⟨f0, f1, f2, f3, f4⟩ := f
      replace h1 := Nat.eq_of_beq_eq_true h1
      dsimp only at h1 h2 h3
      subst h1
      have hg : RK 203 (aR ρ f1) (aR ρ f3) (aR ρ f2.toNat) (aR ρ f4.toNat) := hg
      have hg := (RK_f (by decide)).mp hg
      split at h2
      next d hd =>
        have e1 := isOff_ok hB (argV_ok hB hd) gv h2
        split at h3
        next g w hg9 hw9 =>
          obtain ⟨u, hu, h4⟩ := List.any_eq_true.mp h3
          rw [Bool.and_eq_true] at h4
          obtain ⟨z, gz⟩ := cdsD_ok hB hu
          have e2 := chD_ok hB h4.2 gz (argV_ok hB hg9)
          have e3 := prR_ok hB h4.1 gz (argV_ok hB hw9) (gN_I 0) ga
          have e3 := (RK_f (by decide)).mp e3
          have e4 : FK 203 (aR ρ f1) (aR ρ f3) (aR ρ f2.toNat) = FK 203 z (aR ρ f3) 0 := by rw [e2]; exact FK_fn rfl (Or.inr rfl)
          omega
        next => cases h3
      next => cases h2
def m9c (B : eB) (l : eL) (hp : eH) (th : List (Option eP)) (ak bk : Nat) (P Q : List (Nat × eV)) : Bool := match P, Q with
  | [p], [q] => Nat.beq ak bk && ((Nat.beq bk 9 || Nat.beq bk 10) && (Nat.beq p.1 0 && (Nat.beq q.1 0 && (match valI B l hp th q.2 with
    | some v => chD B 6 p.2 v
    | none => false))))
  | _, _ => false
section E12V
variable {ρ ρ' : Nat → Int} {ad adI ad' : Nat → Nat} {sb sb' : eSB} {cA : Nat → ClassId}
variable {B : eB} {l : eL} {hp : eH} {lc : List (Nat × Value)} {ws : va_W} {th : List (Option eP)}
theorem m9c_ok (hB : gB ρ B) (h1 : gL ρ ad sb l lc) (h2 : gHx ρ ad adI sb cA hp ws) (hR : Ren ρ ρ' lc ws th) {ak n t : Nat} {da db : eV} {P Q : List (Nat × eV)} {x : va_E} (h : m9c B l hp th ak (t + 4) P Q = true) (g : gC ρ ad sb cA (.inr (ak, n, da, P)) x) : gC ρ' ad' sb' cA (.inr (t + 4, n, db, Q)) x := by
  unfold m9c at h
  split at h
  next p q =>
    simp only [Bool.and_eq_true, Bool.or_eq_true] at h
    obtain ⟨ha, hk, hp0, hq0, h⟩ := h
    have ha := Nat.eq_of_beq_eq_true ha
    subst ha
    split at h
    next v hv =>
      obtain ⟨z, gv, gq⟩ := valI_ok hB h1 h2 hR hv
      have hp0 := Nat.eq_of_beq_eq_true hp0
      have hq0 := Nat.eq_of_beq_eq_true hq0
      obtain ⟨p0, p1⟩ := p
      obtain ⟨q0, q1⟩ := q
      dsimp only at hp0 hq0 h gq
      subst hp0
      subst hq0
      have go : ∀ (lo hi : Int) (f : Nat → Int32) (zs : List Int), gNs ρ [((0 : Nat), p1)] zs → PR5 lo hi n f [0] zs → PR5 lo hi n f [0] [z] := fun lo hi f zs gz hp => by
        obtain ⟨g9, -, e2, ht⟩ := PR5_0 hp
        subst e2
        show tpR lo hi n f z
        have e := chD_ok hB h gz.1 gv
        rw [← e]
        exact ht
      rcases hk with w | w
      · have e : t = 5 := by have := Nat.eq_of_beq_eq_true w; omega
        subst e
        obtain ⟨f, zs, k1, k2, k3⟩ := g
        exact ⟨f, [z], k1, ⟨gq, trivial⟩, go _ _ f zs k2 k3⟩
      · have e : t = 6 := by have := Nat.eq_of_beq_eq_true w; omega
        subst e
        obtain ⟨f, zs, k1, k2, k3⟩ := g
        exact ⟨f, [z], k1, ⟨gq, trivial⟩, go _ _ f zs k2 k3⟩
    next => cases h
  next => cases h
end E12V
/-! what a rule's length says of bounds: a + v ≤ c, a ≤ z -/
def d12 (B : eB) (a c : eV) (v : Int) : Bool := B.2.any (fun f => Nat.beq f.1 1015 && (match argL B f with
  | some [x, y, z, w] => (match offV B a z, offV B c w with
    | some oa, some oc => dLe B x y (oa + v - oc)
    | _, _ => false)
  | _ => false))
theorem d12_ok {ρ : Nat → Int} {B : eB} (hB : gB ρ B) {a c : eV} {v x y : Int} (ga : gN ρ a x) (gc : gN ρ c y) (h : d12 B a c v = true) : x + v ≤ y := by
  unfold d12 at h
  obtain ⟨f, m1, h⟩ := List.any_eq_true.mp h
  rw [Bool.and_eq_true] at h
  obtain ⟨h1, h⟩ := h
  split at h
  next p q r s hl =>
    have gl := argL_ok hB hl
    have hg := hB.2 f m1
    obtain ⟨f0, f1, f2, f3, f4⟩ := f
    have h1 := Nat.eq_of_beq_eq_true h1
    dsimp only at h1 gl
    subst h1
    have hg : aR ρ f2.toNat + aR ρ f3 ≤ aR ρ f4.toNat + aR ρ f1 := hg
    split at h
    next oa oc ho1 ho2 =>
      have e1 := offV_ok hB ga gl.2.2.1 ho1
      have e2 := offV_ok hB gc gl.2.2.2.1 ho2
      have e3 := dLe_ok hB gl.1 gl.2.1 h
      omega
    next => cases h
  next => cases h
def hi12o (B : eB) (a : eV) (z : Int) : Bool := B.2.any (fun f => bif Nat.beq f.1 1 then (match a.2.1, eGet B.1 f.2.2.2.1 with
  | t + 1, some p => Nat.beq (nB t) f.2.1 && decide (p.2 - f.2.2.1 + nO t ≤ z)
  | _, _ => false) else (Nat.beq f.1 1015 && (match argL B f with
  | some [x, y, c, w] => (match offV B a c with
    | some oa => (List.range 10).any (fun k => dLe B x y (k : Int) && decide (eHi B w - (k : Int) + oa ≤ z))
    | none => false)
  | _ => false)))
theorem hi12o_ok {ρ : Nat → Int} {B : eB} (hB : gB ρ B) {a : eV} {x z : Int} (ga : gN ρ a x) (h : hi12o B a z = true) : x ≤ z := by
  unfold hi12o at h
  obtain ⟨f, m1, h⟩ := List.any_eq_true.mp h
  have hg := hB.2 f m1
  obtain ⟨f0, f1, f2, f3, f4⟩ := f
  dsimp only at h
  cases hb : Nat.beq f0 1 with
  | true =>
    rw [hb, cond_true] at h
    have e0 := Nat.eq_of_beq_eq_true hb
    subst e0
    have hg : ρ f1 + f2 ≤ ρ f3 := hg
    split at h
    next t p ht hp =>
      rw [Bool.and_eq_true, decide_eq_true_eq] at h
      have e1 := Nat.eq_of_beq_eq_true h.1
      have e2 := ga.1 t ht
      rw [e1] at e2
      have := (hB.1 f3 p (by rw [← eGet_eq]; exact hp)).2
      omega
    next => cases h
  | false =>
    rw [hb, cond_false, Bool.and_eq_true] at h
    obtain ⟨h1, h⟩ := h
    have h1 := Nat.eq_of_beq_eq_true h1
    subst h1
    split at h
    next p q r s hl =>
      have gl := argL_ok hB hl
      dsimp only at gl
      have hg : aR ρ f2.toNat + aR ρ f3 ≤ aR ρ f4.toNat + aR ρ f1 := hg
      split at h
      next oa ho =>
        obtain ⟨k, -, h⟩ := List.any_eq_true.mp h
        rw [Bool.and_eq_true, decide_eq_true_eq] at h
        have e1 := offV_ok hB ga gl.2.2.1 ho
        have e3 := dLe_ok hB gl.1 gl.2.1 h.1
        have e4 := eHi_ok hB gl.2.2.2.1
        omega
      next => cases h
    next => cases h
def hi12 (B : eB) (a : eV) (z : Int) : Bool := hi12o B a z || hi31 B a z
theorem hi12_ok {ρ : Nat → Int} {B : eB} (hB : gB ρ B) {a : eV} {x z : Int} (ga : gN ρ a x) (h : hi12 B a z = true) : x ≤ z := (Bool.or_eq_true_iff.mp h).elim (hi12o_ok hB ga) (hi31_ok hB ga)
/-- by one step between -/
def dL2 (B : eB) (a c : eV) (v : Int) : Bool := match a.2.1 with
  | 0 => false
  | t + 1 => B.2.any (fun f => Nat.beq f.1 1 && (Nat.beq f.2.1 (nB t) && (match eGet B.1 f.2.2.2.1 with
    | some p => dLe B (0, f.2.2.2.1 * 8192 + 4097, p.1, p.2) c (v + nO t - f.2.2.1)
    | none => false)))
theorem dL2_ok {ρ : Nat → Int} {B : eB} (hB : gB ρ B) {a c : eV} {v x y : Int} (ga : gN ρ a x) (gc : gN ρ c y) (h : dL2 B a c v = true) : x + v ≤ y := by
  unfold dL2 at h
  split at h
  next => cases h
  next t ht =>
    obtain ⟨f, m1, h⟩ := List.any_eq_true.mp h
    simp only [Bool.and_eq_true] at h
    obtain ⟨h1, h2, h3⟩ := h
    have hg := hB.2 f m1
    obtain ⟨f0, f1, f2, f3, f4⟩ := f
    replace h1 := Nat.eq_of_beq_eq_true h1
    replace h2 := Nat.eq_of_beq_eq_true h2
    dsimp only at h1 h2 h3
    subst h1
    subst h2
    have hg : ρ (nB t) + f2 ≤ ρ f3 := hg
    have e2 := ga.1 t ht
    split at h3
    next p hp =>
      have hb := hB.1 f3 p (by rw [← eGet_eq]; exact hp)
      have gm : gN ρ (0, f3 * 8192 + 4097, p.1, p.2) (ρ f3) := by
        refine ⟨fun u hu => ?_, hb.1, hb.2⟩
        dsimp only at hu
        have e1 : u = f3 * 8192 + 4096 := by omega
        rw [e1, nB_at, nO_at]
        omega
      have := dLe_ok hB gm gc h3
      omega
    next => cases h3
