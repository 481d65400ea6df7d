/-! ===== THE LAW, 3: a step of it; a turn; the loop ===== -/
def exLw (ch : Nat → Option (List eCd)) (cm sm N0 : Nat) (bd : Bool) (q : eQ) (S : eS) : eR := match q.1 with
  | .aload_n k => x_ald k.val 1 S
  | .iload k => x_ld 0 k 2 S
  | .iconst n => x_k (eI (Int32.ofInt n).toInt) 1 S
  | .bipush n => x_k (eI (Int8.ofInt n).toInt32.toInt) 2 S
  | .iadd => x_bin (fun x y => x + y) 1 S
  | .isub => x_bin (fun x y => x - y) 2 S
  | .iand => x_bin (fun x y => x &&& y) 3 S
  | .istore k => x_st 0 k 2 7 S
  | .pop => x_pop S
  | .iinc i n => x_inc i n 7 S
  | .goto off => x_goto off S
  | .if_icmp k off => x_icmp k off S
  | .tableswitch df lo hi offs => x_tab df lo hi offs S
  | .iaload => bif bd then x_scr S else none
  | .arraylength => x_lnL S
  | .laload => x_xld 1 none S
  | .i2l => x_i2l S
  | .lcmp => x_lcmp q.2.2.1 S
  | .ifCond k off => x_ifc k off S
  | .invokevirtual _ => (match ch S.1 with
    | none => none
    | some cs => bif Nat.beq (ciF q.2.2.1) 100 then none else x_callE cs (npF q.2.2.1 + 1) (mtF q.2.2.1).2.2.2.2.2.1 (mtF q.2.2.1).2.2.2.2.2.2 cm sm N0 (fun _ _ => none) (okV (ciF q.2.2.1)) S)
  | .invokestatic _ => (match ch S.1 with
    | none => none
    | some cs => bif Nat.beq q.2.2.2.1 2 then x_callE cs (npF q.2.2.1) (mtF q.2.2.1).2.2.2.2.2.1 (mtF q.2.2.1).2.2.2.2.2.2 cm sm N0 (fun _ _ => none) (fun _ _ => true) S else none)
  | _ => none
section LW2
variable {p : Program} {l : Launch} {e : Env} {R : Room} {s : State} {m : MethodId} {args : Array Value} {below : List Frame} {meth : Method} {c : Code} {Q : State → Prop}
variable {D : va_G} {cA : Nat → ClassId} {A : Nat → Prop} {sb : eSB} {ρ : Nat → Int} {ad0 : Nat → Nat} {h0 : Nat} {cc : ByteArray} {own : String}
theorem exLw_ok {ch : Nat → Option (List eCd)} {cm sm N0 d u v L : Nat} {bd : Bool} {xs : Nat → Int32} (K : eK p m c s args cc own 7 GT D eCls cA A) (hZ : eZ strs sb A s s.heap) (hX : va_X (sb.1 0) L xs s s.heap) (hbl : sb.1 0 < s.heap.size) (hbA : ¬ A (sb.1 0)) (hN : scrN ρ L xs bd) (hcm : cm + u ≤ R.cells) (hsm : sm + v ≤ R.slots) (hfr : d + 9 ≤ R.frames) (hlo : 64 * d + 1064 ≤ R.locals)
    {S : eS} {q : eQ} (hch : ∀ cs, ch S.1 = some cs → ∀ c9 ∈ cs, ∀ (FR : Nat → va_E) (ρ' : Nat → Int), cM l GT strs (sb.1, FR) D eCls cA d (mtF q.2.2.1) ρ' c9.1 c9.2.1 c9.2.2.1 c9.2.1.1.length c9.2.2.2.2.1) (hd : decode cc S.1 = .ok (q.1, q.2.1)) (hq : okE GT eCls own meth mtF npF ciF dfF q) (hl : lenP q.1 q.2.1)
    {rs : List (Nat × eS)} (h : exLw ch cm sm N0 bd q S = some rs) (hr : ∀ r ∈ rs, ∀ ρ2 : Nat → Int, (∀ i, i < N0 → ρ2 i = ρ i) → eLf p l e R s m args below meth c Q D eCls cA A sb ρ2 ad0 h0 7 (shR u v r)) : eW p l e R s m args below meth c Q D eCls cA A sb ρ ad0 h0 7 (shZ u v S) := by
  obtain ⟨hx, hb, -, -, -, -, -⟩ := id K
  have hG : ∀ w ∈ GT, w ∈ GT ∧ goodWord w = true := fun w hw => ⟨hw, GT_good w hw⟩
  have hr2 : ∀ r ∈ rs.map (shR u v), ∀ ρ2 : Nat → Int, (∀ i, i < N0 → ρ2 i = ρ i) → eLf p l e R s m args below meth c Q D eCls cA A sb ρ2 ad0 h0 7 r := fun r hr9 ρ2 hag => by
    obtain ⟨r0, h1, h2⟩ := List.mem_map.mp hr9
    rw [← h2]
    exact hr r0 h1 ρ2 hag
  have hr1 : ∀ r ∈ rs.map (shR u v), eLf p l e R s m args below meth c Q D eCls cA A sb ρ ad0 h0 7 r := fun r hr9 => hr2 r hr9 ρ (fun _ _ => rfl)
  clear hr
  have hd2 : decode cc (shZ u v S).1 = .ok (q.1, q.2.1) := hd
  obtain ⟨i, len, a1, a2, z⟩ := q
  unfold exLw at h
  dsimp only at h hd2 hq hl hch
  split at h
  · have hl : len = 1 := hl; subst hl; exact k_aload K hd2 (Or.inr ⟨_, rfl, rfl, rfl⟩) (sh_ald _ _ S rs h) hr1
  · have hl : len = 2 := hl; subst hl; exact k_iload K hd2 (Or.inl ⟨rfl, rfl⟩) (sh_ld _ _ _ S rs h) hr1
  · have hl : len = 1 := hl; subst hl; exact k_push (fun _ => gV_int (gN_I _)) (fun H locs ls vs k => lv_iconst hx hb hd2 rfl k) (sh_k _ _ S rs h) hr1
  · have hl : len = 2 := hl; subst hl; exact k_push (fun _ => gV_int (gN_I _)) (fun H locs ls vs k => lv_bipush hx hb hd2 rfl k) (sh_k _ _ S rs h) hr1
  · have hl : len = 1 := hl; subst hl; exact k_bin eApx1 (fun _ _ => rfl) (fun H locs ls vs x y k => lv_iadd hx hb hd2 k) (sh_bin _ _ S rs h) hr1
  · have hl : len = 1 := hl; subst hl; exact k_bin eApx2 (fun _ _ => rfl) (fun H locs ls vs x y k => lv_isub hx hb hd2 k) (sh_bin _ _ S rs h) hr1
  · have hl : len = 1 := hl; subst hl; exact k_bin eApx3 (fun _ _ => rfl) (fun H locs ls vs x y k => lv_iand hx hb hd2 k) (sh_bin _ _ S rs h) hr1
  · have hl : len = 2 := hl; subst hl; exact k_istore K hd2 (Or.inl ⟨rfl, rfl⟩) (sh_st _ _ _ _ S rs h) hr1
  · have hl : len = 1 := hl; subst hl; exact k_pop K hd2 (sh_pop S rs h) hr1
  · have hl : len = 3 := hl; subst hl; exact k_iinc K hd2 (sh_inc _ _ _ S rs h) hr1
  · have hl : len = 3 := hl; subst hl; exact k_goto K hd2 (sh_goto _ S rs h) hr1
  · have hl : len = 3 := hl; subst hl; exact k_icmp K hd2 (sh_icmp _ _ S rs h) hr1
  · exact k_tab K hd2 (sh_tab _ _ _ _ S rs h) hr1
  · have hl : len = 1 := hl
    subst hl
    cases bd with
    | false => cases h
    | true => exact k_scr K hX hbl hbA hN hd2 (sh_scr S rs h) hr1
  · have hl : len = 1 := hl; subst hl; exact k_lnL K hX hbl hbA hN hd2 (sh_lnL S rs h) hr1
  · have hl : len = 1 := hl; subst hl; exact k_lald K hd2 (sh_lald S rs h) hr1
  · have hl : len = 1 := hl; subst hl; exact k_i2l K hd2 (sh_i2l S rs h) hr1
  · have hl : len = 1 := hl; subst hl; exact k_lcmp K hd2 (sh_lcmp _ S rs h) hr1
  · have hl : len = 3 := hl; subst hl; exact k_ifc K hd2 (sh_ifc _ _ S rs h) hr1
  · have hl : len = 3 := hl
    subst hl
    split at h
    next => cases h
    next cs hcs =>
      have hf := fun (c9 : eCd) (h9 : c9 ∈ cs) (FR : Nat → va_E) (ρ' : Nat → Int) (_ : gdH (ρ 0) c9.2.2.2.1 ρ') => hch cs hcs c9 h9 FR ρ'
      obtain ⟨q1, q2, q3, q4, q5⟩ := hq
      rcases q5 with ⟨e1, e2⟩ | ⟨e1, e2⟩
      · rw [e1] at h
        exfalso
        revert h
        rw [show Nat.beq 100 100 = true from rfl, cond_true]
        exact fun h => by cases h
      · rw [show Nat.beq (ciF a1) 100 = false from by cases hz : Nat.beq (ciF a1) 100 with | false => rfl | true => exact absurd (Nat.eq_of_beq_eq_true hz) e1, cond_false] at h
        exact k_callEV K hZ hG q1 q2 q3 q4 e2 hfr hlo hcm hsm hf hd2 (fun _ _ q => by cases q) (sh_callE h) hr2
  · have hl : len = 3 := hl
    subst hl
    split at h
    next => cases h
    next cs hcs =>
      have hf := fun (c9 : eCd) (h9 : c9 ∈ cs) (FR : Nat → va_E) (ρ' : Nat → Int) (_ : gdH (ρ 0) c9.2.2.2.1 ρ') => hch cs hcs c9 h9 FR ρ'
      cases h2 : Nat.beq a2 2 with
      | false => rw [h2] at h; cases h
      | true =>
        rw [h2, cond_true] at h
        have e2 := Nat.eq_of_beq_eq_true h2
        subst e2
        obtain ⟨⟨hh, hq1⟩, hq2, hq3⟩ := hq
        exact k_callESX K hZ hG hq1 hq2 hq3 hfr hlo hcm hsm hf hd2 (fun _ _ q => by cases q) (sh_callE h) hr2
  · cases h
end LW2
/-- facts that can't both be -/
def ctrB (B : eB) : Bool := B.2.any (fun f => B.2.any (fun g => (Nat.beq f.1 1 && Nat.beq g.1 1) && ((Nat.beq f.2.1 g.2.2.2.1 && Nat.beq f.2.2.2.1 g.2.1) && decide (0 < f.2.2.1 + g.2.2.1))))
theorem ctrB_no {ρ : Nat → Int} {B : eB} (h : ctrB B = true) (hB : gB ρ B) : False := by
  obtain ⟨f, hf, h1⟩ := List.any_eq_true.mp h
  obtain ⟨g, hg, h2⟩ := List.any_eq_true.mp h1
  simp only [Bool.and_eq_true, decide_eq_true_eq] at h2
  obtain ⟨⟨c1, c2⟩, ⟨c3, c4⟩, c5⟩ := h2
  have k1 := hB.2 f hf
  have k2 := hB.2 g hg
  obtain ⟨f0, f1, f2, f3, f4⟩ := f
  obtain ⟨g0, g1, g2, g3, g4⟩ := g
  replace c1 := Nat.eq_of_beq_eq_true c1
  replace c2 := Nat.eq_of_beq_eq_true c2
  replace c3 := Nat.eq_of_beq_eq_true c3
  replace c4 := Nat.eq_of_beq_eq_true c4
  dsimp only at c1 c2 c3 c4 c5
  subst c1
  subst c2
  subst c3
  subst c4
  have k1 : ρ f1 + f2 ≤ ρ f3 := k1
  have k2 : ρ f3 + g2 ≤ ρ f1 := k2
  omega
/-- two ends of one text that can't both be -/
def ctrR (B : eB) : Bool := B.2.any (fun f => Nat.beq f.1 2202 && B.2.any (fun g => Nat.beq g.1 2202 && (match argV B f.2.1, argV B f.2.2.2.1, argV B f.2.2.1.toNat, argV B f.2.2.2.2.toNat with
  | some a, some b, some c, some d => (match argV B g.2.1, argV B g.2.2.2.1, argV B g.2.2.1.toNat, argV B g.2.2.2.2.toNat with
    | some a2, some b2, some c2, some d2 => isOff B a a2 0 && (isOff B b b2 0 && ((decide (0 ≤ eLo B d) && decide (0 ≤ eLo B d2)) && ((decide (0 ≤ eLo B c) && decide (eHi B c ≤ 6)) && ((decide (0 ≤ eLo B c2) && decide (eHi B c2 ≤ 6)) && dLe B c c2 1))))
    | _, _, _, _ => false)
  | _, _, _, _ => false)))
theorem ctrR_no {ρ : Nat → Int} {B : eB} (h : ctrR B = true) (hB : gB ρ B) : False := by
  obtain ⟨f, hf, h1⟩ := List.any_eq_true.mp h
  rw [Bool.and_eq_true] at h1
  obtain ⟨k1, h1⟩ := h1
  obtain ⟨g, hg, h2⟩ := List.any_eq_true.mp h1
  rw [Bool.and_eq_true] at h2
  obtain ⟨k2, h2⟩ := h2
  have g1 := hB.2 f hf
  have g2 := hB.2 g hg
  obtain ⟨f0, f1, f2, f3, f4⟩ := f
  obtain ⟨g0, g1', g2', g3, g4⟩ := g
  replace k1 := Nat.eq_of_beq_eq_true k1
  replace k2 := Nat.eq_of_beq_eq_true k2
  dsimp only at k1 k2 h2
  subst k1
  subst k2
  have g1 : RK 2199 (aR ρ f1) (aR ρ f3) (aR ρ f2.toNat) (aR ρ f4.toNat) := g1
  have g2 : RK 2199 (aR ρ g1') (aR ρ g3) (aR ρ g2'.toNat) (aR ρ g4.toNat) := g2
  split at h2
  next a b c d ea eb ec ed =>
    split at h2
    next a2 b2 c2 d2 ea2 eb2 ec2 ed2 =>
      simp only [Bool.and_eq_true, decide_eq_true_eq] at h2
      obtain ⟨o1, o2, ⟨q1, q2⟩, ⟨q3, q4⟩, ⟨q5, q6⟩, q7⟩ := h2
      have va := argV_ok hB ea
      have vb := argV_ok hB eb
      have vc := argV_ok hB ec
      have vd := argV_ok hB ed
      have va2 := argV_ok hB ea2
      have vb2 := argV_ok hB eb2
      have vc2 := argV_ok hB ec2
      have vd2 := argV_ok hB ed2
      have p1 := isOff_ok hB va va2 o1
      have p2 := isOff_ok hB vb vb2 o2
      have r1 := eLo_ok hB vd
      have r2 := eLo_ok hB vd2
      have r3 := eLo_ok hB vc
      have r4 := eHi_ok hB vc
      have r5 := eLo_ok hB vc2
      have r6 := eHi_ok hB vc2
      have r7 := dLe_ok hB vc vc2 q7
      have e1 : aR ρ f1 = aR ρ g1' := by omega
      have e2 : aR ρ f3 = aR ρ g3 := by omega
      have w1 := (RK_t (k := 199) (by decide)).mp g1
      have w2 := RK_tm (k := 199) (by decide) g2 (by omega)
      rw [← e1, ← e2] at w2
      by_cases hz : aR ρ f2.toNat = 0
      · have := w1.1 hz
        omega
      · have := w1.2 hz
        omega
    next => cases h2
  next => cases h2
def setZ (S : eS) (c z : Nat) : eS := (S.1, S.2.1, S.2.2.1, S.2.2.2.1, S.2.2.2.2.1, c, z)
/-- a return of 1 -/
def retB (o : Nat × eS) : Bool := (match ft_L o.2.1 with
  | some q => (match q.1 with
    | .ireturn => (match o.2.2.2.1 with
      | [v] => Nat.beq v.1 0 && (decide (eLo o.2.2.2.2.1 v = 1) && decide (eHi o.2.2.2.2.1 v = 1))
      | _ => false)
    | _ => false)
  | none => false)
def nC : Nat := 5
def nZ : Nat := 30
/-- an end of a turn: at the head, no more made than a turn may; or a return of 1; or one that can't be -/
def turnE (HTH : List (Option eP)) (HEAD : eS) (o : Nat × eS) : Bool := Nat.beq o.1 0 && ((Nat.ble o.2.2.2.2.2.2.1 nC && Nat.ble o.2.2.2.2.2.2.2 nZ) && (ctrB o.2.2.2.2.1 || (bif Nat.beq o.2.1 23 then subS 1 HTH (setZ o.2 0 0) HEAD else retB o)))
def turnB (ch : Nat → Option (List eCd)) (HTH : List (Option eP)) (HEAD S : eS) : Bool := match run1 ft_L (fun pc => Nat.beq pc 23) (exLw ch nC nZ 30 true) 400 S with
  | some os => os.all (turnE HTH HEAD)
  | none => false
/-- some states, of which a run ends at one -/
def segB (ch : Nat → Option (List eCd)) (N0 : Nat) (bd : Bool) (isC : Nat → Bool) (S : eS) (Ts : List eS) : Bool := match run1 ft_L isC (exLw ch nC nZ N0 bd) 100 S with
  | some os => os.all (fun o => Nat.beq o.1 0 && Ts.any (fun T => eEqS o.2 T))
  | none => false
/-! short forms of what is printed -/
def eRf (k : Nat) : eV := (2, k, 0, 0)
def eNm (t : Nat) (lo hi : Int) : eV := (0, t, lo, hi)
def eTa (t : Nat) : eV := (0, t, -2147483648, 2147483647)
def eP1 (c f : Nat) : Option eP := some (1, c, f)
def eP2 (c j : Nat) : Option eP := some (2, c, j)
