/-! ===== THE ENGINE, 16u: tapes that a text's code tells of ===== -/
/-- a number as an argument of a relation -/
def agN (v : eV) : Option Nat := bif Nat.blt 0 v.2.1 then (bif Nat.blt v.2.1 cB then some v.2.1 else none) else bif decide (v.2.2.1 = v.2.2.2) && decide (-4294967296 ≤ v.2.2.1) then some (aI v.2.2.1) else none
theorem agN_ok {ρ : Nat → Int} {v : eV} {z : Int} {n : Nat} (g : gN ρ v z) (h : agN v = some n) : aR ρ n = z := by
  unfold agN at h
  cases hb : Nat.blt 0 v.2.1 with
  | true =>
    rw [hb, cond_true] at h
    cases hc : Nat.blt v.2.1 cB with
    | false => rw [hc] at h; cases h
    | true =>
      rw [hc] at h
      cases h
      exact aR_tag (by unfold okTg; rw [hb, hc]; rfl) g
  | false =>
    rw [hb, cond_false] at h
    cases hd : (decide (v.2.2.1 = v.2.2.2) && decide (-4294967296 ≤ v.2.2.1)) with
    | false => rw [hd] at h; cases h
    | true =>
      rw [hd] at h
      cases h
      rw [Bool.and_eq_true, decide_eq_true_eq, decide_eq_true_eq] at hd
      rw [aI_ok hd.2]
      have := g.2.1
      have := g.2.2
      omega
def lo9 (ty : Nat) : Int := bif Nat.beq ty 0 then 0 else -128
def hi9 (ty : Nat) : Int := bif Nat.beq ty 0 then 255 else 127
def kd9 (ty : Nat) : Nat := bif Nat.beq ty 0 then 9 else 10
/-- facts of a byte that is read -/
def fc9 (ty N ga ia : Nat) : List eF := (1003, ga, ((aI 0 : Nat) : Int), ia, ((N * 8192 + 4097 : Nat) : Int)) :: (bif Nat.beq ty 0 then [(34, N * 8192 + 4097, ((aI 0 : Nat) : Int), aI 0, ((N * 8192 + 4097 : Nat) : Int))] else [])
/-- a fact that tells the same byte already -/
def sm9 (ty : Nat) (B : eB) (ga ia : Nat) (i : eV) (f : eF) : Bool := Nat.beq f.1 1003 && (Nat.beq f.2.1 ga && (Nat.beq f.2.2.2.1 ia && ((Nat.blt 0 f.2.2.2.2.toNat && Nat.blt f.2.2.2.2.toNat cB) && ((match argV B f.2.2.2.2.toNat with
  | some d => inbV B d (lo9 ty) (hi9 ty)
  | none => false) && B.2.any (fun g => Nat.beq g.1 1004 && (Nat.beq g.2.1 ga && (match argV B g.2.2.2.2.toNat with
  | some n => dLe B i n 1
  | none => false)))))))
def ld9 (ty : Nat) (B : eB) (n : Nat) (P : List (Nat × eV)) (i : eV) : Option (eV × eB) := bif inI B i n then (match P with
  | [p] => (match agN p.2, agN i with
    | some ga, some ia => bif tgA B.1.length ga && (tgA B.1.length ia && Nat.blt (B.1.length * 8192 + 4097) cB) then (match B.2.find? (sm9 ty B ga ia i) with
      | some f => (match argV B f.2.2.2.2.toNat with
        | some d => some (d, B)
        | none => none)
      | none => some (nwV B.1.length (lo9 ty) (hi9 ty), (B.1 ++ [(lo9 ty, hi9 ty)], fc9 ty B.1.length ga ia ++ B.2))) else none
    | _, _ => some ((0, 0, lo9 ty, hi9 ty), B))
  | _ => none) else none
def hasLen (B : eB) (ga ia : Nat) : Bool := B.2.any (fun f => Nat.beq f.1 1004 && (Nat.beq f.2.1 ga && Nat.beq f.2.2.2.2.toNat ia))
def st9 (ty : Nat) (B : eB) (n : Nat) (P : List (Nat × eV)) (i v : eV) : Option (eB × List (Nat × eV)) := match P with
  | [p] => (match agN p.2, agN i, agN v, agN (shV i 1) with
    | some ga, some ia, some va, some ja => bif (inI B i n && (decide (lo9 ty ≤ eLo B v) && decide (eHi B v ≤ hi9 ty))) && ((tgA B.1.length ga && (tgA B.1.length va && tgA B.1.length ja)) && (Nat.blt (B.1.length * 8192 + 4097) cB && hasLen B ga ia)) then some ((B.1 ++ [(0, cmx)], (204, ga, ((aI 0 : Nat) : Int), va, ((B.1.length * 8192 + 4097 : Nat) : Int)) :: (1004, B.1.length * 8192 + 4097, ((aI 0 : Nat) : Int), aI 0, (ja : Int)) :: B.2), [(p.1, nwV B.1.length 0 cmx)]) else none
    | _, _, _, _ => none)
  | _ => none
theorem argV_0 {B : eB} {n : Nat} {a : eV} (h : argV B n = some a) : a.1 = 0 := by
  unfold argV at h
  cases hb : Nat.blt n cB with
  | false =>
    rw [hb] at h
    cases h
    rfl
  | true =>
    rw [hb, cond_true] at h
    split at h
    next => cases h
    next =>
      split at h
      next => cases h; rfl
      next => cases h
section E16U
variable {ρ : Nat → Int} {B : eB} {n : Nat} {f : Nat → Int32} {P : List (Nat × eV)} {zs : List Int} {i : eV} {z : Int}
theorem aR_new {N : Nat} {x : Int} (h : Nat.blt (N * 8192 + 4097) cB = true) : aR (upN ρ N x) (N * 8192 + 4097) = x := by
  unfold aR
  rw [h, cond_true, show N * 8192 + 4097 - 1 = N * 8192 + 4096 by omega, nB_at, nO_at, upN_at]
  exact Int.add_zero _
theorem ld9_ok {ty : Nat} (hB : gB ρ B) (hF : tgF B.1.length B.2 = true) (hi : gN ρ i z) (g : gNs ρ P zs) (hp : PR5 (lo9 ty) (hi9 ty) n f (P.map Prod.fst) zs) {q : eV × eB} (h : ld9 ty B n P i = some q) : (0 ≤ z ∧ z < n) ∧ ∃ ρ2 : Nat → Int, (∀ j, j < B.1.length → ρ2 j = ρ j) ∧ gB ρ2 q.2 ∧ q.1.1 = 0 ∧ gN ρ2 q.1 (f z.toNat).toInt := by
  unfold ld9 at h
  cases hb : inI B i n with
  | false => rw [hb] at h; cases h
  | true =>
    rw [hb, cond_true] at h
    have hin := inI_ok hB hi hb
    refine ⟨hin, ?_⟩
    split at h
    next p =>
      match zs, g, hp with
      | [], g, _ => exact g.elim
      | _ :: _ :: _, g, _ => exact g.2.elim
      | [gz], g, hp =>
        obtain ⟨p0, p1⟩ := p
        have hp : tpR (lo9 ty) (hi9 ty) n f gz := by
          unfold PR5 at hp
          split at hp
          next e1 e2 => cases e2; exact hp
          next => exact hp.elim
        obtain ⟨hn, hbd, ht⟩ := hp
        have hbz := hbd z.toNat (by omega)
        split at h
        next ga ia hga hia =>
          cases hc : (tgA B.1.length ga && (tgA B.1.length ia && Nat.blt (B.1.length * 8192 + 4097) cB)) with
          | false => rw [hc] at h; cases h
          | true =>
            rw [hc, cond_true] at h
            simp only [Bool.and_eq_true] at hc
            obtain ⟨c1, c2, c3⟩ := hc
            split at h
            next f9 hf9 =>
              split at h
              next d hd =>
                cases h
                have hm := List.mem_of_find?_eq_some hf9
                have hs := List.find?_some hf9
                unfold sm9 at hs
                simp only [Bool.and_eq_true] at hs
                obtain ⟨s1, s2, s3, -, s4, s5⟩ := hs
                rw [hd] at s4
                have gd := argV_ok hB hd
                have s4 := inbV_ok hB gd s4
                have hg := hB.2 f9 hm
                obtain ⟨g9, m2, s5⟩ := List.any_eq_true.mp s5
                simp only [Bool.and_eq_true] at s5
                obtain ⟨t1, t2, t3⟩ := s5
                have hg2 := hB.2 g9 m2
                obtain ⟨f0, f1, f2, f3, f4⟩ := f9
                obtain ⟨k0, k1, k2, k3, k4⟩ := g9
                replace s1 := Nat.eq_of_beq_eq_true s1
                replace s2 := Nat.eq_of_beq_eq_true s2
                replace s3 := Nat.eq_of_beq_eq_true s3
                replace t1 := Nat.eq_of_beq_eq_true t1
                replace t2 := Nat.eq_of_beq_eq_true t2
                dsimp only at s1 s2 s3 t1 t2 t3 s4 hd gd
                subst s1
                subst t1
                have hg : RK 1000 (aR ρ f1) (aR ρ f3) (aR ρ f2.toNat) (aR ρ f4.toNat) := hg
                have hg2 : RK 1001 (aR ρ k1) (aR ρ k3) (aR ρ k2.toNat) (aR ρ k4.toNat) := hg2
                rw [s2, s3, agN_ok g.1 hga, agN_ok hi hia] at hg
                rw [t2, agN_ok g.1 hga] at hg2
                split at t3
                next n9 hn9 =>
                  have t3 := dLe_ok hB hi (argV_ok hB hn9) t3
                  have hne := (hg2 z hin.1).mp (by omega)
                  have e1 := ht z.toNat (by omega) hne
                  have e2 := hg hne
                  have ex : (f z.toNat).toInt = aR ρ f4.toNat := by
                    have h3 := hbz.1
                    have h4 := hbz.2
                    unfold lo9 at h3 s4
                    unfold hi9 at h4 s4
                    cases hty : Nat.beq ty 0 with
                    | true =>
                      rw [hty] at h3 h4 s4
                      simp only [cond_true] at h3 h4 s4
                      omega
                    | false =>
                      rw [hty] at h3 h4 s4
                      simp only [cond_false] at h3 h4 s4
                      omega
                  refine ⟨ρ, fun _ _ => rfl, hB, argV_0 hd, ?_⟩
                  rw [ex]
                  exact gd
                next => cases t3
              next => cases h
            cases h
            have hag : ∀ j, j < B.1.length → upN ρ B.1.length (f z.toNat).toInt j = ρ j := fun j hj => upN_lt hj
            have hB2 := gB_add (x := (f z.toNat).toInt) hB hF hbz.1 hbz.2
            refine ⟨upN ρ B.1.length (f z.toNat).toInt, hag, ⟨hB2.1, fun x hx => ?_⟩, rfl, nwV_ok upN_at hbz.1 hbz.2⟩
            rcases List.mem_append.mp hx with hx | hx
            · unfold fc9 at hx
              rcases List.mem_cons.mp hx with e | hx
              · subst e
                show RK 1000 (aR (upN ρ B.1.length (f z.toNat).toInt) ga) (aR (upN ρ B.1.length (f z.toNat).toInt) ia) (aR (upN ρ B.1.length (f z.toNat).toInt) (((aI 0 : Nat) : Int)).toNat) (aR (upN ρ B.1.length (f z.toNat).toInt) (((B.1.length * 8192 + 4097 : Nat) : Int)).toNat)
                rw [tgA_ok c1 hag, tgA_ok c2 hag, agN_ok g.1 hga, agN_ok hi hia, Int.toNat_natCast, Int.toNat_natCast, aR_new c3]
                show bt (dc gz) z.toNat ≠ -1 → bt (dc gz) z.toNat = (f z.toNat).toInt % 256
                exact ht z.toNat (by omega)
              · cases hty : Nat.beq ty 0 with
                | false => rw [hty] at hx; cases hx
                | true =>
                  rw [hty, cond_true] at hx
                  rw [List.mem_singleton.mp hx]
                  show RK 31 (aR (upN ρ B.1.length (f z.toNat).toInt) (B.1.length * 8192 + 4097)) (aR (upN ρ B.1.length (f z.toNat).toInt) (aI 0)) (aR (upN ρ B.1.length (f z.toNat).toInt) (((aI 0 : Nat) : Int)).toNat) (aR (upN ρ B.1.length (f z.toNat).toInt) (((B.1.length * 8192 + 4097 : Nat) : Int)).toNat)
                  rw [Int.toNat_natCast, Int.toNat_natCast, aR_new c3]
                  have h1 := hbz.1
                  have h2 := hbz.2
                  unfold lo9 at h1
                  unfold hi9 at h2
                  rw [hty, cond_true] at h1 h2
                  show (f z.toNat).toInt = (f z.toNat).toInt % 256
                  omega
            · exact hB2.2 x hx
        next =>
          cases h
          exact ⟨ρ, fun _ _ => rfl, hB, rfl, ⟨(fun t ht => by cases ht), hbz.1, hbz.2⟩⟩
    next => cases h
theorem st9_ok {ty : Nat} (hB : gB ρ B) (hF : tgF B.1.length B.2 = true) (hi : gN ρ i z) {v : eV} {x : Int32} (hv : gN ρ v x.toInt) (g : gNs ρ P zs) (hp : PR5 (lo9 ty) (hi9 ty) n f (P.map Prod.fst) zs) {q : eB × List (Nat × eV)} (h : st9 ty B n P i v = some q) : (0 ≤ z ∧ z < n) ∧ (lo9 ty ≤ x.toInt ∧ x.toInt ≤ hi9 ty) ∧ ∃ ρ2 : Nat → Int, (∀ j, j < B.1.length → ρ2 j = ρ j) ∧ gB ρ2 q.1 ∧ ∃ zs2, gNs ρ2 q.2 zs2 ∧ ∀ x' : Int32, x'.toInt = x.toInt → PR5 (lo9 ty) (hi9 ty) n (upd f z.toNat x') (q.2.map Prod.fst) zs2 := by
  unfold st9 at h
  split at h
  next p =>
    match zs, g, hp with
    | [], g, _ => exact g.elim
    | _ :: _ :: _, g, _ => exact g.2.elim
    | [gz], g, hp =>
      obtain ⟨p0, p1⟩ := p
      have hp : p0 = 0 ∧ tpR (lo9 ty) (hi9 ty) n f gz := by
        unfold PR5 at hp
        split at hp
        next e1 e2 => cases e2; exact ⟨(List.cons.inj e1).1, hp⟩
        next => exact hp.elim
      obtain ⟨e0, hn, hbd, ht⟩ := hp
      subst e0
      split at h
      next ga ia va ja hga hia hva hja =>
        cases hc : ((inI B i n && (decide (lo9 ty ≤ eLo B v) && decide (eHi B v ≤ hi9 ty))) && ((tgA B.1.length ga && (tgA B.1.length va && tgA B.1.length ja)) && (Nat.blt (B.1.length * 8192 + 4097) cB && hasLen B ga ia))) with
        | false => rw [hc] at h; cases h
        | true =>
          rw [hc, cond_true] at h
          cases h
          simp only [Bool.and_eq_true, decide_eq_true_eq] at hc
          obtain ⟨⟨c1, c2, c3⟩, ⟨c4, c5, c6⟩, c7, c8⟩ := hc
          have hin := inI_ok hB hi c1
          have v1 := eLo_ok hB hv
          have v2 := eHi_ok hB hv
          have hag : ∀ j, j < B.1.length → upN ρ B.1.length (ap1 gz x.toInt) j = ρ j := fun j hj => upN_lt hj
          -- the length so far
          have hln : ((dc gz).length : Int) = z := by
            unfold hasLen at c8
            obtain ⟨f9, m1, m2⟩ := List.any_eq_true.mp c8
            simp only [Bool.and_eq_true] at m2
            obtain ⟨d1, d2, d3⟩ := m2
            have hg := hB.2 f9 m1
            obtain ⟨f0, f1, f2, f3, f4⟩ := f9
            replace d1 := Nat.eq_of_beq_eq_true d1
            replace d2 := Nat.eq_of_beq_eq_true d2
            replace d3 := Nat.eq_of_beq_eq_true d3
            dsimp only at d1 d2 d3
            subst d1
            subst d2
            have hg : RK 1001 (aR ρ f1) (aR ρ f3) (aR ρ f2.toNat) (aR ρ f4.toNat) := hg
            rw [d3, agN_ok hi hia, agN_ok g.1 hga] at hg
            exact ln_of hg hin.1
          have h699 : (dc gz).length ≤ 699 := by omega
          have hdc : dc (ap1 gz x.toInt) = dc gz ++ [x.toInt % 256] := dc_ap1 h699
          have hbn := enc_b (l := dc gz ++ [x.toInt % 256]) (by rw [List.length_append]; show _ + 1 ≤ 700; omega) (ap_by gz x.toInt)
          have hB2 := gB_add (x := ap1 gz x.toInt) hB hF hbn.1 hbn.2
          refine ⟨hin, ⟨by omega, by omega⟩, upN ρ B.1.length (ap1 gz x.toInt), hag, ⟨hB2.1, fun y hy => ?_⟩, [ap1 gz x.toInt], ⟨nwV_ok upN_at hbn.1 hbn.2, trivial⟩, fun x' hx' => ?_⟩
          · rcases List.mem_cons.mp hy with e | hy
            · subst e
              show RK 201 (aR (upN ρ B.1.length (ap1 gz x.toInt)) ga) (aR (upN ρ B.1.length (ap1 gz x.toInt)) va) (aR (upN ρ B.1.length (ap1 gz x.toInt)) (((aI 0 : Nat) : Int)).toNat) (aR (upN ρ B.1.length (ap1 gz x.toInt)) (((B.1.length * 8192 + 4097 : Nat) : Int)).toNat)
              rw [tgA_ok c4 hag, tgA_ok c5 hag, agN_ok g.1 hga, agN_ok hv hva, Int.toNat_natCast, Int.toNat_natCast, aR_new c7]
              exact (RK_f (by decide)).mpr rfl
            · rcases List.mem_cons.mp hy with e | hy
              · subst e
                show RK 1001 (aR (upN ρ B.1.length (ap1 gz x.toInt)) (B.1.length * 8192 + 4097)) (aR (upN ρ B.1.length (ap1 gz x.toInt)) (aI 0)) (aR (upN ρ B.1.length (ap1 gz x.toInt)) (((aI 0 : Nat) : Int)).toNat) (aR (upN ρ B.1.length (ap1 gz x.toInt)) ((ja : Int)).toNat)
                rw [aR_new c7, Int.toNat_natCast, Int.toNat_natCast, tgA_ok c6 hag, agN_ok (shV_ok hi) hja]
                refine ln_is ?_
                rw [hdc, List.length_append]
                show (((dc gz).length + 1 : Nat) : Int) = z + 1
                omega
              · exact hB2.2 y hy
          · show tpR (lo9 ty) (hi9 ty) n (upd f z.toNat x') (ap1 gz x.toInt)
            refine ⟨hn, fun j hj => ?_, fun j hj hne => ?_⟩
            · unfold upd
              by_cases e : j = z.toNat
              · rw [if_pos e, hx']; omega
              · rw [if_neg e]; exact hbd j hj
            · rw [hdc] at hne ⊢
              have hlj : j < (dc gz ++ [x.toInt % 256]).length := by
                by_cases hh : j < (dc gz ++ [x.toInt % 256]).length
                · exact hh
                · exact absurd (bt_out (Nat.not_lt.mp hh)) hne
              rw [bt_in hlj]
              rw [List.length_append] at hlj
              have hlj : j < (dc gz).length + 1 := hlj
              unfold upd
              by_cases e : j = z.toNat
              · rw [if_pos e, hx']
                have e2 : (dc gz).length ≤ j := by omega
                rw [List.getElem_append_right e2]
                have e3 : j - (dc gz).length = 0 := by omega
                simp [e3]
              · rw [if_neg e]
                have e2 : j < (dc gz).length := by omega
                rw [List.getElem_append_left e2, ← bt_in e2]
                exact ht j hj (by have := bt_by e2; omega)
      next => cases h
  next => cases h
end E16U
/-- the array that stands second is a tape that a code tells of -/
def cdA (hp : eH) (st : List eV) : Bool := match st with
  | _ :: a :: _ => bif Nat.beq a.1 2 then (match eGet hp a.2.1 with
    | some (.inr v) => Nat.beq v.1 9 || Nat.beq v.1 10
    | _ => false) else false
  | _ => false
def x_ld9 (ty N0 : Nat) (S : eS) : eR := match S.2.2.1 with
  | i :: a :: r => bif Nat.beq i.1 0 && (Nat.beq a.1 2 && nmC N0 S r) then (match eGet S.2.2.2.2.1 a.2.1 with
    | some (.inr v) => bif Nat.beq v.1 (kd9 ty) then (match ld9 ty S.2.2.2.1 v.2.1 v.2.2.2 i with
      | some q => some [((0, (S.1 + 1, S.2.1, q.1 :: r, q.2, S.2.2.2.2)) : Nat × eS)]
      | none => none) else none
    | _ => none) else none
  | _ => none
def x_st9 (ty N0 : Nat) (S : eS) : eR := match S.2.2.1 with
  | v :: i :: a :: r => bif Nat.beq v.1 0 && (Nat.beq i.1 0 && (Nat.beq a.1 2 && nmC N0 S r)) then (match eGet S.2.2.2.2.1 a.2.1 with
    | some (.inr y) => bif Nat.beq y.1 (kd9 ty) then (match st9 ty S.2.2.2.1 y.2.1 y.2.2.2 i v with
      | some q => some [((0, (S.1 + 1, S.2.1, r, q.1, eSet S.2.2.2.2.1 a.2.1 (.inr (y.1, y.2.1, y.2.2.1, q.2)), S.2.2.2.2.2)) : Nat × eS)]
      | none => none) else none
    | _ => none) else none
  | _ => none
section E16V
variable {p : Program} {l : Launch} {e : Env} {R : Room} {s : State} {m : MethodId} {args : Array Value} {below : List Frame} {meth : Method} {c : Code} {Q : State → Prop}
variable {D : va_G} {cl : List vw_C} {cA : Nat → ClassId} {A : Nat → Prop} {sb : eSB} {ρ : Nat → Int} {ad0 : Nat → Nat} {h0 nL : Nat} {cc : ByteArray} {own : String} {Ts : List Cond}
/-- what a tape's cell says -/
theorem gC_tp {ty : Nat} (hty : ty = 0 ∨ ty = 2) {ad : Nat → Nat} {v : Nat × Nat × eV × List (Nat × eV)} {y : va_E} (hk : Nat.beq v.1 (kd9 ty) = true) (g : gC ρ ad sb cA (.inr v) y) : ∃ (f : Nat → Int32) (zs : List Int), y = .inl (cA ty, v.2.1, .inl f) ∧ gNs ρ v.2.2.2 zs ∧ PR5 (lo9 ty) (hi9 ty) v.2.1 f (v.2.2.2.map Prod.fst) zs := by
  obtain ⟨v0, n, d, P⟩ := v
  have e := Nat.eq_of_beq_eq_true hk
  dsimp only at e
  subst e
  rcases hty with rfl | rfl
  · obtain ⟨f, zs, q1, q2, q3⟩ := g
    exact ⟨f, zs, q1, q2, q3⟩
  · obtain ⟨f, zs, q1, q2, q3⟩ := g
    exact ⟨f, zs, q1, q2, q3⟩
theorem gC_pt {ty : Nat} (hty : ty = 0 ∨ ty = 2) {ad : Nat → Nat} {n : Nat} {d : eV} {P : List (Nat × eV)} {f : Nat → Int32} {zs : List Int} (h1 : gNs ρ P zs) (h2 : PR5 (lo9 ty) (hi9 ty) n f (P.map Prod.fst) zs) : gC ρ ad sb cA (.inr (kd9 ty, n, d, P)) (.inl (cA ty, n, .inl f)) := by
  rcases hty with rfl | rfl
  · exact ⟨f, zs, rfl, h1, h2⟩
  · exact ⟨f, zs, rfl, h1, h2⟩
theorem k_ld9 (K : eK p m c s args cc own nL Ts D cl cA A) {ty : Nat} (hty : ty = 0 ∨ ty = 2) {N0 : Nat} {S : eS} (hd : decode cc S.1 = .ok (bif Nat.beq ty 0 then .iaload else .baload, 1)) {rs : List (Nat × eS)} (h : x_ld9 ty N0 S = some rs) (hr : ∀ r ∈ rs, ∀ ρ2 : Nat → Int, (∀ i, i < N0 → ρ2 i = ρ i) → eLf p l e R s m args below meth c Q D cl cA A sb ρ2 ad0 h0 nL r) : eW p l e R s m args below meth c Q D cl cA A sb ρ ad0 h0 nL S := by
  obtain ⟨hx, hb, hml, hown, hts, hK, hA⟩ := K
  obtain ⟨pc, lo, st, B, hp, Z⟩ := S
  unfold x_ld9 at h
  split at h
  next i a r hst =>
    dsimp only at hst
    subst hst
    cases hb9 : (Nat.beq i.1 0 && (Nat.beq a.1 2 && nmC N0 (pc, lo, i :: a :: r, B, hp, Z) r)) with
    | false => rw [hb9] at h; cases h
    | true =>
      rw [hb9, cond_true] at h
      simp only [Bool.and_eq_true] at hb9
      obtain ⟨c1, c2, hc⟩ := hb9
      unfold nmC at hc
      simp only [Bool.and_eq_true] at hc
      obtain ⟨d1, d2, d3, d4, d5⟩ := hc
      have d1 := Nat.le_of_ble_eq_true d1
      split at h
      next v hv =>
        cases hk9 : Nat.beq v.1 (kd9 ty) with
        | false => rw [hk9] at h; cases h
        | true =>
          rw [hk9, cond_true] at h
          split at h
          next q hq =>
            cases h
            obtain ⟨i0, i1, i2, i3⟩ := i
            obtain ⟨a0, a1, a2, a3⟩ := a
            have e0 := Nat.eq_of_beq_eq_true c1
            have e1 := Nat.eq_of_beq_eq_true c2
            clear c1 c2
            dsimp only at e0 e1 hv d1 d2 d3 d4 d5 hq
            subst e0
            subst e1
            intro ad ls lc vs ws H locs g1 g2 g3 g4 g5 g6 g7 g8 g9
            match vs, g4 with
            | u :: w :: vs, g4 =>
              obtain ⟨⟨x, rfl, hx9⟩, hw, g4⟩ := g4
              have hw : w = .ref (ad a1) := hw
              subst hw
              have hv9 : hp[a1]? = some (.inr v) := by rw [← eGet_eq]; exact hv
              obtain ⟨y, hy1, hy2⟩ := g5.2 a1 _ hv9
              dsimp only at g1 g2 g3 g4 g5
              obtain ⟨f, zs, ey, q2, q3⟩ := gC_tp hty hk9 hy2
              subst ey
              obtain ⟨hin, ρ2, hag, k1, k2, k3⟩ := ld9_ok g2 d5 hx9 q2 q3 hq
              obtain ⟨z1, z2, z3⟩ := vp_in_int (x := x) (n := v.2.1) hin.1 hin.2
              have ez : x.toNatClampNeg = x.toInt.toNat := rfl
              have hR := hr _ (List.mem_singleton.mpr rfl) ρ2 (fun j hj => hag j (by omega))
              have hgo : W p l e R s m args below meth c H locs Z.1 Z.2 Q (F0 m (pc + 1) ls (.int (f x.toNatClampNeg) :: vs)) := hR ad ls lc (.int (f x.toNatClampNeg) :: vs) ws H locs g1 k1 (gL_ag hag d2 g3) ⟨by
                  rw [ez]
                  obtain ⟨⟨q0, q1⟩, q2⟩ := q
                  dsimp only at k2 k3
                  subst k2
                  exact ⟨_, rfl, k3⟩, gS_ag hag d3 g4⟩ ⟨g5.1, fun j d9 hj => by
                    obtain ⟨x9, m1, m2⟩ := g5.2 j d9 hj
                    exact ⟨x9, m1, gC_ag hag (List.all_eq_true.mp d4 d9 (List.mem_of_getElem? hj)) m2⟩⟩ g6 g7 g8 g9
              rcases hty with rfl | rfl
              · exact va_iald hx hb hK g6 a1 0 hy1 rfl z1 hd hgo
              · exact va_bald hx hb hK g6 a1 2 hy1 rfl z1 hd hgo
            | [_], g4 => exact g4.2.elim
            | [], g4 => exact g4.elim
          next => cases h
      next => cases h
  next => cases h
theorem k_st9 (K : eK p m c s args cc own nL Ts D cl cA A) {ty : Nat} (hty : ty = 0 ∨ ty = 2) {N0 : Nat} {S : eS} (hd : decode cc S.1 = .ok (bif Nat.beq ty 0 then .iastore else .bastore, 1)) {rs : List (Nat × eS)} (h : x_st9 ty N0 S = some rs) (hr : ∀ r ∈ rs, ∀ ρ2 : Nat → Int, (∀ i, i < N0 → ρ2 i = ρ i) → eLf p l e R s m args below meth c Q D cl cA A sb ρ2 ad0 h0 nL r) : eW p l e R s m args below meth c Q D cl cA A sb ρ ad0 h0 nL S := by
  obtain ⟨hx, hb, hml, hown, hts, hK, hA⟩ := K
  obtain ⟨pc, lo, st, B, hp, Z⟩ := S
  unfold x_st9 at h
  split at h
  next v i a r hst =>
    dsimp only at hst
    subst hst
    cases hb9 : (Nat.beq v.1 0 && (Nat.beq i.1 0 && (Nat.beq a.1 2 && nmC N0 (pc, lo, v :: i :: a :: r, B, hp, Z) r))) with
    | false => rw [hb9] at h; cases h
    | true =>
      rw [hb9, cond_true] at h
      simp only [Bool.and_eq_true] at hb9
      obtain ⟨c0, c1, c2, hc⟩ := hb9
      unfold nmC at hc
      simp only [Bool.and_eq_true] at hc
      obtain ⟨d1, d2, d3, d4, d5⟩ := hc
      have d1 := Nat.le_of_ble_eq_true d1
      split at h
      next y9 hv =>
        cases hk9 : Nat.beq y9.1 (kd9 ty) with
        | false => rw [hk9] at h; cases h
        | true =>
          rw [hk9, cond_true] at h
          split at h
          next q hq =>
            cases h
            obtain ⟨v0, v1, v2, v3⟩ := v
            obtain ⟨i0, i1, i2, i3⟩ := i
            obtain ⟨a0, a1, a2, a3⟩ := a
            replace c0 := Nat.eq_of_beq_eq_true c0
            replace c1 := Nat.eq_of_beq_eq_true c1
            replace c2 := Nat.eq_of_beq_eq_true c2
            dsimp only at c0 c1 c2 hv d1 d2 d3 d4 d5 hq
            subst c0
            subst c1
            subst c2
            intro ad ls lc vs ws H locs g1 g2 g3 g4 g5 g6 g7 g8 g9
            match vs, g4 with
            | o :: u :: w :: vs, g4 =>
              obtain ⟨⟨x, rfl, hx8⟩, ⟨i9, rfl, hx9⟩, hw, g4⟩ := g4
              have hw : w = .ref (ad a1) := hw
              subst hw
              have hv9 : hp[a1]? = some (.inr y9) := by rw [← eGet_eq]; exact hv
              obtain ⟨y, hy1, hy2⟩ := g5.2 a1 _ hv9
              dsimp only at g1 g2 g3 g4 g5
              obtain ⟨f, zs, ey, q2, q3⟩ := gC_tp hty hk9 hy2
              subst ey
              obtain ⟨hin, hrg, ρ2, hag, k1, zs2, k4, k5⟩ := st9_ok g2 d5 hx9 hx8 q2 q3 hq
              obtain ⟨z1, z2, z3⟩ := vp_in_int (x := i9) (n := y9.2.1) hin.1 hin.2
              have ez : i9.toNatClampNeg = i9.toInt.toNat := rfl
              have hR := hr _ (List.mem_singleton.mpr rfl) ρ2 (fun j hj => hag j (by omega))
              have hH2 : gH ρ2 ad sb cA hp ws := ⟨g5.1, fun j d9 hj => by
                obtain ⟨x9, m1, m2⟩ := g5.2 j d9 hj
                exact ⟨x9, m1, gC_ag hag (List.all_eq_true.mp d4 d9 (List.mem_of_getElem? hj)) m2⟩⟩
              have hgo : ∀ x' : Int32, x'.toInt = x.toInt → ∀ (H1 : Heap) (locs1 : List Loc), va_P D cl (ws.set a1 (ad a1, .inl (cA ty, y9.2.1, .inl (upd f i9.toNatClampNeg x')))) H1 → va_D A (ws.set a1 (ad a1, .inl (cA ty, y9.2.1, .inl (upd f i9.toNatClampNeg x')))) → va_S A s.heap H1 locs1 → W p l e R s m args below meth c H1 locs1 Z.1 Z.2 Q (F0 m (pc + 1) ls vs) := fun x' hx' H1 locs1 w1 w2 w3 => by
                have h9 := Nat.eq_of_beq_eq_true hk9
                have hcell := gC_pt (cA := cA) (sb := sb) (ad := ad) (d := y9.2.2.1) hty k4 (k5 x' hx')
                rw [← h9] at hcell
                refine hR ad ls lc vs _ H1 locs1 ?_ k1 (gL_ag hag d2 g3) (gS_ag hag d3 g4) ?_ w1 w2 w3 g9
                · dsimp only
                  rw [eSet_eq, List.length_set]
                  exact g1
                · dsimp only
                  rw [eSet_eq]
                  exact gH_set hH2 hcell
              rcases hty with rfl | rfl
              · exact va_iast hx hb hK g6 g7 g8 a1 0 hy1 rfl z1 hd (hgo x rfl)
              · exact va_bast hx hb hK g6 g7 g8 a1 2 hy1 rfl z1 hd (hgo _ (by
                  rw [vp_nar_byte]
                  unfold lo9 hi9 at hrg
                  exact congrArg Int32.toInt (i32_byte (by have := hrg.1; exact this) (by have := hrg.2; exact this))))
            | [_, _], g4 => exact g4.2.2.elim
            | [_], g4 => exact g4.2.elim
            | [], g4 => exact g4.elim
          next => cases h
      next => cases h
  next => cases h
end E16V
