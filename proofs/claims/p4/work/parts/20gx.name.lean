/-! ===== THE ENGINE, 17x: a result gets a name, and the relation that tells it ===== -/
def opK (i : Instr) : Nat := match i with
  | .iadd => 1
  | .isub => 2
  | .iand => 3
  | .imul => 7
  | .ishr => 6
  | _ => 0
/-- the code of the first tape that one tells of -/
def cdT : eH → Nat
  | [] => 0
  | .inr (9, _, _, [p]) :: _ => p.2.2.1
  | .inr (10, _, _, [p]) :: _ => p.2.2.1
  | _ :: r => cdT r
def ghQ (q : eQ) (S : eS) : Option (Nat × Nat × Nat) := match q.1 with
  | .i2b => (match S.2.2.1 with
    | a :: _ => bif okTg a then some (38, a.2.1, aI 0) else none
    | _ => none)
  | .invokevirtual _ => (match S.2.2.1 with
    | a :: _ => bif okTg a then some (205, cdT S.2.2.2.2.1, a.2.1) else none
    | _ => none)
  | .putfield _ => (match S.2.2.1 with
    | a :: _ => bif okTg a then some (205, cdT S.2.2.2.2.1, a.2.1) else none
    | _ => none)
  | i => (match S.2.2.1 with
    | b :: a :: _ => eRel (opK i) S.2.2.2.1 a b
    | _ => none)
/-- its bounds -/
def rlI (B : eB) (r : Nat × Nat × Nat) : Option (Int × Int) := match argV B r.2.1, argV B r.2.2 with
  | some x, some y => some (bif Nat.beq r.1 31 then (0, 255) else (bif Nat.beq r.1 32 then (10 * eLo B x, 10 * eHi B x) else (bif Nat.beq r.1 33 then (eLo B x + eLo B y, eHi B x + eHi B y) else (bif Nat.beq r.1 37 then (iMin (eLo B x) 0, iMax (eHi B x) 0) else (bif Nat.beq r.1 38 then (-128, 127) else (bif Nat.beq r.1 205 then (0, cmx) else (bif dLe B y x 4 then imx (eLo B x - eHi B y) 4 else bif dLe B y x 0 then imx (eLo B x - eHi B y) 0 else eLo B x - eHi B y, eHi B x - eLo B y)))))))
  | _, _ => none
def ghC (N0 : Nat) (S : eS) (r : Nat × Nat × Nat) : Bool := nmC N0 S S.2.2.1 && (isRl r.1 && (tgA S.2.2.2.1.1.length r.2.1 && (tgA S.2.2.2.1.1.length r.2.2 && (Nat.blt (S.2.2.2.1.1.length * 8192 + 4097) cB && Nat.beq (fTg S.2.2.2.1 r) 0))))
/-- a byte without its sign that a name tells already -/
def ghM1 (B : eB) (r : Nat × Nat × Nat) (f : eF) : Option Nat := bif Nat.beq f.1 1003 && Nat.beq f.2.2.2.2.toNat r.2.1 then (match argV B f.2.2.2.1 with
  | some i => bif decide (0 ≤ eLo B i) then (match B.2.find? (sm9 0 B f.2.1 f.2.2.2.1 i) with
    | some f2 => some f2.2.2.2.2.toNat
    | none => none) else none
  | none => none) else none
def ghM (B : eB) (r : Nat × Nat × Nat) : Option Nat := bif Nat.beq r.1 31 then B.2.findSome? (ghM1 B r) else none
theorem ghM_ok {ρ : Nat → Int} {B : eB} (hB : gB ρ B) {r : Nat × Nat × Nat} {u : Nat} (h : ghM B r = some u) : RK 31 (aR ρ r.2.1) (aR ρ (aI 0)) (aR ρ (aI 0)) (aR ρ u) := by
  unfold ghM at h
  cases hb : Nat.beq r.1 31 with
  | false => rw [hb] at h; cases h
  | true =>
    rw [hb, cond_true] at h
    obtain ⟨f, m1, h⟩ := List.exists_of_findSome?_eq_some h
    unfold ghM1 at h
    cases hc : (Nat.beq f.1 1003 && Nat.beq f.2.2.2.2.toNat r.2.1) with
    | false => rw [hc] at h; cases h
    | true =>
      rw [hc, cond_true] at h
      rw [Bool.and_eq_true] at hc
      split at h
      next i hi =>
        cases hd0 : decide (0 ≤ eLo B i) with
        | false => rw [hd0] at h; cases h
        | true =>
        rw [hd0, cond_true] at h
        rw [decide_eq_true_eq] at hd0
        have h0 : 0 ≤ aR ρ f.2.2.2.1 := Int.le_trans hd0 (eLo_ok hB (argV_ok hB hi))
        split at h
        next fz hf2 =>
          cases h
          have hm := List.mem_of_find?_eq_some hf2
          have hs := List.find?_some hf2
          unfold sm9 at hs
          simp only [Bool.and_eq_true] at hs
          obtain ⟨s1, s2, s3, -, s4, s5⟩ := hs
          have hg := hB.2 f m1
          have hg2 := hB.2 fz hm
          obtain ⟨g9, m2, s5⟩ := List.any_eq_true.mp s5
          simp only [Bool.and_eq_true] at s5
          obtain ⟨t1, t2, t3⟩ := s5
          have hg3 := hB.2 g9 m2
          obtain ⟨f0, f1, f2, f3, f4⟩ := f
          obtain ⟨j0, j1, j2, j3, j4⟩ := fz
          obtain ⟨k0, k1, k2, k3, k4⟩ := g9
          have c1 := Nat.eq_of_beq_eq_true hc.1
          have c2 := Nat.eq_of_beq_eq_true hc.2
          replace s1 := Nat.eq_of_beq_eq_true s1
          replace s2 := Nat.eq_of_beq_eq_true s2
          replace s3 := Nat.eq_of_beq_eq_true s3
          replace t1 := Nat.eq_of_beq_eq_true t1
          replace t2 := Nat.eq_of_beq_eq_true t2
          dsimp only at c1 c2 s1 s2 s3 s4 t1 t2 t3 hi h0
          subst c1
          subst s1
          subst t1
          have hg : RK 1000 (aR ρ f1) (aR ρ f3) (aR ρ f2.toNat) (aR ρ f4.toNat) := hg
          have hg2 : RK 1000 (aR ρ j1) (aR ρ j3) (aR ρ j2.toNat) (aR ρ j4.toNat) := hg2
          have hg3 : RK 1001 (aR ρ k1) (aR ρ k3) (aR ρ k2.toNat) (aR ρ k4.toNat) := hg3
          rw [s2, s3] at hg2
          rw [t2] at hg3
          rw [c2] at hg
          split at s4
          next d hd =>
            have s4 := inbV_ok hB (argV_ok hB hd) s4
            split at t3
            next n9 hn9 =>
              have t3 := dLe_ok hB (argV_ok hB hi) (argV_ok hB hn9) t3
              show aR ρ j4.toNat = aR ρ r.2.1 % 256
              have hne := (hg3 _ h0).mp (by omega)
              have e1 := hg hne
              have e2 := hg2 hne
              have l1 : lo9 0 = 0 := rfl
              have l2 : hi9 0 = 255 := rfl
              rw [l1, l2] at s4
              omega
            next => cases t3
          next => cases s4
        next => cases h
      next => cases h
def ghS (N0 : Nat) (q : eQ) (S : eS) : Option eS := match ghQ q S with
  | some r => bif (ghM S.2.2.2.1 r).isSome && Nat.beq (fTg S.2.2.2.1 r) 0 then some (S.1, S.2.1, S.2.2.1, (S.2.2.2.1.1, (34, r.2.1, ((aI 0 : Nat) : Int), aI 0, (((ghM S.2.2.2.1 r).getD 0 : Nat) : Int)) :: S.2.2.2.1.2), S.2.2.2.2) else (match rlI S.2.2.2.1 r with
    | some w => bif ghC N0 S r then some (S.1, S.2.1, S.2.2.1, (S.2.2.2.1.1 ++ [w], (r.1 + 3, r.2.1, ((aI 0 : Nat) : Int), r.2.2, ((S.2.2.2.1.1.length * 8192 + 4097 : Nat) : Int)) :: S.2.2.2.1.2), S.2.2.2.2) else none
    | none => none)
  | none => none
theorem isRl_lt {k : Nat} (h : isRl k = true) : k < 1000 := by
  unfold isRl at h
  simp only [Bool.or_eq_true] at h
  rcases h with h | h | h | h | h | h | h <;> (have h := Nat.eq_of_beq_eq_true h; omega)
theorem rlI_ok {ρ : Nat → Int} {B : eB} (hB : gB ρ B) {r : Nat × Nat × Nat} (h3 : isRl r.1 = true) {w : Int × Int} (h : rlI B r = some w) : w.1 ≤ FK r.1 (aR ρ r.2.1) (aR ρ r.2.2) 0 ∧ FK r.1 (aR ρ r.2.1) (aR ρ r.2.2) 0 ≤ w.2 := by
  unfold rlI at h
  split at h
  next x y hx hy =>
    have gx := argV_ok hB hx
    have gy := argV_ok hB hy
    have a1 := eLo_ok hB gx
    have a2 := eHi_ok hB gx
    have b1 := eLo_ok hB gy
    have b2 := eHi_ok hB gy
    have h := Option.some.inj h
    subst h
    unfold isRl at h3
    simp only [Bool.or_eq_true] at h3
    obtain ⟨r1, r2, r3⟩ := r
    dsimp only at h3 a1 a2 b1 b2 ⊢
    rcases h3 with h | h | h | h | h | h | h
    · have h := Nat.eq_of_beq_eq_true h
      subst h
      show 0 ≤ aR ρ r2 % 256 ∧ aR ρ r2 % 256 ≤ 255
      omega
    · have h := Nat.eq_of_beq_eq_true h
      subst h
      show 10 * eLo B x ≤ 10 * aR ρ r2 ∧ 10 * aR ρ r2 ≤ 10 * eHi B x
      omega
    · have h := Nat.eq_of_beq_eq_true h
      subst h
      show eLo B x + eLo B y ≤ aR ρ r2 + aR ρ r3 ∧ aR ρ r2 + aR ρ r3 ≤ eHi B x + eHi B y
      omega
    · have h := Nat.eq_of_beq_eq_true h
      subst h
      show (bif dLe B y x 4 then imx (eLo B x - eHi B y) 4 else bif dLe B y x 0 then imx (eLo B x - eHi B y) 0 else eLo B x - eHi B y) ≤ aR ρ r2 - aR ρ r3 ∧ aR ρ r2 - aR ρ r3 ≤ eHi B x - eLo B y
      refine ⟨?_, by omega⟩
      cases hd4 : dLe B y x 4 with
      | true =>
        have h9 := dLe_ok hB gy gx hd4
        dsimp only at h9
        rw [cond_true]
        exact imx_le (by omega) (by omega)
      | false =>
      rw [cond_false]
      cases hd : dLe B y x 0 with
      | false => rw [cond_false]; omega
      | true =>
        have h9 := dLe_ok hB gy gx hd
        dsimp only at h9
        rw [cond_true]
        exact imx_le (by omega) (by omega)
    · have h := Nat.eq_of_beq_eq_true h
      subst h
      have m1 := iMin_l (eLo B x) 0
      have m2 := iMin_r (eLo B x) 0
      have m3 := iMax_l (eHi B x) 0
      have m4 := iMax_r (eHi B x) 0
      show iMin (eLo B x) 0 ≤ aR ρ r2 / 2 ^ (aR ρ r3).toNat ∧ aR ρ r2 / 2 ^ (aR ρ r3).toNat ≤ iMax (eHi B x) 0
      have q9 : ((2 ^ (aR ρ r3).toNat : Nat) : Int) = 2 ^ (aR ρ r3).toNat := by simp
      have hp : (0 : Int) < ((2 ^ (aR ρ r3).toNat : Nat) : Int) := by
        have := Nat.pow_pos (n := (aR ρ r3).toNat) (show 0 < 2 by decide)
        omega
      rw [← q9]
      refine ⟨(Int.le_ediv_iff_mul_le hp).mpr ?_, ?_⟩
      · have : iMin (eLo B x) 0 * ((2 ^ (aR ρ r3).toNat : Nat) : Int) ≤ iMin (eLo B x) 0 * 1 := Int.mul_le_mul_of_nonpos_left m2 (by omega)
        omega
      · exact Int.le_trans (Int.ediv_le_ediv hp (show aR ρ r2 ≤ iMax (eHi B x) 0 by omega)) (Int.ediv_le_self _ m4)
    · have h := Nat.eq_of_beq_eq_true h
      subst h
      show -128 ≤ (aR ρ r2 + 128) % 256 - 128 ∧ (aR ρ r2 + 128) % 256 - 128 ≤ 127
      omega
    · have h := Nat.eq_of_beq_eq_true h
      subst h
      exact enc_b (tk_len _ _) (tk_by _ _)
  next => cases h
section E17G
variable {p : Program} {l : Launch} {e : Env} {R : Room} {s : State} {m : MethodId} {args : Array Value} {below : List Frame} {meth : Method} {c : Code} {Q : State → Prop}
variable {D : va_G} {cl : List vw_C} {cA : Nat → ClassId} {A : Nat → Prop} {sb : eSB} {ρ : Nat → Int} {ad0 : Nat → Nat} {h0 nL : Nat}
theorem ghS_ok {N0 : Nat} {q : eQ} {S S' : eS} (hs : ghS N0 q S = some S') (h : ∀ ρ2 : Nat → Int, (∀ i, i < N0 → ρ2 i = ρ i) → eW p l e R s m args below meth c Q D cl cA A sb ρ2 ad0 h0 nL S') : eW p l e R s m args below meth c Q D cl cA A sb ρ ad0 h0 nL S := by
  unfold ghS at hs
  split at hs
  next r _ =>
    cases hm : ((ghM S.2.2.2.1 r).isSome && Nat.beq (fTg S.2.2.2.1 r) 0) with
    | true =>
      rw [hm, cond_true] at hs
      have hs := Option.some.inj hs
      subst hs
      rw [Bool.and_eq_true] at hm
      obtain ⟨u, hu⟩ := Option.isSome_iff_exists.mp hm.1
      obtain ⟨pc, lo, st, B, hp, Z⟩ := S
      dsimp only at hu ⊢
      intro ad ls lc vs ws H locs g1 g2 g3 g4 g5 g6 g7 g8 g9
      refine h ρ (fun _ _ => rfl) ad ls lc vs ws H locs g1 ⟨g2.1, fun f hf => ?_⟩ g3 g4 g5 g6 g7 g8 g9
      rcases List.mem_cons.mp hf with e9 | hf
      · subst e9
        show RK 31 (aR ρ r.2.1) (aR ρ (aI 0)) (aR ρ (((aI 0 : Nat) : Int)).toNat) (aR ρ ((((ghM B r).getD 0 : Nat) : Int)).toNat)
        rw [Int.toNat_natCast, Int.toNat_natCast, hu]
        exact ghM_ok g2 hu
      · exact g2.2 f hf
    | false =>
    rw [hm, cond_false] at hs
    split at hs
    next w hw =>
      cases hb : ghC N0 S r with
      | false => rw [hb] at hs; cases hs
      | true =>
        rw [hb, cond_true] at hs
        have hs := Option.some.inj hs
        subst hs
        obtain ⟨pc, lo, st, B, hp, Z⟩ := S
        unfold ghC at hb
        simp only [Bool.and_eq_true] at hb
        obtain ⟨hc, c1, c2, c3, c4, -⟩ := hb
        unfold nmC at hc
        simp only [Bool.and_eq_true] at hc
        obtain ⟨d1, d2, d3, d4, d5⟩ := hc
        have d1 := Nat.le_of_ble_eq_true d1
        dsimp only at hw c2 c3 c4 d1 d2 d3 d4 d5
        intro ad ls lc vs ws H locs g1 g2 g3 g4 g5 g6 g7 g8 g9
        dsimp only at g1 g2 g3 g4 g5
        have hx := rlI_ok g2 c1 hw
        have hag : ∀ i, i < B.1.length → (fun i => if i = B.1.length then FK r.1 (aR ρ r.2.1) (aR ρ r.2.2) 0 else ρ i) i = ρ i := fun i hi => if_neg (by omega)
        refine h (fun i => if i = B.1.length then FK r.1 (aR ρ r.2.1) (aR ρ r.2.2) 0 else ρ i) (fun i hi => hag i (by omega)) ad ls lc vs ws H locs g1 ⟨fun i q9 hq => ?_, fun f hf => ?_⟩ (gL_ag hag d2 g3) (gS_ag hag d3 g4) ⟨g5.1, fun k c9 hk => ?_⟩ g6 g7 g8 g9
        · dsimp only at hq
          by_cases hl : i < B.1.length
          · rw [List.getElem?_append_left hl] at hq
            rw [hag i hl]
            exact g2.1 i q9 hq
          · rw [List.getElem?_append_right (Nat.not_lt.mp hl)] at hq
            have hz : i - B.1.length < 1 := (List.getElem?_eq_some_iff.mp hq).1
            have e1 : i = B.1.length := by omega
            subst e1
            rw [Nat.sub_self] at hq
            have e2 := Option.some.inj hq
            subst e2
            dsimp only
            rw [if_pos rfl]
            exact hx
        · rcases List.mem_cons.mp hf with e9 | hf
          · subst e9
            show RK r.1 (aR _ r.2.1) (aR _ r.2.2) (aR _ (((aI 0 : Nat) : Int)).toNat) (aR _ (((B.1.length * 8192 + 4097 : Nat) : Int)).toNat)
            refine (RK_f (isRl_lt c1)).mpr ?_
            rw [tgA_ok c2 hag, tgA_ok c3 hag, FK_2 c1 (d := 0), Int.toNat_natCast]
            unfold aR
            rw [c4, cond_true, show B.1.length * 8192 + 4097 - 1 = B.1.length * 8192 + 4096 by omega, nB_at, nO_at]
            dsimp only
            rw [if_pos rfl]
            exact Int.add_zero _
          · exact gF_ag d5 hag hf (g2.2 f hf)
        · obtain ⟨x9, q1, q2⟩ := g5.2 k c9 hk
          exact ⟨x9, q1, gC_ag hag (List.all_eq_true.mp d4 c9 (List.mem_of_getElem? hk)) q2⟩
    next => cases hs
  next => cases hs
end E17G
