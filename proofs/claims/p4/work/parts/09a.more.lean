/-! ===== THE ENGINE, 6a: more operations ===== -/
theorem PRD_congr {k n : Nat} {f g : Nat → Int32} (hk : k ≤ 1) (h : ∀ j, j < n → g j = f j) (hp : PRD k n f [] []) : PRD k n g [] [] := by
  match k, hk, hp with
  | 0, _, hp =>
    obtain ⟨e, hp⟩ := hp
    exact ⟨e, fun j hj => by rw [h j (by omega)]; exact hp j hj⟩
  | 1, _, hp =>
    obtain ⟨e, hp⟩ := hp
    refine ⟨e, fun r hr => ?_⟩
    have hp := hp r hr
    have he : ∀ j, j < 66 → (g (66 * r + j)).toInt = (f (66 * r + j)).toInt := fun j hj => by rw [h _ (by omega)]
    obtain ⟨h1, h2⟩ := hp
    refine ⟨by dsimp only at h1 ⊢; rw [he 0 (by omega)]; exact h1, fun b hb => ?_⟩
    have h3 := h2 b hb
    dsimp only at h3 ⊢
    rw [he (2 + b) (by omega), he (12 + b) (by omega), he (32 + b) (by omega)]
    exact h3
  | (k + 2), hk, _ => omega
theorem gV_int_of9 {ρ : Nat → Int} {ad : Nat → Nat} {sb : eSB} {a : eV} {v : Value} (h : gV ρ ad sb a v) (h0 : a.1 = 0) : ∃ x : Int32, v = .int x ∧ gN ρ a x.toInt := by
  obtain ⟨k, t, lo, hi⟩ := a
  dsimp only at h0
  subst h0
  exact h
section E6A
variable {p : Program} {l : Launch} {e : Env} {R : Room} {s : State} {m : MethodId} {args : Array Value} {below : List Frame} {meth : Method} {c : Code} {Q : State → Prop}
variable {D : va_G} {cl : List vw_C} {cA : Nat → ClassId} {A : Nat → Prop} {sb : eSB} {ρ : Nat → Int} {ad0 : Nat → Nat} {h0 nL : Nat} {cc : ByteArray} {own : String} {Ts : List Cond}
def x_max (cm sm : Nat) (S : eS) : eR := match S.2.2.1 with
  | b :: a :: r => bif Nat.beq b.1 0 && (Nat.beq a.1 0 && (Nat.ble (eWords r) 8 && (Nat.ble S.2.2.2.2.2.1 cm && Nat.ble S.2.2.2.2.2.2 sm))) then some (eBr (S.1 + 3) S.2.1 (a :: r) S.2.2.2.2 (eLe S.2.2.2.1 b a) ++ eBr (S.1 + 3) S.2.1 (b :: r) S.2.2.2.2 (eLt S.2.2.2.1 a b)) else none
  | _ => none
theorem k_max (K : eK p m c s args cc own nL Ts D cl cA A) {S : eS} {ix cm sm : Nat} (hcm : cm ≤ R.cells) (hsm : sm ≤ R.slots) (hfr : 1 ≤ R.frames) (hlo : 21 ≤ R.locals) (w1 : Jvm.Cond.methodLink own ix Lib.Math.max.name ∈ Ts) (w2 : Jvm.Cond.static Lib.Math.max.name ∈ Ts) (w3 : Jvm.Cond.initialized "java/lang/Math" ∈ Ts) (w4 : Jvm.Cond.code Lib.Math.max.name Lib.Math.max.code 2 (some .int) ∈ Ts) (hd : decode cc S.1 = .ok (.invokestatic ix, 3)) {rs : List (Nat × eS)} (h : x_max cm sm S = some rs) (hr : ∀ r ∈ rs, eLf p l e R s m args below meth c Q D cl cA A sb ρ ad0 h0 nL r) : eW p l e R s m args below meth c Q D cl cA A sb ρ ad0 h0 nL S := by
  obtain ⟨hx, hb, hml, hown, hts, -⟩ := K
  obtain ⟨pc, lo, st, B, Z⟩ := S
  unfold x_max at h
  split at h
  next b a r hst =>
    dsimp only at hst
    subst hst
    cases hb9 : (Nat.beq b.1 0 && (Nat.beq a.1 0 && (Nat.ble (eWords r) 8 && (Nat.ble Z.2.1 cm && Nat.ble Z.2.2 sm)))) with
    | false => dsimp only at h; rw [hb9] at h; cases h
    | true =>
      dsimp only at h
      rw [hb9, cond_true] at h
      simp only [Bool.and_eq_true] at hb9
      obtain ⟨c1, c2, c3, c4, c5⟩ := hb9
      have c3 := Nat.le_of_ble_eq_true c3
      have c4 := Nat.le_of_ble_eq_true c4
      have c5 := Nat.le_of_ble_eq_true c5
      cases h
      obtain ⟨a0, a1, a2, a3⟩ := a
      obtain ⟨b0, b1, b2, b3⟩ := b
      have e0 := Nat.eq_of_beq_eq_true c1
      have e1 := Nat.eq_of_beq_eq_true c2
      dsimp only at e0 e1
      subst e0
      subst e1
      intro ad ls lc vs ws H locs g1 g2 g3 g4 g5 g6 g7 g8 g9
      match vs, g4 with
      | v :: w :: vs, g4 =>
        obtain ⟨⟨y, rfl, hy9⟩, ⟨x, rfl, hx9⟩, g4⟩ := g4
        refine va_mmax hx hb (by rw [hml]; exact g9.1.symm) hown (hts _ w1) (hts _ w2) (hts _ w3) (hts _ w4) hfr (by rw [gS_words g4]; omega) (Nat.le_trans c4 hcm) (Nat.le_trans c5 hsm) hd ?_
        by_cases hyx : x < y
        · rw [if_pos hyx]
          obtain ⟨B', hB', gB'⟩ := eLt_ok g2 hx9 hy9 (Int32.lt_iff_toInt_lt.mp hyx)
          exact hr _ (List.mem_append_right _ (eBr_in hB')) ad ls lc (.int y :: vs) ws H locs g1 gB' g3 ⟨⟨y, rfl, hy9⟩, g4⟩ g5 g6 g7 g8 g9
        · rw [if_neg hyx]
          obtain ⟨B', hB', gB'⟩ := eLe_ok g2 hy9 hx9 (Int.not_lt.mp (fun z => hyx (Int32.lt_iff_toInt_lt.mpr z)))
          exact hr _ (List.mem_append_left _ (eBr_in hB')) ad ls lc (.int x :: vs) ws H locs g1 gB' g3 ⟨⟨x, rfl, hx9⟩, g4⟩ g5 g6 g7 g8 g9
      | [_], g4 => exact g4.2.elim
      | [], g4 => exact g4.elim
  next => cases h
def x_abs (cm sm : Nat) (S : eS) : eR := match S.2.2.1 with
  | a :: r => bif Nat.beq a.1 0 && (Nat.ble (eWords r) 8 && (Nat.ble S.2.2.2.2.2.1 cm && Nat.ble S.2.2.2.2.2.2 sm)) then some (eBr (S.1 + 3) S.2.1 (a :: r) S.2.2.2.2 (eLe S.2.2.2.1 (eI 0) a) ++ eBr (S.1 + 3) S.2.1 (eBin (fun x y => x - y) 2 S.2.2.2.1 (eI 0) a :: r) S.2.2.2.2 (eLt S.2.2.2.1 a (eI 0))) else none
  | _ => none
theorem k_abs (K : eK p m c s args cc own nL Ts D cl cA A) {S : eS} {ix cm sm : Nat} (hcm : cm ≤ R.cells) (hsm : sm ≤ R.slots) (hfr : 1 ≤ R.frames) (hlo : 21 ≤ R.locals) (w1 : Jvm.Cond.methodLink own ix Lib.Math.abs.name ∈ Ts) (w2 : Jvm.Cond.static Lib.Math.abs.name ∈ Ts) (w3 : Jvm.Cond.initialized "java/lang/Math" ∈ Ts) (w4 : Jvm.Cond.code Lib.Math.abs.name Lib.Math.abs.code 1 (some .int) ∈ Ts) (hd : decode cc S.1 = .ok (.invokestatic ix, 3)) {rs : List (Nat × eS)} (h : x_abs cm sm S = some rs) (hr : ∀ r ∈ rs, eLf p l e R s m args below meth c Q D cl cA A sb ρ ad0 h0 nL r) : eW p l e R s m args below meth c Q D cl cA A sb ρ ad0 h0 nL S := by
  obtain ⟨hx, hb, hml, hown, hts, -⟩ := K
  obtain ⟨pc, lo, st, B, Z⟩ := S
  unfold x_abs at h
  split at h
  next a r hst =>
    dsimp only at hst
    subst hst
    cases hb9 : (Nat.beq a.1 0 && (Nat.ble (eWords r) 8 && (Nat.ble Z.2.1 cm && Nat.ble Z.2.2 sm))) with
    | false => dsimp only at h; rw [hb9] at h; cases h
    | true =>
      dsimp only at h
      rw [hb9, cond_true] at h
      simp only [Bool.and_eq_true] at hb9
      obtain ⟨c2, c3, c4, c5⟩ := hb9
      have c3 := Nat.le_of_ble_eq_true c3
      have c4 := Nat.le_of_ble_eq_true c4
      have c5 := Nat.le_of_ble_eq_true c5
      cases h
      obtain ⟨a0, a1, a2, a3⟩ := a
      have e1 := Nat.eq_of_beq_eq_true c2
      dsimp only at e1
      subst e1
      have z0 : gN ρ (eI 0) (0 : Int32).toInt := gN_I 0
      intro ad ls lc vs ws H locs g1 g2 g3 g4 g5 g6 g7 g8 g9
      match vs, g4 with
      | w :: vs, g4 =>
        obtain ⟨⟨x, rfl, hx9⟩, g4⟩ := g4
        refine va_mabs hx hb (by rw [hml]; exact g9.1.symm) hown (hts _ w1) (hts _ w2) (hts _ w3) (hts _ w4) hfr (by rw [gS_words g4]; omega) (Nat.le_trans c4 hcm) (Nat.le_trans c5 hsm) hd ?_
        by_cases hyx : 0 ≤ x
        · rw [if_pos hyx]
          obtain ⟨B', hB', gB'⟩ := eLe_ok g2 z0 hx9 (Int32.le_iff_toInt_le.mp hyx)
          exact hr _ (List.mem_append_left _ (eBr_in hB')) ad ls lc (.int x :: vs) ws H locs g1 gB' g3 ⟨⟨x, rfl, hx9⟩, g4⟩ g5 g6 g7 g8 g9
        · rw [if_neg hyx]
          have hlt : x.toInt < (0 : Int32).toInt := Int.not_le.mp (fun z => hyx (Int32.le_iff_toInt_le.mpr z))
          obtain ⟨B', hB', gB'⟩ := eLt_ok g2 hx9 z0 hlt
          exact hr _ (List.mem_append_right _ (eBr_in hB')) ad ls lc (.int (0 - x) :: vs) ws H locs g1 gB' g3 ⟨eBin_gV (eApx2) g2 z0 hx9, g4⟩ g5 g6 g7 g8 g9
      | [], g4 => exact g4.elim
  next => cases h
/-- copies of a length that isn't known, into a row of one kind; whole rows under a predicate -/
def x_copyB (S : eS) : eR := match S.2.2.1 with
  | n :: dp :: b :: sp :: a :: r => bif (Nat.beq n.1 0 && (Nat.beq dp.1 0 && (Nat.beq b.1 2 && (Nat.beq sp.1 0 && (Nat.beq a.1 2 && Nat.ble (eWords r) 8))))) && (decide (eLo S.2.2.2.1 dp = 0) && (decide (eHi S.2.2.2.1 dp = 0) && (decide (eLo S.2.2.2.1 sp = 0) && (decide (eHi S.2.2.2.1 sp = 0) && decide (0 ≤ eLo S.2.2.2.1 n))))) then
      (match eGet S.2.2.2.2.1 a.2.1, eGet S.2.2.2.2.1 b.2.1 with
      | some (.inr x), some (.inr y) => bif decide (eHi S.2.2.2.1 n ≤ (x.2.1 : Int)) && (decide (eHi S.2.2.2.1 n ≤ (y.2.1 : Int)) && ((Nat.beq x.1 0 && (Nat.beq y.1 0 && (x.2.2.2.isEmpty && (y.2.2.2.isEmpty && (Nat.beq x.2.2.1.1 0 && (Nat.beq y.2.2.1.1 0 && wkE S.2.2.2.1 x.2.2.1 y.2.2.1)))))) || (Nat.beq x.1 y.1 && (Nat.ble 4 x.1 && (Nat.ble x.1 5 && (x.2.2.2.isEmpty && (y.2.2.2.isEmpty && (Nat.beq x.2.1 y.2.1 && decide (eLo S.2.2.2.1 n = (y.2.1 : Int)))))))))) then
          eNx (S.1 + 3, S.2.1, r, S.2.2.2) else none
      | _, _ => none) else none
  | _ => none
theorem wkE_gV {ad : Nat → Nat} {B : eB} (hB : gB ρ B) {v w : eV} {x : Int32} (h : wkE B v w = true) (hw : w.1 = 0) (g : gV ρ ad sb v (.int x)) : gV ρ ad sb w (.int x) := by
  unfold wkE at h
  simp only [Bool.and_eq_true, decide_eq_true_eq] at h
  obtain ⟨c1, e2, e3⟩ := h
  replace c1 := Nat.eq_of_beq_eq_true c1
  obtain ⟨w0, w1, w2, w3⟩ := w
  dsimp only at hw c1 e2 e3
  subst hw
  subst c1
  have g0 := (gV_bndI g).1
  obtain ⟨v0, v1, v2, v3⟩ := v
  dsimp only at g0
  subst g0
  obtain ⟨y, e4, g⟩ := g
  cases e4
  have a1 := eLo_ok hB g
  have a2 := eHi_ok hB g
  exact gV_int (gN_iv (by omega) (by omega))
set_option maxHeartbeats 1000000 in
theorem k_copyB (K : eK p m c s args cc own nL Ts D cl cA A) {S : eS} {ix : Nat} (hfr : 1 ≤ R.frames) (hlo : 8 + (nativeFrameWords "java/lang/System" "arraycopy" 5 + 11) ≤ R.locals) (w1 : Jvm.Cond.methodLink own ix arraycopyName ∈ Ts) (w2 : Jvm.Cond.native arraycopyName ∈ Ts) (w3 : Jvm.Cond.static arraycopyName ∈ Ts) (w4 : Jvm.Cond.initialized "java/lang/System" ∈ Ts) (hd : decode cc S.1 = .ok (.invokestatic ix, 3)) {rs : List (Nat × eS)} (h : x_copyB S = some rs) (hr : ∀ r ∈ rs, eLf p l e R s m args below meth c Q D cl cA A sb ρ ad0 h0 nL r) : eW p l e R s m args below meth c Q D cl cA A sb ρ ad0 h0 nL S := by
  obtain ⟨hx, hb, hml, hown, hts, hK, hA⟩ := K
  obtain ⟨pc, lo, st, B, hp, Z⟩ := S
  unfold x_copyB at h
  split at h
  next n dp b sp a r hst =>
    dsimp only at hst
    subst hst
    dsimp only at h
    obtain ⟨n0, n1, n2, n3⟩ := n
    obtain ⟨d0, d1, d2, d3⟩ := dp
    obtain ⟨s0, s1, s2, s3⟩ := sp
    obtain ⟨a0, a1, a2, a3⟩ := a
    obtain ⟨b0, b1, b2, b3⟩ := b
    dsimp only at h
    rw [Bool.cond_eq_ite] at h
    split at h
    next hc1 =>
      split at h
      next x y hx1 hy1 =>
        rw [Bool.cond_eq_ite] at h
        split at h
        next hc2 =>
          simp only [Bool.and_eq_true, decide_eq_true_eq] at hc1
          obtain ⟨⟨k1, k2, k3, k4, k5, k6⟩, m1, m2, m3, m4, m5⟩ := hc1
          rw [Bool.and_eq_true, Bool.and_eq_true, decide_eq_true_eq, decide_eq_true_eq] at hc2
          obtain ⟨p3, p4, hc2⟩ := hc2
          have e1 := Nat.eq_of_beq_eq_true k1
          have e2 := Nat.eq_of_beq_eq_true k2
          have e3 := Nat.eq_of_beq_eq_true k3
          have e4 := Nat.eq_of_beq_eq_true k4
          have e5 := Nat.eq_of_beq_eq_true k5
          subst e1 e2 e3 e4 e5
          obtain ⟨x0, xn, xd, xo⟩ := x
          obtain ⟨y0, yn, yd, yo⟩ := y
          dsimp only at p3 p4 hc2
          have hn := eNx_ok (S := (pc, lo, (0, n1, n2, n3) :: (0, d1, d2, d3) :: (2, b1, b2, b3) :: (0, s1, s2, s3) :: (2, a1, a2, a3) :: r, B, hp, Z)) h hr
          intro ad ls lc vs ws H locs g1 g2 g3 g4 g5 g6 g7 g8 g9
          match vs, g4 with
          | v1 :: v2 :: v3 :: v4 :: v5 :: vs, g4 =>
            obtain ⟨⟨zn, rfl, hzn⟩, ⟨zd, rfl, hzd⟩, hv3, ⟨zs, rfl, hzs⟩, hv5, g4⟩ := g4
            have hv3 : v3 = .ref (ad b1) := hv3
            have hv5 : v5 = .ref (ad a1) := hv5
            subst hv3 hv5
            have un1 := eLo_ok g2 hzn
            have un2 := eHi_ok g2 hzn
            have ud1 := eLo_ok g2 hzd
            have ud2 := eHi_ok g2 hzd
            have us1 := eLo_ok g2 hzs
            have us2 := eHi_ok g2 hzs
            dsimp only at un1 un2 ud1 ud2 us1 us2
            have ng : ∀ z : Int32, 0 ≤ z.toInt → ¬ z < 0 := fun z hz q => by
              have := Int32.lt_iff_toInt_lt.mp q
              have h0 : (0 : Int32).toInt = 0 := rfl
              omega
            have cn : (zn.toNatClampNeg : Int) = zn.toInt := by
              have : zn.toNatClampNeg = zn.toInt.toNat := rfl
              omega
            have cd : zd.toNatClampNeg = 0 := by
              have : zd.toNatClampNeg = zd.toInt.toNat := rfl
              omega
            have cs : zs.toNatClampNeg = 0 := by
              have : zs.toNatClampNeg = zs.toInt.toNat := rfl
              omega
            have hgx := g5.2 a1 _ (by rw [← eGet_eq]; exact hx1)
            have hgy := g5.2 b1 _ (by rw [← eGet_eq]; exact hy1)
            -- both are rows of ints
            have hii : ∃ f g : Nat → Int32, ws[a1]? = some (ad a1, .inl (cA 0, xn, .inl f)) ∧ ws[b1]? = some (ad b1, .inl (cA 0, yn, .inl g)) ∧ (∀ g' : Nat → Int32, (∀ j, j < zn.toNatClampNeg → g' j = f j) → (∀ j, ¬ j < zn.toNatClampNeg → g' j = g j) → gC ρ ad sb cA (.inr (y0, yn, yd, yo)) (.inl (cA 0, yn, .inl g'))) := by
              rw [Bool.or_eq_true] at hc2
              rcases hc2 with hc2 | hc2
              · simp only [Bool.and_eq_true] at hc2
                obtain ⟨q1, q2, q3, q4, q5, q6, q7⟩ := hc2
                have q1 := Nat.eq_of_beq_eq_true q1
                have q2 := Nat.eq_of_beq_eq_true q2
                subst q1
                subst q2
                obtain ⟨ex, hx2, f, hx3, hx4⟩ := hgx
                obtain ⟨ey, hy2, g, hy3, hy4⟩ := hgy
                subst hx3 hy3
                cases xo with
                | cons _ _ => cases q3
                | nil =>
                  cases yo with
                  | cons _ _ => cases q4
                  | nil =>
                    refine ⟨f, g, hx2, hy2, fun g' e1 e2 => ⟨g', rfl, fun j hj => ?_⟩⟩
                    by_cases hjn : j < zn.toNatClampNeg
                    · rw [e1 j hjn]
                      exact wkE_gV g2 q7 (Nat.eq_of_beq_eq_true q6) (hx4 j (by dsimp only; omega))
                    · rw [e2 j hjn]
                      exact hy4 j hj
              · simp only [Bool.and_eq_true, decide_eq_true_eq] at hc2
                obtain ⟨q1, q2, q3, q4, q5, q6, q7⟩ := hc2
                have q1 := Nat.eq_of_beq_eq_true q1
                have q2 := Nat.le_of_ble_eq_true q2
                have q3 := Nat.le_of_ble_eq_true q3
                have q6 := Nat.eq_of_beq_eq_true q6
                subst q1
                subst q6
                cases xo with
                | cons _ _ => cases q4
                | nil =>
                  cases yo with
                  | cons _ _ => cases q5
                  | nil =>
                    obtain ⟨k, rfl⟩ : ∃ k, x0 = k + 4 := ⟨x0 - 4, by omega⟩
                    obtain ⟨ex, hx2, f, zs1, hx3, hx4, hx5⟩ := hgx
                    obtain ⟨ey, hy2, g, zs2, hy3, hy4, hy5⟩ := hgy
                    rw [aK_lt (by omega)] at hx3 hy3
                    subst hx3 hy3
                    cases zs1 with
                    | cons _ _ => exact hx4.elim
                    | nil =>
                      refine ⟨f, g, hx2, hy2, fun g' e1 e2 => ⟨g', [], by rw [aK_lt (by omega)], trivial, ?_⟩⟩
                      exact PRD_congr (by omega) (fun j hj => e1 j (by dsimp only at hj; omega)) hx5
            obtain ⟨f, g, hx2, hy2, hgo⟩ := hii
            refine va_copyi hx hb (by rw [hml]; exact g9.1.symm) hown (hts _ w1) (hts _ w2) (hts _ w3) (hts _ w4) hK g6 g7 g8 a1 b1 0 0 hx2 hy2 rfl rfl rfl (ng _ (by omega)) (ng _ (by omega)) (ng _ (by omega)) (by omega) (by omega) (fun _ _ => rfl) hfr ?_ hd (fun H1 locs1 q1 q2 q3 => ?_)
            · rw [gS_words g4]
              have := Nat.le_of_ble_eq_true k6
              omega
            · have hset := gH_set (k := b1) g5 (hgo (va_cpy f g zs.toNatClampNeg zd.toNatClampNeg zn.toNatClampNeg) (fun j hj => by
                unfold va_cpy
                rw [if_pos (by omega), cs, cd]
                show f (0 + (j - 0)) = f j
                rw [Nat.zero_add, Nat.sub_zero]) (fun j hj => by
                unfold va_cpy
                rw [if_neg (by omega)]))
              have hsame : hp.set b1 (.inr (y0, yn, yd, yo)) = hp := by
                rw [eGet_eq] at hy1
                exact List.ext_getElem? (fun i => by
                  by_cases hi : b1 = i
                  · subst hi
                    rw [List.getElem?_set_self (List.getElem?_eq_some_iff.mp hy1).1, hy1]
                  · rw [List.getElem?_set_ne hi])
              rw [hsame] at hset
              exact hn ad ls lc vs _ H1 locs1 g1 g2 g3 g4 hset q1 q2 q3 g9
          | [_, _, _, _], g4 => exact g4.2.2.2.2.elim
          | [_, _, _], g4 => exact g4.2.2.2.elim
          | [_, _], g4 => exact g4.2.2.elim
          | [_], g4 => exact g4.2.elim
          | [], g4 => exact g4.elim
        next => cases h
      next => cases h
    next => cases h
  next => cases h
/-- a row of 82 put into the rows that are kept, or taken out of them -/
def row82 : List (Nat × eV) := (List.range 82).filterMap (fun j => bif Nat.blt j 82 && decide ((r82B j).1 = -2147483648) then none else some (j, ((0, 0, (r82B j).1, (r82B j).2) : eV)))
def in82 (B : eB) (d : eV) (ov : List (Nat × eV)) : Nat → Bool
  | 0 => true
  | n + 1 => (Nat.beq (aG d ov n).1 0 && (decide ((r82B n).1 ≤ eLo B (aG d ov n)) && decide (eHi B (aG d ov n) ≤ (r82B n).2))) && in82 B d ov n
theorem in82_at {B : eB} {d : eV} {ov : List (Nat × eV)} : ∀ {n j : Nat}, in82 B d ov n = true → j < n → (aG d ov j).1 = 0 ∧ (r82B j).1 ≤ eLo B (aG d ov j) ∧ eHi B (aG d ov j) ≤ (r82B j).2
  | 0, _, _, h => by omega
  | n + 1, j, h, hj => by
    unfold in82 at h
    simp only [Bool.and_eq_true, decide_eq_true_eq] at h
    by_cases e : j = n
    · subst e
      exact ⟨Nat.eq_of_beq_eq_true h.1.1, h.1.2.1, h.1.2.2⟩
    · exact in82_at h.2 (by omega)
set_option maxRecDepth 100000 in
theorem row82_all : ∀ j : Fin 82, aG eTop row82 j.val = (0, 0, (r82B j.val).1, (r82B j.val).2) := by decide +kernel
def x_copyD (S : eS) : eR := match S.2.2.1 with
  | n :: dp :: b :: sp :: a :: r => bif (Nat.beq n.1 0 && (Nat.beq dp.1 0 && (Nat.beq b.1 2 && (Nat.beq sp.1 0 && (Nat.beq a.1 2 && Nat.ble (eWords r) 8))))) && (decide (eLo S.2.2.2.1 n = 82) && (decide (eHi S.2.2.2.1 n = 82) && (decide (eLo S.2.2.2.1 dp = eHi S.2.2.2.1 dp) && (decide (eLo S.2.2.2.1 sp = eHi S.2.2.2.1 sp) && (decide (0 ≤ eLo S.2.2.2.1 dp) && (decide (0 ≤ eLo S.2.2.2.1 sp) && (decide (eLo S.2.2.2.1 dp % 82 = 0) && decide (eLo S.2.2.2.1 sp % 82 = 0)))))))) then
      (match eGet S.2.2.2.2.1 a.2.1, eGet S.2.2.2.2.1 b.2.1 with
      | some (.inr x), some (.inr y) => bif Nat.beq x.1 0 && (Nat.beq x.2.1 82 && (Nat.beq y.1 4 && (Nat.beq y.2.1 3280 && (decide (eLo S.2.2.2.1 sp = 0) && (decide (eLo S.2.2.2.1 dp ≤ 3198) && (in82 S.2.2.2.1 x.2.2.1 x.2.2.2 82 && y.2.2.2.isEmpty)))))) then eNx (S.1 + 3, S.2.1, r, S.2.2.2)
          else (bif Nat.beq x.1 4 && (Nat.beq x.2.1 3280 && (Nat.beq y.1 0 && (Nat.beq y.2.1 82 && (decide (eLo S.2.2.2.1 dp = 0) && (decide (eLo S.2.2.2.1 sp ≤ 3198) && x.2.2.2.isEmpty))))) then eNx (S.1 + 3, S.2.1, r, S.2.2.2.1, eSet S.2.2.2.2.1 b.2.1 (.inr (0, 82, eTop, row82)), S.2.2.2.2.2) else none)
      | _, _ => none) else none
  | _ => none
set_option maxHeartbeats 1000000 in
theorem k_copyD (K : eK p m c s args cc own nL Ts D cl cA A) {S : eS} {ix : Nat} (hfr : 1 ≤ R.frames) (hlo : 8 + (nativeFrameWords "java/lang/System" "arraycopy" 5 + 11) ≤ R.locals) (w1 : Jvm.Cond.methodLink own ix arraycopyName ∈ Ts) (w2 : Jvm.Cond.native arraycopyName ∈ Ts) (w3 : Jvm.Cond.static arraycopyName ∈ Ts) (w4 : Jvm.Cond.initialized "java/lang/System" ∈ Ts) (hd : decode cc S.1 = .ok (.invokestatic ix, 3)) {rs : List (Nat × eS)} (h : x_copyD S = some rs) (hr : ∀ r ∈ rs, eLf p l e R s m args below meth c Q D cl cA A sb ρ ad0 h0 nL r) : eW p l e R s m args below meth c Q D cl cA A sb ρ ad0 h0 nL S := by
  obtain ⟨hx, hb, hml, hown, hts, hK, hA⟩ := K
  obtain ⟨pc, lo, st, B, hp, Z⟩ := S
  unfold x_copyD at h
  split at h
  next n dp b sp a r hst =>
    dsimp only at hst
    subst hst
    dsimp only at h
    obtain ⟨n0, n1, n2, n3⟩ := n
    obtain ⟨d0, d1, d2, d3⟩ := dp
    obtain ⟨s0, s1, s2, s3⟩ := sp
    obtain ⟨a0, a1, a2, a3⟩ := a
    obtain ⟨b0, b1, b2, b3⟩ := b
    dsimp only at h
    rw [Bool.cond_eq_ite] at h
    split at h
    next hc1 =>
      split at h
      next x y hx1 hy1 =>
        simp only [Bool.and_eq_true, decide_eq_true_eq] at hc1
        obtain ⟨⟨k1, k2, k3, k4, k5, k6⟩, m1, m2, m3, m4, m5, m6, m7, m8⟩ := hc1
        have e1 := Nat.eq_of_beq_eq_true k1
        have e2 := Nat.eq_of_beq_eq_true k2
        have e3 := Nat.eq_of_beq_eq_true k3
        have e4 := Nat.eq_of_beq_eq_true k4
        have e5 := Nat.eq_of_beq_eq_true k5
        subst e1 e2 e3 e4 e5
        obtain ⟨x0, xn, xd, xo⟩ := x
        obtain ⟨y0, yn, yd, yo⟩ := y
        intro ad ls lc vs ws H locs g1 g2 g3 g4 g5 g6 g7 g8 g9
        match vs, g4 with
        | v1 :: v2 :: v3 :: v4 :: v5 :: vs, g4 =>
          obtain ⟨⟨zn, rfl, hzn⟩, ⟨zd, rfl, hzd⟩, hv3, ⟨zs, rfl, hzs⟩, hv5, g4⟩ := g4
          have hv3 : v3 = .ref (ad b1) := hv3
          have hv5 : v5 = .ref (ad a1) := hv5
          subst hv3 hv5
          have un1 := eLo_ok g2 hzn
          have un2 := eHi_ok g2 hzn
          have ud1 := eLo_ok g2 hzd
          have ud2 := eHi_ok g2 hzd
          have us1 := eLo_ok g2 hzs
          have us2 := eHi_ok g2 hzs
          dsimp only at un1 un2 ud1 ud2 us1 us2
          have ng : ∀ z : Int32, 0 ≤ z.toInt → ¬ z < 0 := fun z hz q => by
            have := Int32.lt_iff_toInt_lt.mp q
            have h0 : (0 : Int32).toInt = 0 := rfl
            omega
          have cn : zn.toNatClampNeg = 82 := by
            have : zn.toNatClampNeg = zn.toInt.toNat := rfl
            omega
          have cd : (zd.toNatClampNeg : Int) = eLo B (0, d1, d2, d3) := by
            have : zd.toNatClampNeg = zd.toInt.toNat := rfl
            omega
          have cs : (zs.toNatClampNeg : Int) = eLo B (0, s1, s2, s3) := by
            have : zs.toNatClampNeg = zs.toInt.toNat := rfl
            omega
          have hgx := g5.2 a1 _ (by rw [← eGet_eq]; exact hx1)
          have hgy := g5.2 b1 _ (by rw [← eGet_eq]; exact hy1)
          have hwd : (vs.map fun v => v.category).sum + (nativeFrameWords "java/lang/System" "arraycopy" 5 + 11) ≤ R.locals := by
            rw [gS_words g4]
            have := Nat.le_of_ble_eq_true k6
            omega
          rw [Bool.cond_eq_ite] at h
          split at h
          next hc2 =>
            simp only [Bool.and_eq_true, decide_eq_true_eq] at hc2
            obtain ⟨p1, p2, p3, p4, p5, p6, p7, p8⟩ := hc2
            have q1 := Nat.eq_of_beq_eq_true p1
            have q2 := Nat.eq_of_beq_eq_true p2
            have q3 := Nat.eq_of_beq_eq_true p3
            have q4 := Nat.eq_of_beq_eq_true p4
            subst q1 q2 q3 q4
            have hn := eNx_ok (S := (pc, lo, (0, n1, n2, n3) :: (0, d1, d2, d3) :: (2, b1, b2, b3) :: (0, s1, s2, s3) :: (2, a1, a2, a3) :: r, B, hp, Z)) h hr
            cases yo with
            | cons _ _ => cases p8
            | nil =>
              obtain ⟨ex, hx2, f, hx3, hx4⟩ := hgx
              obtain ⟨ey, hy2, g, zs2, hy3, hy4, hy5⟩ := hgy
              subst hx3 hy3
              cases zs2 with
              | cons _ _ => exact hy4.elim
              | nil =>
                refine va_copyi hx hb (by rw [hml]; exact g9.1.symm) hown (hts _ w1) (hts _ w2) (hts _ w3) (hts _ w4) hK g6 g7 g8 a1 b1 0 0 hx2 hy2 rfl rfl rfl (ng _ (by omega)) (ng _ (by omega)) (ng _ (by omega)) (by dsimp only; omega) (by dsimp only; omega) (fun _ _ => rfl) hfr hwd hd (fun H1 locs1 q1 q2 q3 => ?_)
                have hset := gH_set (k := b1) (c := .inr (4, 3280, yd, [])) g5 (x := .inl (cA 0, 3280, .inl (va_cpy f g zs.toNatClampNeg zd.toNatClampNeg zn.toNatClampNeg))) ⟨_, [], rfl, trivial, rfl, fun j hj => by
                  unfold va_cpy
                  by_cases hjr : zd.toNatClampNeg ≤ j ∧ j < zd.toNatClampNeg + zn.toNatClampNeg
                  · rw [if_pos hjr]
                    have hjm : j % 82 = zs.toNatClampNeg + (j - zd.toNatClampNeg) := by omega
                    rw [hjm]
                    have hl82 : zs.toNatClampNeg + (j - zd.toNatClampNeg) < 82 := by omega
                    obtain ⟨i1, i2, i3⟩ := in82_at p7 hl82
                    obtain ⟨w, hw1, hw2⟩ := gV_int_of9 (hx4 _ hl82) i1
                    cases hw1
                    have u5 := eLo_ok g2 hw2
                    have u6 := eHi_ok g2 hw2
                    dsimp only at u5 u6
                    exact r82_of hl82 (by omega) (by omega)
                  · rw [if_neg hjr]
                    exact hy5.2 j hj⟩
                have hsame : hp.set b1 (.inr (4, 3280, yd, [])) = hp := by
                  rw [eGet_eq] at hy1
                  exact List.ext_getElem? (fun i => by
                    by_cases hi : b1 = i
                    · subst hi
                      rw [List.getElem?_set_self (List.getElem?_eq_some_iff.mp hy1).1, hy1]
                    · rw [List.getElem?_set_ne hi])
                rw [hsame] at hset
                exact hn ad ls lc vs _ H1 locs1 g1 g2 g3 g4 hset q1 q2 q3 g9
          next =>
            rw [Bool.cond_eq_ite] at h
            split at h
            next hc2 =>
              simp only [Bool.and_eq_true, decide_eq_true_eq] at hc2
              obtain ⟨p1, p2, p3, p4, p5, p6, p8⟩ := hc2
              have q1 := Nat.eq_of_beq_eq_true p1
              have q2 := Nat.eq_of_beq_eq_true p2
              have q3 := Nat.eq_of_beq_eq_true p3
              have q4 := Nat.eq_of_beq_eq_true p4
              subst q1 q2 q3 q4
              have hn := eNx_ok (S := (pc, lo, (0, n1, n2, n3) :: (0, d1, d2, d3) :: (2, b1, b2, b3) :: (0, s1, s2, s3) :: (2, a1, a2, a3) :: r, B, hp, Z)) h hr
              cases xo with
              | cons _ _ => cases p8
              | nil =>
                obtain ⟨ex, hx2, f, zs1, hx3, hx4, hx5⟩ := hgx
                obtain ⟨ey, hy2, g, hy3, hy4⟩ := hgy
                subst hx3 hy3
                cases zs1 with
                | cons _ _ => exact hx4.elim
                | nil =>
                  refine va_copyi hx hb (by rw [hml]; exact g9.1.symm) hown (hts _ w1) (hts _ w2) (hts _ w3) (hts _ w4) hK g6 g7 g8 a1 b1 0 0 hx2 hy2 rfl rfl rfl (ng _ (by omega)) (ng _ (by omega)) (ng _ (by omega)) (by dsimp only; omega) (by dsimp only; omega) (fun _ _ => rfl) hfr hwd hd (fun H1 locs1 q1 q2 q3 => ?_)
                  refine hn ad ls lc vs _ H1 locs1 (by dsimp only; rw [eSet_eq, List.length_set]; exact g1) g2 g3 g4 ?_ q1 q2 q3 g9
                  dsimp only
                  rw [eSet_eq]
                  refine gH_set g5 ⟨_, rfl, fun j hj => ?_⟩
                  dsimp only at hj ⊢
                  rw [row82_all ⟨j, hj⟩]
                  unfold va_cpy
                  rw [if_pos (by omega)]
                  have hjl : zs.toNatClampNeg + (j - zd.toNatClampNeg) < 3280 := by omega
                  have h5 := hx5.2 _ hjl
                  have hm : (zs.toNatClampNeg + (j - zd.toNatClampNeg)) % 82 = j := by omega
                  rw [hm] at h5
                  obtain ⟨b1, b2⟩ := r82_to hj h5
                  exact gV_int (gN_iv b1 b2)
            next => cases h
        | [_, _, _, _], g4 => exact g4.2.2.2.2.elim
        | [_, _, _], g4 => exact g4.2.2.2.elim
        | [_, _], g4 => exact g4.2.2.elim
        | [_], g4 => exact g4.2.elim
        | [], g4 => exact g4.elim
      next => cases h
    next => cases h
  next => cases h
def x_copyA (S : eS) : eR := match x_copy S with
  | some r => some r
  | none => (match x_copyB S with
    | some r => some r
    | none => x_copyD S)
theorem k_copyA (K : eK p m c s args cc own nL Ts D cl cA A) {S : eS} {ix : Nat} (hfr : 1 ≤ R.frames) (hlo : 8 + (nativeFrameWords "java/lang/System" "arraycopy" 5 + 11) ≤ R.locals) (w1 : Jvm.Cond.methodLink own ix arraycopyName ∈ Ts) (w2 : Jvm.Cond.native arraycopyName ∈ Ts) (w3 : Jvm.Cond.static arraycopyName ∈ Ts) (w4 : Jvm.Cond.initialized "java/lang/System" ∈ Ts) (hd : decode cc S.1 = .ok (.invokestatic ix, 3)) {rs : List (Nat × eS)} (h : x_copyA S = some rs) (hr : ∀ r ∈ rs, eLf p l e R s m args below meth c Q D cl cA A sb ρ ad0 h0 nL r) : eW p l e R s m args below meth c Q D cl cA A sb ρ ad0 h0 nL S := by
  unfold x_copyA at h
  split at h
  next r hr9 =>
    cases h
    exact k_copy K hfr hlo w1 w2 w3 w4 hd hr9 hr
  next =>
    split at h
    next r hr9 =>
      cases h
      exact k_copyB K hfr hlo w1 w2 w3 w4 hd hr9 hr
    next => exact k_copyD K hfr hlo w1 w2 w3 w4 hd h hr
end E6A
