/-! ===== THE ENGINE, 4: branches ===== -/
def eCmp (k : Jvm.ClassFile.Cond) (B : eB) (a b : eV) : List eB := match k with
  | .eq => eEqs B a b
  | .ne => eNe B a b
  | .lt => eLt B a b
  | .ge => eLe B b a
  | .gt => eLt B b a
  | .le => eLe B a b
def eNot : Jvm.ClassFile.Cond → Jvm.ClassFile.Cond
  | .eq => .ne
  | .ne => .eq
  | .lt => .ge
  | .ge => .lt
  | .gt => .le
  | .le => .gt
def zCmp (k : Jvm.ClassFile.Cond) (x y : Int) : Prop := match k with
  | .eq => x = y
  | .ne => x ≠ y
  | .lt => x < y
  | .ge => y ≤ x
  | .gt => y < x
  | .le => x ≤ y
theorem zCmp_not {k : Jvm.ClassFile.Cond} {x y : Int} (h : ¬ zCmp k x y) : zCmp (eNot k) x y := by
  cases k <;> simp only [zCmp, eNot] at h ⊢ <;> omega
theorem eCmp_ok {ρ : Nat → Int} {B : eB} (hB : gB ρ B) {a b : eV} {x y : Int} (ha : gN ρ a x) (hb : gN ρ b y) {k : Jvm.ClassFile.Cond} (h : zCmp k x y) : ∃ B', B' ∈ eCmp k B a b ∧ gB ρ B' := by
  cases k
  · exact eEqs_ok hB ha hb h
  · exact eNe_ok hB ha hb h
  · exact eLt_ok hB ha hb h
  · exact eLe_ok hB hb ha h
  · exact eLt_ok hB hb ha h
  · exact eLe_ok hB ha hb h
/-- the place at which a jump comes -/
def eTg (pc : Nat) (off : Int) : Option Nat := bif decide (0 ≤ (pc : Int) + off) then some ((pc : Int) + off).toNat else none
theorem eTg_ok {pc t : Nat} {off : Int} (h : eTg pc off = some t) : (pc : Int) + off = (t : Int) := by
  unfold eTg at h
  cases hd : decide (0 ≤ (pc : Int) + off) with
  | false => rw [hd] at h; cases h
  | true =>
    rw [hd] at h
    rw [decide_eq_true_eq] at hd
    have := Option.some.inj h
    omega
section E4
variable {p : Program} {l : Launch} {e : Env} {R : Room} {s : State} {m : MethodId} {args : Array Value} {below : List Frame} {meth : Method} {c : Code} {Q : State → Prop}
variable {D : va_G} {cl : List vw_C} {cA : Nat → ClassId} {A : Nat → Prop} {sb : eSB} {ρ : Nat → Int} {ad0 : Nat → Nat} {h0 nL : Nat} {cc : ByteArray} {own : String} {Ts : List Cond}
def eBr (pc : Nat) (lo : eL) (r : List eV) (Z : eH × Nat × Nat) (Bs : List eB) : List (Nat × eS) := Bs.map fun B => (0, (pc, lo, r, B, Z))
theorem eBr_in {pc : Nat} {lo : eL} {r : List eV} {Z : eH × Nat × Nat} {Bs : List eB} {B : eB} (h : B ∈ Bs) : (0, (pc, lo, r, B, Z)) ∈ eBr pc lo r Z Bs := List.mem_map.mpr ⟨B, h, rfl⟩
def x_icmp (k : Jvm.ClassFile.Cond) (off : Int) (S : eS) : eR := match S.2.2.1 with
  | b :: a :: r => bif Nat.beq b.1 0 && Nat.beq a.1 0 then (match eTg S.1 off with
    | some t => some (eBr t S.2.1 r S.2.2.2.2 (eCmp k S.2.2.2.1 a b) ++ eBr (S.1 + 3) S.2.1 r S.2.2.2.2 (eCmp (eNot k) S.2.2.2.1 a b))
    | none => none) else none
  | _ => none
theorem i32_inj {x y : Int32} : x = y ↔ x.toInt = y.toInt := ⟨fun h => by rw [h], fun h => Int32.toInt_inj.mp h⟩
theorem k_icmp (K : eK p m c s args cc own nL Ts D cl cA A) {S : eS} {k : Jvm.ClassFile.Cond} {off : Int} (hd : decode cc S.1 = .ok (.if_icmp k off, 3)) {rs : List (Nat × eS)} (h : x_icmp k off S = some rs) (hr : ∀ r ∈ rs, eLf p l e R s m args below meth c Q D cl cA A sb ρ ad0 h0 nL r) : eW p l e R s m args below meth c Q D cl cA A sb ρ ad0 h0 nL S := by
  obtain ⟨hx, hb, -⟩ := K
  obtain ⟨pc, lo, st, B, Z⟩ := S
  unfold x_icmp at h
  split at h
  next b a r hst =>
    dsimp only at hst
    subst hst
    cases hb9 : (Nat.beq b.1 0 && Nat.beq a.1 0) with
    | false => rw [hb9] at h; cases h
    | true =>
      rw [hb9] at h
      rw [Bool.and_eq_true] at hb9
      rw [cond_true] at h
      split at h
      next t ht =>
        have ht := eTg_ok ht
        cases h
        obtain ⟨a0, a1, a2, a3⟩ := a
        obtain ⟨b0, b1, b2, b3⟩ := b
        have e0 := Nat.eq_of_beq_eq_true hb9.1
        have e1 := Nat.eq_of_beq_eq_true hb9.2
        dsimp only at e0 e1
        subst e0
        subst e1
        intro ad ls lc vs ws H locs g1 g2 g3 g4 g5 g6 g7 g8 g9
        match vs, g4 with
        | v :: w :: vs, g4 =>
          obtain ⟨⟨y, rfl, hy9⟩, ⟨x, rfl, hx9⟩, g4⟩ := g4
          have kt : zCmp k x.toInt y.toInt → W p l e R s m args below meth c H locs Z.2.1 Z.2.2 Q (F0 m t ls vs) := fun hz => by
            obtain ⟨B', hB', gB'⟩ := eCmp_ok g2 hx9 hy9 hz
            exact hr _ (List.mem_append_left _ (eBr_in hB')) ad ls lc vs ws H locs g1 gB' g3 g4 g5 g6 g7 g8 g9
          have kf : ¬ zCmp k x.toInt y.toInt → W p l e R s m args below meth c H locs Z.2.1 Z.2.2 Q (F0 m (pc + 3) ls vs) := fun hz => by
            obtain ⟨B', hB', gB'⟩ := eCmp_ok g2 hx9 hy9 (zCmp_not hz)
            exact hr _ (List.mem_append_right _ (eBr_in hB')) ad ls lc vs ws H locs g1 gB' g3 g4 g5 g6 g7 g8 g9
          cases k
          · exact lv_icmp_eq hx hb hd ht (fun q => kt (i32_inj.mp q)) (fun q => kf (fun z => q (i32_inj.mpr z)))
          · exact lv_icmp_ne hx hb hd ht (fun q => kt (fun z => q (i32_inj.mpr z))) (fun q => kf (fun z => z (i32_inj.mp q)))
          · exact lv_icmp_lt hx hb hd ht (fun q => kt (Int32.lt_iff_toInt_lt.mp q)) (fun q => kf (fun z => q (Int32.lt_iff_toInt_lt.mpr z)))
          · exact lv_icmp_ge hx hb hd ht (fun q => kt (Int32.le_iff_toInt_le.mp q)) (fun q => kf (fun z => q (Int32.le_iff_toInt_le.mpr z)))
          · exact lv_icmp_gt hx hb hd ht (fun q => kt (Int32.lt_iff_toInt_lt.mp q)) (fun q => kf (fun z => q (Int32.lt_iff_toInt_lt.mpr z)))
          · exact lv_icmp_le hx hb hd ht (fun q => kt (Int32.le_iff_toInt_le.mp q)) (fun q => kf (fun z => q (Int32.le_iff_toInt_le.mpr z)))
        | [_], g4 => exact g4.2.elim
        | [], g4 => exact g4.elim
      next => cases h
  next => cases h
/-- Math.min of two ints -/
def x_min (cm sm : Nat) (S : eS) : eR := match S.2.2.1 with
  | b :: a :: r => bif Nat.beq b.1 0 && (Nat.beq a.1 0 && (Nat.ble (eWords r) 8 && (Nat.ble S.2.2.2.2.2.1 cm && Nat.ble S.2.2.2.2.2.2 sm))) then some (eBr (S.1 + 3) S.2.1 (a :: r) S.2.2.2.2 (eLe S.2.2.2.1 a b) ++ eBr (S.1 + 3) S.2.1 (b :: r) S.2.2.2.2 (eLt S.2.2.2.1 b a)) else none
  | _ => none
theorem k_min (K : eK p m c s args cc own nL Ts D cl cA A) {S : eS} {ix cm sm : Nat} (hcm : cm ≤ R.cells) (hsm : sm ≤ R.slots) (hfr : 1 ≤ R.frames) (hlo : 21 ≤ R.locals) (w1 : Jvm.Cond.methodLink own ix Lib.Math.min.name ∈ Ts) (w2 : Jvm.Cond.static Lib.Math.min.name ∈ Ts) (w3 : Jvm.Cond.initialized "java/lang/Math" ∈ Ts) (w4 : Jvm.Cond.code Lib.Math.min.name Lib.Math.min.code 2 (some .int) ∈ Ts) (hd : decode cc S.1 = .ok (.invokestatic ix, 3)) {rs : List (Nat × eS)} (h : x_min cm sm S = some rs) (hr : ∀ r ∈ rs, eLf p l e R s m args below meth c Q D cl cA A sb ρ ad0 h0 nL r) : eW p l e R s m args below meth c Q D cl cA A sb ρ ad0 h0 nL S := by
  obtain ⟨hx, hb, hml, hown, hts, -⟩ := K
  obtain ⟨pc, lo, st, B, Z⟩ := S
  unfold x_min at h
  split at h
  next b a r hst =>
    dsimp only at hst
    subst hst
    cases hb9 : (Nat.beq b.1 0 && (Nat.beq a.1 0 && (Nat.ble (eWords r) 8 && (Nat.ble Z.2.1 cm && Nat.ble Z.2.2 sm)))) with
    | false => dsimp only at h; rw [hb9] at h; cases h
    | true =>
      dsimp only at h
      rw [hb9, cond_true] at h
      simp only [Bool.and_eq_true] at hb9
      obtain ⟨c1, c2, c3, c4, c5⟩ := hb9
      have c3 := Nat.le_of_ble_eq_true c3
      have c4 := Nat.le_of_ble_eq_true c4
      have c5 := Nat.le_of_ble_eq_true c5
      cases h
      obtain ⟨a0, a1, a2, a3⟩ := a
      obtain ⟨b0, b1, b2, b3⟩ := b
      have e0 := Nat.eq_of_beq_eq_true c1
      have e1 := Nat.eq_of_beq_eq_true c2
      dsimp only at e0 e1
      subst e0
      subst e1
      intro ad ls lc vs ws H locs g1 g2 g3 g4 g5 g6 g7 g8 g9
      match vs, g4 with
      | v :: w :: vs, g4 =>
        obtain ⟨⟨y, rfl, hy9⟩, ⟨x, rfl, hx9⟩, g4⟩ := g4
        refine va_mmin hx hb (by rw [hml]; exact g9.1.symm) hown (hts _ w1) (hts _ w2) (hts _ w3) (hts _ w4) hfr (by rw [gS_words g4]; omega) (Nat.le_trans c4 hcm) (Nat.le_trans c5 hsm) hd ?_
        by_cases hyx : y < x
        · rw [if_pos hyx]
          obtain ⟨B', hB', gB'⟩ := eLt_ok g2 hy9 hx9 (Int32.lt_iff_toInt_lt.mp hyx)
          exact hr _ (List.mem_append_right _ (eBr_in hB')) ad ls lc (.int y :: vs) ws H locs g1 gB' g3 ⟨⟨y, rfl, hy9⟩, g4⟩ g5 g6 g7 g8 g9
        · rw [if_neg hyx]
          obtain ⟨B', hB', gB'⟩ := eLe_ok g2 hx9 hy9 (Int.not_lt.mp (fun z => hyx (Int32.lt_iff_toInt_lt.mpr z)))
          exact hr _ (List.mem_append_left _ (eBr_in hB')) ad ls lc (.int x :: vs) ws H locs g1 gB' g3 ⟨⟨x, rfl, hx9⟩, g4⟩ g5 g6 g7 g8 g9
      | [_], g4 => exact g4.2.elim
      | [], g4 => exact g4.elim
  next => cases h
def x_ifc (k : Jvm.ClassFile.Cond) (off : Int) (S : eS) : eR := match S.2.2.1 with
  | a :: r => bif Nat.beq a.1 0 then (match eTg S.1 off with
    | some t => some (eBr t S.2.1 r S.2.2.2.2 (eCmp k S.2.2.2.1 a (eI 0)) ++ eBr (S.1 + 3) S.2.1 r S.2.2.2.2 (eCmp (eNot k) S.2.2.2.1 a (eI 0)))
    | none => none) else none
  | _ => none
theorem k_ifc (K : eK p m c s args cc own nL Ts D cl cA A) {S : eS} {k : Jvm.ClassFile.Cond} {off : Int} (hd : decode cc S.1 = .ok (.ifCond k off, 3)) {rs : List (Nat × eS)} (h : x_ifc k off S = some rs) (hr : ∀ r ∈ rs, eLf p l e R s m args below meth c Q D cl cA A sb ρ ad0 h0 nL r) : eW p l e R s m args below meth c Q D cl cA A sb ρ ad0 h0 nL S := by
  obtain ⟨hx, hb, -⟩ := K
  obtain ⟨pc, lo, st, B, Z⟩ := S
  unfold x_ifc at h
  split at h
  next a r hst =>
    dsimp only at hst
    subst hst
    cases hb9 : Nat.beq a.1 0 with
    | false => rw [hb9] at h; cases h
    | true =>
      rw [hb9] at h
      rw [cond_true] at h
      split at h
      next t ht =>
        have ht := eTg_ok ht
        cases h
        obtain ⟨a0, a1, a2, a3⟩ := a
        have e0 := Nat.eq_of_beq_eq_true hb9
        dsimp only at e0
        subst e0
        intro ad ls lc vs ws H locs g1 g2 g3 g4 g5 g6 g7 g8 g9
        match vs, g4 with
        | v :: vs, g4 =>
          obtain ⟨⟨x, rfl, hx9⟩, g4⟩ := g4
          have hz0 : (0 : Int32).toInt = 0 := rfl
          have kt : zCmp k x.toInt (0 : Int32).toInt → W p l e R s m args below meth c H locs Z.2.1 Z.2.2 Q (F0 m t ls vs) := fun hz => by
            obtain ⟨B', hB', gB'⟩ := eCmp_ok g2 hx9 (gN_I 0) hz
            exact hr _ (List.mem_append_left _ (eBr_in hB')) ad ls lc vs ws H locs g1 gB' g3 g4 g5 g6 g7 g8 g9
          have kf : ¬ zCmp k x.toInt (0 : Int32).toInt → W p l e R s m args below meth c H locs Z.2.1 Z.2.2 Q (F0 m (pc + 3) ls vs) := fun hz => by
            obtain ⟨B', hB', gB'⟩ := eCmp_ok g2 hx9 (gN_I 0) (zCmp_not hz)
            exact hr _ (List.mem_append_right _ (eBr_in hB')) ad ls lc vs ws H locs g1 gB' g3 g4 g5 g6 g7 g8 g9
          cases k
          · exact lv_if_eq hx hb hd ht (fun q => kt (i32_inj.mp q)) (fun q => kf (fun z => q (i32_inj.mpr z)))
          · exact lv_if_ne hx hb hd ht (fun q => kt (fun z => q (i32_inj.mpr z))) (fun q => kf (fun z => z (i32_inj.mp q)))
          · exact lv_if_lt hx hb hd ht (fun q => kt (Int32.lt_iff_toInt_lt.mp q)) (fun q => kf (fun z => q (Int32.lt_iff_toInt_lt.mpr z)))
          · exact lv_if_ge hx hb hd ht (fun q => kt (Int32.le_iff_toInt_le.mp q)) (fun q => kf (fun z => q (Int32.le_iff_toInt_le.mpr z)))
          · exact lv_if_gt hx hb hd ht (fun q => kt (Int32.lt_iff_toInt_lt.mp q)) (fun q => kf (fun z => q (Int32.lt_iff_toInt_lt.mpr z)))
          · exact lv_if_le hx hb hd ht (fun q => kt (Int32.le_iff_toInt_le.mp q)) (fun q => kf (fun z => q (Int32.le_iff_toInt_le.mpr z)))
        | [], g4 => exact g4.elim
      next => cases h
  next => cases h
def x_goto (off : Int) (S : eS) : eR := match eTg S.1 off with
  | some t => eNx (t, S.2)
  | none => none
theorem k_goto (K : eK p m c s args cc own nL Ts D cl cA A) {S : eS} {off : Int} (hd : decode cc S.1 = .ok (.goto off, 3)) {rs : List (Nat × eS)} (h : x_goto off S = some rs) (hr : ∀ r ∈ rs, eLf p l e R s m args below meth c Q D cl cA A sb ρ ad0 h0 nL r) : eW p l e R s m args below meth c Q D cl cA A sb ρ ad0 h0 nL S := by
  obtain ⟨hx, hb, -⟩ := K
  unfold x_goto at h
  split at h
  next t ht =>
    have hn := eNx_ok (S := S) h hr
    intro ad ls lc vs ws H locs g1 g2 g3 g4 g5 g6 g7 g8 g9
    exact lv_goto hx hb hd (eTg_ok ht) (hn ad ls lc vs ws H locs g1 g2 g3 g4 g5 g6 g7 g8 g9)
  next => cases h
/-- long compare; k: which of less, same, more are told apart (1: less | not; 2: more | not; else all three) -/
def x_lcmp (k : Nat) (S : eS) : eR := match S.2.2.1 with
  | b :: a :: r => bif Nat.beq b.1 1 && Nat.beq a.1 1 then some (match k with
    | 1 => eBr (S.1 + 1) S.2.1 (eI (-1) :: r) S.2.2.2.2 (eLt S.2.2.2.1 a b) ++ eBr (S.1 + 1) S.2.1 ((0, 0, 0, 1) :: r) S.2.2.2.2 (eLe S.2.2.2.1 b a)
    | 2 => eBr (S.1 + 1) S.2.1 (eI 1 :: r) S.2.2.2.2 (eLt S.2.2.2.1 b a) ++ eBr (S.1 + 1) S.2.1 ((0, 0, -1, 0) :: r) S.2.2.2.2 (eLe S.2.2.2.1 a b)
    | _ => eBr (S.1 + 1) S.2.1 (eI (-1) :: r) S.2.2.2.2 (eLt S.2.2.2.1 a b) ++ (eBr (S.1 + 1) S.2.1 (eI 0 :: r) S.2.2.2.2 (eEqs S.2.2.2.1 a b) ++ eBr (S.1 + 1) S.2.1 (eI 1 :: r) S.2.2.2.2 (eLt S.2.2.2.1 b a))) else none
  | _ => none
theorem lg_lt {x y : Int64} (h : x.toInt < y.toInt) : lg_cmp x y = -1 := by
  unfold lg_cmp
  rw [if_neg (fun q => by have := Int64.lt_iff_toInt_lt.mp q; omega), if_neg (fun q => by rw [q] at h; omega)]
theorem lg_eq {x y : Int64} (h : x.toInt = y.toInt) : lg_cmp x y = 0 := by
  unfold lg_cmp
  rw [if_neg (fun q => by have := Int64.lt_iff_toInt_lt.mp q; omega), if_pos (Int64.toInt_inj.mp h)]
theorem lg_gt {x y : Int64} (h : y.toInt < x.toInt) : lg_cmp x y = 1 := by
  unfold lg_cmp
  rw [if_pos (Int64.lt_iff_toInt_lt.mpr h)]
theorem k_lcmp (K : eK p m c s args cc own nL Ts D cl cA A) {S : eS} {k : Nat} (hd : decode cc S.1 = .ok (.lcmp, 1)) {rs : List (Nat × eS)} (h : x_lcmp k S = some rs) (hr : ∀ r ∈ rs, eLf p l e R s m args below meth c Q D cl cA A sb ρ ad0 h0 nL r) : eW p l e R s m args below meth c Q D cl cA A sb ρ ad0 h0 nL S := by
  obtain ⟨hx, hb, -⟩ := K
  obtain ⟨pc, lo, st, B, Z⟩ := S
  unfold x_lcmp at h
  split at h
  next b a r hst =>
    dsimp only at hst
    subst hst
    cases hb9 : (Nat.beq b.1 1 && Nat.beq a.1 1) with
    | false => rw [hb9] at h; cases h
    | true =>
      rw [hb9] at h
      rw [Bool.and_eq_true] at hb9
      rw [cond_true] at h
      obtain ⟨a0, a1, a2, a3⟩ := a
      obtain ⟨b0, b1, b2, b3⟩ := b
      have e0 := Nat.eq_of_beq_eq_true hb9.1
      have e1 := Nat.eq_of_beq_eq_true hb9.2
      dsimp only at e0 e1
      subst e0
      subst e1
      intro ad ls lc vs ws H locs g1 g2 g3 g4 g5 g6 g7 g8 g9
      match vs, g4 with
      | v :: w :: vs, g4 =>
        obtain ⟨⟨y, rfl, hy9⟩, ⟨x, rfl, hx9⟩, g4⟩ := g4
        refine W.lcmp hx hb hd ?_
        dsimp only at h
        have go : ∀ (k9 : eV) (Bs : List eB) (B' : eB), B' ∈ Bs → gB ρ B' → (∀ q ∈ eBr (pc + 1) lo (k9 :: r) Z Bs, q ∈ rs) → gV ρ ad sb k9 (.int (lg_cmp x y)) → W p l e R s m args below meth c H locs Z.2.1 Z.2.2 Q (F0 m (pc + 1) ls (.int (lg_cmp x y) :: vs)) := fun k9 Bs B' h1 h2 h3 h4 =>
          hr _ (h3 _ (eBr_in h1)) ad ls lc (.int (lg_cmp x y) :: vs) ws H locs g1 h2 g3 ⟨h4, g4⟩ g5 g6 g7 g8 g9
        split at h
        · cases h
          rcases Int.lt_or_le x.toInt y.toInt with q | q
          · obtain ⟨B', h1, h2⟩ := eLt_ok g2 hx9 hy9 q
            exact go _ _ B' h1 h2 (fun z hz => List.mem_append_left _ hz) (by rw [lg_lt q]; exact gV_int (gN_I (-1)))
          · obtain ⟨B', h1, h2⟩ := eLe_ok g2 hy9 hx9 q
            exact go _ _ B' h1 h2 (fun z hz => List.mem_append_right _ hz) (by
              rcases Int.lt_or_eq_of_le q with q | q
              · rw [lg_gt q]; exact gV_int (gN_iv (by decide) (by decide))
              · rw [lg_eq q.symm]; exact gV_int (gN_iv (by decide) (by decide)))
        · cases h
          rcases Int.lt_or_le y.toInt x.toInt with q | q
          · obtain ⟨B', h1, h2⟩ := eLt_ok g2 hy9 hx9 q
            exact go _ _ B' h1 h2 (fun z hz => List.mem_append_left _ hz) (by rw [lg_gt q]; exact gV_int (gN_I 1))
          · obtain ⟨B', h1, h2⟩ := eLe_ok g2 hx9 hy9 q
            exact go _ _ B' h1 h2 (fun z hz => List.mem_append_right _ hz) (by
              rcases Int.lt_or_eq_of_le q with q | q
              · rw [lg_lt q]; exact gV_int (gN_iv (by decide) (by decide))
              · rw [lg_eq q]; exact gV_int (gN_iv (by decide) (by decide)))
        · cases h
          rcases Int.lt_or_le x.toInt y.toInt with q | q
          · obtain ⟨B', h1, h2⟩ := eLt_ok g2 hx9 hy9 q
            exact go _ _ B' h1 h2 (fun z hz => List.mem_append_left _ hz) (by rw [lg_lt q]; exact gV_int (gN_I (-1)))
          · rcases Int.lt_or_eq_of_le q with q | q
            · obtain ⟨B', h1, h2⟩ := eLt_ok g2 hy9 hx9 q
              exact go _ _ B' h1 h2 (fun z hz => List.mem_append_right _ (List.mem_append_right _ hz)) (by rw [lg_gt q]; exact gV_int (gN_I 1))
            · obtain ⟨B', h1, h2⟩ := eEqs_ok g2 hx9 hy9 q.symm
              exact go _ _ B' h1 h2 (fun z hz => List.mem_append_right _ (List.mem_append_left _ hz)) (by rw [lg_eq q.symm]; exact gV_int (gN_I 0))
      | [_], g4 => exact g4.2.elim
      | [], g4 => exact g4.elim
  next => cases h
-- a table of jumps
def tabL (a : eV) (pc : Nat) (lo : eL) (r : List eV) (B : eB) (Z : eH × Nat × Nat) : List Int → Int → eR
  | [], _ => some []
  | o :: os, z => match eTg pc o with
    | none => none
    | some t => match tabL a pc lo r B Z os (z + 1) with
      | none => none
      | some rs => match eRef B a z z with
        | some B' => some ((0, (t, lo, r, B', Z)) :: rs)
        | none => some rs
theorem tabL_ok {a : eV} {pc : Nat} {lo : eL} {r : List eV} {B : eB} {Z : eH × Nat × Nat} (hB : gB ρ B) {x : Int} (ha : gN ρ a x) : ∀ {os : List Int} {z : Int} {rs : List (Nat × eS)} {j : Nat} {o : Int}, tabL a pc lo r B Z os z = some rs → os[j]? = some o → x = z + j → ∃ (t : Nat) (B' : eB), (pc : Int) + o = (t : Int) ∧ (0, (t, lo, r, B', Z)) ∈ rs ∧ gB ρ B'
  | [], _, _, _, _, _, h, _ => by simp at h
  | o :: os, z, rs, j, o', h, hj, hz => by
    unfold tabL at h
    split at h
    next => cases h
    next t ht =>
      split at h
      next => cases h
      next rs' hrs =>
        cases j with
        | zero =>
          have e1 : o = o' := Option.some.inj hj
          subst e1
          obtain ⟨B', hB', gB'⟩ := eRef_ok hB ha (lo := z) (hi := z) (by omega) (by omega)
          rw [hB'] at h
          cases h
          exact ⟨t, B', eTg_ok ht, List.mem_cons_self, gB'⟩
        | succ j =>
          rw [List.getElem?_cons_succ] at hj
          obtain ⟨t2, B2, h1, h2, h3⟩ := tabL_ok hB ha hrs hj (by omega)
          refine ⟨t2, B2, h1, ?_, h3⟩
          split at h <;> cases h
          · exact List.mem_cons_of_mem _ h2
          · exact h2
def x_tab (df lo hi : Int) (offs : Array Int) (S : eS) : eR := match S.2.2.1 with
  | a :: r => bif Nat.beq a.1 0 && decide (offs.size = (hi - lo + 1).toNat) then (match eTg S.1 df with
    | none => none
    | some t => match tabL a S.1 S.2.1 r S.2.2.2.1 S.2.2.2.2 offs.toList lo with
      | none => none
      | some rs => some (rs ++ (eBr t S.2.1 r S.2.2.2.2 (eRef S.2.2.2.1 a (eLo S.2.2.2.1 a) (lo - 1)).toList ++ eBr t S.2.1 r S.2.2.2.2 (eRef S.2.2.2.1 a (hi + 1) (eHi S.2.2.2.1 a)).toList))) else none
  | _ => none
theorem k_tab (K : eK p m c s args cc own nL Ts D cl cA A) {S : eS} {df lo hi : Int} {offs : Array Int} {len : Nat} (hd : decode cc S.1 = .ok (.tableswitch df lo hi offs, len)) {rs : List (Nat × eS)} (h : x_tab df lo hi offs S = some rs) (hr : ∀ r ∈ rs, eLf p l e R s m args below meth c Q D cl cA A sb ρ ad0 h0 nL r) : eW p l e R s m args below meth c Q D cl cA A sb ρ ad0 h0 nL S := by
  obtain ⟨hx, hb, -⟩ := K
  obtain ⟨pc, lo9, st, B, Z⟩ := S
  unfold x_tab at h
  split at h
  next a r hst =>
    dsimp only at hst
    subst hst
    cases hb9 : (Nat.beq a.1 0 && decide (offs.size = (hi - lo + 1).toNat)) with
    | false => rw [hb9] at h; cases h
    | true =>
      rw [hb9] at h
      rw [Bool.and_eq_true, decide_eq_true_eq] at hb9
      rw [cond_true] at h
      dsimp only at h
      split at h
      next => cases h
      next t ht =>
        split at h
        next => cases h
        next rs' hrs =>
          cases h
          obtain ⟨a0, a1, a2, a3⟩ := a
          have e0 := Nat.eq_of_beq_eq_true hb9.1
          have e2 := hb9.2
          dsimp only at e0
          subst e0
          intro ad ls lc vs ws H locs g1 g2 g3 g4 g5 g6 g7 g8 g9
          match vs, g4 with
          | v :: vs, g4 =>
            obtain ⟨⟨x, rfl, hx9⟩, g4⟩ := g4
            have out : (x.toInt < lo ∨ hi < x.toInt) → W p l e R s m args below meth c H locs Z.2.1 Z.2.2 Q (F0 m t ls vs) := fun q => by
              have u1 := eLo_ok g2 hx9
              have u2 := eHi_ok g2 hx9
              rcases q with q | q
              · obtain ⟨B', h1, h2⟩ := eRef_ok g2 hx9 u1 (show x.toInt ≤ lo - 1 by omega)
                refine hr (0, (t, lo9, r, B', Z)) (List.mem_append_right _ (List.mem_append_left _ (eBr_in ?_))) ad ls lc vs ws H locs g1 h2 g3 g4 g5 g6 g7 g8 g9
                dsimp only at h1
                rw [h1]
                exact List.mem_singleton.mpr rfl
              · obtain ⟨B', h1, h2⟩ := eRef_ok g2 hx9 (show hi + 1 ≤ x.toInt by omega) u2
                refine hr (0, (t, lo9, r, B', Z)) (List.mem_append_right _ (List.mem_append_right _ (eBr_in ?_))) ad ls lc vs ws H locs g1 h2 g3 g4 g5 g6 g7 g8 g9
                dsimp only at h1
                rw [h1]
                exact List.mem_singleton.mpr rfl
            rcases Int.lt_or_le x.toInt lo with q | q
            · exact lv_tableOut hx hb hd (Or.inl q) (eTg_ok ht) (out (Or.inl q))
            · rcases Int.lt_or_le hi x.toInt with q2 | q2
              · exact lv_tableOut hx hb hd (Or.inr q2) (eTg_ok ht) (out (Or.inr q2))
              · have hlt : (x.toInt - lo).toNat < offs.size := by omega
                obtain ⟨t2, B2, h1, h2, h3⟩ := tabL_ok g2 hx9 (j := (x.toInt - lo).toNat) (o := offs[(x.toInt - lo).toNat]) hrs (by rw [Array.getElem?_toList]; exact Array.getElem?_eq_getElem hlt) (by omega)
                exact lv_tableIn hx hb hd (by omega) (by omega) (Array.getElem?_eq_getElem hlt) h1 (hr _ (List.mem_append_left _ h2) ad ls lc vs ws H locs g1 h3 g3 g4 g5 g6 g7 g8 g9)
          | [], g4 => exact g4.elim
  next => cases h
end E4
