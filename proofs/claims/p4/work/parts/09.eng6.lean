/-! ===== THE ENGINE, 6: cells written and made ===== -/
section E6
variable {p : Program} {l : Launch} {e : Env} {R : Room} {s : State} {m : MethodId} {args : Array Value} {below : List Frame} {meth : Method} {c : Code} {Q : State → Prop}
variable {D : va_G} {cl : List vw_C} {cA : Nat → ClassId} {A : Nat → Prop} {sb : eSB} {ρ : Nat → Int} {ad0 : Nat → Nat} {h0 nL : Nat} {cc : ByteArray} {own : String} {Ts : List Cond}
/-- v may stand wherever w does -/
def wkE (B : eB) (v w : eV) : Bool := Nat.beq w.2.1 0 && (decide (w.2.2.1 ≤ eLo B v) && decide (eHi B v ≤ w.2.2.2))
def wkL (B : eB) (v : eV) (lo hi : Nat) : List (Nat × eV) → Bool
  | [] => true
  | p :: r => bif inR lo hi p.1 then (bif wkE B v p.2 then wkL B v lo hi r else false) else wkL B v lo hi r
theorem wkL_ok {B : eB} {v : eV} {lo hi : Nat} : ∀ {l : List (Nat × eV)}, wkL B v lo hi l = true → ∀ q ∈ l, inR lo hi q.1 = true → wkE B v q.2 = true
  | [], _, q, hq, _ => by cases hq
  | p :: r, h, q, hq, hi9 => by
    unfold wkL at h
    rcases List.mem_cons.mp hq with e | e
    · subst e
      rw [hi9, cond_true] at h
      cases hb : wkE B v q.2 with
      | true => rfl
      | false => rw [hb] at h; cases h
    · cases hc : inR lo hi p.1 with
      | false => rw [hc, cond_false] at h; exact wkL_ok h q e hi9
      | true =>
        rw [hc, cond_true] at h
        cases hb : wkE B v p.2 with
        | false => rw [hb] at h; cases h
        | true => rw [hb, cond_true] at h; exact wkL_ok h q e hi9
/-- at any place from lo to hi -/
def wkA (B : eB) (v d : eV) (l : List (Nat × eV)) (lo hi : Nat) : Bool := wkL B v lo hi l && (aCov l (hi - lo + 1) lo || wkE B v d)
theorem wkA_ok {B : eB} {v d : eV} {l : List (Nat × eV)} {lo hi j : Nat} (h : wkA B v d l lo hi = true) (h1 : lo ≤ j) (h2 : j ≤ hi) : wkE B v (aG d l j) = true := by
  unfold wkA at h
  rw [Bool.and_eq_true, Bool.or_eq_true] at h
  rcases aG_cases d l j with ⟨e1, e2⟩ | e1
  · rw [e1]
    rcases h.2 with h3 | h3
    · rw [aCov_ok h3 h1 (by omega)] at e2
      cases e2
    · exact h3
  · exact wkL_ok h.1 _ e1 (inR_of h1 h2)
theorem wkE_ok {B : eB} (hB : gB ρ B) {v w : eV} {k : Nat} {z : Int} (h : wkE B v w = true) (hv : gN ρ v z) (hk : w.1 = k) : gN ρ (k, w.2) z := by
  unfold wkE at h
  rw [Bool.and_eq_true, Bool.and_eq_true, decide_eq_true_eq, decide_eq_true_eq] at h
  have e0 := Nat.eq_of_beq_eq_true h.1
  have u1 := eLo_ok hB hv
  have u2 := eHi_ok hB hv
  refine ⟨fun t ht => ?_, by dsimp only; omega, by dsimp only; omega⟩
  dsimp only at ht
  omega
/-- the array when v has been written at the place i, known or not -/
def aWr (B : eB) (d : eV) (l : List (Nat × eV)) (i v : eV) : Option (List (Nat × eV)) := bif decide (eLo B i = eHi B i) then some (aS d l (eLo B i).toNat v) else (bif wkA B v d l (eLo B i).toNat (eHi B i).toNat then some l else none)
/-- writing into an array of the sort t: ok says whether the value may stand there -/
def x_xst (t : Nat) (ok : eB → eV → Bool) (S : eS) : eR := match S.2.2.1 with
  | v :: i :: a :: r => bif Nat.beq i.1 0 && (Nat.beq a.1 2 && ok S.2.2.2.1 v) then (match eGet S.2.2.2.2.1 a.2.1 with
    | some (.inr y) => bif Nat.beq y.1 t && (decide (0 ≤ eLo S.2.2.2.1 i) && decide (eHi S.2.2.2.1 i < (y.2.1 : Int))) then
        (match aWr S.2.2.2.1 y.2.2.1 y.2.2.2 i v with
          | some l' => eNx (S.1 + 1, S.2.1, r, S.2.2.2.1, eSet S.2.2.2.2.1 a.2.1 (.inr (t, y.2.1, y.2.2.1, l')), S.2.2.2.2.2)
          | none => none) else none
    | _ => none) else none
  | _ => none
def okI (_ : eB) (v : eV) : Bool := Nat.beq v.1 0
def okJ (_ : eB) (v : eV) : Bool := Nat.beq v.1 1
def okB (B : eB) (v : eV) : Bool := Nat.beq v.1 0 && (decide (-128 ≤ eLo B v) && decide (eHi B v ≤ 127))
theorem k_xst {S : eS} {t : Nat} {ok : eB → eV → Bool}
    (row : ∀ (ad : Nat → Nat) (ls : Array Slot) (ws : va_W) (H : Heap) (locs : List Loc) (i : Int32) (k n : Nat) (u : Value) (vs : List Value) (d v : eV) (ov : List (Nat × eV)) (x : va_E) (B : eB), gB ρ B → ok B v = true → gV ρ ad sb v u → va_P D cl ws H → va_D A ws → va_S A s.heap H locs → ws[k]? = some (ad k, x) → gC ρ ad sb cA (.inr (t, n, d, ov)) x → vp_in i n → i.toNatClampNeg < n →
      (∀ (H1 : Heap) (locs1 : List Loc) (x' : va_E), (∀ ov' : List (Nat × eV), (∀ j, j < n → (j = i.toNatClampNeg → (aG d ov' j = v ∨ (wkE B v (aG d ov j) = true ∧ aG d ov' j = aG d ov j))) ∧ (j ≠ i.toNatClampNeg → aG d ov' j = aG d ov j)) → gC ρ ad sb cA (.inr (t, n, d, ov')) x') → va_P D cl (ws.set k (ad k, x')) H1 → va_D A (ws.set k (ad k, x')) → va_S A s.heap H1 locs1 → W p l e R s m args below meth c H1 locs1 S.2.2.2.2.2.1 S.2.2.2.2.2.2 Q (F0 m (S.1 + 1) ls vs)) → W p l e R s m args below meth c H locs S.2.2.2.2.2.1 S.2.2.2.2.2.2 Q (F0 m S.1 ls (u :: .int i :: .ref (ad k) :: vs)))
    {rs : List (Nat × eS)} (h : x_xst t ok S = some rs) (hr : ∀ r ∈ rs, eLf p l e R s m args below meth c Q D cl cA A sb ρ ad0 h0 nL r) : eW p l e R s m args below meth c Q D cl cA A sb ρ ad0 h0 nL S := by
  obtain ⟨pc, lo, st, B, hp, Z⟩ := S
  unfold x_xst at h
  split at h
  next v i a r hst =>
    dsimp only at hst
    subst hst
    dsimp only at h
    obtain ⟨i0, i1, i2, i3⟩ := i
    obtain ⟨a0, a1, a2, a3⟩ := a
    cases hb9 : (Nat.beq i0 0 && (Nat.beq a0 2 && ok B v)) with
    | false => rw [hb9] at h; cases h
    | true =>
      rw [hb9, cond_true] at h
      rw [Bool.and_eq_true, Bool.and_eq_true] at hb9
      have e0 := Nat.eq_of_beq_eq_true hb9.1
      have e1 := Nat.eq_of_beq_eq_true hb9.2.1
      subst e0
      subst e1
      split at h
      next y hy =>
        cases hb7 : (Nat.beq y.1 t && (decide (0 ≤ eLo B (0, i1, i2, i3)) && decide (eHi B (0, i1, i2, i3) < (y.2.1 : Int)))) with
        | false => rw [hb7] at h; cases h
        | true =>
          rw [hb7, cond_true] at h
          rw [Bool.and_eq_true, Bool.and_eq_true, decide_eq_true_eq, decide_eq_true_eq] at hb7
          split at h
          next l' hl' =>
           have hn := eNx_ok (S := (pc, lo, v :: (0, i1, i2, i3) :: (2, a1, a2, a3) :: r, B, hp, Z)) h hr
           intro ad ls lc vs ws H locs g1 g2 g3 g4 g5 g6 g7 g8 g9
           match vs, g4 with
           | u :: w :: w2 :: vs, g4 =>
             obtain ⟨hu, ⟨x, rfl, hx9⟩, hw, g4⟩ := g4
             have hw : w2 = .ref (ad a1) := hw
             subst hw
             obtain ⟨y0, n, d, ov⟩ := y
             have e2 := Nat.eq_of_beq_eq_true hb7.1
             dsimp only at e2 hb7
             subst e2
             obtain ⟨ye, hy1, hy2⟩ := g5.2 a1 _ (by rw [← eGet_eq]; exact hy)
             have u1 := eLo_ok g2 hx9
             have u2 := eHi_ok g2 hx9
             dsimp only at u1 u2 hy1
             obtain ⟨q1, q2, q3⟩ := vp_in_int (x := x) (n := n) (by omega) (by omega)
             have hw9 : ∀ j, j < n → (j = x.toNatClampNeg → (aG d l' j = v ∨ (wkE B v (aG d ov j) = true ∧ aG d l' j = aG d ov j))) ∧ (j ≠ x.toNatClampNeg → aG d l' j = aG d ov j) := by
               intro j hj
               unfold aWr at hl'
               cases hd9 : decide (eLo B (0, i1, i2, i3) = eHi B (0, i1, i2, i3)) with
               | true =>
                 rw [hd9, cond_true] at hl'
                 rw [decide_eq_true_eq] at hd9
                 have e9 := Option.some.inj hl'
                 have e8 : (eLo B (0, i1, i2, i3)).toNat = x.toNatClampNeg := by omega
                 rw [e8] at e9
                 dsimp only at e9
                 rw [← e9, aG_aS]
                 exact ⟨fun h => Or.inl (if_pos h), fun h => if_neg h⟩
               | false =>
                 rw [hd9, cond_false] at hl'
                 cases hk9 : wkA B v d ov (eLo B (0, i1, i2, i3)).toNat (eHi B (0, i1, i2, i3)).toNat with
                 | false => dsimp only at hl'; rw [hk9] at hl'; cases hl'
                 | true =>
                   dsimp only at hl'
                   rw [hk9, cond_true] at hl'
                   have e9 := Option.some.inj hl'
                   rw [← e9]
                   exact ⟨fun h => Or.inr ⟨wkA_ok hk9 (by omega) (by omega), rfl⟩, fun _ => rfl⟩
             refine row ad ls ws H locs x a1 n u vs d v ov ye B g2 hb9.2.2 hu g6 g7 g8 hy1 hy2 q1 q3 (fun H1 locs1 x' c1 c2 c3 c4 => ?_)
             exact hn ad ls lc vs _ H1 locs1 (by dsimp only; rw [eSet_eq, List.length_set]; exact g1) g2 g3 g4 (by dsimp only; rw [eSet_eq]; exact gH_set g5 (c1 l' hw9)) c2 c3 c4 g9
           | [_, _], g4 => exact g4.2.2.elim
           | [_], g4 => exact g4.2.elim
           | [], g4 => exact g4.elim
          next => cases h
      next => cases h
  next => cases h
theorem k_iast (K : eK p m c s args cc own nL Ts D cl cA A) {S : eS} (hd : decode cc S.1 = .ok (.iastore, 1)) {rs : List (Nat × eS)} (h : x_xst 0 okI S = some rs) (hr : ∀ r ∈ rs, eLf p l e R s m args below meth c Q D cl cA A sb ρ ad0 h0 nL r) : eW p l e R s m args below meth c Q D cl cA A sb ρ ad0 h0 nL S := by
  obtain ⟨hx, hb, hml, hown, hts, hK, hA⟩ := K
  refine k_xst (fun ad ls ws H locs i k n u vs d v ov x B hB hok hu hP hD hS hx1 hx2 hin hlt kk => ?_) h hr
  obtain ⟨f, rfl, hf⟩ := hx2
  obtain ⟨v0, v1, v2, v3⟩ := v
  have e0 := Nat.eq_of_beq_eq_true hok
  dsimp only at e0
  subst e0
  obtain ⟨y, rfl, hy⟩ := hu
  refine va_iast hx hb hK hP hD hS k 0 hx1 rfl hin hd (fun H1 locs1 c2 c3 c4 => kk H1 locs1 _ (fun ov' ho => ⟨_, rfl, fun j hj => ?_⟩) c2 c3 c4)
  dsimp only
  unfold upd
  by_cases hji : j = i.toNatClampNeg
  · rw [if_pos hji]
    rcases (ho j hj).1 hji with q9 | ⟨q9, q8⟩
    · rw [q9]
      exact gV_int hy
    · have hk9 := (gV_bndI (hf j hj)).1
      rw [q8]
      have := wkE_ok hB q9 hy hk9
      generalize aG d ov j = w at *
      obtain ⟨w0, w1, w2, w3⟩ := w
      dsimp only at hk9
      subst hk9
      exact gV_int this
  · rw [if_neg hji, (ho j hj).2 hji]
    exact hf j hj
theorem k_last (K : eK p m c s args cc own nL Ts D cl cA A) {S : eS} (hd : decode cc S.1 = .ok (.lastore, 1)) {rs : List (Nat × eS)} (h : x_xst 1 okJ S = some rs) (hr : ∀ r ∈ rs, eLf p l e R s m args below meth c Q D cl cA A sb ρ ad0 h0 nL r) : eW p l e R s m args below meth c Q D cl cA A sb ρ ad0 h0 nL S := by
  obtain ⟨hx, hb, hml, hown, hts, hK, hA⟩ := K
  refine k_xst (fun ad ls ws H locs i k n u vs d v ov x B hB hok hu hP hD hS hx1 hx2 hin hlt kk => ?_) h hr
  obtain ⟨f, rfl, hf⟩ := hx2
  obtain ⟨v0, v1, v2, v3⟩ := v
  have e0 := Nat.eq_of_beq_eq_true hok
  dsimp only at e0
  subst e0
  obtain ⟨y, rfl, hy⟩ := hu
  refine va_last hx hb hK hP hD hS k 1 hx1 rfl hin hd (fun H1 locs1 c2 c3 c4 => kk H1 locs1 _ (fun ov' ho => ⟨_, rfl, fun j hj => ?_⟩) c2 c3 c4)
  dsimp only
  unfold vp_updL
  by_cases hji : j = i.toNatClampNeg
  · rw [if_pos hji]
    rcases (ho j hj).1 hji with q9 | ⟨q9, q8⟩
    · rw [q9]
      exact gV_long hy
    · have hk9 := (gV_bndL (hf j hj)).1
      rw [q8]
      have := wkE_ok hB q9 hy hk9
      generalize aG d ov j = w at *
      obtain ⟨w0, w1, w2, w3⟩ := w
      dsimp only at hk9
      subst hk9
      exact gV_long this
  · rw [if_neg hji, (ho j hj).2 hji]
    exact hf j hj
theorem i32_byte {x : Int32} (h1 : -128 ≤ x.toInt) (h2 : x.toInt ≤ 127) : x.toInt8.toInt32 = x := by
  apply Int32.toInt_inj.mp
  rw [Int8.toInt_toInt32, Int32.toInt_toInt8]
  exact Int.bmod_eq_of_le (by omega) (by omega)
theorem k_bast (K : eK p m c s args cc own nL Ts D cl cA A) {S : eS} (hd : decode cc S.1 = .ok (.bastore, 1)) {rs : List (Nat × eS)} (h : x_xst 2 okB S = some rs) (hr : ∀ r ∈ rs, eLf p l e R s m args below meth c Q D cl cA A sb ρ ad0 h0 nL r) : eW p l e R s m args below meth c Q D cl cA A sb ρ ad0 h0 nL S := by
  obtain ⟨hx, hb, hml, hown, hts, hK, hA⟩ := K
  refine k_xst (fun ad ls ws H locs i k n u vs d v ov x B hB hok hu hP hD hS hx1 hx2 hin hlt kk => ?_) h hr
  obtain ⟨f, rfl, hf⟩ := hx2
  obtain ⟨v0, v1, v2, v3⟩ := v
  unfold okB at hok
  rw [Bool.and_eq_true, Bool.and_eq_true, decide_eq_true_eq, decide_eq_true_eq] at hok
  have e0 := Nat.eq_of_beq_eq_true hok.1
  have e1 := hok.2
  dsimp only at e0
  subst e0
  obtain ⟨y, rfl, hy⟩ := hu
  have u1 := eLo_ok hB hy
  have u2 := eHi_ok hB hy
  refine va_bast hx hb hK hP hD hS k 2 hx1 rfl hin hd (fun H1 locs1 c2 c3 c4 => kk H1 locs1 _ (fun ov' ho => ⟨_, rfl, fun j hj => ?_⟩) c2 c3 c4)
  dsimp only
  unfold upd
  by_cases hji : j = i.toNatClampNeg
  · rw [if_pos hji, vp_nar_byte]
    refine ⟨?_, pk_fb y⟩
    rw [i32_byte (by omega) (by omega)]
    rcases (ho j hj).1 hji with q9 | ⟨q9, q8⟩
    · rw [q9]
      exact gV_int hy
    · have hk9 := (gV_bndI (hf j hj).1).1
      rw [q8]
      have := wkE_ok hB q9 hy hk9
      generalize aG d ov j = w at *
      obtain ⟨w0, w1, w2, w3⟩ := w
      dsimp only at hk9
      subst hk9
      exact gV_int this
  · rw [if_neg hji, (ho j hj).2 hji]
    exact hf j hj
def x_len (sc : Option (Nat × Nat)) (S : eS) : eR := match S.2.2.1 with
  | a :: r => bif Nat.beq a.1 2 then (match eGet S.2.2.2.2.1 a.2.1 with
    | some (.inr y) => bif !(Nat.beq (vA y).1 3) && Nat.blt (vA y).2.1 2147483648 then eNx (S.1 + 1, S.2.1, eI ((vA y).2.1 : Int) :: r, S.2.2.2) else none
    | _ => none) else (bif Nat.beq a.1 5 && Nat.beq a.2.1 0 then (match sc with
      | some _ => eNx (S.1 + 1, S.2.1, (0, 0, 0, 3072) :: r, S.2.2.2)
      | none => none) else none)
  | _ => none
theorem i32_nat {n : Nat} (h : n < 2147483648) : (Int32.ofNat n).toInt = (n : Int) := nI_toInt h
theorem k_len (K : eK p m c s args cc own nL Ts D cl cA A) {S : eS} {sc : Option (Nat × Nat)} (hsc : eSc s A sb ρ sc) (hd : decode cc S.1 = .ok (.arraylength, 1)) {rs : List (Nat × eS)} (h : x_len sc S = some rs) (hr : ∀ r ∈ rs, eLf p l e R s m args below meth c Q D cl cA A sb ρ ad0 h0 nL r) : eW p l e R s m args below meth c Q D cl cA A sb ρ ad0 h0 nL S := by
  obtain ⟨hx, hb, hml, hown, hts, hK, hA⟩ := K
  obtain ⟨pc, lo, st, B, hp, Z⟩ := S
  unfold x_len at h
  split at h
  next a r hst =>
    dsimp only at hst
    subst hst
    dsimp only at h
    obtain ⟨a0, a1, a2, a3⟩ := a
    cases hb8 : Nat.beq a0 2 with
    | true =>
      rw [hb8, cond_true] at h
      have e1 := Nat.eq_of_beq_eq_true hb8
      subst e1
      split at h
      next y hy =>
        have hv2 : ∀ (ad : Nat → Nat) (ws : va_W), gH ρ ad sb cA hp ws → ∃ x, ws[a1]? = some (ad a1, x) ∧ gC ρ ad sb cA (.inr (vA y)) x := fun ad ws g => by
          obtain ⟨x, h1, h2⟩ := g.2 a1 _ (by rw [← eGet_eq]; exact hy)
          exact ⟨x, h1, vA_ok h2⟩
        generalize vA y = y at h hv2
        cases hb7 : (!(Nat.beq y.1 3) && Nat.blt y.2.1 2147483648) with
        | false => rw [hb7] at h; cases h
        | true =>
          rw [hb7, cond_true] at h
          rw [Bool.and_eq_true] at hb7
          have hn := eNx_ok (S := (pc, lo, (2, a1, a2, a3) :: r, B, hp, Z)) h hr
          intro ad ls lc vs ws H locs g1 g2 g3 g4 g5 g6 g7 g8 g9
          match vs, g4 with
          | w :: vs, g4 =>
            obtain ⟨hw, g4⟩ := g4
            have hw : w = .ref (ad a1) := hw
            subst hw
            obtain ⟨y0, n, d, ov⟩ := y
            obtain ⟨ye, hy1, hy2⟩ := hv2 ad ws g5
            have hlt := blt_lt hb7.2
            dsimp only at hlt hy1
            have hn := hn ad ls lc (.int (Int32.ofNat n) :: vs) ws H locs g1 g2 g3 ⟨gV_int (by rw [i32_nat hlt]; exact gN_I _), g4⟩ g5 g6 g7 g8 g9
            have hle : ¬ y0 = 3 := fun q => by
              have := hb7.1
              rw [q] at this
              cases this
            match y0, hy2, hle with
            | 0, hy2, _ => obtain ⟨f, rfl, -⟩ := hy2; exact va_alen hx hb hK g6 a1 0 hy1 rfl rfl hd hn
            | 1, hy2, _ => obtain ⟨f, rfl, -⟩ := hy2; exact va_alen hx hb hK g6 a1 1 hy1 rfl rfl hd hn
            | 2, hy2, _ => obtain ⟨f, rfl, -⟩ := hy2; exact va_alen hx hb hK g6 a1 2 hy1 rfl rfl hd hn
            | 3, _, hle => exact absurd rfl hle
            | k + 4, hy2, _ =>
              obtain ⟨f, zs, rfl, -⟩ := hy2
              cases hk6 : Nat.beq k 6 with
              | true =>
                have e9 : aK k = 2 := by unfold aK; rw [hk6]; rfl
                rw [e9] at hy1
                exact va_alen hx hb hK g6 a1 2 hy1 rfl rfl hd hn
              | false =>
                have e9 : aK k = 0 := by unfold aK; rw [hk6]; rfl
                rw [e9] at hy1
                exact va_alen hx hb hK g6 a1 0 hy1 rfl rfl hd hn
          | [], g4 => exact g4.elim
      next => cases h
    | false =>
      rw [hb8, cond_false] at h
      cases hb7 : (Nat.beq a0 5 && Nat.beq a1 0) with
      | false => rw [hb7] at h; cases h
      | true =>
        rw [hb7, cond_true] at h
        rw [Bool.and_eq_true] at hb7
        have e1 := Nat.eq_of_beq_eq_true hb7.1
        have e2 := Nat.eq_of_beq_eq_true hb7.2
        subst e1
        subst e2
        split at h
        next q =>
          have hn := eNx_ok (S := (pc, lo, (5, 0, a2, a3) :: r, B, hp, Z)) h hr
          obtain ⟨L, xs, hX, hbl, hbA, hq3, hq1, hq2⟩ := hsc
          intro ad ls lc vs ws H locs g1 g2 g3 g4 g5 g6 g7 g8 g9
          match vs, g4 with
          | w :: vs, g4 =>
            obtain ⟨hw, g4⟩ := g4
            have hw : w = .ref (sb.1 0) := hw
            subst hw
            exact va_slen hx hb hX hbl hbA g8 hd (hn ad ls lc (.int (Int32.ofNat L) :: vs) ws H locs g1 g2 g3 ⟨gV_int (by rw [i32_nat (by omega)]; exact gN_iv (by omega) (by omega)), g4⟩ g5 g6 g7 g8 g9)
          | [], g4 => exact g4.elim
        next => cases h
  next => cases h
-- making
def eDf (t : Nat) : eV := match t with
  | 1 => eJ 0
  | _ => eI 0
def eScoped (lo : eL) (r : List eV) (hp : eH) : Bool := eScL hp.length lo && (eScS hp.length r && eScH hp.length hp)
def x_newa (t : Nat) (cm sm : Nat) (S : eS) : eR := match S.2.2.1 with
  | n :: r => bif Nat.beq n.1 0 && (decide (eLo S.2.2.2.1 n = eHi S.2.2.2.1 n) && (decide (0 ≤ eLo S.2.2.2.1 n) && (decide (eLo S.2.2.2.1 n ≤ 1000000) && (Nat.ble (S.2.2.2.2.2.1 + 1) cm && (Nat.ble (S.2.2.2.2.2.2 + (eLo S.2.2.2.1 n).toNat) sm && eScoped S.2.1 r S.2.2.2.2.1))))) then
      eNx (S.1 + 2, S.2.1, (2, S.2.2.2.2.1.length, 0, 0) :: r, S.2.2.2.1, S.2.2.2.2.1 ++ [.inr (t, (eLo S.2.2.2.1 n).toNat, (eDf t), [])], S.2.2.2.2.2.1 + 1, S.2.2.2.2.2.2 + (eLo S.2.2.2.1 n).toNat) else none
  | _ => none
theorem eAd_push {ad : Nat → Nat} {n q : Nat} (h : eAd ad0 ad h0 n) : eAd ad0 (fun k => if k = n then q else ad k) h0 (n + 1) := by
  refine ⟨by have := h.1; omega, fun k hk => ?_, fun q => by have := h.1; omega⟩
  have := h.1
  dsimp only
  rw [if_neg (by omega), h.2.1 k hk]
theorem k_newa (K : eK p m c s args cc own nL Ts D cl cA A) {S : eS} {t cm sm : Nat} (hcm : cm ≤ R.cells) (hsm : sm ≤ R.slots) {at_ : ArrayType} {ty : FieldType} (hty : newarray.typeOf at_ = ty) (hw : Jvm.Cond.arrayClass ty ∈ Ts) (hcb : componentBytes ty ≤ 8) (htt : (eTys cA)[t]? = some (cA t, ty)) (hRA : ∀ (U : State) (q : ClassId), va_RA U q ty → U.vm.findClass ("[" ++ ty.toString) = some q)
    (hcell : ∀ (N' : Nat), ∃ a0 : vp_A, (∀ q : ClassId, vp_cell q a0 = arrV q N' (fun _ => defaultValue ty)) ∧ ∀ ad, gC ρ ad sb cA (.inr (t, N', (eDf t), [])) (.inl (cA t, a0)))
    (hd : decode cc S.1 = .ok (.newarray at_, 2)) {rs : List (Nat × eS)} (h : x_newa t cm sm S = some rs) (hr : ∀ r ∈ rs, eLf p l e R s m args below meth c Q D cl cA A sb ρ ad0 h0 nL r) : eW p l e R s m args below meth c Q D cl cA A sb ρ ad0 h0 nL S := by
  obtain ⟨hx, hb, hml, hown, hts, hK, hA⟩ := K
  obtain ⟨pc, lo, st, B, hp, c9, z9⟩ := S
  unfold x_newa at h
  split at h
  next n r hst =>
    dsimp only at hst
    subst hst
    dsimp only at h
    obtain ⟨n0, n1, n2, n3⟩ := n
    cases hb9 : (Nat.beq n0 0 && (decide (eLo B (n0, n1, n2, n3) = eHi B (n0, n1, n2, n3)) && (decide (0 ≤ eLo B (n0, n1, n2, n3)) && (decide (eLo B (n0, n1, n2, n3) ≤ 1000000) && (Nat.ble (c9 + 1) cm && (Nat.ble (z9 + (eLo B (n0, n1, n2, n3)).toNat) sm && eScoped lo r hp)))))) with
    | false => rw [hb9] at h; cases h
    | true =>
      rw [hb9] at h
      simp only [Bool.and_eq_true, decide_eq_true_eq] at hb9
      obtain ⟨b1, b2, b3, b4, b5, b6, b7⟩ := hb9
      have e0 := Nat.eq_of_beq_eq_true b1
      subst e0
      have b5 := Nat.le_of_ble_eq_true b5
      have b6 := Nat.le_of_ble_eq_true b6
      unfold eScoped at b7
      rw [Bool.and_eq_true, Bool.and_eq_true] at b7
      have hn := eNx_ok (S := (pc, lo, (0, n1, n2, n3) :: r, B, hp, c9, z9)) h hr
      intro ad ls lc vs ws H locs g1 g2 g3 g4 g5 g6 g7 g8 g9
      match vs, g4 with
      | w :: vs, g4 =>
        obtain ⟨⟨x, rfl, hx9⟩, g4⟩ := g4
        have u1 := eLo_ok g2 hx9
        have u2 := eHi_ok g2 hx9
        dsimp only at u1 u2
        obtain ⟨N', eN⟩ : ∃ N', N' = (eLo B (0, n1, n2, n3)).toNat := ⟨_, rfl⟩
        rw [← eN] at hn b6
        have hxN : x.toInt = (N' : Int) := by omega
        have hneg : ¬ x < 0 := fun q => by
          have := Int32.lt_iff_toInt_lt.mp q
          have h0 : (0 : Int32).toInt = 0 := rfl
          omega
        have hcl : x.toNatClampNeg = N' := by
          have : x.toNatClampNeg = x.toInt.toNat := rfl
          omega
        obtain ⟨a0, ha1, ha2⟩ := hcell N'
        have hbytes : N' * componentBytes ty ≤ 536870912 := by
          have h1 : N' * componentBytes ty ≤ 1000000 * 8 := Nat.mul_le_mul (by omega) hcb
          omega
        refine va_newa hx hb (hty ▸ hts _ hw) hty hK g6 g7 g8 hA ha1 hneg hcl hbytes (Nat.le_trans b5 hcm) (Nat.le_trans b6 hsm) hd (fun q cq H1 c1 c2 c3 c4 => ?_)
        have hq : cq = cA t := by
          have k1 := hRA _ _ (c1.2 3 (cq, ty) rfl).2
          have k2 := hRA _ _ (hK.2 t _ htt).2
          exact Option.some.inj (k1.symm.trans k2)
        subst hq
        have hno : ∀ k, k < hp.length → (fun k => if k = hp.length then q else ad k) k = ad k := fun k hk => if_neg (Nat.ne_of_lt hk)
        refine hn (fun k => if k = hp.length then q else ad k) ls lc (.ref q :: vs) _ H1 locs ?_ g2 (gL_mono hno b7.1 g3) ⟨?_, gS_mono hno b7.2.1 g4⟩ (gH_push b7.2.2 g5 (ha2 _)) c2 c3 c4 g9
        · dsimp only
          rw [List.length_append]
          exact eAd_push g1
        · show Value.ref q = .ref (if hp.length = hp.length then q else ad hp.length)
          rw [if_pos rfl]
      | [], g4 => exact g4.elim
  next => cases h
/-- a class that may be made: by the pool's number ix of own, its fields at first -/
def eNw (cl : List vw_C) (Ts : List Cond) (own : String) (ix ci : Nat) (ds : List eV) : Prop := ∃ (C : String) (T : u_T) (N : Nat) (ty : Nat → FieldType) (fs : List Value), cl[ci]? = some (C, T, N) ∧ (∀ w ∈ u_ws C T N, w ∈ Ts) ∧ (∀ k, k < N → parseFieldDescriptor (T k).2.2.1 = some (ty k)) ∧ Jvm.Cond.classLink own ix C ∈ Ts ∧ Jvm.Cond.instantiable C N ∈ Ts ∧ Jvm.Cond.initialized C ∈ Ts ∧ (∀ j, j < N → defaultValue (ty j) = vp_V fs j) ∧ N = ds.length ∧ ∀ ρ ad sb, gS ρ ad sb ds fs
def x_new (ci : Nat) (ds : List eV) (cm sm : Nat) (S : eS) : eR :=
  bif Nat.ble (S.2.2.2.2.2.1 + 1) cm && (Nat.ble (S.2.2.2.2.2.2 + ds.length) sm && eScoped S.2.1 S.2.2.1 S.2.2.2.2.1) then
    eNx (S.1 + 3, S.2.1, (2, S.2.2.2.2.1.length, 0, 0) :: S.2.2.1, S.2.2.2.1, S.2.2.2.2.1 ++ [.inl (ci, ds)], S.2.2.2.2.2.1 + 1, S.2.2.2.2.2.2 + ds.length) else none
theorem k_new (K : eK p m c s args cc own nL Ts D cl cA A) {S : eS} {ix ci cm sm : Nat} {ds : List eV} (hcm : cm ≤ R.cells) (hsm : sm ≤ R.slots) (hd : decode cc S.1 = .ok (.new ix, 3)) (hw : eNw cl Ts own ix ci ds) {rs : List (Nat × eS)} (h : x_new ci ds cm sm S = some rs) (hr : ∀ r ∈ rs, eLf p l e R s m args below meth c Q D cl cA A sb ρ ad0 h0 nL r) : eW p l e R s m args below meth c Q D cl cA A sb ρ ad0 h0 nL S := by
  obtain ⟨hx, hb, hml, hown, hts, hK, hA⟩ := K
  obtain ⟨C, T, N, ty, fs, hc, hin, hty, w1, w2, w3, hfs, hN, hds⟩ := hw
  obtain ⟨pc, lo, st, B, hp, c9, z9⟩ := S
  unfold x_new at h
  dsimp only at h
  cases hb9 : (Nat.ble (c9 + 1) cm && (Nat.ble (z9 + ds.length) sm && eScoped lo st hp)) with
  | false => rw [hb9] at h; cases h
  | true =>
    rw [hb9] at h
    simp only [Bool.and_eq_true] at hb9
    obtain ⟨b5, b6, b7⟩ := hb9
    have b5 := Nat.le_of_ble_eq_true b5
    have b6 := Nat.le_of_ble_eq_true b6
    unfold eScoped at b7
    rw [Bool.and_eq_true, Bool.and_eq_true] at b7
    have hn := eNx_ok (S := (pc, lo, st, B, hp, c9, z9)) h hr
    rw [← hN] at hn b6
    intro ad ls lc vs ws H locs g1 g2 g3 g4 g5 g6 g7 g8 g9
    refine va_new hx hb hts hin ty hty hown (hts _ w1) (hts _ w2) (hts _ w3) hK g6 g7 g8 hA hc hfs (Nat.le_trans b5 hcm) (Nat.le_trans b6 hsm) hd (fun q H1 c2 c3 c4 => ?_)
    have hno : ∀ k, k < hp.length → (fun k => if k = hp.length then q else ad k) k = ad k := fun k hk => if_neg (Nat.ne_of_lt hk)
    refine hn (fun k => if k = hp.length then q else ad k) ls lc (.ref q :: vs) _ H1 locs ?_ g2 (gL_mono hno b7.1 g3) ⟨?_, gS_mono hno b7.2.1 g4⟩ (gH_push b7.2.2 g5 ⟨fs, rfl, hds _ _ _⟩) c2 c3 c4 g9
    · dsimp only
      rw [List.length_append]
      exact eAd_push g1
    · show Value.ref q = .ref (if hp.length = hp.length then q else ad hp.length)
      rw [if_pos rfl]
-- System.arraycopy of ints
def cpL (ds : eV) (os : List (Nat × eV)) (sp dp : Nat) (d : eV) : Nat → List (Nat × eV) → List (Nat × eV)
  | 0, ov => ov
  | n + 1, ov => cpL ds os sp dp d n (aS d ov (dp + n) (aG ds os (sp + n)))
theorem cpL_ok (ds : eV) (os : List (Nat × eV)) (sp dp : Nat) (d : eV) (k : Nat) : ∀ (n : Nat) (ov : List (Nat × eV)), aG d (cpL ds os sp dp d n ov) k = if dp ≤ k ∧ k < dp + n then aG ds os (sp + (k - dp)) else aG d ov k
  | 0, ov => by rw [if_neg (by omega)]; rfl
  | n + 1, ov => by
    unfold cpL
    rw [cpL_ok ds os sp dp d k n, aG_aS]
    by_cases h1 : dp ≤ k ∧ k < dp + n
    · rw [if_pos h1, if_pos (by omega)]
    · rw [if_neg h1]
      by_cases h2 : k = dp + n
      · rw [if_pos h2, if_pos (by omega)]
        congr 1
        omega
      · rw [if_neg h2, if_neg (by omega)]
def x_copy (S : eS) : eR := match S.2.2.1 with
  | n :: dp :: b :: sp :: a :: r => bif (Nat.beq n.1 0 && (Nat.beq dp.1 0 && (Nat.beq b.1 2 && (Nat.beq sp.1 0 && (Nat.beq a.1 2 && Nat.ble (eWords r) 8))))) && (decide (eLo S.2.2.2.1 n = eHi S.2.2.2.1 n) && (decide (eLo S.2.2.2.1 dp = eHi S.2.2.2.1 dp) && (decide (eLo S.2.2.2.1 sp = eHi S.2.2.2.1 sp) && (decide (0 ≤ eLo S.2.2.2.1 n) && (decide (0 ≤ eLo S.2.2.2.1 dp) && decide (0 ≤ eLo S.2.2.2.1 sp)))))) then
      (match eGet S.2.2.2.2.1 a.2.1, eGet S.2.2.2.2.1 b.2.1 with
      | some (.inr x), some (.inr y) => bif Nat.beq x.1 0 && (Nat.beq y.1 0 && (decide (eLo S.2.2.2.1 sp + eLo S.2.2.2.1 n ≤ (x.2.1 : Int)) && decide (eLo S.2.2.2.1 dp + eLo S.2.2.2.1 n ≤ (y.2.1 : Int)))) then
          eNx (S.1 + 3, S.2.1, r, S.2.2.2.1, eSet S.2.2.2.2.1 b.2.1 (.inr (0, y.2.1, y.2.2.1, cpL x.2.2.1 x.2.2.2 (eLo S.2.2.2.1 sp).toNat (eLo S.2.2.2.1 dp).toNat y.2.2.1 (eLo S.2.2.2.1 n).toNat y.2.2.2)), S.2.2.2.2.2) else none
      | _, _ => none) else none
  | _ => none
theorem k_copy (K : eK p m c s args cc own nL Ts D cl cA A) {S : eS} {ix : Nat} (hfr : 1 ≤ R.frames) (hlo : 8 + (nativeFrameWords "java/lang/System" "arraycopy" 5 + 11) ≤ R.locals) (w1 : Jvm.Cond.methodLink own ix arraycopyName ∈ Ts) (w2 : Jvm.Cond.native arraycopyName ∈ Ts) (w3 : Jvm.Cond.static arraycopyName ∈ Ts) (w4 : Jvm.Cond.initialized "java/lang/System" ∈ Ts) (hd : decode cc S.1 = .ok (.invokestatic ix, 3)) {rs : List (Nat × eS)} (h : x_copy S = some rs) (hr : ∀ r ∈ rs, eLf p l e R s m args below meth c Q D cl cA A sb ρ ad0 h0 nL r) : eW p l e R s m args below meth c Q D cl cA A sb ρ ad0 h0 nL S := by
  obtain ⟨hx, hb, hml, hown, hts, hK, hA⟩ := K
  obtain ⟨pc, lo, st, B, hp, Z⟩ := S
  unfold x_copy at h
  split at h
  next n dp b sp a r hst =>
    dsimp only at hst
    subst hst
    dsimp only at h
    obtain ⟨n0, n1, n2, n3⟩ := n
    obtain ⟨d0, d1, d2, d3⟩ := dp
    obtain ⟨s0, s1, s2, s3⟩ := sp
    obtain ⟨a0, a1, a2, a3⟩ := a
    obtain ⟨b0, b1, b2, b3⟩ := b
    dsimp only at h
    split at h
    next x y hx1 hy1 =>
      rw [Bool.cond_eq_ite] at h
      split at h
      next hc1 =>
        rw [Bool.cond_eq_ite] at h
        split at h
        next hc2 =>
          simp only [Bool.and_eq_true, decide_eq_true_eq] at hc1 hc2
          obtain ⟨⟨k1, k2, k3, k4, k5, k6⟩, m1, m2, m3, m4, m5, m6⟩ := hc1
          obtain ⟨p1, p2, p3, p4⟩ := hc2
          have e1 := Nat.eq_of_beq_eq_true k1
          have e2 := Nat.eq_of_beq_eq_true k2
          have e3 := Nat.eq_of_beq_eq_true k3
          have e4 := Nat.eq_of_beq_eq_true k4
          have e5 := Nat.eq_of_beq_eq_true k5
          subst e1 e2 e3 e4 e5
          obtain ⟨x0, xn, xd, xo⟩ := x
          obtain ⟨y0, yn, yd, yo⟩ := y
          have e6 := Nat.eq_of_beq_eq_true p1
          have e7 := Nat.eq_of_beq_eq_true p2
          dsimp only at e6 e7 p3 p4
          subst e6 e7
          have hn := eNx_ok (S := (pc, lo, (0, n1, n2, n3) :: (0, d1, d2, d3) :: (2, b1, b2, b3) :: (0, s1, s2, s3) :: (2, a1, a2, a3) :: r, B, hp, Z)) h hr
          intro ad ls lc vs ws H locs g1 g2 g3 g4 g5 g6 g7 g8 g9
          match vs, g4 with
          | v1 :: v2 :: v3 :: v4 :: v5 :: vs, g4 =>
            obtain ⟨⟨zn, rfl, hzn⟩, ⟨zd, rfl, hzd⟩, hv3, ⟨zs, rfl, hzs⟩, hv5, g4⟩ := g4
            have hv3 : v3 = .ref (ad b1) := hv3
            have hv5 : v5 = .ref (ad a1) := hv5
            subst hv3 hv5
            have un1 := eLo_ok g2 hzn
            have un2 := eHi_ok g2 hzn
            have ud1 := eLo_ok g2 hzd
            have ud2 := eHi_ok g2 hzd
            have us1 := eLo_ok g2 hzs
            have us2 := eHi_ok g2 hzs
            dsimp only at un1 un2 ud1 ud2 us1 us2
            have ng : ∀ z : Int32, 0 ≤ z.toInt → ¬ z < 0 := fun z hz q => by
              have := Int32.lt_iff_toInt_lt.mp q
              have h0 : (0 : Int32).toInt = 0 := rfl
              omega
            have cn : zn.toNatClampNeg = (eLo B (0, n1, n2, n3)).toNat := by
              have : zn.toNatClampNeg = zn.toInt.toNat := rfl
              omega
            have cd : zd.toNatClampNeg = (eLo B (0, d1, d2, d3)).toNat := by
              have : zd.toNatClampNeg = zd.toInt.toNat := rfl
              omega
            have cs : zs.toNatClampNeg = (eLo B (0, s1, s2, s3)).toNat := by
              have : zs.toNatClampNeg = zs.toInt.toNat := rfl
              omega
            obtain ⟨ex, hx2, f, hx3, hx4⟩ := g5.2 a1 _ (by rw [← eGet_eq]; exact hx1)
            obtain ⟨ey, hy2, g, hy3, hy4⟩ := g5.2 b1 _ (by rw [← eGet_eq]; exact hy1)
            subst hx3 hy3
            dsimp only at hx2 hy2 hx4 hy4
            refine va_copyi hx hb (by rw [hml]; exact g9.1.symm) hown (hts _ w1) (hts _ w2) (hts _ w3) (hts _ w4) hK g6 g7 g8 a1 b1 0 0 hx2 hy2 rfl rfl rfl (ng _ (by omega)) (ng _ (by omega)) (ng _ (by omega)) (by omega) (by omega) (fun _ _ => rfl) hfr ?_ hd (fun H1 locs1 q1 q2 q3 => ?_)
            · rw [gS_words g4]
              have := Nat.le_of_ble_eq_true k6
              omega
            · refine hn ad ls lc vs _ H1 locs1 (by dsimp only; rw [eSet_eq, List.length_set]; exact g1) g2 g3 g4 ?_ q1 q2 q3 g9
              dsimp only
              rw [eSet_eq]
              refine gH_set g5 ⟨_, rfl, fun j hj => ?_⟩
              dsimp only
              rw [cpL_ok, ← cn, ← cd, ← cs]
              unfold va_cpy
              by_cases hj2 : zd.toNatClampNeg ≤ j ∧ j < zd.toNatClampNeg + zn.toNatClampNeg
              · rw [if_pos hj2, if_pos hj2]
                exact hx4 _ (by omega)
              · rw [if_neg hj2, if_neg hj2]
                exact hy4 j hj
          | [_, _, _, _], g4 => exact g4.2.2.2.2.elim
          | [_, _, _], g4 => exact g4.2.2.2.elim
          | [_, _], g4 => exact g4.2.2.elim
          | [_], g4 => exact g4.2.elim
          | [], g4 => exact g4.elim
        next => cases h
      next => cases h
    next =>
      rw [Bool.cond_eq_ite] at h
      split at h <;> cases h
  next => cases h
end E6
