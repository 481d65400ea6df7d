/-! ===== THE ENGINE, 16s: loads and stores of cells that predicates tell of ===== -/
theorem tgA_mono {N M n : Nat} (hNM : N ≤ M) (h : tgA N n = true) : tgA M n = true := by
  unfold tgA at h ⊢
  cases hb : Nat.blt n cB with
  | false => rfl
  | true =>
    rw [hb, cond_true, Bool.and_eq_true] at h
    rw [cond_true, Bool.and_eq_true]
    have := blt_lt h.2
    exact ⟨h.1, Nat.ble_eq_true_of_le (by omega)⟩
theorem tgF_mono {N M : Nat} (hNM : N ≤ M) {F : List eF} (h : tgF N F = true) : tgF M F = true := by
  refine List.all_eq_true.mpr (fun x hx => ?_)
  have k2 := List.all_eq_true.mp h x hx
  cases hb : Nat.ble x.1 2 with
  | true =>
    rw [hb, cond_true, Bool.and_eq_true] at k2
    rw [cond_true, Bool.and_eq_true]
    have k3 := blt_lt k2.1
    have k4 := blt_lt k2.2
    exact ⟨Nat.ble_eq_true_of_le (by omega), Nat.ble_eq_true_of_le (by omega)⟩
  | false =>
    rw [hb, cond_false, Bool.and_eq_true, Bool.and_eq_true, Bool.and_eq_true] at k2
    rw [cond_false, Bool.and_eq_true, Bool.and_eq_true, Bool.and_eq_true]
    exact ⟨tgA_mono hNM k2.1, tgA_mono hNM k2.2.1, tgA_mono hNM k2.2.2.1, tgA_mono hNM k2.2.2.2⟩
/-- a number that is put into a local or a field gets a name -/
def nmC (N0 : Nat) (S : eS) (r : List eV) : Bool := Nat.ble N0 S.2.2.2.1.1.length && (tgL S.2.2.2.1.1.length S.2.1 && (r.all (tgV S.2.2.2.1.1.length) && (S.2.2.2.2.1.all (tgC S.2.2.2.1.1.length) && tgF S.2.2.2.1.1.length S.2.2.2.1.2)))
def upN (ρ : Nat → Int) (N : Nat) (x : Int) : Nat → Int := fun i => if i = N then x else ρ i
theorem upN_lt {ρ : Nat → Int} {N i : Nat} {x : Int} (h : i < N) : upN ρ N x i = ρ i := if_neg (by omega)
theorem upN_at {ρ : Nat → Int} {N : Nat} {x : Int} : upN ρ N x N = x := if_pos rfl
def nwV (N : Nat) (lo hi : Int) : eV := (0, N * 8192 + 4097, lo, hi)
theorem nwV_ok {ρ : Nat → Int} {N : Nat} {lo hi x : Int} (h : ρ N = x) (h1 : lo ≤ x) (h2 : x ≤ hi) : gN ρ (nwV N lo hi) x := by
  refine ⟨fun t ht => ?_, h1, h2⟩
  have ht : N * 8192 + 4097 = t + 1 := ht
  have e1 : t = N * 8192 + 4096 := by omega
  rw [e1, nB_at, nO_at, h]
  omega
theorem gB_add {ρ : Nat → Int} {B : eB} {lo hi x : Int} (hB : gB ρ B) (hF : tgF B.1.length B.2 = true) (h1 : lo ≤ x) (h2 : x ≤ hi) : gB (upN ρ B.1.length x) (B.1 ++ [(lo, hi)], B.2) := by
  refine ⟨fun i q9 hq => ?_, fun f hf => ?_⟩
  · dsimp only at hq
    by_cases hl : i < B.1.length
    · rw [List.getElem?_append_left hl] at hq
      rw [upN_lt hl]
      exact hB.1 i q9 hq
    · rw [List.getElem?_append_right (Nat.not_lt.mp hl)] at hq
      have hz : i - B.1.length < 1 := (List.getElem?_eq_some_iff.mp hq).1
      have e1 : i = B.1.length := by omega
      subst e1
      rw [Nat.sub_self] at hq
      have e2 := Option.some.inj hq
      subst e2
      rw [upN_at]
      exact ⟨h1, h2⟩
  · exact gF_ag hF (fun i hi => upN_lt hi) hf (hB.2 f hf)
def inI (B : eB) (i : eV) (n : Nat) : Bool := decide (0 ≤ eLo B i) && decide (eHi B i < (n : Int))
theorem inI_ok {ρ : Nat → Int} {B : eB} (hB : gB ρ B) {i : eV} {z : Int} (hi : gN ρ i z) {n : Nat} (h : inI B i n = true) : 0 ≤ z ∧ z < n := by
  unfold inI at h
  simp only [Bool.and_eq_true, decide_eq_true_eq] at h
  have a1 := eLo_ok hB hi
  have a2 := eHi_ok hB hi
  exact ⟨by omega, by omega⟩
def r66C (o : Nat) : Int × Int := bif Nat.beq o 0 then (0, 999) else bif Nat.ble 2 o && Nat.ble o 11 then (0, 4) else bif Nat.ble 12 o && Nat.ble o 21 then (-1, 9) else bif Nat.ble 32 o && Nat.ble o 41 then (0, 9) else (-2147483648, 2147483647)
theorem r66C_ok {g : Nat → Int} (h : r66 g) {o : Nat} {x : Int32} (hx : x.toInt = g o) : (r66C o).1 ≤ x.toInt ∧ x.toInt ≤ (r66C o).2 := by
  obtain ⟨h0, h1⟩ := h
  unfold r66C
  cases e0 : Nat.beq o 0 with
  | true =>
    rw [cond_true]
    have e := Nat.eq_of_beq_eq_true e0
    subst e
    rw [hx]
    exact h0
  | false =>
    rw [cond_false]
    cases e1 : (Nat.ble 2 o && Nat.ble o 11) with
    | true =>
      rw [cond_true]
      rw [Bool.and_eq_true] at e1
      have c1 := Nat.le_of_ble_eq_true e1.1
      have c2 := Nat.le_of_ble_eq_true e1.2
      have k := (h1 (o - 2) (by omega)).1
      rw [show 2 + (o - 2) = o by omega] at k
      rw [hx]
      exact k
    | false =>
      rw [cond_false]
      cases e2 : (Nat.ble 12 o && Nat.ble o 21) with
      | true =>
        rw [cond_true]
        rw [Bool.and_eq_true] at e2
        have c1 := Nat.le_of_ble_eq_true e2.1
        have c2 := Nat.le_of_ble_eq_true e2.2
        have k := (h1 (o - 12) (by omega)).2.1
        rw [show 12 + (o - 12) = o by omega] at k
        rw [hx]
        exact k
      | false =>
        rw [cond_false]
        cases e3 : (Nat.ble 32 o && Nat.ble o 41) with
        | true =>
          rw [cond_true]
          rw [Bool.and_eq_true] at e3
          have c1 := Nat.le_of_ble_eq_true e3.1
          have c2 := Nat.le_of_ble_eq_true e3.2
          have k := (h1 (o - 32) (by omega)).2.2.2
          rw [show 32 + (o - 32) = o by omega] at k
          rw [hx]
          exact k
        | false => exact ⟨i32_lo x, i32_hi x⟩
abbrev eLd : Type := eV × eB × List (Nat × eV)
def ld5r (B : eB) (p : Nat × eV) (r : List (Nat × eV)) (o : Nat) : List eLd := match eFind r o with
  | some v => [((0, v.2), B, p :: r)]
  | none => bif (Nat.ble 2 o && Nat.ble o 11) && (eFind r (o + 10)).isNone then [(nwV B.1.length 0 4, ((B.1 ++ [(0, 4)]) ++ [(-1, 9)], B.2 ++ [(0, B.1.length, 3, B.1.length + 1, 0)]), p :: (o, nwV B.1.length 0 4) :: (o + 10, nwV (B.1.length + 1) (-1) 9) :: r)] else [((0, 0, r66C o), B, p :: r)]
def ld5 (B : eB) (n : Nat) (P : List (Nat × eV)) (i : eV) : Option (List eLd) := match P with
  | [] => none
  | p :: r => bif Nat.beq p.1 2000 then (bif isOff B i p.2 0 && (inI B i n && r.isEmpty) then some [(nwV B.1.length (-2147483648) 2147483647, (B.1 ++ [((-2147483648), 2147483647)], B.2), [p, (2001, nwV B.1.length (-2147483648) 2147483647)])] else none)
    else bif Nat.beq p.1 1000 then (match offV B i p.2 with
      | some o => bif decide (0 ≤ o) && decide (o < 66) then some (ld5r B p r o.toNat) else none
      | none => none) else none
def l7 (p0 p1 p2 : Nat × eV) (v : eV) (e : Int) (b : Option eB) : List eLd := match b with
  | some B' => [(v, B', [p0, (1, shV p1.2 1), (2, shV p2.2 e)])]
  | none => []
def ld7 (B : eB) (P : List (Nat × eV)) (i : eV) : Option (List eLd) := match P with
  | [p0, p1, p2] => bif kys P [0, 1, 2] && (isOff B i p1.2 0 && dLe B i p0.2 1) then some (l7 p0 p1 p2 (0, 0, -7, 2147483647) 1 (eRef B p2.2 (eLo B p2.2) 63) ++ (l7 p0 p1 p2 (eI (-28)) 0 (eRef B p2.2 1 (eHi B p2.2)) ++ l7 p0 p1 p2 (0, 0, -27, -20) (-1) (eRef B p2.2 2 (eHi B p2.2)))) else none
  | _ => none
def ld8n (B : eB) (i : eV) : List eLd := [(nwV B.1.length (-2147483648) 2147483647, (B.1 ++ [((-2147483648), 2147483647)], B.2), [(0, i), (1, nwV B.1.length (-2147483648) 2147483647)])]
def ld8 (B : eB) (n : Nat) (P : List (Nat × eV)) (i : eV) : Option (List eLd) := bif inI B i n && tgT B.1.length i.2.1 then (match P with
  | [p0, p1] => bif kys P [0, 1] && isOff B i p0.2 0 then some [((0, p1.2.2), B, P)] else some (ld8n B i)
  | _ => some (ld8n B i)) else none
def LdOk (ρ : Nat → Int) (B : eB) (k n : Nat) (f : Nat → Int32) (z : Int) (rs : List eLd) : Prop := (0 ≤ z ∧ z < n) ∧ ∃ q ∈ rs, ∃ ρ2 : Nat → Int, (∀ i, i < B.1.length → ρ2 i = ρ i) ∧ gB ρ2 q.2.1 ∧ q.1.1 = 0 ∧ gN ρ2 q.1 (f z.toNat).toInt ∧ ∃ zs, gNs ρ2 q.2.2 zs ∧ PRD k n f (q.2.2.map Prod.fst) zs
section E16S
variable {ρ : Nat → Int} {B : eB} {n : Nat} {f : Nat → Int32} {P : List (Nat × eV)} {zs : List Int} {i : eV} {z : Int}
theorem ld5_ok (hB : gB ρ B) (hF : tgF B.1.length B.2 = true) (hP : P.all (fun p => tgT B.1.length p.2.2.1) = true) (hi : gN ρ i z) (g : gNs ρ P zs) (hp : PRD 1 n f (P.map Prod.fst) zs) {rs : List eLd} (h : ld5 B n P i = some rs) : LdOk ρ B 1 n f z rs := by
  unfold ld5 at h
  split at h
  next => cases h
  next p r =>
    match zs, g, hp with
    | [], g, _ => exact g.elim
    | z0 :: zs, g, hp =>
      obtain ⟨p0, p1⟩ := p
      rw [List.all_cons, Bool.and_eq_true] at hP
      dsimp only at h hP
      cases h2 : Nat.beq p0 2000 with
      | true =>
        rw [h2, cond_true] at h
        have e0 := Nat.eq_of_beq_eq_true h2
        subst e0
        cases hb : (isOff B i p1 0 && (inI B i n && r.isEmpty)) with
        | false => rw [hb] at h; cases h
        | true =>
          rw [hb, cond_true] at h
          simp only [Bool.and_eq_true] at hb
          obtain ⟨c1, c2, c3⟩ := hb
          have hr := List.isEmpty_iff.mp c3
          subst hr
          match zs, g with
          | _ :: _, g => exact g.2.elim
          | [], g =>
            have hz := isOff_ok hB hi g.1 c1
            have hin := inI_ok hB hi c2
            have ez : z = z0 := by omega
            subst ez
            cases h
            have hp2 := mv_read hp hin.2
            refine ⟨hin, _, List.mem_singleton.mpr rfl, upN ρ B.1.length (f z.toNat).toInt, fun j hj => upN_lt hj, gB_add hB hF (i32_lo _) (i32_hi _), rfl, nwV_ok upN_at (i32_lo _) (i32_hi _), [z, (f z.toNat).toInt], ⟨?_, nwV_ok upN_at (i32_lo _) (i32_hi _), trivial⟩, hp2⟩
            exact gN_ag (fun j hj => upN_lt hj) hP.1 g.1
      | false =>
        rw [h2, cond_false] at h
        cases h1 : Nat.beq p0 1000 with
        | false => rw [h1] at h; cases h
        | true =>
          rw [h1, cond_true] at h
          have e0 := Nat.eq_of_beq_eq_true h1
          subst e0
          split at h
          next o ho =>
            cases hb : (decide (0 ≤ o) && decide (o < 66)) with
            | false => rw [hb] at h; cases h
            | true =>
              rw [hb, cond_true] at h
              simp only [Bool.and_eq_true, decide_eq_true_eq] at hb
              cases h
              have hz := offV_ok hB hi g.1 ho
              have hp9 : PRD 1 n f (1000 :: r.map Prod.fst) (z0 :: zs) := hp
              have hfr : 0 ≤ z0 ∧ z0.toNat + 66 ≤ n := by
                obtain ⟨-, b1, -, b2, -⟩ := hp9
                exact ⟨b1, b2⟩
              have ez : z.toNat = z0.toNat + o.toNat := by omega
              have ho66 : o.toNat < 66 := by omega
              refine ⟨⟨by omega, by omega⟩, ?_⟩
              unfold ld5r
              rcases fZ (o := o.toNat) g.2 with ⟨e1, e2⟩ | ⟨a, y, e1, e2, e3⟩
              · rw [e1]
                dsimp only
                obtain ⟨g9, b1, b2⟩ := op_rest hp9
                have b3 := b2 o.toNat ho66 e2
                cases hc : ((Nat.ble 2 o.toNat && Nat.ble o.toNat 11) && (eFind r (o.toNat + 10)).isNone) with
                | false =>
                  rw [cond_false]
                  have b4 := r66C_ok b1 (o := o.toNat) (x := f (z0.toNat + o.toNat)) b3
                  refine ⟨_, List.mem_singleton.mpr rfl, ρ, fun _ _ => rfl, hB, rfl, ?_, z0 :: zs, g, hp⟩
                  rw [ez]
                  exact gN_iv b4.1 b4.2
                | true =>
                  rw [cond_true]
                  simp only [Bool.and_eq_true, Option.isNone_iff_eq_none] at hc
                  obtain ⟨⟨c1, c2⟩, c3⟩ := hc
                  have c1 := Nat.le_of_ble_eq_true c1
                  have c2 := Nat.le_of_ble_eq_true c2
                  have e4 : pZ (r.map Prod.fst) zs (o.toNat + 10) = none := by
                    rcases fZ (o := o.toNat + 10) g.2 with ⟨-, q⟩ | ⟨a, y, q, -⟩
                    · exact q
                    · rw [c3] at q; cases q
                  have b4 := b2 (o.toNat + 10) (by omega) e4
                  have b5 := b1.2 (o.toNat - 2) (by omega)
                  dsimp only at b5
                  rw [show 2 + (o.toNat - 2) = o.toNat by omega, show 12 + (o.toNat - 2) = o.toNat + 10 by omega, ← b3, ← b4] at b5
                  obtain ⟨d1, d2, d3, -⟩ := b5
                  have hB1 := gB_add (x := (f (z0.toNat + o.toNat)).toInt) hB hF d1.1 d1.2
                  have hl : (B.1 ++ [((0 : Int), (4 : Int))]).length = B.1.length + 1 := by rw [List.length_append]; rfl
                  have hF1 : tgF (B.1 ++ [((0 : Int), (4 : Int))]).length B.2 = true := tgF_mono (by rw [hl]; omega) hF
                  have hB2 := gB_add (B := (B.1 ++ [((0 : Int), (4 : Int))], B.2)) (x := (f (z0.toNat + (o.toNat + 10))).toInt) hB1 hF1 d2.1 d2.2
                  dsimp only at hB2
                  rw [hl] at hB2
                  have v1 : upN (upN ρ B.1.length (f (z0.toNat + o.toNat)).toInt) (B.1.length + 1) (f (z0.toNat + (o.toNat + 10))).toInt B.1.length = (f (z0.toNat + o.toNat)).toInt := by rw [upN_lt (by omega), upN_at]
                  have v2 : upN (upN ρ B.1.length (f (z0.toNat + o.toNat)).toInt) (B.1.length + 1) (f (z0.toNat + (o.toNat + 10))).toInt (B.1.length + 1) = (f (z0.toNat + (o.toNat + 10))).toInt := upN_at
                  have hag : ∀ j, j < B.1.length → upN (upN ρ B.1.length (f (z0.toNat + o.toNat)).toInt) (B.1.length + 1) (f (z0.toNat + (o.toNat + 10))).toInt j = ρ j := fun j hj => by rw [upN_lt (by omega), upN_lt hj]
                  refine ⟨_, List.mem_singleton.mpr rfl, upN (upN ρ B.1.length (f (z0.toNat + o.toNat)).toInt) (B.1.length + 1) (f (z0.toNat + (o.toNat + 10))).toInt, hag, ⟨hB2.1, fun x hx => ?_⟩, rfl, ?_, z0 :: (f (z0.toNat + o.toNat)).toInt :: (f (z0.toNat + (o.toNat + 10))).toInt :: zs, ⟨gN_ag hag hP.1 g.1, nwV_ok v1 d1.1 d1.2, nwV_ok v2 d2.1 d2.2, gNs_ag hag hP.2 g.2⟩, ?_⟩
                  · rcases List.mem_append.mp hx with q | q
                    · exact hB2.2 x q
                    · rw [List.mem_singleton.mp q]
                      show upN (upN ρ B.1.length (f (z0.toNat + o.toNat)).toInt) (B.1.length + 1) (f (z0.toNat + (o.toNat + 10))).toInt B.1.length = 3 → 0 ≤ upN (upN ρ B.1.length (f (z0.toNat + o.toNat)).toInt) (B.1.length + 1) (f (z0.toNat + (o.toNat + 10))).toInt (B.1.length + 1)
                      rw [v1, v2]
                      exact d3
                  · rw [ez]
                    exact nwV_ok v1 d1.1 d1.2
                  · exact op_name (op_name hp9 (by omega)) ho66
              · rw [e1]
                dsimp only
                refine ⟨_, List.mem_singleton.mpr rfl, ρ, fun _ _ => rfl, hB, rfl, ?_, z0 :: zs, g, hp⟩
                rw [ez, op_told hp9 ho66 e2]
                exact e3
          next => cases h
theorem l7_in {p0 p1 p2 : Nat × eV} {v : eV} {e : Int} {b : Option eB} {B' : eB} (h : b = some B') : (v, B', [p0, (1, shV p1.2 1), (2, shV p2.2 e)]) ∈ l7 p0 p1 p2 v e b := by
  subst h
  exact List.mem_singleton.mpr rfl
theorem ld7_ok (hB : gB ρ B) (hi : gN ρ i z) (g : gNs ρ P zs) (hp : PRD 3 n f (P.map Prod.fst) zs) {rs : List eLd} (h : ld7 B P i = some rs) : LdOk ρ B 3 n f z rs := by
  unfold ld7 at h
  split at h
  next p0 p1 p2 =>
    cases hb : (kys [p0, p1, p2] [0, 1, 2] && (isOff B i p1.2 0 && dLe B i p0.2 1)) with
    | false => rw [hb] at h; cases h
    | true =>
      rw [hb, cond_true] at h
      cases h
      simp only [Bool.and_eq_true] at hb
      obtain ⟨c1, c2, c3⟩ := hb
      have hk := kys_eq c1
      rw [hk] at hp
      match zs, g, hp with
      | [t6, k, d], g, hp =>
        obtain ⟨g0, g1, g2, -⟩ := g
        have d1 := isOff_ok hB hi g1 c2
        have d2 := dLe_ok hB hi g0 c3
        have ez : z = k := by omega
        subst ez
        obtain ⟨⟨e1, e2⟩, e3⟩ := sg_read hp d2
        have a1 := eLo_ok hB g2
        have a2 := eHi_ok hB g2
        have hks : ∀ (u w : eV), List.map Prod.fst [p0, (1, u), (2, w)] = [0, 1, 2] := fun u w => by
          have : p0.1 = 0 := (List.cons.inj hk).1
          show [p0.1, 1, 2] = [0, 1, 2]
          rw [this]
        refine ⟨⟨e2, by omega⟩, ?_⟩
        rcases e3 with ⟨q1, q2, q3⟩ | ⟨q1, q2, q3⟩ | ⟨q1, q2, q3⟩
        · obtain ⟨B', m1, m2⟩ := eRef_ok hB g2 (lo := eLo B p2.2) (hi := 63) a1 q2
          exact ⟨_, List.mem_append_left _ (l7_in m1), ρ, fun _ _ => rfl, m2, rfl, gN_iv q1 (i32_hi _), [t6, z + 1, d + 1], ⟨g0, shV_ok g1, shV_ok g2, trivial⟩, by rw [hks]; exact q3⟩
        · obtain ⟨B', m1, m2⟩ := eRef_ok hB g2 (lo := 1) (hi := eHi B p2.2) q2 a2
          refine ⟨_, List.mem_append_right _ (List.mem_append_left _ (l7_in m1)), ρ, fun _ _ => rfl, m2, rfl, ?_, [t6, z + 1, d + 0], ⟨g0, shV_ok g1, shV_ok g2, trivial⟩, by rw [hks, Int.add_zero]; exact q3⟩
          rw [q1]
          exact gN_I _
        · obtain ⟨B', m1, m2⟩ := eRef_ok hB g2 (lo := 2) (hi := eHi B p2.2) q2 a2
          exact ⟨_, List.mem_append_right _ (List.mem_append_right _ (l7_in m1)), ρ, fun _ _ => rfl, m2, rfl, gN_iv q1.1 q1.2, [t6, z + 1, d + -1], ⟨g0, shV_ok g1, shV_ok g2, trivial⟩, by rw [hks]; exact q3⟩
      | [], g, _ => exact g.elim
      | [_], g, _ => exact g.2.elim
      | [_, _], g, _ => exact g.2.2.elim
      | _ :: _ :: _ :: _ :: _, g, _ => exact g.2.2.2.elim
  next => cases h
theorem PR4_n {ks : List Nat} (h : PR4 n f ks zs) : n = 700 := by
  unfold PR4 at h
  split at h
  · exact h
  · exact h.1
  · exact h.elim
theorem ld8n_ok (hB : gB ρ B) (hF : tgF B.1.length B.2 = true) (ht : tgT B.1.length i.2.1 = true) (hi : gN ρ i z) (hin : 0 ≤ z ∧ z < n) (hn : n = 700) : LdOk ρ B 4 n f z (ld8n B i) :=
  ⟨hin, _, List.mem_singleton.mpr rfl, upN ρ B.1.length (f z.toNat).toInt, fun j hj => upN_lt hj, gB_add hB hF (i32_lo _) (i32_hi _), rfl, nwV_ok upN_at (i32_lo _) (i32_hi _), [z, (f z.toNat).toInt], ⟨gN_ag (fun j hj => upN_lt hj) ht hi, nwV_ok upN_at (i32_lo _) (i32_hi _), trivial⟩, ⟨hn, hin.1, rfl⟩⟩
theorem ld8_ok (hB : gB ρ B) (hF : tgF B.1.length B.2 = true) (hi : gN ρ i z) (g : gNs ρ P zs) (hp : PRD 4 n f (P.map Prod.fst) zs) {rs : List eLd} (h : ld8 B n P i = some rs) : LdOk ρ B 4 n f z rs := by
  unfold ld8 at h
  cases hb : (inI B i n && tgT B.1.length i.2.1) with
  | false => rw [hb] at h; cases h
  | true =>
    rw [hb, cond_true] at h
    rw [Bool.and_eq_true] at hb
    have hin := inI_ok hB hi hb.1
    have hn : n = 700 := PR4_n (f := f) hp
    split at h
    next p0 p1 =>
      cases hc : (kys [p0, p1] [0, 1] && isOff B i p0.2 0) with
      | false =>
        rw [hc, cond_false] at h
        cases h
        exact ld8n_ok hB hF hb.2 hi hin hn
      | true =>
        rw [hc, cond_true] at h
        cases h
        rw [Bool.and_eq_true] at hc
        have hp9 := hp
        rw [kys_eq hc.1] at hp9
        match zs, g, hp9, hp with
        | [i9, v], g, hp9, hp =>
          have d1 := isOff_ok hB hi g.1 hc.2
          have ez : z = i9 := by omega
          subst ez
          have e3 : (f z.toNat).toInt = v := hp9.2.2
          refine ⟨hin, _, List.mem_singleton.mpr rfl, ρ, fun _ _ => rfl, hB, rfl, ?_, [z, v], g, hp⟩
          rw [e3]
          exact g.2.1
        | [], g, _, _ => exact g.elim
        | [_], g, _, _ => exact g.2.elim
        | _ :: _ :: _ :: _, g, _, _ => exact g.2.2.elim
    next =>
      cases h
      exact ld8n_ok hB hF hb.2 hi hin hn
-- stores
def st5 (B : eB) (P : List (Nat × eV)) (i v : eV) : Option (eB × List (Nat × eV)) := match P with
  | [] => none
  | p :: r => bif Nat.beq p.1 1000 then (match offV B i p.2 with
      | some o => bif decide (0 ≤ o) && decide (o < 66) then some (B, p :: (o.toNat, v) :: r) else none
      | none => none)
    else (match r with
      | [q] => bif kys P [2000, 2001] && (isOff B i p.2 (-66) && isOff B v q.2 0) then some (B, [(2000, shV p.2 1)]) else none
      | _ => none)
def sg6 (B : eB) (v d : eV) : Option Int := bif decide (-7 ≤ eLo B v) && decide (eHi B d ≤ 63) then some 1 else bif iscV B v (-28) && decide (1 ≤ eLo B d) then some 0 else bif inbV B v (-27) (-20) && decide (2 ≤ eLo B d) then some (-1) else none
def st6 (B : eB) (P : List (Nat × eV)) (i v : eV) : Option (eB × List (Nat × eV)) := match P with
  | [p0, p1, p2, p3, p4] => bif kys P [0, 1, 2, 3, 4] && (isOff B i p1.2 700 && decide (eHi B p4.2 - eLo B p3.2 ≤ 699)) then (match sg6 B v p2.2, eRef B p1.2 (eLo B p1.2) (eHi B p4.2 - eLo B p3.2) with
    | some e, some B' => some (B', [p0, (1, shV p1.2 1), (2, shV p2.2 e), (3, shV p3.2 (-1)), p4])
    | _, _ => none) else none
  | _ => none
def StOk (ρ : Nat → Int) (k n : Nat) (f : Nat → Int32) (z : Int) (x : Int32) (q : eB × List (Nat × eV)) : Prop := (0 ≤ z ∧ z < n) ∧ gB ρ q.1 ∧ ∃ zs, gNs ρ q.2 zs ∧ PRD k n (upd f z.toNat x) (q.2.map Prod.fst) zs
theorem st5_ok (hB : gB ρ B) {v : eV} {x : Int32} (hi : gN ρ i z) (hv : gN ρ v x.toInt) (g : gNs ρ P zs) (hp : PRD 1 n f (P.map Prod.fst) zs) {q : eB × List (Nat × eV)} (h : st5 B P i v = some q) : StOk ρ 1 n f z x q := by
  unfold st5 at h
  split at h
  next => cases h
  next p r =>
    match zs, g, hp with
    | [], g, _ => exact g.elim
    | z0 :: zs, g, hp =>
      cases h1 : Nat.beq p.1 1000 with
      | true =>
        rw [h1, cond_true] at h
        split at h
        next o ho =>
          cases hb : (decide (0 ≤ o) && decide (o < 66)) with
          | false => rw [hb] at h; cases h
          | true =>
            rw [hb, cond_true] at h
            cases h
            simp only [Bool.and_eq_true, decide_eq_true_eq] at hb
            have hz := offV_ok hB hi g.1 ho
            obtain ⟨p0, p1⟩ := p
            have e0 := Nat.eq_of_beq_eq_true h1
            dsimp only at e0
            subst e0
            have hp9 : PRD 1 n f (1000 :: r.map Prod.fst) (z0 :: zs) := hp
            have hfr : 0 ≤ z0 ∧ z0.toNat + 66 ≤ n := by
              obtain ⟨-, b1, -, b2, -⟩ := hp9
              exact ⟨b1, b2⟩
            have ez : z.toNat = z0.toNat + o.toNat := by omega
            refine ⟨⟨by omega, by omega⟩, hB, z0 :: x.toInt :: zs, ⟨g.1, hv, g.2⟩, ?_⟩
            rw [ez]
            exact op_write hp9 (by omega)
        next => cases h
      | false =>
        rw [h1, cond_false] at h
        cases r with
        | nil => dsimp only at h; cases h
        | cons q9 r9 =>
         cases r9 with
         | cons _ _ => dsimp only at h; cases h
         | nil =>
          dsimp only at h
          cases hb : (kys [p, q9] [2000, 2001] && (isOff B i p.2 (-66) && isOff B v q9.2 0)) with
          | false => rw [hb] at h; cases h
          | true =>
            rw [hb, cond_true] at h
            cases h
            simp only [Bool.and_eq_true] at hb
            obtain ⟨c1, c2, c3⟩ := hb
            rw [kys_eq c1] at hp
            match zs, g, hp with
            | [y], g, hp =>
              have d1 := isOff_ok hB hi g.1 c2
              have d2 := isOff_ok hB hv g.2.1 c3
              have ey : y = x.toInt := by omega
              subst ey
              have hb9 : 66 ≤ z0 ∧ z0 < n := by
                obtain ⟨-, b1, b2, -⟩ := hp
                exact ⟨b1, b2⟩
              have ez : z.toNat = z0.toNat - 66 := by omega
              refine ⟨⟨by omega, by omega⟩, hB, [z0 + 1], ⟨shV_ok g.1, trivial⟩, ?_⟩
              rw [ez]
              exact mv_write hp
            | [], g, _ => exact g.2.elim
            | _ :: _ :: _, g, _ => exact g.2.2.elim
theorem sg6_ok (hB : gB ρ B) {v d : eV} {x : Int32} {y e : Int} (hv : gN ρ v x.toInt) (hd : gN ρ d y) (h : sg6 B v d = some e) : (-7 ≤ x.toInt ∧ y ≤ 63 ∧ e = 1) ∨ (x.toInt = -28 ∧ 1 ≤ y ∧ e = 0) ∨ ((-27 ≤ x.toInt ∧ x.toInt ≤ -20) ∧ 2 ≤ y ∧ e = -1) := by
  have a1 := eLo_ok hB hv
  have b1 := eLo_ok hB hd
  have b2 := eHi_ok hB hd
  unfold sg6 at h
  cases h1 : (decide (-7 ≤ eLo B v) && decide (eHi B d ≤ 63)) with
  | true =>
    rw [h1, cond_true] at h
    simp only [Bool.and_eq_true, decide_eq_true_eq] at h1
    exact Or.inl ⟨by omega, by omega, (Option.some.inj h).symm⟩
  | false =>
    rw [h1, cond_false] at h
    cases h2 : (iscV B v (-28) && decide (1 ≤ eLo B d)) with
    | true =>
      rw [h2, cond_true] at h
      simp only [Bool.and_eq_true, decide_eq_true_eq] at h2
      exact Or.inr (Or.inl ⟨iscV_ok hB hv h2.1, by omega, (Option.some.inj h).symm⟩)
    | false =>
      rw [h2, cond_false] at h
      cases h3 : (inbV B v (-27) (-20) && decide (2 ≤ eLo B d)) with
      | true =>
        rw [h3, cond_true] at h
        simp only [Bool.and_eq_true, decide_eq_true_eq] at h3
        exact Or.inr (Or.inr ⟨inbV_ok hB hv h3.1, by omega, (Option.some.inj h).symm⟩)
      | false => rw [h3] at h; cases h
theorem st6_ok (hB : gB ρ B) {v : eV} {x : Int32} (hi : gN ρ i z) (hv : gN ρ v x.toInt) (g : gNs ρ P zs) (hp : PRD 2 n f (P.map Prod.fst) zs) {q : eB × List (Nat × eV)} (h : st6 B P i v = some q) : StOk ρ 2 n f z x q := by
  unfold st6 at h
  split at h
  next p0 p1 p2 p3 p4 =>
    cases hb : (kys [p0, p1, p2, p3, p4] [0, 1, 2, 3, 4] && (isOff B i p1.2 700 && decide (eHi B p4.2 - eLo B p3.2 ≤ 699))) with
    | false => rw [hb] at h; cases h
    | true =>
      rw [hb, cond_true] at h
      simp only [Bool.and_eq_true, decide_eq_true_eq] at hb
      obtain ⟨c1, c2, c3⟩ := hb
      have hk := kys_eq c1
      rw [hk] at hp
      split at h
      next e B' he hr =>
        cases h
        match zs, g, hp with
        | [t6, t13, d, p, bg], g, hp =>
          obtain ⟨g0, g1, g2, g3, g4, -⟩ := g
          have d1 := isOff_ok hB hi g1 c2
          have d2 := sg6_ok hB hv g2 he
          have m1 := eHi_ok hB g4
          have m2 := eLo_ok hB g3
          have m3 := eLo_ok hB g1
          have h13 : 0 ≤ t13 := hp.2.2.1
          obtain ⟨⟨e1, e2⟩, e3⟩ := sg_lay hp (by omega) d2
          obtain ⟨B9, k1, k2⟩ := eRef_ok hB g1 (lo := eLo B p1.2) (hi := eHi B p4.2 - eLo B p3.2) m3 (by omega)
          rw [hr] at k1
          cases k1
          have ez : z.toNat = 700 + t13.toNat := by omega
          have hks : List.map Prod.fst [p0, (1, shV p1.2 1), (2, shV p2.2 e), (3, shV p3.2 (-1)), p4] = [0, 1, 2, 3, 4] := by
            have f0 : p0.1 = 0 := (List.cons.inj hk).1
            have f4 : p4.1 = 4 := (List.cons.inj (List.cons.inj (List.cons.inj (List.cons.inj (List.cons.inj hk).2).2).2).2).1
            show [p0.1, 1, 2, 3, p4.1] = [0, 1, 2, 3, 4]
            rw [f0, f4]
          refine ⟨⟨by omega, by omega⟩, k2, [t6, t13 + 1, d + e, p + -1, bg], ⟨g0, shV_ok g1, shV_ok g2, shV_ok g3, g4, trivial⟩, ?_⟩
          rw [hks, ez]
          exact e3
        | [], g, _ => exact g.elim
        | [_], g, _ => exact g.2.elim
        | [_, _], g, _ => exact g.2.2.elim
        | [_, _, _], g, _ => exact g.2.2.2.elim
        | [_, _, _, _], g, _ => exact g.2.2.2.2.elim
        | _ :: _ :: _ :: _ :: _ :: _ :: _, g, _ => exact g.2.2.2.2.2.elim
      next => cases h
  next => cases h
end E16S
def spld (B : eB) (k n : Nat) (P : List (Nat × eV)) (i : eV) : Option (List eLd) := match k with
  | 5 => ld5 B n P i
  | 7 => ld7 B P i
  | 8 => ld8 B n P i
  | _ => none
def spst (B : eB) (k : Nat) (P : List (Nat × eV)) (i v : eV) : Option (eB × List (Nat × eV)) := match k with
  | 5 => st5 B P i v
  | 6 => st6 B P i v
  | _ => none
/-- the array that stands second is one that a predicate tells of -/
def spA (hp : eH) (st : List eV) : Bool := match st with
  | _ :: a :: _ => bif Nat.beq a.1 2 then (match eGet hp a.2.1 with
    | some (.inr v) => Nat.ble 5 v.1
    | _ => false) else false
  | _ => false
def spL (S : eS) : Bool := match S.2.2.1 with
  | a :: _ => Nat.beq a.1 5 && Nat.beq a.2.1 59
  | _ => false
def x_spl (N0 : Nat) (S : eS) : eR := match S.2.2.1 with
  | i :: a :: r => bif Nat.beq i.1 0 && (Nat.beq a.1 2 && nmC N0 S r) then (match eGet S.2.2.2.2.1 a.2.1 with
    | some (.inr v) => (match spld S.2.2.2.1 v.1 v.2.1 v.2.2.2 i with
      | some rs => some (rs.map (fun q => ((0, (S.1 + 1, S.2.1, q.1 :: r, q.2.1, eSet S.2.2.2.2.1 a.2.1 (.inr (v.1, v.2.1, v.2.2.1, q.2.2)), S.2.2.2.2.2)) : Nat × eS)))
      | none => none)
    | _ => none) else none
  | _ => none
def x_sps (S : eS) : eR := match S.2.2.1 with
  | v :: i :: a :: r => bif Nat.beq v.1 0 && (Nat.beq i.1 0 && Nat.beq a.1 2) then (match eGet S.2.2.2.2.1 a.2.1 with
    | some (.inr y) => (match spst S.2.2.2.1 y.1 y.2.2.2 i v with
      | some q => eNx (S.1 + 1, S.2.1, r, q.1, eSet S.2.2.2.2.1 a.2.1 (.inr (y.1, y.2.1, y.2.2.1, q.2)), S.2.2.2.2.2)
      | none => none)
    | _ => none) else none
  | _ => none
def x_aal (S : eS) : eR := match S.2.2.1 with
  | i :: a :: r => bif Nat.beq i.1 0 && ((Nat.beq a.1 5 && Nat.beq a.2.1 59) && (decide (0 ≤ eLo S.2.2.2.1 i) && (decide (eLo S.2.2.2.1 i = eHi S.2.2.2.1 i) && decide (eHi S.2.2.2.1 i < 7)))) then eNx (S.1 + 1, S.2.1, (5, 2 * (15 + (eLo S.2.2.2.1 i).toNat) + 1, 0, 0) :: r, S.2.2.2) else none
  | _ => none
def x_vle (S : eS) : eR := match S.2.2.1 with
  | a :: r => bif Nat.beq a.1 5 && Nat.beq a.2.1 59 then eNx (S.1 + 1, S.2.1, eI 7 :: r, S.2.2.2) else none
  | _ => none
section E16T
variable {p : Program} {l : Launch} {e : Env} {R : Room} {s : State} {m : MethodId} {args : Array Value} {below : List Frame} {meth : Method} {c : Code} {Q : State → Prop}
variable {D : va_G} {cl : List vw_C} {cA : Nat → ClassId} {A : Nat → Prop} {sb : eSB} {ρ : Nat → Int} {ad0 : Nat → Nat} {h0 nL : Nat} {cc : ByteArray} {own : String} {Ts : List Cond}
variable {strs : List (String × Nat × String)}
theorem gH_at {ρ2 : Nat → Int} {ad : Nat → Nat} {h : eH} {ws : va_W} {k : Nat} {c c' : eC} {x : va_E} (hc : h[k]? = some c) (hw : ws[k]? = some (ad k, x)) (gl : ws.length = h.length) (gs : ∀ (j : Nat) (d : eC), h[j]? = some d → ∃ y : va_E, ws[j]? = some (ad j, y) ∧ gC ρ2 ad sb cA d y) (gx : gC ρ2 ad sb cA c' x) : gH ρ2 ad sb cA (h.set k c') ws := by
  refine ⟨by rw [List.length_set]; exact gl, fun j d hj => ?_⟩
  by_cases hjk : k = j
  · subst hjk
    rw [List.getElem?_set_self (List.getElem?_eq_some_iff.mp hc).1] at hj
    have := Option.some.inj hj
    subst this
    exact ⟨x, hw, gx⟩
  · rw [List.getElem?_set_ne hjk] at hj
    exact gs j d hj
theorem k_spl (K : eK p m c s args cc own nL Ts D cl cA A) {N0 : Nat} {S : eS} (hd : decode cc S.1 = .ok (.iaload, 1)) {rs : List (Nat × eS)} (h : x_spl N0 S = some rs) (hr : ∀ r ∈ rs, ∀ ρ2 : Nat → Int, (∀ i, i < N0 → ρ2 i = ρ i) → eLf p l e R s m args below meth c Q D cl cA A sb ρ2 ad0 h0 nL r) : eW p l e R s m args below meth c Q D cl cA A sb ρ ad0 h0 nL S := by
  obtain ⟨hx, hb, hml, hown, hts, hK, hA⟩ := K
  obtain ⟨pc, lo, st, B, hp, Z⟩ := S
  unfold x_spl at h
  split at h
  next i a r hst =>
    dsimp only at hst
    subst hst
    cases hb9 : (Nat.beq i.1 0 && (Nat.beq a.1 2 && nmC N0 (pc, lo, i :: a :: r, B, hp, Z) r)) with
    | false => rw [hb9] at h; cases h
    | true =>
      rw [hb9, cond_true] at h
      simp only [Bool.and_eq_true] at hb9
      obtain ⟨c1, c2, hc⟩ := hb9
      unfold nmC at hc
      simp only [Bool.and_eq_true] at hc
      obtain ⟨d1, d2, d3, d4, d5⟩ := hc
      have d1 := Nat.le_of_ble_eq_true d1
      split at h
      next v hv =>
        split at h
        next ls9 hls =>
          cases h
          obtain ⟨i0, i1, i2, i3⟩ := i
          obtain ⟨a0, a1, a2, a3⟩ := a
          have e0 := Nat.eq_of_beq_eq_true c1
          have e1 := Nat.eq_of_beq_eq_true c2
          clear c1 c2
          dsimp only at e0 e1 hv d1 d2 d3 d4 d5 hls
          subst e0
          subst e1
          intro ad ls lc vs ws H locs g1 g2 g3 g4 g5 g6 g7 g8 g9
          match vs, g4 with
          | u :: w :: vs, g4 =>
            obtain ⟨⟨x, rfl, hx9⟩, hw, g4⟩ := g4
            have hw : w = .ref (ad a1) := hw
            subst hw
            have hv9 : hp[a1]? = some (.inr v) := by rw [← eGet_eq]; exact hv
            obtain ⟨y, hy1, hy2⟩ := g5.2 a1 _ hv9
            have htg := List.all_eq_true.mp d4 _ (List.mem_of_getElem? hv9)
            obtain ⟨v0, n, d, P⟩ := v
            dsimp only at hls
            have htg2 : (tgT B.1.length d.2.1 && P.all (fun p => tgT B.1.length p.2.2.1)) = true := htg
            rw [Bool.and_eq_true] at htg2
            dsimp only at g1 g2 g3 g4 g5
            have hL : ∃ (k : Nat) (f : Nat → Int32), v0 = k + 4 ∧ aK k = 0 ∧ y = .inl (cA 0, n, .inl f) ∧ LdOk ρ B k n f x.toInt ls9 := by
              unfold spld at hls
              split at hls
              · obtain ⟨f, zs, q1, q2, q3⟩ := hy2
                exact ⟨1, f, rfl, rfl, q1, ld5_ok g2 d5 htg2.2 hx9 q2 q3 hls⟩
              · obtain ⟨f, zs, q1, q2, q3⟩ := hy2
                exact ⟨3, f, rfl, rfl, q1, ld7_ok g2 hx9 q2 q3 hls⟩
              · obtain ⟨f, zs, q1, q2, q3⟩ := hy2
                exact ⟨4, f, rfl, rfl, q1, ld8_ok g2 d5 hx9 q2 q3 hls⟩
              · cases hls
            obtain ⟨k, f, ek, ea, ey, hin, q, hq, ρ2, hag, k1, k2, k3, zs2, k4, k5⟩ := hL
            subst ek
            subst ey
            obtain ⟨z1, z2, z3⟩ := vp_in_int (x := x) (n := n) hin.1 hin.2
            have ez : x.toNatClampNeg = x.toInt.toNat := rfl
            have hR := hr _ (List.mem_map.mpr ⟨q, hq, rfl⟩) ρ2 (fun j hj => hag j (by omega))
            refine va_iald hx hb hK g6 a1 0 hy1 rfl z1 hd (hR ad ls lc (.int (f x.toNatClampNeg) :: vs) ws H locs ?_ k1 (gL_ag hag d2 g3) ⟨?_, gS_ag hag d3 g4⟩ ?_ g6 g7 g8 g9)
            · dsimp only
              rw [eSet_eq, List.length_set]
              exact g1
            · rw [ez]
              obtain ⟨⟨q0, q1⟩, q2⟩ := q
              dsimp only at k2 k3
              subst k2
              exact ⟨_, rfl, k3⟩
            · dsimp only
              rw [eSet_eq]
              exact gH_at hv9 hy1 g5.1 (fun j d9 hj => by
                obtain ⟨x9, m1, m2⟩ := g5.2 j d9 hj
                exact ⟨x9, m1, gC_ag hag (List.all_eq_true.mp d4 d9 (List.mem_of_getElem? hj)) m2⟩) ⟨f, zs2, by rw [ea], k4, k5⟩
          | [_], g4 => exact g4.2.elim
          | [], g4 => exact g4.elim
        next => cases h
      next => cases h
  next => cases h
theorem k_sps (K : eK p m c s args cc own nL Ts D cl cA A) {S : eS} (hd : decode cc S.1 = .ok (.iastore, 1)) {rs : List (Nat × eS)} (h : x_sps S = some rs) (hr : ∀ r ∈ rs, eLf p l e R s m args below meth c Q D cl cA A sb ρ ad0 h0 nL r) : eW p l e R s m args below meth c Q D cl cA A sb ρ ad0 h0 nL S := by
  obtain ⟨hx, hb, hml, hown, hts, hK, hA⟩ := K
  obtain ⟨pc, lo, st, B, hp, Z⟩ := S
  unfold x_sps at h
  split at h
  next v i a r hst =>
    dsimp only at hst
    subst hst
    cases hb9 : (Nat.beq v.1 0 && (Nat.beq i.1 0 && Nat.beq a.1 2)) with
    | false => rw [hb9] at h; cases h
    | true =>
      rw [hb9, cond_true] at h
      simp only [Bool.and_eq_true] at hb9
      obtain ⟨c0, c1, c2⟩ := hb9
      split at h
      next y9 hv =>
        split at h
        next q hls =>
          have hn := eNx_ok (S := (pc, lo, v :: i :: a :: r, B, hp, Z)) h hr
          obtain ⟨v0, v1, v2, v3⟩ := v
          obtain ⟨i0, i1, i2, i3⟩ := i
          obtain ⟨a0, a1, a2, a3⟩ := a
          replace c0 := Nat.eq_of_beq_eq_true c0
          replace c1 := Nat.eq_of_beq_eq_true c1
          replace c2 := Nat.eq_of_beq_eq_true c2
          dsimp only at c0 c1 c2 hv hls
          subst c0
          subst c1
          subst c2
          intro ad ls lc vs ws H locs g1 g2 g3 g4 g5 g6 g7 g8 g9
          match vs, g4 with
          | o :: u :: w :: vs, g4 =>
            obtain ⟨⟨x, rfl, hx8⟩, ⟨i9, rfl, hx9⟩, hw, g4⟩ := g4
            have hw : w = .ref (ad a1) := hw
            subst hw
            have hv9 : hp[a1]? = some (.inr y9) := by rw [← eGet_eq]; exact hv
            obtain ⟨y, hy1, hy2⟩ := g5.2 a1 _ hv9
            obtain ⟨k0, n, d, P⟩ := y9
            dsimp only at hls hn
            have hL : ∃ (k : Nat) (f : Nat → Int32), k0 = k + 4 ∧ aK k = 0 ∧ y = .inl (cA 0, n, .inl f) ∧ StOk ρ k n f i9.toInt x q := by
              unfold spst at hls
              split at hls
              · obtain ⟨f, zs, q1, q2, q3⟩ := hy2
                exact ⟨1, f, rfl, rfl, q1, st5_ok g2 hx9 hx8 q2 q3 hls⟩
              · obtain ⟨f, zs, q1, q2, q3⟩ := hy2
                exact ⟨2, f, rfl, rfl, q1, st6_ok g2 hx9 hx8 q2 q3 hls⟩
              · cases hls
            obtain ⟨k, f, ek, ea, ey, hin, k1, zs2, k4, k5⟩ := hL
            subst ek
            subst ey
            obtain ⟨z1, z2, z3⟩ := vp_in_int (x := i9) (n := n) hin.1 hin.2
            have ez : i9.toNatClampNeg = i9.toInt.toNat := rfl
            refine va_iast hx hb hK g6 g7 g8 a1 0 hy1 rfl z1 hd (fun H1 locs1 q1 q2 q3 => hn ad ls lc vs _ H1 locs1 ?_ k1 g3 g4 ?_ q1 q2 q3 g9)
            · dsimp only
              rw [eSet_eq, List.length_set]
              exact g1
            · dsimp only
              rw [eSet_eq]
              exact gH_set g5 ⟨_, zs2, by rw [ea]; rfl, k4, k5⟩
          | [_, _], g4 => exact g4.2.2.elim
          | [_], g4 => exact g4.2.elim
          | [], g4 => exact g4.elim
        next => cases h
      next => cases h
  next => cases h
theorem k_aal (K : eK p m c s args cc own nL Ts D cl cA A) (hZ : eZ strs sb A s s.heap) (hv : sb.1 60 = 1) {S : eS} (hd : decode cc S.1 = .ok (.aaload, 1)) {rs : List (Nat × eS)} (h : x_aal S = some rs) (hr : ∀ r ∈ rs, eLf p l e R s m args below meth c Q D cl cA A sb ρ ad0 h0 nL r) : eW p l e R s m args below meth c Q D cl cA A sb ρ ad0 h0 nL S := by
  obtain ⟨hx, hb, hml, hown, hts, hK, hA⟩ := K
  obtain ⟨-, -, ⟨-, -, -, -, s4⟩, -⟩ := hZ
  have k5 := s4 hv
  obtain ⟨pc, lo, st, B, hp, Z⟩ := S
  unfold x_aal at h
  split at h
  next i a r hst =>
    dsimp only at hst
    subst hst
    cases hb9 : (Nat.beq i.1 0 && ((Nat.beq a.1 5 && Nat.beq a.2.1 59) && (decide (0 ≤ eLo B i) && (decide (eLo B i = eHi B i) && decide (eHi B i < 7))))) with
    | false => dsimp only at h; rw [hb9] at h; cases h
    | true =>
      dsimp only at h
      rw [hb9, cond_true] at h
      have hn := eNx_ok (S := (pc, lo, i :: a :: r, B, hp, Z)) h hr
      simp only [Bool.and_eq_true, decide_eq_true_eq] at hb9
      obtain ⟨c0, ⟨c1, c2⟩, c3, c4, c5⟩ := hb9
      replace c0 := Nat.eq_of_beq_eq_true c0
      replace c1 := Nat.eq_of_beq_eq_true c1
      replace c2 := Nat.eq_of_beq_eq_true c2
      obtain ⟨i0, i1, i2, i3⟩ := i
      obtain ⟨a0, a1, a2, a3⟩ := a
      dsimp only at c0 c1 c2 hn
      subst c0
      subst c1
      subst c2
      intro ad ls lc vs ws H locs g1 g2 g3 g4 g5 g6 g7 g8 g9
      match vs, g4 with
      | u :: w :: vs, g4 =>
        obtain ⟨⟨x, rfl, hx9⟩, hw9, g4⟩ := g4
        have hw9 : w = .ref (sb.1 59) := hw9
        subst hw9
        have u1 := eLo_ok g2 hx9
        have u2 := eHi_ok g2 hx9
        dsimp only at u1 u2
        obtain ⟨z1, z2, z3⟩ := vp_in_int (x := x) (n := 7) (by omega) (by omega)
        refine vb_tq hx hb k5 g8 z1 rfl hd (hn ad ls lc (.ref (sb.1 (2 * (15 + x.toNatClampNeg) + 1)) :: vs) ws H locs g1 g2 g3 ⟨?_, g4⟩ g5 g6 g7 g8 g9)
        have ex : x.toNatClampNeg = (eLo B (0, i1, i2, i3)).toNat := by omega
        rw [← ex]
        rfl
      | [_], g4 => exact g4.2.elim
      | [], g4 => exact g4.elim
  next => cases h
theorem k_vle (K : eK p m c s args cc own nL Ts D cl cA A) (hZ : eZ strs sb A s s.heap) (hv : sb.1 60 = 1) {S : eS} (hd : decode cc S.1 = .ok (.arraylength, 1)) {rs : List (Nat × eS)} (h : x_vle S = some rs) (hr : ∀ r ∈ rs, eLf p l e R s m args below meth c Q D cl cA A sb ρ ad0 h0 nL r) : eW p l e R s m args below meth c Q D cl cA A sb ρ ad0 h0 nL S := by
  obtain ⟨hx, hb, hml, hown, hts, hK, hA⟩ := K
  obtain ⟨-, -, ⟨-, -, -, -, s4⟩, -⟩ := hZ
  have k5 := s4 hv
  obtain ⟨pc, lo, st, B, hp, Z⟩ := S
  unfold x_vle at h
  split at h
  next a r hst =>
    dsimp only at hst
    subst hst
    cases hb9 : (Nat.beq a.1 5 && Nat.beq a.2.1 59) with
    | false => dsimp only at h; rw [hb9] at h; cases h
    | true =>
      dsimp only at h
      rw [hb9, cond_true] at h
      have hn := eNx_ok (S := (pc, lo, a :: r, B, hp, Z)) h hr
      rw [Bool.and_eq_true] at hb9
      obtain ⟨c1, c2⟩ := hb9
      replace c1 := Nat.eq_of_beq_eq_true c1
      replace c2 := Nat.eq_of_beq_eq_true c2
      obtain ⟨a0, a1, a2, a3⟩ := a
      dsimp only at c1 c2 hn
      subst c1
      subst c2
      intro ad ls lc vs ws H locs g1 g2 g3 g4 g5 g6 g7 g8 g9
      match vs, g4 with
      | w :: vs, g4 =>
        obtain ⟨hw9, g4⟩ := g4
        have hw9 : w = .ref (sb.1 59) := hw9
        subst hw9
        exact va_tlen hx hb k5 g8 (v := 7) rfl hd (hn ad ls lc (.int 7 :: vs) ws H locs g1 g2 g3 ⟨gV_int (gN_I 7), g4⟩ g5 g6 g7 g8 g9)
      | [], g4 => exact g4.elim
  next => cases h
end E16T
