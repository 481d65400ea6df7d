/-! ===== THE ENGINE, 17y: a step; a number split; a result's name ===== -/
/-- a step, or a number split into its values -/
def spF : List (Nat × Nat) → Nat → Option Nat
  | [], _ => none
  | u :: r, pc => bif Nat.beq u.1 pc then some u.2 else spF r pc
/-- what is split: a local, or (from 1000 on) a name -/
def spV (S : eS) (i : Nat) : Option eV := bif Nat.ble 1000 i then (match eGet S.2.2.2.1.1 (i - 1000) with
  | some p => some (0, (i - 1000) * 8192 + 4097, p.1, p.2)
  | none => none) else eFind S.2.1 i
/-- a number split in two: no more than c, more than c -/
def sp2 (S : eS) (a : eV) (c : Int) : List (Nat × eS) := ((match eRef S.2.2.2.1 a (eLo S.2.2.2.1 a) c with
  | some B' => [(0, (S.1, S.2.1, S.2.2.1, B', S.2.2.2.2))]
  | none => []) ++ (match eRef S.2.2.2.1 a (c + 1) (eHi S.2.2.2.1 a) with
  | some B' => [(0, (S.1, S.2.1, S.2.2.1, B', S.2.2.2.2))]
  | none => []) : List (Nat × eS))
def exS0 (sp : List (Nat × Nat)) (ch : Nat → Option (List eCd)) (cal : eCal) (mt : Nat → eM) (np ciM : Nat → Nat) (dfs : Nat → List eV) (nL cm sm N0 : Nat) (sc : Option (Nat × Nat)) (hn : Nat → Nat → Option Nat) (q : eQ) (S : eS) : eR := match spF sp S.1 with
  | none => exE ch cal mt np ciM dfs nL cm sm N0 sc hn q S
  | some i => (match spV S (i % 1000000) with
    | none => exE ch cal mt np ciM dfs nL cm sm N0 sc hn q S
    | some a => bif Nat.beq a.1 0 && (bif Nat.ble 1000000 i then decide (eLo S.2.2.2.1 a ≤ ((i / 1000000 : Nat) : Int) - 1) && decide (((i / 1000000 : Nat) : Int) - 1 < eHi S.2.2.2.1 a) else decide (0 ≤ eLo S.2.2.2.1 a) && (decide (eLo S.2.2.2.1 a < eHi S.2.2.2.1 a) && decide (eHi S.2.2.2.1 a ≤ 2000))) then
        (bif Nat.ble 1000000 i then some (sp2 S a (((i / 1000000 : Nat) : Int) - 1)) else some (ixs S.2.2.2.1 a (fun _ B' => (0, (S.1, S.2.1, S.2.2.1, B', S.2.2.2.2))) (eHi S.2.2.2.1 a - eLo S.2.2.2.1 a + 1).toNat (eLo S.2.2.2.1 a).toNat)) else exE ch cal mt np ciM dfs nL cm sm N0 sc hn q S)
section E18S
variable {p : Program} {l : Launch} {e : Env} {R : Room} {s : State} {m : MethodId} {args : Array Value} {below : List Frame} {meth : Method} {c : Code} {Q : State → Prop}
variable {D : va_G} {cl : List vw_C} {cA : Nat → ClassId} {A : Nat → Prop} {sb : eSB} {ρ : Nat → Int} {ad0 : Nat → Nat} {h0 nL : Nat}
variable {cal : eCal} {mt : Nat → eM} {np ciM : Nat → Nat} {dfs : Nat → List eV} {cm sm N0 : Nat} {sc : Option (Nat × Nat)} {hn : Nat → Nat → Option Nat} {ch : Nat → Option (List eCd)}
theorem exS0_ok {sp : List (Nat × Nat)} {S : eS} {q : eQ} {rs : List (Nat × eS)} (h : exS0 sp ch cal mt np ciM dfs nL cm sm N0 sc hn q S = some rs) (hr : ∀ r ∈ rs, ∀ ρ2 : Nat → Int, (∀ i, i < N0 → ρ2 i = ρ i) → eLf p l e R s m args below meth c Q D cl cA A sb ρ2 ad0 h0 nL r)
    (go : exE ch cal mt np ciM dfs nL cm sm N0 sc hn q S = some rs → eW p l e R s m args below meth c Q D cl cA A sb ρ ad0 h0 nL S) : eW p l e R s m args below meth c Q D cl cA A sb ρ ad0 h0 nL S := by
  unfold exS0 at h
  split at h
  next => exact go h
  next i _ =>
    split at h
    next => exact go h
    next a ha =>
      cases hb : (Nat.beq a.1 0 && (bif Nat.ble 1000000 i then decide (eLo S.2.2.2.1 a ≤ ((i / 1000000 : Nat) : Int) - 1) && decide (((i / 1000000 : Nat) : Int) - 1 < eHi S.2.2.2.1 a) else decide (0 ≤ eLo S.2.2.2.1 a) && (decide (eLo S.2.2.2.1 a < eHi S.2.2.2.1 a) && decide (eHi S.2.2.2.1 a ≤ 2000)))) with
      | false => rw [hb, cond_false] at h; exact go h
      | true =>
        rw [hb, cond_true] at h
        rw [Bool.and_eq_true] at hb
        obtain ⟨c1, hb⟩ := hb
        intro ad ls lc vs ws H locs g1 g2 g3 g4 g5 g6 g7 g8 g9
        have gx9 : ∃ z : Int, gN ρ a z := by
          unfold spV at ha
          cases hi9 : Nat.ble 1000 (i % 1000000) with
          | true =>
            rw [hi9, cond_true] at ha
            split at ha
            next p9 hp9 =>
              cases ha
              exact ⟨_, gN_at g2 hp9⟩
            next => cases ha
          | false =>
            rw [hi9, cond_false] at ha
            obtain ⟨k, v, q1, q2⟩ := gL_find g3 ha
            obtain ⟨x, rfl, gx⟩ := gV_int_of q2 (Nat.eq_of_beq_eq_true c1)
            exact ⟨_, gx⟩
        obtain ⟨z, gx⟩ := gx9
        have u1 := eLo_ok g2 gx
        have u2 := eHi_ok g2 gx
        cases hi : Nat.ble 1000000 i with
        | true =>
          rw [hi, cond_true] at h
          have h9 := Option.some.inj h
          by_cases hz : z ≤ ((i / 1000000 : Nat) : Int) - 1
          · obtain ⟨B', e1, e2⟩ := eRef_ok g2 gx u1 hz
            refine hr (0, (S.1, S.2.1, S.2.2.1, B', S.2.2.2.2)) ?_ ρ (fun _ _ => rfl) ad ls lc vs ws H locs g1 e2 g3 g4 g5 g6 g7 g8 g9
            rw [← h9]
            unfold sp2
            rw [e1]
            exact List.mem_append_left _ (List.mem_singleton.mpr rfl)
          · obtain ⟨B', e1, e2⟩ := eRef_ok g2 gx (lo := ((i / 1000000 : Nat) : Int) - 1 + 1) (by omega) u2
            refine hr (0, (S.1, S.2.1, S.2.2.1, B', S.2.2.2.2)) ?_ ρ (fun _ _ => rfl) ad ls lc vs ws H locs g1 e2 g3 g4 g5 g6 g7 g8 g9
            rw [← h9]
            unfold sp2
            rw [e1]
            exact List.mem_append_right _ (List.mem_singleton.mpr rfl)
        | false =>
          rw [hi, cond_false] at h hb
          simp only [Bool.and_eq_true, decide_eq_true_eq] at hb
          obtain ⟨c2, c3, c4⟩ := hb
          obtain ⟨B', e1, e2⟩ := ixs_ok g2 gx (fun _ B' => ((0, (S.1, S.2.1, S.2.2.1, B', S.2.2.2.2)) : Nat × eS)) (eHi S.2.2.2.1 a - eLo S.2.2.2.1 a + 1).toNat (eLo S.2.2.2.1 a).toNat z.toNat (by omega) (by omega) (by omega)
          have h9 := Option.some.inj h
          rw [h9] at e1
          exact hr _ e1 ρ (fun _ _ => rfl) ad ls lc vs ws H locs g1 e2 g3 g4 g5 g6 g7 g8 g9
/-- at the places that sp names by 999999 an operation's result gets a name -/
def isGh (sp : List (Nat × Nat)) (pc : Nat) : Bool := match spF sp pc with
  | some i => Nat.beq i 999999
  | none => false
def exS (sp : List (Nat × Nat)) (ch : Nat → Option (List eCd)) (cal : eCal) (mt : Nat → eM) (np ciM : Nat → Nat) (dfs : Nat → List eV) (nL cm sm N0 : Nat) (sc : Option (Nat × Nat)) (hn : Nat → Nat → Option Nat) (q : eQ) (S : eS) : eR := bif isGh sp S.1 then (match ghS N0 q S with
  | some S' => some [(0, S')]
  | none => exE ch cal mt np ciM dfs nL cm sm N0 sc hn q S) else exS0 sp ch cal mt np ciM dfs nL cm sm N0 sc hn q S
theorem exS_ok {sp : List (Nat × Nat)} {S : eS} {q : eQ} {rs : List (Nat × eS)} (h : exS sp ch cal mt np ciM dfs nL cm sm N0 sc hn q S = some rs) (hr : ∀ r ∈ rs, ∀ ρ2 : Nat → Int, (∀ i, i < N0 → ρ2 i = ρ i) → eLf p l e R s m args below meth c Q D cl cA A sb ρ2 ad0 h0 nL r)
    (go : exE ch cal mt np ciM dfs nL cm sm N0 sc hn q S = some rs → eW p l e R s m args below meth c Q D cl cA A sb ρ ad0 h0 nL S) : eW p l e R s m args below meth c Q D cl cA A sb ρ ad0 h0 nL S := by
  unfold exS at h
  cases hb : isGh sp S.1 with
  | false => rw [hb, cond_false] at h; exact exS0_ok h hr go
  | true =>
    rw [hb, cond_true] at h
    split at h
    next S' hs =>
      cases h
      exact ghS_ok hs (fun ρ2 hag => hr (0, S') (List.mem_singleton.mpr rfl) ρ2 hag)
    next => exact go h
end E18S
