/-! ===== THE LAW, 2: its steps, whatever was made before ===== -/
def shZ (u v : Nat) (S : eS) : eS := (S.1, S.2.1, S.2.2.1, S.2.2.2.1, S.2.2.2.2.1, S.2.2.2.2.2.1 + u, S.2.2.2.2.2.2 + v)
def shR (u v : Nat) (r : Nat × eS) : Nat × eS := (r.1, shZ u v r.2)
abbrev Shf (u v : Nat) (f : eS → eR) : Prop := ∀ (S : eS) (rs : List (Nat × eS)), f S = some rs → f (shZ u v S) = some (rs.map (shR u v))
section SHF
variable {u v : Nat}
theorem sh_ld (k i len : Nat) : Shf u v (x_ld k i len) := fun S rs h => by
  obtain ⟨pc, lo, st, B, hp, c, z⟩ := S
  unfold x_ld at h ⊢
  dsimp only [shZ] at h ⊢
  cases hf : eFind lo i with
  | none => rw [hf] at h; cases h
  | some a =>
    rw [hf] at h
    dsimp only at h ⊢
    cases hb : Nat.beq a.1 k with
    | false => rw [hb] at h; cases h
    | true => rw [hb, cond_true] at h; cases h; rfl
theorem sh_ald (i len : Nat) : Shf u v (x_ald i len) := fun S rs h => by
  obtain ⟨pc, lo, st, B, hp, c, z⟩ := S
  unfold x_ald at h ⊢
  dsimp only [shZ] at h ⊢
  cases hf : eFind lo i with
  | none => rw [hf] at h; cases h
  | some a =>
    rw [hf] at h
    dsimp only at h ⊢
    cases hb : eIsR a with
    | false => rw [hb] at h; cases h
    | true => rw [hb, cond_true] at h; cases h; rfl
theorem sh_k (a : eV) (len : Nat) : Shf u v (x_k a len) := fun S rs h => by
  unfold x_k at h ⊢
  cases h
  rfl
theorem sh_st (k i len nL : Nat) : Shf u v (x_st k i len nL) := fun S rs h => by
  obtain ⟨pc, lo, st, B, hp, c, z⟩ := S
  unfold x_st at h ⊢
  dsimp only [shZ] at h ⊢
  cases st with
  | nil => cases h
  | cons a r =>
    dsimp only at h ⊢
    cases hb : (Nat.beq a.1 k && Nat.blt i nL) with
    | false => rw [hb] at h; cases h
    | true => rw [hb, cond_true] at h; cases h; rfl
theorem sh_pop : Shf u v x_pop := fun S rs h => by
  obtain ⟨pc, lo, st, B, hp, c, z⟩ := S
  unfold x_pop at h ⊢
  dsimp only [shZ] at h ⊢
  cases st with
  | nil => cases h
  | cons a r =>
    dsimp only at h ⊢
    cases hb : Nat.beq a.1 1 with
    | true => rw [hb] at h; cases h
    | false => rw [hb, cond_false] at h; cases h; rfl
theorem sh_inc (i : Nat) (n : Int) (nL : Nat) : Shf u v (x_inc i n nL) := fun S rs h => by
  obtain ⟨pc, lo, st, B, hp, c, z⟩ := S
  unfold x_inc at h ⊢
  dsimp only [shZ] at h ⊢
  cases hf : eFind lo i with
  | none => rw [hf] at h; cases h
  | some a =>
    rw [hf] at h
    dsimp only at h ⊢
    cases hb : (Nat.beq a.1 0 && Nat.blt i nL) with
    | false => rw [hb] at h; cases h
    | true => rw [hb, cond_true] at h; cases h; rfl
theorem sh_bin (f : Int32 → Int32 → Int32) (k : Nat) : Shf u v (x_bin f k) := fun S rs h => by
  obtain ⟨pc, lo, st, B, hp, c, z⟩ := S
  unfold x_bin at h ⊢
  dsimp only [shZ] at h ⊢
  match st, h with
  | [], h => cases h
  | [_], h => cases h
  | b :: a :: r, h =>
    dsimp only at h ⊢
    cases hb : (Nat.beq b.1 0 && Nat.beq a.1 0) with
    | false => rw [hb] at h; cases h
    | true => rw [hb, cond_true] at h; cases h; rfl
theorem sh_goto (off : Int) : Shf u v (x_goto off) := fun S rs h => by
  obtain ⟨pc, lo, st, B, hp, c, z⟩ := S
  unfold x_goto at h ⊢
  dsimp only [shZ] at h ⊢
  cases hf : eTg pc off with
  | none => rw [hf] at h; cases h
  | some a => rw [hf] at h; cases h; rfl
theorem eBr_sh {pc : Nat} {lo : eL} {r : List eV} {hp : eH} {c z : Nat} {Bs : List eB} : (eBr pc lo r (hp, c, z) Bs).map (shR u v) = eBr pc lo r (hp, c + u, z + v) Bs := by
  unfold eBr
  rw [List.map_map]
  rfl
theorem sh_icmp (k : Jvm.ClassFile.Cond) (off : Int) : Shf u v (x_icmp k off) := fun S rs h => by
  obtain ⟨pc, lo, st, B, hp, c, z⟩ := S
  unfold x_icmp at h ⊢
  dsimp only [shZ] at h ⊢
  match st, h with
  | [], h => cases h
  | [_], h => cases h
  | b :: a :: r, h =>
    dsimp only at h ⊢
    cases hb : (Nat.beq b.1 0 && Nat.beq a.1 0) with
    | false => rw [hb] at h; cases h
    | true =>
      rw [hb, cond_true] at h
      cases hf : eTg pc off with
      | none => rw [hf] at h; cases h
      | some t =>
        rw [hf] at h
        cases h
        rw [cond_true, List.map_append, eBr_sh, eBr_sh]
theorem tabL_sh {a : eV} {pc : Nat} {lo : eL} {r : List eV} {B : eB} {hp : eH} {c z : Nat} : ∀ {os : List Int} {y : Int} {rs : List (Nat × eS)}, tabL a pc lo r B (hp, c, z) os y = some rs → tabL a pc lo r B (hp, c + u, z + v) os y = some (rs.map (shR u v))
  | [], y, rs, h => by
    unfold tabL at h ⊢
    cases h
    rfl
  | o :: os, y, rs, h => by
    unfold tabL at h ⊢
    cases hf : eTg pc o with
    | none => rw [hf] at h; cases h
    | some t =>
      rw [hf] at h
      dsimp only at h ⊢
      cases hg : tabL a pc lo r B (hp, c, z) os (y + 1) with
      | none => rw [hg] at h; cases h
      | some rs9 =>
        rw [hg] at h
        rw [tabL_sh hg]
        dsimp only at h ⊢
        cases hr : eRef B a y y with
        | some B' => rw [hr] at h; cases h; rfl
        | none => rw [hr] at h; cases h; rfl
theorem sh_tab (df lo hi : Int) (offs : Array Int) : Shf u v (x_tab df lo hi offs) := fun S rs h => by
  obtain ⟨pc, l, st, B, hp, c, z⟩ := S
  unfold x_tab at h ⊢
  dsimp only [shZ] at h ⊢
  cases st with
  | nil => cases h
  | cons a r =>
    dsimp only at h ⊢
    cases hb : (Nat.beq a.1 0 && decide (offs.size = (hi - lo + 1).toNat)) with
    | false => rw [hb] at h; cases h
    | true =>
      rw [hb, cond_true] at h
      cases hf : eTg pc df with
      | none => rw [hf] at h; cases h
      | some t =>
        rw [hf] at h
        dsimp only at h ⊢
        cases hg : tabL a pc l r B (hp, c, z) offs.toList lo with
        | none => rw [hg] at h; cases h
        | some rs9 =>
          rw [hg] at h
          cases h
          rw [tabL_sh hg]
          dsimp only
          rw [cond_true, List.map_append, List.map_append, eBr_sh, eBr_sh]
theorem cOut_sh {hn : Nat → Nat → Option Nat} {pc : Nat} {lo : eL} {r : List eV} {k z : Nat} {o : eO} : shR u v (cOut hn pc lo r k z o) = cOut hn pc lo r (k + u) (z + v) o := by
  obtain ⟨E, o2⟩ := o
  unfold cOut
  cases E with
  | zero => rfl
  | succ E =>
    dsimp only
    cases hn (E + 1) pc <;> rfl
theorem ble_sh {a b w : Nat} (h : Nat.ble a b = true) : Nat.ble (a + w) (b + w) = true := Nat.ble_eq_true_of_le (Nat.add_le_add_right (Nat.le_of_ble_eq_true h) w)
theorem sh_callE {cs : List eCd} {na mc ms cm sm N0 : Nat} {hn : Nat → Nat → Option Nat} {ok : List eV → eH → Bool} {S : eS} {rs : List (Nat × eS)} (h : x_callE cs na mc ms cm sm N0 hn ok S = some rs) : x_callE cs na mc ms (cm + u) (sm + v) N0 hn ok (shZ u v S) = some (rs.map (shR u v)) := by
  obtain ⟨pc, lo, st, B, hp, c, z⟩ := S
  unfold x_callE at h ⊢
  dsimp only [shZ] at h ⊢
  cases hb : (Nat.beq (st.take na).length na && (Nat.ble (eWords (st.drop na)) 8 && (Nat.ble (c + mc) cm && (Nat.ble (z + ms) sm && (ok (st.take na).reverse hp && (Nat.ble N0 B.1.length && (tgL B.1.length lo && (st.drop na).all (tgV B.1.length)))))))) with
  | false => rw [hb] at h; cases h
  | true =>
    rw [hb, cond_true] at h
    simp only [Bool.and_eq_true] at hb
    obtain ⟨b1, b2, b3, b4, b5, b6, b7, b8⟩ := hb
    have b3' : Nat.ble (c + u + mc) (cm + u) = true := by rw [show c + u + mc = c + mc + u by omega]; exact ble_sh b3
    have b4' : Nat.ble (z + v + ms) (sm + v) = true := by rw [show z + v + ms = z + ms + v by omega]; exact ble_sh b4
    rw [b1, b2, b3', b4', b5, b6, b7, b8]
    cases hf : firstC (st.take na).reverse B hp cs with
    | none => rw [hf] at h; cases h
    | some outs =>
      rw [hf] at h
      cases h
      show some (outs.map (cOut hn pc lo (st.drop na) (c + u + mc) (z + v + ms))) = some ((outs.map (cOut hn pc lo (st.drop na) (c + mc) (z + ms))).map (shR u v))
      rw [List.map_map, show c + u + mc = c + mc + u by omega, show z + v + ms = z + ms + v by omega]
      congr 1
      exact List.map_congr_left (fun o _ => cOut_sh.symm)
theorem sh_i2l : Shf u v x_i2l := fun S rs h => by
  obtain ⟨pc, lo, st, B, hp, c, z⟩ := S
  unfold x_i2l at h ⊢
  dsimp only [shZ] at h ⊢
  cases st with
  | nil => cases h
  | cons a r =>
    dsimp only at h ⊢
    cases hb : Nat.beq a.1 0 with
    | false => rw [hb] at h; cases h
    | true => rw [hb, cond_true] at h; cases h; rfl
theorem sh_ifc (k : Jvm.ClassFile.Cond) (off : Int) : Shf u v (x_ifc k off) := fun S rs h => by
  obtain ⟨pc, lo, st, B, hp, c, z⟩ := S
  unfold x_ifc at h ⊢
  dsimp only [shZ] at h ⊢
  cases st with
  | nil => cases h
  | cons a r =>
    dsimp only at h ⊢
    cases hb : Nat.beq a.1 0 with
    | false => rw [hb] at h; cases h
    | true =>
      rw [hb, cond_true] at h
      cases hf : eTg pc off with
      | none => rw [hf] at h; cases h
      | some t =>
        rw [hf] at h
        cases h
        rw [cond_true, List.map_append, eBr_sh, eBr_sh]
theorem sh_lcmp (k : Nat) : Shf u v (x_lcmp k) := fun S rs h => by
  obtain ⟨pc, lo, st, B, hp, c, z⟩ := S
  unfold x_lcmp at h ⊢
  dsimp only [shZ] at h ⊢
  match st, h with
  | [], h => cases h
  | [_], h => cases h
  | b :: a :: r, h =>
    dsimp only at h ⊢
    cases hb : (Nat.beq b.1 1 && Nat.beq a.1 1) with
    | false => rw [hb] at h; cases h
    | true =>
      rw [hb, cond_true] at h
      rw [cond_true]
      split at h
      · cases h
        rw [List.map_append, eBr_sh, eBr_sh]
      · cases h
        rw [List.map_append, eBr_sh, eBr_sh]
      · cases h
        rw [List.map_append, List.map_append, eBr_sh, eBr_sh, eBr_sh]
theorem sh_lald : Shf u v (x_xld 1 none) := fun S rs h => by
  obtain ⟨pc, lo, st, B, hp, c, z⟩ := S
  unfold x_xld at h ⊢
  dsimp only [shZ] at h ⊢
  match st, h with
  | [], h => cases h
  | [_], h => cases h
  | i :: a :: r, h =>
    dsimp only at h ⊢
    cases hb : Nat.beq i.1 0 with
    | false => rw [hb] at h; cases h
    | true =>
      rw [hb, cond_true] at h
      rw [cond_true]
      cases h2 : Nat.beq a.1 2 with
      | true =>
        rw [h2, cond_true] at h
        rw [cond_true]
        cases hg : eGet hp a.2.1 with
        | none => rw [hg] at h; cases h
        | some x =>
          rw [hg] at h
          cases x with
          | inl o => cases h
          | inr w =>
            dsimp only at h ⊢
            cases hc : (Nat.beq (vA w).1 1 && (decide (0 ≤ eLo B i) && decide (eHi B i < ((vA w).2.1 : Int)))) with
            | false => rw [hc] at h; cases h
            | true =>
              rw [hc, cond_true] at h
              cases h
              show (bif (Nat.beq (vA w).1 1 && (decide (0 ≤ eLo B i) && decide (eHi B i < ((vA w).2.1 : Int)))) then eNx (pc + 1, lo, aRd (bif Nat.beq 1 1 then 1 else 0) B (vA w).2.2.1 (vA w).2.2.2 i :: r, B, hp, c + u, z + v) else none) = _
              rw [hc]
              rfl
      | false =>
        rw [h2, cond_false, show Nat.beq 1 0 = false from rfl, Bool.and_false, Bool.and_false, cond_false] at h
        cases h
end SHF
/-- what is read of the script: the names 25 to 30, where name 1 is the place and name 0 how long the script is -/
def x_scr (S : eS) : eR := match S.2.2.1 with
  | i :: a :: r => bif Nat.beq i.1 0 && (Nat.beq a.1 5 && Nat.beq a.2.1 0) then (match i.2.1 with
    | 0 => none
    | t + 1 => bif Nat.beq (nB t) 1 && (decide (0 ≤ nO t) && decide (nO t < 6)) then eNx (S.1 + 1, S.2.1, nwV (26 + (nO t).toNat) (-2147483648) 2147483647 :: r, S.2.2.2) else none) else none
  | _ => none
def x_lnL (S : eS) : eR := match S.2.2.1 with
  | a :: r => bif Nat.beq a.1 5 && Nat.beq a.2.1 0 then eNx (S.1 + 1, S.2.1, nwV 0 0 3072 :: r, S.2.2.2) else none
  | _ => none
theorem sh_scr {u v : Nat} : Shf u v x_scr := fun S rs h => by
  obtain ⟨pc, lo, st, B, hp, c, z⟩ := S
  unfold x_scr at h ⊢
  dsimp only [shZ] at h ⊢
  match st, h with
  | [], h => cases h
  | [_], h => cases h
  | i :: a :: r, h =>
    dsimp only at h ⊢
    cases hb : (Nat.beq i.1 0 && (Nat.beq a.1 5 && Nat.beq a.2.1 0)) with
    | false => rw [hb] at h; cases h
    | true =>
      rw [hb, cond_true] at h
      rw [cond_true]
      cases ht : i.2.1 with
      | zero => rw [ht] at h; cases h
      | succ t =>
        rw [ht] at h
        dsimp only at h ⊢
        cases hc : (Nat.beq (nB t) 1 && (decide (0 ≤ nO t) && decide (nO t < 6))) with
        | false => rw [hc] at h; cases h
        | true => rw [hc, cond_true] at h; cases h; rfl
theorem sh_lnL {u v : Nat} : Shf u v x_lnL := fun S rs h => by
  obtain ⟨pc, lo, st, B, hp, c, z⟩ := S
  unfold x_lnL at h ⊢
  dsimp only [shZ] at h ⊢
  cases st with
  | nil => cases h
  | cons a r =>
    dsimp only at h ⊢
    cases hb : (Nat.beq a.1 5 && Nat.beq a.2.1 0) with
    | false => rw [hb] at h; cases h
    | true => rw [hb, cond_true] at h; cases h; rfl
/-- the script's part of the names -/
def scrN (ρ : Nat → Int) (L : Nat) (xs : Nat → Int32) (body : Bool) : Prop := ρ 0 = (L : Int) ∧ L ≤ 3072 ∧ (body = true → 0 ≤ ρ 1 ∧ ρ 1 + 6 ≤ (L : Int) ∧ ∀ k, k < 6 → ρ (26 + k) = (xs ((ρ 1).toNat + k)).toInt)
section LW1
variable {p : Program} {l : Launch} {e : Env} {R : Room} {s : State} {m : MethodId} {args : Array Value} {below : List Frame} {meth : Method} {c : Code} {Q : State → Prop}
variable {D : va_G} {cl : List vw_C} {cA : Nat → ClassId} {A : Nat → Prop} {sb : eSB} {ρ : Nat → Int} {ad0 : Nat → Nat} {h0 nL : Nat} {cc : ByteArray} {own : String} {Ts : List Cond}
theorem k_scr (K : eK p m c s args cc own nL Ts D cl cA A) {S : eS} {L : Nat} {xs : Nat → Int32} (hX : va_X (sb.1 0) L xs s s.heap) (hbl : sb.1 0 < s.heap.size) (hbA : ¬ A (sb.1 0)) (hN : scrN ρ L xs true) (hd : decode cc S.1 = .ok (.iaload, 1)) {rs : List (Nat × eS)} (h : x_scr S = some rs) (hr : ∀ r ∈ rs, eLf p l e R s m args below meth c Q D cl cA A sb ρ ad0 h0 nL r) : eW p l e R s m args below meth c Q D cl cA A sb ρ ad0 h0 nL S := by
  obtain ⟨hx, hb, hml, hown, hts, hK, hA⟩ := K
  obtain ⟨pc, lo, st, B, hp, Z⟩ := S
  obtain ⟨n0, n1, n2⟩ := hN
  obtain ⟨n2, n3, n4⟩ := n2 rfl
  unfold x_scr at h
  split at h
  next i a r hst =>
    dsimp only at hst
    subst hst
    cases hb9 : (Nat.beq i.1 0 && (Nat.beq a.1 5 && Nat.beq a.2.1 0)) with
    | false => rw [hb9] at h; cases h
    | true =>
      rw [hb9, cond_true] at h
      simp only [Bool.and_eq_true] at hb9
      obtain ⟨i0, i1, i2, i3⟩ := i
      obtain ⟨a0, a1, a2, a3⟩ := a
      obtain ⟨c0, c1, c2⟩ := hb9
      replace c0 := Nat.eq_of_beq_eq_true c0
      replace c1 := Nat.eq_of_beq_eq_true c1
      replace c2 := Nat.eq_of_beq_eq_true c2
      dsimp only at c0 c1 c2
      subst c0
      subst c1
      subst c2
      cases i1 with
      | zero => cases h
      | succ t =>
        dsimp only at h
        cases hc : (Nat.beq (nB t) 1 && (decide (0 ≤ nO t) && decide (nO t < 6))) with
        | false => rw [hc] at h; cases h
        | true =>
          rw [hc, cond_true] at h
          simp only [Bool.and_eq_true, decide_eq_true_eq] at hc
          obtain ⟨d1, d2, d3⟩ := hc
          have d1 := Nat.eq_of_beq_eq_true d1
          have hn := eNx_ok (S := (pc, lo, (0, t + 1, i2, i3) :: (5, 0, a2, a3) :: r, B, hp, Z)) h hr
          intro ad ls lc vs ws H locs g1 g2 g3 g4 g5 g6 g7 g8 g9
          match vs, g4 with
          | u :: w :: vs, g4 =>
            obtain ⟨⟨x, rfl, hx9⟩, hw, g4⟩ := g4
            have hw : w = .ref (sb.1 0) := hw
            subst hw
            have u1 := hx9.1 t rfl
            rw [d1] at u1
            obtain ⟨z1, z2, z3⟩ := vp_in_int (x := x) (n := L) (by omega) (by omega)
            have n5 := n4 (nO t).toNat (by omega)
            have ex : x.toNatClampNeg = (ρ 1).toNat + (nO t).toNat := by omega
            refine va_sld hx hb hX hbl hbA g8 z1 hd (hn ad ls lc (.int (xs x.toNatClampNeg) :: vs) ws H locs g1 g2 g3 ⟨?_, g4⟩ g5 g6 g7 g8 g9)
            rw [ex]
            exact ⟨_, rfl, nwV_ok n5 (i32_lo _) (i32_hi _)⟩
          | [_], g4 => exact g4.2.elim
          | [], g4 => exact g4.elim
  next => cases h
theorem k_lnL (K : eK p m c s args cc own nL Ts D cl cA A) {S : eS} {L : Nat} {xs : Nat → Int32} {bd : Bool} (hX : va_X (sb.1 0) L xs s s.heap) (hbl : sb.1 0 < s.heap.size) (hbA : ¬ A (sb.1 0)) (hN : scrN ρ L xs bd) (hd : decode cc S.1 = .ok (.arraylength, 1)) {rs : List (Nat × eS)} (h : x_lnL S = some rs) (hr : ∀ r ∈ rs, eLf p l e R s m args below meth c Q D cl cA A sb ρ ad0 h0 nL r) : eW p l e R s m args below meth c Q D cl cA A sb ρ ad0 h0 nL S := by
  obtain ⟨hx, hb, hml, hown, hts, hK, hA⟩ := K
  obtain ⟨pc, lo, st, B, hp, Z⟩ := S
  obtain ⟨n0, n1, -⟩ := hN
  unfold x_lnL at h
  split at h
  next a r hst =>
    dsimp only at hst
    subst hst
    cases hb9 : (Nat.beq a.1 5 && Nat.beq a.2.1 0) with
    | false => dsimp only at h; rw [hb9] at h; cases h
    | true =>
      dsimp only at h
      rw [hb9, cond_true] at h
      rw [Bool.and_eq_true] at hb9
      have hn := eNx_ok (S := (pc, lo, a :: r, B, hp, Z)) h hr
      obtain ⟨a0, a1, a2, a3⟩ := a
      have c1 := Nat.eq_of_beq_eq_true hb9.1
      have c2 := Nat.eq_of_beq_eq_true hb9.2
      dsimp only at c1 c2
      subst c1
      subst c2
      intro ad ls lc vs ws H locs g1 g2 g3 g4 g5 g6 g7 g8 g9
      match vs, g4 with
      | w :: vs, g4 =>
        obtain ⟨hw, g4⟩ := g4
        have hw : w = .ref (sb.1 0) := hw
        subst hw
        refine va_slen hx hb hX hbl hbA g8 hd (hn ad ls lc (.int (Int32.ofNat L) :: vs) ws H locs g1 g2 g3 ⟨?_, g4⟩ g5 g6 g7 g8 g9)
        exact ⟨_, rfl, nwV_ok (by rw [i32_nat (by omega)]; exact n0) (by rw [i32_nat (by omega)]; omega) (by rw [i32_nat (by omega)]; omega)⟩
      | [], g4 => exact g4.elim
  next => cases h
end LW1
