/-! ===== THE ENGINE, 5: cells ===== -/
def eScV (n : Nat) (a : eV) : Bool := bif Nat.beq a.1 2 then Nat.blt a.2.1 n else true
def eScS (n : Nat) (as : List eV) : Bool := as.all (eScV n)
def eScL (n : Nat) (l : eL) : Bool := l.all (fun q => eScV n q.2)
def eScC (n : Nat) (c : eC) : Bool := match c with
  | .inl o => eScS n o.2
  | .inr _ => true
def eScH (n : Nat) (h : eH) : Bool := h.all (eScC n)
section EM
variable {ρ : Nat → Int} {ad ad' : Nat → Nat} {sb : eSB} {n : Nat} {cA : Nat → ClassId}
theorem eScV_ok {a : eV} (h : eScV n a = true) : a.1 = 2 → a.2.1 < n := by
  intro e1
  unfold eScV at h
  rw [e1, show Nat.beq 2 2 = true from rfl, cond_true] at h
  exact blt_lt h
theorem gS_mono (hn : ∀ k, k < n → ad' k = ad k) : ∀ {as : List eV} {vs : List Value}, eScS n as = true → gS ρ ad sb as vs → gS ρ ad' sb as vs
  | [], [], _, _ => trivial
  | a :: as, v :: vs, h, g => by
    unfold eScS at h
    rw [List.all_cons, Bool.and_eq_true] at h
    exact ⟨gV_mono hn (eScV_ok h.1) g.1, gS_mono hn h.2 g.2⟩
  | [], _ :: _, _, g => g.elim
  | _ :: _, [], _, g => g.elim
theorem gL_mono (hn : ∀ k, k < n → ad' k = ad k) : ∀ {as : eL} {vs : List (Nat × Value)}, eScL n as = true → gL ρ ad sb as vs → gL ρ ad' sb as vs
  | [], [], _, _ => trivial
  | a :: as, v :: vs, h, g => by
    unfold eScL at h
    rw [List.all_cons, Bool.and_eq_true] at h
    exact ⟨⟨g.1.1, gV_mono hn (eScV_ok h.1) g.1.2⟩, gL_mono hn h.2 g.2⟩
  | [], _ :: _, _, g => g.elim
  | _ :: _, [], _, g => g.elim
theorem gV_num {a : eV} {x : Int32} (h : gV ρ ad sb a (.int x)) : gV ρ ad' sb a (.int x) := by
  obtain ⟨k, t, lo, hi⟩ := a
  match k, h with
  | 0, h => exact h
  | 1, h => obtain ⟨x, e, -⟩ := h; cases e
  | 2, h => have h : Value.int x = .ref (ad t) := h; cases h
  | 3, h => exact h
  | 4, h => exact h
  | 5, h => exact h
  | (n + 6), h => exact h.elim
theorem gV_numL {a : eV} {x : Int64} (h : gV ρ ad sb a (.long x)) : gV ρ ad' sb a (.long x) := by
  obtain ⟨k, t, lo, hi⟩ := a
  match k, h with
  | 0, h => obtain ⟨x, e, -⟩ := h; cases e
  | 1, h => exact h
  | 2, h => have h : Value.long x = .ref (ad t) := h; cases h
  | 3, h => exact h
  | 4, h => exact h
  | 5, h => exact h
  | (n + 6), h => exact h.elim
theorem gC_mono (hn : ∀ k, k < n → ad' k = ad k) {c : eC} {x : va_E} (h : eScC n c = true) (g : gC ρ ad sb cA c x) : gC ρ ad' sb cA c x := by
  match c, h, g with
  | .inl o, h, g =>
    obtain ⟨vs, h1, h2⟩ := g
    exact ⟨vs, h1, gS_mono hn h h2⟩
  | .inr (0, a), _, g =>
    obtain ⟨f, h1, h2⟩ := g
    exact ⟨f, h1, fun j hj => gV_num (h2 j hj)⟩
  | .inr (1, a), _, g =>
    obtain ⟨f, h1, h2⟩ := g
    exact ⟨f, h1, fun j hj => gV_numL (h2 j hj)⟩
  | .inr (2, a), _, g =>
    obtain ⟨f, h1, h2⟩ := g
    exact ⟨f, h1, fun j hj => ⟨gV_num (h2 j hj).1, (h2 j hj).2⟩⟩
  | .inr (3, a), _, g => exact ⟨g.1, fun h => by
    obtain ⟨f, h1, h2⟩ := g.2 h
    exact ⟨f, h1, fun j hj => gV_num (h2 j hj)⟩⟩
  | .inr (k + 4, a), _, g => exact g
theorem gH_mono {h : eH} {ws : va_W} (hn : ∀ k, k < h.length → ad' k = ad k) (hs : eScH h.length h = true) (g : gH ρ ad sb cA h ws) : gH ρ ad' sb cA h ws := by
  refine ⟨g.1, fun k c hk => ?_⟩
  obtain ⟨x, h1, h2⟩ := g.2 k c hk
  have hlt : k < h.length := (List.getElem?_eq_some_iff.mp hk).1
  exact ⟨x, by rw [hn k hlt]; exact h1, gC_mono hn (List.all_eq_true.mp hs c (List.mem_of_getElem? hk)) h2⟩
/-- a new cell at the end -/
theorem gH_push {h : eH} {ws : va_W} {q : Nat} {x : va_E} {c : eC} (hs : eScH h.length h = true) (g : gH ρ ad sb cA h ws) (hx : gC ρ (fun k => if k = h.length then q else ad k) sb cA c x) : gH ρ (fun k => if k = h.length then q else ad k) sb cA (h ++ [c]) (ws ++ [(q, x)]) := by
  have g' := gH_mono (ad' := fun k => if k = h.length then q else ad k) (fun k hk => if_neg (Nat.ne_of_lt hk)) hs g
  refine ⟨by rw [List.length_append, List.length_append, g.1]; rfl, fun k c' hk => ?_⟩
  by_cases hl : k < h.length
  · rw [List.getElem?_append_left hl] at hk
    obtain ⟨x', h1, h2⟩ := g'.2 k c' hk
    exact ⟨x', by rw [List.getElem?_append_left (by rw [g.1]; exact hl)]; exact h1, h2⟩
  · rw [List.getElem?_append_right (Nat.not_lt.mp hl)] at hk
    have hz : k - h.length < 1 := (List.getElem?_eq_some_iff.mp hk).1
    have e1 : k = h.length := by omega
    subst e1
    rw [Nat.sub_self] at hk
    have e2 : c = c' := Option.some.inj hk
    subst e2
    refine ⟨x, ?_, hx⟩
    rw [List.getElem?_append_right (by rw [g.1]; exact Nat.le_refl _), g.1, Nat.sub_self]
    show some (q, x) = some ((if h.length = h.length then q else ad h.length), x)
    rw [if_pos rfl]
/-- a cell changed -/
theorem gH_set {h : eH} {ws : va_W} {k : Nat} {x : va_E} {c : eC} (g : gH ρ ad sb cA h ws) (hx : gC ρ ad sb cA c x) : gH ρ ad sb cA (h.set k c) (ws.set k (ad k, x)) := by
  refine ⟨by rw [List.length_set, List.length_set, g.1], fun j c' hj => ?_⟩
  by_cases hjk : k = j
  · subst hjk
    have hl : k < h.length := by
      have := (List.getElem?_eq_some_iff.mp hj).1
      rwa [List.length_set] at this
    rw [List.getElem?_set_self hl] at hj
    have e2 := Option.some.inj hj
    subst e2
    exact ⟨x, by rw [List.getElem?_set_self (by rw [g.1]; exact hl)], hx⟩
  · rw [List.getElem?_set_ne hjk] at hj ⊢
    exact g.2 j c' hj
end EM
section E5
variable {p : Program} {l : Launch} {e : Env} {R : Room} {s : State} {m : MethodId} {args : Array Value} {below : List Frame} {meth : Method} {c : Code} {Q : State → Prop}
variable {D : va_G} {cl : List vw_C} {cA : Nat → ClassId} {A : Nat → Prop} {sb : eSB} {ρ : Nat → Int} {ad0 : Nat → Nat} {h0 nL : Nat} {cc : ByteArray} {own : String} {Ts : List Cond}
/-- the field k of the class ci, by the pool's number ix of own -/
def eFl (cl : List vw_C) (Ts : List Cond) (own : String) (ix ci k : Nat) : Prop := ∃ (C : String) (T : u_T) (N : Nat), cl[ci]? = some (C, T, N) ∧ k < N ∧ (∀ w ∈ u_ws C T N, w ∈ Ts) ∧ Jvm.Cond.fieldLink own ix (T k).1 (T k).2.1 (T k).2.2.1 ∈ Ts
def x_getf (ci k : Nat) (S : eS) : eR := match S.2.2.1 with
  | a :: r => bif Nat.beq a.1 2 then (match eGet S.2.2.2.2.1 a.2.1 with
    | some (.inl o) => bif Nat.beq o.1 ci then (match eGet o.2 k with
      | some v => eNx (S.1 + 3, S.2.1, v :: r, S.2.2.2)
      | none => none) else none
    | _ => none) else none
  | _ => none
theorem k_getf (K : eK p m c s args cc own nL Ts D cl cA A) {S : eS} {ix ci k : Nat} (hd : decode cc S.1 = .ok (.getfield ix, 3)) (hf : eFl cl Ts own ix ci k) {rs : List (Nat × eS)} (h : x_getf ci k S = some rs) (hr : ∀ r ∈ rs, eLf p l e R s m args below meth c Q D cl cA A sb ρ ad0 h0 nL r) : eW p l e R s m args below meth c Q D cl cA A sb ρ ad0 h0 nL S := by
  obtain ⟨hx, hb, hml, hown, hts, hK, hA⟩ := K
  obtain ⟨C, T, N, hc, hkN, hin, hlk⟩ := hf
  obtain ⟨pc, lo, st, B, hp, Z⟩ := S
  unfold x_getf at h
  split at h
  next a r hst =>
    dsimp only at hst
    subst hst
    cases hb9 : Nat.beq a.1 2 with
    | false => rw [hb9] at h; cases h
    | true =>
      rw [hb9, cond_true] at h
      split at h
      next o ho =>
        cases hb8 : Nat.beq o.1 ci with
        | false => rw [hb8] at h; cases h
        | true =>
          rw [hb8, cond_true] at h
          split at h
          next v hv =>
            have hn := eNx_ok (S := (pc, lo, a :: r, B, hp, Z)) h hr
            obtain ⟨a0, a1, a2, a3⟩ := a
            have e0 := Nat.eq_of_beq_eq_true hb9
            have e1 := Nat.eq_of_beq_eq_true hb8
            dsimp only at e0 ho
            subst e0
            intro ad ls lc vs ws H locs g1 g2 g3 g4 g5 g6 g7 g8 g9
            match vs, g4 with
            | w :: vs, g4 =>
              obtain ⟨hw, g4⟩ := g4
              have hw : w = .ref (ad a1) := hw
              subst hw
              obtain ⟨x, hx1, us, hx2, hx3⟩ := g5.2 a1 (.inl o) (by rw [← eGet_eq]; exact ho)
              subst hx2
              rw [e1] at hx1
              obtain ⟨u, hu1, hu2⟩ := gS_get hx3 (k := k) (a := v) (by rw [← eGet_eq]; exact hv)
              exact va_get hx hb hts hin hown hK g6 a1 hx1 hc k hkN (hts _ hlk) (fun _ q => q) hu1 hd (hn ad ls lc (u :: vs) ws H locs g1 g2 g3 ⟨hu2, g4⟩ g5 g6 g7 g8 g9)
            | [], g4 => exact g4.elim
          next => cases h
      next => cases h
  next => cases h
def eTyOk (ft : Nat) (ty : FieldType) : Prop := match ft with
  | 0 => ty = .int
  | 1 => ty = .boolean
  | _ => ty.isReference = true
/-- the same for a write: ft 0 an int, 1 a truth value, 2 a reference -/
def eFp (cl : List vw_C) (Ts : List Cond) (own : String) (meth : Method) (ix ci k ft : Nat) : Prop := ∃ (C : String) (T : u_T) (N : Nat) (ty : Nat → FieldType), cl[ci]? = some (C, T, N) ∧ k < N ∧ (∀ w ∈ u_ws C T N, w ∈ Ts) ∧ Jvm.Cond.fieldLink own ix (T k).1 (T k).2.1 (T k).2.2.1 ∈ Ts ∧ (∀ k, k < N → parseFieldDescriptor (T k).2.2.1 = some (ty k)) ∧ (∀ a, a < N → ∀ b, b < N → a ≠ b → (T a).2.1 ≠ (T b).2.1) ∧ ((T k).2.2.2 = false ∨ ((T k).2.2.2 = true ∧ meth.name = "<init>" ∧ (T k).1 = own)) ∧ eTyOk ft (ty k)
def eFits (ft : Nat) (B : eB) (v : eV) : Bool := match ft with
  | 0 => Nat.beq v.1 0
  | 1 => Nat.beq v.1 0 && (decide (0 ≤ eLo B v) && decide (eHi B v ≤ 1))
  | _ => eIsR v
theorem eFits_ok {ad : Nat → Nat} {B : eB} (hB : gB ρ B) {ft : Nat} {v : eV} {u : Value} (h : eFits ft B v = true) (g : gV ρ ad sb v u) {ty : FieldType} (ht : eTyOk ft ty) : narrow ty u = u ∧ fits ty u = true := by
  match ft, h, ht with
  | 0, h, ht =>
    obtain ⟨a0, a1, a2, a3⟩ := v
    have e0 := Nat.eq_of_beq_eq_true h
    dsimp only at e0
    subst e0
    obtain ⟨x, rfl, -⟩ := g
    have ht : ty = .int := ht
    subst ht
    exact ⟨rfl, rfl⟩
  | 1, h, ht =>
    have h : (Nat.beq v.1 0 && (decide (0 ≤ eLo B v) && decide (eHi B v ≤ 1))) = true := h
    rw [Bool.and_eq_true, Bool.and_eq_true, decide_eq_true_eq, decide_eq_true_eq] at h
    obtain ⟨a0, a1, a2, a3⟩ := v
    have e0 := Nat.eq_of_beq_eq_true h.1
    dsimp only at e0
    subst e0
    obtain ⟨x, rfl, hx⟩ := g
    have u1 := eLo_ok hB hx
    have u2 := eHi_ok hB hx
    have ht : ty = .boolean := ht
    subst ht
    rcases (show x.toInt = 0 ∨ x.toInt = 1 by omega) with q | q
    · have e1 : x = 0 := i32_of q
      subst e1
      exact ⟨rfl, rfl⟩
    · have e1 : x = 1 := i32_of q
      subst e1
      exact ⟨rfl, rfl⟩
  | n + 2, h, ht =>
    obtain ⟨q, rfl⟩ := eIsR_ok (sb := sb) h g
    have ht : ty.isReference = true := ht
    cases ty <;> first | exact ⟨rfl, rfl⟩ | cases ht
def x_putf (ci k ft : Nat) (S : eS) : eR := match S.2.2.1 with
  | v :: a :: r => bif Nat.beq a.1 2 && eFits ft S.2.2.2.1 v then (match eGet S.2.2.2.2.1 a.2.1 with
    | some (.inl o) => bif Nat.beq o.1 ci && Nat.blt k o.2.length then eNx (S.1 + 3, S.2.1, r, S.2.2.2.1, eSet S.2.2.2.2.1 a.2.1 (.inl (ci, eSet o.2 k v)), S.2.2.2.2.2) else none
    | _ => none) else none
  | _ => none
theorem k_putf (K : eK p m c s args cc own nL Ts D cl cA A) {S : eS} {ix ci k ft : Nat} (hd : decode cc S.1 = .ok (.putfield ix, 3)) (hf : eFp cl Ts own meth ix ci k ft) {rs : List (Nat × eS)} (h : x_putf ci k ft S = some rs) (hr : ∀ r ∈ rs, eLf p l e R s m args below meth c Q D cl cA A sb ρ ad0 h0 nL r) : eW p l e R s m args below meth c Q D cl cA A sb ρ ad0 h0 nL S := by
  obtain ⟨hx, hb, hml, hown, hts, hK, hA⟩ := K
  obtain ⟨C, T, N, ty, hc, hkN, hin, hlk, hty, hnm, hfin, hft⟩ := hf
  obtain ⟨pc, lo, st, B, hp, Z⟩ := S
  unfold x_putf at h
  split at h
  next v a r hst =>
    dsimp only at hst
    subst hst
    cases hb9 : (Nat.beq a.1 2 && eFits ft B v) with
    | false => rw [hb9] at h; cases h
    | true =>
      rw [hb9, cond_true] at h
      rw [Bool.and_eq_true] at hb9
      split at h
      next o ho =>
        cases hb8 : (Nat.beq o.1 ci && Nat.blt k o.2.length) with
        | false => rw [hb8] at h; cases h
        | true =>
          rw [hb8, cond_true] at h
          rw [Bool.and_eq_true] at hb8
          have hn := eNx_ok (S := (pc, lo, v :: a :: r, B, hp, Z)) h hr
          obtain ⟨a0, a1, a2, a3⟩ := a
          have e0 := Nat.eq_of_beq_eq_true hb9.1
          have e1 := Nat.eq_of_beq_eq_true hb8.1
          have e2 := blt_lt hb8.2
          dsimp only at e0 ho
          subst e0
          intro ad ls lc vs ws H locs g1 g2 g3 g4 g5 g6 g7 g8 g9
          match vs, g4 with
          | u :: w :: vs, g4 =>
            obtain ⟨hu, hw, g4⟩ := g4
            have hw : w = .ref (ad a1) := hw
            subst hw
            obtain ⟨x, hx1, us, hx2, hx3⟩ := g5.2 a1 (.inl o) (by rw [← eGet_eq]; exact ho)
            subst hx2
            rw [e1] at hx1
            obtain ⟨f1, f2⟩ := eFits_ok g2 hb9.2 hu hft
            have hl : k < us.length := by rw [gS_len hx3]; exact e2
            have go : ∀ (H1 : Heap) (locs1 : List Loc), va_P D cl (ws.set a1 (ad a1, .inr (ci, us.set k u))) H1 → va_D A (ws.set a1 (ad a1, .inr (ci, us.set k u))) → va_S A s.heap H1 locs1 → W p l e R s m args below meth c H1 locs1 Z.1 Z.2 Q (F0 m (pc + 3) ls vs) := fun H1 locs1 q1 q2 q3 =>
              hn ad ls lc vs _ H1 locs1 (by dsimp only; rw [eSet_eq, List.length_set]; exact g1) g2 g3 g4 (by dsimp only; rw [eSet_eq, eSet_eq]; exact gH_set g5 ⟨_, rfl, gS_set k hx3 hu⟩) q1 q2 q3 g9
            rcases hfin with hfin | ⟨hfin, hi, hdc⟩
            · exact va_put hx hb hts hin ty hty hnm hown hK g6 g7 g8 a1 hx1 hc k hkN (hts _ hlk) (fun _ q => q) hfin (hty k hkN) f1 f2 hl hd go
            · exact va_putF hx hb hts hin ty hty hnm hown hK g6 g7 g8 a1 hx1 hc k hkN (hts _ hlk) (fun _ q => q) hfin hi hdc (hty k hkN) f1 f2 hl hd go
          | [_], g4 => exact g4.2.elim
          | [], g4 => exact g4.elim
      next => cases h
  next => cases h
-- arrays
def ixs (B : eB) (i : eV) (f : Nat → eB → Nat × eS) : Nat → Nat → List (Nat × eS)
  | 0, _ => []
  | n + 1, j => match eRef B i (j : Int) (j : Int) with
    | some B' => f j B' :: ixs B i f n (j + 1)
    | none => ixs B i f n (j + 1)
theorem ixs_ok {B : eB} (hB : gB ρ B) {i : eV} {x : Int} (hi : gN ρ i x) (f : Nat → eB → Nat × eS) : ∀ (n j z : Nat), x = (z : Int) → j ≤ z → z < j + n → ∃ B', f z B' ∈ ixs B i f n j ∧ gB ρ B'
  | 0, j, z, _, h1, h2 => by omega
  | n + 1, j, z, hz, h1, h2 => by
    unfold ixs
    by_cases hj : j = z
    · subst hj
      obtain ⟨B', e1, e2⟩ := eRef_ok hB hi (lo := (j : Int)) (hi := (j : Int)) (by omega) (by omega)
      rw [e1]
      exact ⟨B', List.mem_cons_self, e2⟩
    · obtain ⟨B', e1, e2⟩ := ixs_ok hB hi f n (j + 1) z hz (by omega) (by omega)
      refine ⟨B', ?_, e2⟩
      split
      · exact List.mem_cons_of_mem _ e1
      · exact e1
theorem vp_in_int {x : Int32} {n : Nat} (h1 : 0 ≤ x.toInt) (h2 : x.toInt < n) : vp_in x n ∧ x.toInt = (x.toNatClampNeg : Int) ∧ x.toNatClampNeg < n := by
  have h3 : x.toNatClampNeg = x.toInt.toNat := rfl
  refine ⟨vp_in_iff.mpr ⟨h1, h2⟩, ?_, ?_⟩ <;> omega
-- what stands in a part of an array
def aHas : List (Nat × eV) → Nat → Bool
  | [], _ => false
  | p :: r, j => bif Nat.beq p.1 j then true else aHas r j
theorem aG_cases (d : eV) : ∀ (l : List (Nat × eV)) (j : Nat), (aG d l j = d ∧ aHas l j = false) ∨ (j, aG d l j) ∈ l
  | [], j => Or.inl ⟨rfl, rfl⟩
  | p :: r, j => by
    unfold aG aHas
    cases hb : Nat.beq p.1 j with
    | true =>
      refine Or.inr ?_
      rw [cond_true, ← Nat.eq_of_beq_eq_true hb]
      exact List.mem_cons_self
    | false =>
      rw [cond_false, cond_false]
      rcases aG_cases d r j with h | h
      · exact Or.inl h
      · exact Or.inr (List.mem_cons_of_mem _ h)
def inR (lo hi j : Nat) : Bool := Nat.ble lo j && Nat.ble j hi
theorem inR_of {lo hi j : Nat} (h1 : lo ≤ j) (h2 : j ≤ hi) : inR lo hi j = true := by
  unfold inR
  rw [Nat.ble_eq_true_of_le h1, Nat.ble_eq_true_of_le h2]
  rfl
def aCov (l : List (Nat × eV)) : Nat → Nat → Bool
  | 0, _ => true
  | n + 1, j => bif aHas l j then aCov l n (j + 1) else false
theorem aCov_ok {l : List (Nat × eV)} : ∀ {n j i : Nat}, aCov l n j = true → j ≤ i → i < j + n → aHas l i = true
  | 0, j, i, _, h1, h2 => by omega
  | n + 1, j, i, h, h1, h2 => by
    unfold aCov at h
    cases hb : aHas l j with
    | false => rw [hb] at h; cases h
    | true =>
      rw [hb, cond_true] at h
      by_cases hj : j = i
      · rw [← hj]; exact hb
      · exact aCov_ok h (by omega) (by omega)
def hMn (lo hi : Nat) : List (Nat × eV) → Int → Int
  | [], m => m
  | p :: r, m => hMn lo hi r (bif inR lo hi p.1 then iMin m p.2.2.2.1 else m)
def hMx (lo hi : Nat) : List (Nat × eV) → Int → Int
  | [], m => m
  | p :: r, m => hMx lo hi r (bif inR lo hi p.1 then iMax m p.2.2.2.2 else m)
theorem hMn_ok {lo hi : Nat} : ∀ (l : List (Nat × eV)) (m : Int), hMn lo hi l m ≤ m ∧ ∀ q ∈ l, inR lo hi q.1 = true → hMn lo hi l m ≤ q.2.2.2.1
  | [], m => ⟨Int.le_refl _, fun q h => by cases h⟩
  | p :: r, m => by
    obtain ⟨h1, h2⟩ := hMn_ok (lo := lo) (hi := hi) r (bif inR lo hi p.1 then iMin m p.2.2.2.1 else m)
    have h3 : (bif inR lo hi p.1 then iMin m p.2.2.2.1 else m) ≤ m := by
      cases inR lo hi p.1
      · exact Int.le_refl _
      · exact iMin_l _ _
    refine ⟨Int.le_trans h1 h3, fun q hq hi9 => ?_⟩
    rcases List.mem_cons.mp hq with e | e
    · subst e
      unfold hMn
      rw [hi9, cond_true] at h1 ⊢
      exact Int.le_trans h1 (iMin_r _ _)
    · exact h2 q e hi9
theorem hMx_ok {lo hi : Nat} : ∀ (l : List (Nat × eV)) (m : Int), m ≤ hMx lo hi l m ∧ ∀ q ∈ l, inR lo hi q.1 = true → q.2.2.2.2 ≤ hMx lo hi l m
  | [], m => ⟨Int.le_refl _, fun q h => by cases h⟩
  | p :: r, m => by
    obtain ⟨h1, h2⟩ := hMx_ok (lo := lo) (hi := hi) r (bif inR lo hi p.1 then iMax m p.2.2.2.2 else m)
    have h3 : m ≤ (bif inR lo hi p.1 then iMax m p.2.2.2.2 else m) := by
      cases inR lo hi p.1
      · exact Int.le_refl _
      · exact iMax_l _ _
    refine ⟨Int.le_trans h3 h1, fun q hq hi9 => ?_⟩
    rcases List.mem_cons.mp hq with e | e
    · subst e
      unfold hMx
      rw [hi9, cond_true] at h1 ⊢
      exact Int.le_trans (iMax_r _ _) h1
    · exact h2 q e hi9
/-- bounds of all that stands from lo to hi -/
def aHu (k : Nat) (d : eV) (l : List (Nat × eV)) (lo hi : Nat) : eV :=
  (fun v0 : eV => (k, 0, hMn lo hi l v0.2.2.1, hMx lo hi l v0.2.2.2)) (bif aCov l (hi - lo + 1) lo then aG d l lo else d)
theorem aHu_ok {k : Nat} {d : eV} {l : List (Nat × eV)} {lo hi j : Nat} (h1 : lo ≤ j) (h2 : j ≤ hi) : (aHu k d l lo hi).2.2.1 ≤ (aG d l j).2.2.1 ∧ (aG d l j).2.2.2 ≤ (aHu k d l lo hi).2.2.2 := by
  unfold aHu
  dsimp only
  rcases aG_cases d l j with ⟨e1, e2⟩ | e1
  · have hc : aCov l (hi - lo + 1) lo = false := by
      cases hc : aCov l (hi - lo + 1) lo with
      | false => rfl
      | true =>
        rw [aCov_ok hc h1 (by omega)] at e2
        cases e2
    rw [hc, cond_false, e1]
    exact ⟨(hMn_ok l _).1, (hMx_ok l _).1⟩
  · exact ⟨(hMn_ok l _).2 _ e1 (inR_of h1 h2), (hMx_ok l _).2 _ e1 (inR_of h1 h2)⟩
/-- what is read at the place i, known or not -/
def aRd (k : Nat) (B : eB) (d : eV) (l : List (Nat × eV)) (i : eV) : eV := bif decide (eLo B i = eHi B i) then aG d l (eLo B i).toNat else aHu k d l (eLo B i).toNat (eHi B i).toNat
theorem gV_bndI {ad : Nat → Nat} {a : eV} {x : Int32} (h : gV ρ ad sb a (.int x)) : a.1 = 0 ∧ a.2.2.1 ≤ x.toInt ∧ x.toInt ≤ a.2.2.2 := by
  obtain ⟨k, t, lo, hi⟩ := a
  match k, h with
  | 0, h => obtain ⟨y, e, h1, h2⟩ := h; cases e; exact ⟨rfl, h2⟩
  | 1, h => obtain ⟨y, e, -⟩ := h; cases e
  | 2, h => cases h
  | 3, h => cases h
  | 4, h => obtain ⟨y, e⟩ := h; cases e
  | 5, h => cases h
  | (n + 6), h => exact h.elim
theorem gV_bndL {ad : Nat → Nat} {a : eV} {x : Int64} (h : gV ρ ad sb a (.long x)) : a.1 = 1 ∧ a.2.2.1 ≤ x.toInt ∧ x.toInt ≤ a.2.2.2 := by
  obtain ⟨k, t, lo, hi⟩ := a
  match k, h with
  | 0, h => obtain ⟨y, e, -⟩ := h; cases e
  | 1, h => obtain ⟨y, e, h1, h2⟩ := h; cases e; exact ⟨rfl, h2⟩
  | 2, h => cases h
  | 3, h => cases h
  | 4, h => obtain ⟨y, e⟩ := h; cases e
  | 5, h => cases h
  | (n + 6), h => exact h.elim
theorem aRd_okI {B : eB} {d i : eV} {l : List (Nat × eV)} {j : Nat} {ad : Nat → Nat} {x : Int32} (h1 : eLo B i ≤ (j : Int)) (h2 : (j : Int) ≤ eHi B i) (h0 : 0 ≤ eLo B i) (h : gV ρ ad sb (aG d l j) (.int x)) : gV ρ ad sb (aRd 0 B d l i) (.int x) := by
  unfold aRd
  cases hd : decide (eLo B i = eHi B i) with
  | true =>
    rw [decide_eq_true_eq] at hd
    rw [cond_true, show (eLo B i).toNat = j by omega]
    exact h
  | false =>
    rw [cond_false]
    obtain ⟨-, c1, c2⟩ := gV_bndI h
    obtain ⟨b1, b2⟩ := aHu_ok (k := 0) (d := d) (l := l) (lo := (eLo B i).toNat) (hi := (eHi B i).toNat) (j := j) (by omega) (by omega)
    exact gV_int (gN_iv (Int.le_trans b1 c1) (Int.le_trans c2 b2))
theorem aRd_okL {B : eB} {d i : eV} {l : List (Nat × eV)} {j : Nat} {ad : Nat → Nat} {x : Int64} (h1 : eLo B i ≤ (j : Int)) (h2 : (j : Int) ≤ eHi B i) (h0 : 0 ≤ eLo B i) (h : gV ρ ad sb (aG d l j) (.long x)) : gV ρ ad sb (aRd 1 B d l i) (.long x) := by
  unfold aRd
  cases hd : decide (eLo B i = eHi B i) with
  | true =>
    rw [decide_eq_true_eq] at hd
    rw [cond_true, show (eLo B i).toNat = j by omega]
    exact h
  | false =>
    rw [cond_false]
    obtain ⟨-, c1, c2⟩ := gV_bndL h
    obtain ⟨b1, b2⟩ := aHu_ok (k := 1) (d := d) (l := l) (lo := (eLo B i).toNat) (hi := (eHi B i).toNat) (j := j) (by omega) (by omega)
    exact gV_long (gN_iv (Int.le_trans b1 c1) (Int.le_trans c2 b2))
/-- reading an array of the sort t, or the script (of which sc says how long it is) -/
def x_xld (t : Nat) (sc : Option (Nat × Nat)) (S : eS) : eR := match S.2.2.1 with
  | i :: a :: r => bif Nat.beq i.1 0 then (bif Nat.beq a.1 2 then (match eGet S.2.2.2.2.1 a.2.1 with
    | some (.inr v) => bif Nat.beq (vA v).1 t && (decide (0 ≤ eLo S.2.2.2.1 i) && decide (eHi S.2.2.2.1 i < ((vA v).2.1 : Int))) then
        eNx (S.1 + 1, S.2.1, aRd (bif Nat.beq t 1 then 1 else 0) S.2.2.2.1 (vA v).2.2.1 (vA v).2.2.2 i :: r, S.2.2.2) else none
    | _ => none) else (bif Nat.beq a.1 5 && (Nat.beq a.2.1 0 && Nat.beq t 0) then (match sc with
      | some q => (match i.2.1 with
        | 0 => none
        | u + 1 => bif Nat.beq (nB u) q.1 && (decide (0 ≤ nO u) && decide (nO u < (q.2 : Int))) then eNx (S.1 + 1, S.2.1, eTop :: r, S.2.2.2) else none)
      | none => none) else none)) else none
  | _ => none
/-- the script of the law, where sc tells of it -/
def eSc (s : State) (A : Nat → Prop) (sb : eSB) (ρ : Nat → Int) (sc : Option (Nat × Nat)) : Prop := match sc with
  | none => True
  | some q => ∃ (L : Nat) (xs : Nat → Int32), va_X (sb.1 0) L xs s s.heap ∧ sb.1 0 < s.heap.size ∧ ¬ A (sb.1 0) ∧ L ≤ 3072 ∧ 0 ≤ ρ q.1 ∧ ρ q.1 + (q.2 : Int) ≤ L
theorem k_iald (K : eK p m c s args cc own nL Ts D cl cA A) {S : eS} {sc : Option (Nat × Nat)} (hsc : eSc s A sb ρ sc) (hd : decode cc S.1 = .ok (.iaload, 1)) {rs : List (Nat × eS)} (h : x_xld 0 sc S = some rs) (hr : ∀ r ∈ rs, eLf p l e R s m args below meth c Q D cl cA A sb ρ ad0 h0 nL r) : eW p l e R s m args below meth c Q D cl cA A sb ρ ad0 h0 nL S := by
  obtain ⟨hx, hb, hml, hown, hts, hK, hA⟩ := K
  obtain ⟨pc, lo, st, B, hp, Z⟩ := S
  unfold x_xld at h
  split at h
  next i a r hst =>
    dsimp only at hst
    subst hst
    dsimp only at h
    obtain ⟨i0, i1, i2, i3⟩ := i
    obtain ⟨a0, a1, a2, a3⟩ := a
    cases hb9 : Nat.beq i0 0 with
    | false => rw [hb9] at h; cases h
    | true =>
      rw [hb9, cond_true] at h
      have e0 := Nat.eq_of_beq_eq_true hb9
      subst e0
      cases hb8 : Nat.beq a0 2 with
      | true =>
        rw [hb8, cond_true] at h
        have e1 := Nat.eq_of_beq_eq_true hb8
        subst e1
        split at h
        next v hv =>
          have hv2 : ∀ (ad : Nat → Nat) (ws : va_W), gH ρ ad sb cA hp ws → ∃ y, ws[a1]? = some (ad a1, y) ∧ gC ρ ad sb cA (.inr (vA v)) y := fun ad ws g => by
            obtain ⟨y, h1, h2⟩ := g.2 a1 _ (by rw [← eGet_eq]; exact hv)
            exact ⟨y, h1, vA_ok h2⟩
          generalize vA v = v at h hv2
          cases hb7 : (Nat.beq v.1 0 && (decide (0 ≤ eLo B (0, i1, i2, i3)) && decide (eHi B (0, i1, i2, i3) < (v.2.1 : Int)))) with
          | false => rw [hb7] at h; cases h
          | true =>
            rw [hb7, cond_true] at h
            rw [Bool.and_eq_true, Bool.and_eq_true, decide_eq_true_eq, decide_eq_true_eq] at hb7
            have hn := eNx_ok (S := (pc, lo, (0, i1, i2, i3) :: (2, a1, a2, a3) :: r, B, hp, Z)) h hr
            intro ad ls lc vs ws H locs g1 g2 g3 g4 g5 g6 g7 g8 g9
            match vs, g4 with
            | u :: w :: vs, g4 =>
              obtain ⟨⟨x, rfl, hx9⟩, hw, g4⟩ := g4
              have hw : w = .ref (ad a1) := hw
              subst hw
              obtain ⟨v0, n, d, ov⟩ := v
              have e2 := Nat.eq_of_beq_eq_true hb7.1
              dsimp only at e2 hb7
              subst e2
              obtain ⟨y, hy1, f, hy2, hy3⟩ := hv2 ad ws g5
              subst hy2
              have u1 := eLo_ok g2 hx9
              have u2 := eHi_ok g2 hx9
              dsimp only at u1 u2 hy3 hy1
              obtain ⟨q1, q2, q3⟩ := vp_in_int (x := x) (n := n) (by omega) (by omega)
              exact va_iald hx hb hK g6 a1 0 hy1 rfl q1 hd (hn ad ls lc (.int (f x.toNatClampNeg) :: vs) ws H locs g1 g2 g3 ⟨aRd_okI (by omega) (by omega) (by omega) (hy3 _ q3), g4⟩ g5 g6 g7 g8 g9)
            | [_], g4 => exact g4.2.elim
            | [], g4 => exact g4.elim
        next => cases h
      | false =>
        rw [hb8, cond_false] at h
        cases hb7 : (Nat.beq a0 5 && (Nat.beq a1 0 && Nat.beq 0 0)) with
        | false => rw [hb7] at h; cases h
        | true =>
          rw [hb7, cond_true] at h
          rw [Bool.and_eq_true] at hb7
          have e1 := Nat.eq_of_beq_eq_true hb7.1
          rw [Bool.and_eq_true] at hb7
          have e2 := Nat.eq_of_beq_eq_true hb7.2.1
          subst e1
          subst e2
          split at h
          next q =>
            match i1, h with
            | 0, h => cases h
            | u9 + 1, h =>
              dsimp only at h
              cases hb6 : (Nat.beq (nB u9) q.1 && (decide (0 ≤ nO u9) && decide (nO u9 < (q.2 : Int)))) with
              | false => rw [hb6] at h; cases h
              | true =>
                rw [hb6, cond_true] at h
                rw [Bool.and_eq_true, Bool.and_eq_true, decide_eq_true_eq, decide_eq_true_eq] at hb6
                have hn := eNx_ok (S := (pc, lo, (0, u9 + 1, i2, i3) :: (5, 0, a2, a3) :: r, B, hp, Z)) h hr
                obtain ⟨L, xs, hX, hbl, hbA, hq3, hq1, hq2⟩ := hsc
                intro ad ls lc vs ws H locs g1 g2 g3 g4 g5 g6 g7 g8 g9
                match vs, g4 with
                | u :: w :: vs, g4 =>
                  obtain ⟨⟨x, rfl, hx9⟩, hw, g4⟩ := g4
                  have hw : w = .ref (sb.1 0) := hw
                  subst hw
                  have u1 := hx9.1 u9 rfl
                  rw [Nat.eq_of_beq_eq_true hb6.1] at u1
                  obtain ⟨z1, z2, z3⟩ := vp_in_int (x := x) (n := L) (by omega) (by omega)
                  exact va_sld hx hb hX hbl hbA g8 z1 hd (hn ad ls lc (.int (xs x.toNatClampNeg) :: vs) ws H locs g1 g2 g3 ⟨gV_int (eTop_ok _), g4⟩ g5 g6 g7 g8 g9)
                | [_], g4 => exact g4.2.elim
                | [], g4 => exact g4.elim
          next => cases h
  next => cases h
theorem k_lald (K : eK p m c s args cc own nL Ts D cl cA A) {S : eS} (hd : decode cc S.1 = .ok (.laload, 1)) {rs : List (Nat × eS)} (h : x_xld 1 none S = some rs) (hr : ∀ r ∈ rs, eLf p l e R s m args below meth c Q D cl cA A sb ρ ad0 h0 nL r) : eW p l e R s m args below meth c Q D cl cA A sb ρ ad0 h0 nL S := by
  obtain ⟨hx, hb, hml, hown, hts, hK, hA⟩ := K
  obtain ⟨pc, lo, st, B, hp, Z⟩ := S
  unfold x_xld at h
  split at h
  next i a r hst =>
    dsimp only at hst
    subst hst
    dsimp only at h
    obtain ⟨i0, i1, i2, i3⟩ := i
    obtain ⟨a0, a1, a2, a3⟩ := a
    cases hb9 : Nat.beq i0 0 with
    | false => rw [hb9] at h; cases h
    | true =>
      rw [hb9, cond_true] at h
      have e0 := Nat.eq_of_beq_eq_true hb9
      subst e0
      cases hb8 : Nat.beq a0 2 with
      | true =>
        rw [hb8, cond_true] at h
        have e1 := Nat.eq_of_beq_eq_true hb8
        subst e1
        split at h
        next v hv =>
          have hv2 : ∀ (ad : Nat → Nat) (ws : va_W), gH ρ ad sb cA hp ws → ∃ y, ws[a1]? = some (ad a1, y) ∧ gC ρ ad sb cA (.inr (vA v)) y := fun ad ws g => by
            obtain ⟨y, h1, h2⟩ := g.2 a1 _ (by rw [← eGet_eq]; exact hv)
            exact ⟨y, h1, vA_ok h2⟩
          generalize vA v = v at h hv2
          cases hb7 : (Nat.beq v.1 1 && (decide (0 ≤ eLo B (0, i1, i2, i3)) && decide (eHi B (0, i1, i2, i3) < (v.2.1 : Int)))) with
          | false => rw [hb7] at h; cases h
          | true =>
            rw [hb7, cond_true] at h
            rw [Bool.and_eq_true, Bool.and_eq_true, decide_eq_true_eq, decide_eq_true_eq] at hb7
            have hn := eNx_ok (S := (pc, lo, (0, i1, i2, i3) :: (2, a1, a2, a3) :: r, B, hp, Z)) h hr
            intro ad ls lc vs ws H locs g1 g2 g3 g4 g5 g6 g7 g8 g9
            match vs, g4 with
            | u :: w :: vs, g4 =>
              obtain ⟨⟨x, rfl, hx9⟩, hw, g4⟩ := g4
              have hw : w = .ref (ad a1) := hw
              subst hw
              obtain ⟨v0, n, d, ov⟩ := v
              have e2 := Nat.eq_of_beq_eq_true hb7.1
              dsimp only at e2 hb7
              subst e2
              obtain ⟨y, hy1, f, hy2, hy3⟩ := hv2 ad ws g5
              subst hy2
              have u1 := eLo_ok g2 hx9
              have u2 := eHi_ok g2 hx9
              dsimp only at u1 u2 hy3 hy1
              obtain ⟨q1, q2, q3⟩ := vp_in_int (x := x) (n := n) (by omega) (by omega)
              exact va_lald hx hb hK g6 a1 1 hy1 rfl q1 hd (hn ad ls lc (.long (f x.toNatClampNeg) :: vs) ws H locs g1 g2 g3 ⟨aRd_okL (by omega) (by omega) (by omega) (hy3 _ q3), g4⟩ g5 g6 g7 g8 g9)
            | [_], g4 => exact g4.2.elim
            | [], g4 => exact g4.elim
        next => cases h
      | false =>
        rw [hb8, cond_false] at h
        cases hb7 : (Nat.beq a0 5 && (Nat.beq a1 0 && Nat.beq 1 0)) with
        | false => rw [hb7] at h; cases h
        | true => rw [Bool.and_eq_true, Bool.and_eq_true] at hb7; cases hb7.2.2
  next => cases h
theorem k_bald (K : eK p m c s args cc own nL Ts D cl cA A) {S : eS} (hd : decode cc S.1 = .ok (.baload, 1)) {rs : List (Nat × eS)} (h : x_xld 2 none S = some rs) (hr : ∀ r ∈ rs, eLf p l e R s m args below meth c Q D cl cA A sb ρ ad0 h0 nL r) : eW p l e R s m args below meth c Q D cl cA A sb ρ ad0 h0 nL S := by
  obtain ⟨hx, hb, hml, hown, hts, hK, hA⟩ := K
  obtain ⟨pc, lo, st, B, hp, Z⟩ := S
  unfold x_xld at h
  split at h
  next i a r hst =>
    dsimp only at hst
    subst hst
    dsimp only at h
    obtain ⟨i0, i1, i2, i3⟩ := i
    obtain ⟨a0, a1, a2, a3⟩ := a
    cases hb9 : Nat.beq i0 0 with
    | false => rw [hb9] at h; cases h
    | true =>
      rw [hb9, cond_true] at h
      have e0 := Nat.eq_of_beq_eq_true hb9
      subst e0
      cases hb8 : Nat.beq a0 2 with
      | true =>
        rw [hb8, cond_true] at h
        have e1 := Nat.eq_of_beq_eq_true hb8
        subst e1
        split at h
        next v hv =>
          have hv2 : ∀ (ad : Nat → Nat) (ws : va_W), gH ρ ad sb cA hp ws → ∃ y, ws[a1]? = some (ad a1, y) ∧ gC ρ ad sb cA (.inr (vA v)) y := fun ad ws g => by
            obtain ⟨y, h1, h2⟩ := g.2 a1 _ (by rw [← eGet_eq]; exact hv)
            exact ⟨y, h1, vA_ok h2⟩
          generalize vA v = v at h hv2
          cases hb7 : (Nat.beq v.1 2 && (decide (0 ≤ eLo B (0, i1, i2, i3)) && decide (eHi B (0, i1, i2, i3) < (v.2.1 : Int)))) with
          | false => rw [hb7] at h; cases h
          | true =>
            rw [hb7, cond_true] at h
            rw [Bool.and_eq_true, Bool.and_eq_true, decide_eq_true_eq, decide_eq_true_eq] at hb7
            have hn := eNx_ok (S := (pc, lo, (0, i1, i2, i3) :: (2, a1, a2, a3) :: r, B, hp, Z)) h hr
            intro ad ls lc vs ws H locs g1 g2 g3 g4 g5 g6 g7 g8 g9
            match vs, g4 with
            | u :: w :: vs, g4 =>
              obtain ⟨⟨x, rfl, hx9⟩, hw, g4⟩ := g4
              have hw : w = .ref (ad a1) := hw
              subst hw
              obtain ⟨v0, n, d, ov⟩ := v
              have e2 := Nat.eq_of_beq_eq_true hb7.1
              dsimp only at e2 hb7
              subst e2
              obtain ⟨y, hy1, f, hy2, hy3⟩ := hv2 ad ws g5
              subst hy2
              have u1 := eLo_ok g2 hx9
              have u2 := eHi_ok g2 hx9
              dsimp only at u1 u2 hy3 hy1
              obtain ⟨q1, q2, q3⟩ := vp_in_int (x := x) (n := n) (by omega) (by omega)
              exact va_bald hx hb hK g6 a1 2 hy1 rfl q1 hd (hn ad ls lc (.int (f x.toNatClampNeg) :: vs) ws H locs g1 g2 g3 ⟨aRd_okI (by omega) (by omega) (by omega) (hy3 _ q3).1, g4⟩ g5 g6 g7 g8 g9)
            | [_], g4 => exact g4.2.elim
            | [], g4 => exact g4.elim
        next => cases h
      | false =>
        rw [hb8, cond_false] at h
        cases hb7 : (Nat.beq a0 5 && (Nat.beq a1 0 && Nat.beq 2 0)) with
        | false => rw [hb7] at h; cases h
        | true => rw [Bool.and_eq_true, Bool.and_eq_true] at hb7; cases hb7.2.2
  next => cases h
end E5
