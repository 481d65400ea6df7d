/-! ===== THE LAW, 10: a picture in another order, without one of its cells; what its end is ===== -/
def nG (l : List Nat) (k : Nat) : Nat := match eGet l k with
  | some x => x
  | none => 0
/-- is: which cells, in which order; inv: where a cell is then; n: the cell whose address is the name 59 of what no picture holds -/
def d9V (n : Nat) (inv : List Nat) (a : eV) : eV := match a.1 with
  | 2 => bif Nat.beq a.2.1 n then (5, 59, 0, 0) else (2, nG inv a.2.1, 0, 0)
  | _ => a
def d9O (n : Nat) (is inv : List Nat) (a : eV) : Bool := match a.1 with
  | 2 => Nat.beq a.2.1 n || Nat.beq (nG is (nG inv a.2.1)) a.2.1
  | 5 => Nat.ble a.2.1 58
  | _ => true
def d9C (n : Nat) (inv : List Nat) (c : eC) : eC := match c with
  | .inl o => .inl (o.1, o.2.map (d9V n inv))
  | .inr a => .inr a
def d9K (n : Nat) (is inv : List Nat) (c : eC) : Bool := match c with
  | .inl o => o.2.all (d9O n is inv)
  | .inr a => Nat.ble a.1 2
def d9G (hp : eH) (i : Nat) : eC := match eGet hp i with
  | some c => c
  | none => .inl (0, [])
/-- rows of zeros are rows as the loop knows them; where all places of a row are told, none is left for what stands elsewhere -/
def kc9 (c : eC) : Nat := match c with
  | .inl _ => 0
  | .inr a => a.1
def up8 (n k : Nat) (c : eC) : eC := bif Nat.beq k 4 && Nat.beq n 3280 then .inr (4, 3280, eI 0, []) else bif Nat.beq k 5 && Nat.beq (n % 66) 0 then .inr (5, n, eI 0, []) else bif Nat.beq k 7 && Nat.beq n 1400 then .inr (7, 1400, eI 0, [(0, eI 0)]) else bif Nat.beq k 9 && Nat.beq n 700 then .inr (9, 700, eI 0, [(0, eI 0)]) else c
def up9 (c c2 : eC) : eC := match c with
  | .inl o => .inl o
  | .inr (k, n, d, []) => bif Nat.beq k 0 && eEq d (eI 0) then up8 n (kc9 c2) (.inr (k, n, d, [])) else (bif (Nat.beq k 2 && eEq d (eI 0)) && (Nat.beq (kc9 c2) 10 && Nat.beq n 700) then .inr (10, 700, eI 0, [(0, eI 0)]) else .inr (k, n, d, []))
  | .inr (k, n, d, p :: ov) => bif Nat.beq k 0 && (Nat.ble n 20 && (List.range n).all (fun j => (p :: ov).any (fun q => Nat.beq q.1 j))) then .inr (0, n, aG d (p :: ov) (n - 1), p :: ov) else .inr (k, n, d, p :: ov)
def d9S (n : Nat) (is inv : List Nat) (T : eH) (S : eS) : eS := (S.1, S.2.1.map (fun p => (p.1, d9V n inv p.2)), S.2.2.1.map (d9V n inv), S.2.2.2.1, List.zipWith up9 (is.map (fun i => d9C n inv (d9G S.2.2.2.2.1 i))) T, S.2.2.2.2.2)
def d9B (n : Nat) (is inv : List Nat) (T : eH) (S : eS) : Bool := ((Nat.blt n S.2.2.2.2.1.length && Nat.beq S.2.2.1.length 0) && (Nat.beq T.length is.length && (List.range is.length).all (fun k => Nat.beq (nG inv (nG is k)) k && (Nat.blt (nG is k) S.2.2.2.2.1.length && (!(Nat.beq (nG is k) n) && d9K n is inv (d9G S.2.2.2.2.1 (nG is k))))))) && S.2.1.all (fun p => d9O n is inv p.2)
def d9H (n : Nat) (is : List Nat) (ad ad2 : Nat → Nat) (sb sb2 : eSB) : Prop := (∀ k, ad2 k = ad (nG is k)) ∧ sb2.1 59 = ad n ∧ ∀ t, t ≤ 58 → sb2.1 t = sb.1 t
theorem nG_at {l : List Nat} {k x : Nat} (h : l[k]? = some x) : nG l k = x := by
  unfold nG
  rw [eGet_eq, h]
section DN
variable {ρ : Nat → Int} {ad ad2 : Nat → Nat} {sb sb2 : eSB} {n : Nat} {is inv : List Nat} {cA : Nat → ClassId}
theorem d9V_ok (h : d9H n is ad ad2 sb sb2) {a : eV} {v : Value} (ho : d9O n is inv a = true) (g : gV ρ ad sb a v) : gV ρ ad2 sb2 (d9V n inv a) v := by
  obtain ⟨k, t, lo, hi⟩ := a
  match k, g, ho with
  | 0, g, _ => exact g
  | 1, g, _ => exact g
  | 2, g, ho =>
    have g : v = .ref (ad t) := g
    have ho : (Nat.beq t n || Nat.beq (nG is (nG inv t)) t) = true := ho
    show gV ρ ad2 sb2 (bif Nat.beq t n then (5, 59, 0, 0) else (2, nG inv t, 0, 0)) v
    cases h1 : Nat.beq t n with
    | true =>
      rw [cond_true]
      show v = .ref (sb2.1 59)
      rw [h.2.1, g, Nat.eq_of_beq_eq_true h1]
    | false =>
      rw [h1, Bool.false_or] at ho
      rw [cond_false]
      show v = .ref (ad2 (nG inv t))
      rw [h.1, Nat.eq_of_beq_eq_true ho]
      exact g
  | 3, g, _ => exact g
  | 4, g, _ => exact g
  | 5, g, ho =>
    have g : v = .ref (sb.1 t) := g
    have h1 : Nat.ble t 58 = true := ho
    show v = .ref (sb2.1 t)
    rw [h.2.2 t (Nat.le_of_ble_eq_true h1)]
    exact g
  | (k + 6), g, _ => exact g.elim
theorem d9S_ok (h : d9H n is ad ad2 sb sb2) : ∀ {as : List eV} {vs : List Value}, as.all (d9O n is inv) = true → gS ρ ad sb as vs → gS ρ ad2 sb2 (as.map (d9V n inv)) vs
  | [], [], _, _ => trivial
  | a :: as, v :: vs, h1, g => by
    rw [List.all_cons, Bool.and_eq_true] at h1
    exact ⟨d9V_ok h h1.1 g.1, d9S_ok h h1.2 g.2⟩
  | [], _ :: _, _, g => g.elim
  | _ :: _, [], _, g => g.elim
theorem d9L_ok (h : d9H n is ad ad2 sb sb2) : ∀ {lo : eL} {lc : List (Nat × Value)}, lo.all (fun p => d9O n is inv p.2) = true → gL ρ ad sb lo lc → gL ρ ad2 sb2 (lo.map (fun p => (p.1, d9V n inv p.2))) lc
  | [], [], _, _ => trivial
  | a :: as, v :: vs, h1, g => by
    rw [List.all_cons, Bool.and_eq_true] at h1
    exact ⟨⟨g.1.1, d9V_ok h h1.1 g.1.2⟩, d9L_ok h h1.2 g.2⟩
  | [], _ :: _, _, g => g.elim
  | _ :: _, [], _, g => g.elim
theorem gV_num9 {b : eV} {v : Value} (hv : v.category = 2 ∨ ∃ x, v = .int x) (g : gV ρ ad sb b v) : gV ρ ad2 sb2 b v := by
  obtain ⟨k, t, lo, hi⟩ := b
  match k, g with
  | 0, g => exact g
  | 1, g => exact g
  | 2, g =>
    have g : v = .ref _ := g
    subst g
    rcases hv with h | ⟨x, h⟩ <;> cases h
  | 3, g =>
    have g : v = .null := g
    subst g
    rcases hv with h | ⟨x, h⟩ <;> cases h
  | 4, g =>
    obtain ⟨q, g⟩ := g
    subst g
    rcases hv with h | ⟨x, h⟩ <;> cases h
  | 5, g =>
    have g : v = .ref _ := g
    subst g
    rcases hv with h | ⟨x, h⟩ <;> cases h
  | (n + 6), g => exact g.elim
theorem d9C_ok (h : d9H n is ad ad2 sb sb2) {c : eC} {x : va_E} (hk : d9K n is inv c = true) (g : gC ρ ad sb cA c x) : gC ρ ad2 sb2 cA (d9C n inv c) x := by
  match c, hk, g with
  | .inl o, hk, g =>
    obtain ⟨vs, h1, h2⟩ := g
    exact ⟨vs, h1, d9S_ok h hk h2⟩
  | .inr (0, w, d, ov), _, g =>
    obtain ⟨f, h1, h2⟩ := g
    exact ⟨f, h1, fun j hj => gV_num9 (Or.inr ⟨_, rfl⟩) (h2 j hj)⟩
  | .inr (1, w, d, ov), _, g =>
    obtain ⟨f, h1, h2⟩ := g
    exact ⟨f, h1, fun j hj => gV_num9 (Or.inl rfl) (h2 j hj)⟩
  | .inr (2, w, d, ov), _, g =>
    obtain ⟨f, h1, h2⟩ := g
    exact ⟨f, h1, fun j hj => ⟨gV_num9 (Or.inr ⟨_, rfl⟩) (h2 j hj).1, (h2 j hj).2⟩⟩
  | .inr (k + 3, w, d, ov), hk, _ =>
    have hk : Nat.ble (k + 3) 2 = true := hk
    have := Nat.le_of_ble_eq_true hk
    omega
theorem zr_of {n : Nat} {d : eV} {f : Nat → Int32} (hd : eEq d (eI 0) = true) (h : ∀ j, j < n → gV ρ ad sb (aG d [] j) (.int (f j))) : ∀ j, j < n → (f j).toInt = 0 := fun j hj => by
  have h1 := h j hj
  have e : d = eI 0 := eEq_eq hd
  subst e
  obtain ⟨x, hx, -, h2, h3⟩ := h1
  cases hx
  have h2 : (0 : Int) ≤ (f j).toInt := h2
  have h3 : (f j).toInt ≤ 0 := h3
  omega
theorem r82_0 (i : Nat) : r82 i 0 := by
  unfold r82
  split <;> first | exact trivial | exact ⟨by decide, by decide⟩
theorem aG_tl {d d2 : eV} {j : Nat} : ∀ {ov : List (Nat × eV)}, ov.any (fun q => Nat.beq q.1 j) = true → aG d ov j = aG d2 ov j
  | [], h => by cases h
  | p :: r, h => by
    unfold aG
    cases hb : Nat.beq p.1 j with
    | true => rfl
    | false =>
      rw [cond_false, cond_false]
      rw [List.any_cons, hb, Bool.false_or] at h
      exact aG_tl h
theorem dc_00 : (dc 0).length = 0 := by decide +kernel
theorem up8_ok {n k : Nat} {x : va_E} (g : gC ρ ad sb cA (.inr (0, n, eI 0, [])) x) : gC ρ ad sb cA (up8 n k (.inr (0, n, eI 0, []))) x := by
  have hz : ∃ f : Nat → Int32, x = .inl (cA 0, n, .inl f) ∧ ∀ j, j < n → (f j).toInt = 0 := by
    obtain ⟨f, h1, h2⟩ := g
    exact ⟨f, h1, zr_of (d := eI 0) rfl h2⟩
  obtain ⟨f, h1, hz⟩ := hz
  unfold up8
  cases hb : (Nat.beq k 4 && Nat.beq n 3280) with
  | true =>
    rw [Bool.and_eq_true] at hb
    have e := Nat.eq_of_beq_eq_true hb.2
    subst e
    rw [cond_true]
    refine ⟨f, [], h1, trivial, ?_⟩
    show 3280 = 3280 ∧ ∀ j : Nat, j < 3280 → r82 (j % 82) (f j).toInt
    exact ⟨rfl, fun j hj => by rw [hz j hj]; exact r82_0 _⟩
  | false =>
    rw [cond_false]
    cases hb2 : (Nat.beq k 5 && Nat.beq (n % 66) 0) with
    | true =>
      rw [Bool.and_eq_true] at hb2
      have e := Nat.eq_of_beq_eq_true hb2.2
      rw [cond_true]
      refine ⟨f, [], h1, trivial, ?_⟩
      show n % 66 = 0 ∧ R66 n (fun j => (f j).toInt)
      refine ⟨e, fun r hr => ?_⟩
      have z : ∀ j, j < 66 → (f (66 * r + j)).toInt = 0 := fun j hj => hz _ (by omega)
      show (0 ≤ (f (66 * r + 0)).toInt ∧ (f (66 * r + 0)).toInt ≤ 999) ∧ ∀ b : Nat, b < 10 → (0 ≤ (f (66 * r + (2 + b))).toInt ∧ (f (66 * r + (2 + b))).toInt ≤ 4) ∧ (-1 ≤ (f (66 * r + (12 + b))).toInt ∧ (f (66 * r + (12 + b))).toInt ≤ 9) ∧ ((f (66 * r + (2 + b))).toInt = 3 → 0 ≤ (f (66 * r + (12 + b))).toInt) ∧ (0 ≤ (f (66 * r + (32 + b))).toInt ∧ (f (66 * r + (32 + b))).toInt ≤ 9)
      rw [z 0 (by omega)]
      refine ⟨⟨by decide, by decide⟩, fun b hb => ?_⟩
      rw [z (2 + b) (by omega), z (12 + b) (by omega), z (32 + b) (by omega)]
      exact ⟨⟨by decide, by decide⟩, ⟨by decide, by decide⟩, fun _ => by decide, by decide, by decide⟩
    | false =>
      rw [cond_false]
      cases hb3 : (Nat.beq k 7 && Nat.beq n 1400) with
      | true =>
        rw [Bool.and_eq_true] at hb3
        have e := Nat.eq_of_beq_eq_true hb3.2
        subst e
        rw [cond_true]
        refine ⟨f, [0], h1, ⟨gN_I 0, trivial⟩, ?_⟩
        show 1400 = 1400 ∧ sgT (fun j => (f j).toInt) 0
        exact ⟨rfl, by decide, by decide, Or.inl rfl⟩
      | false =>
        rw [cond_false]
        cases hb4 : (Nat.beq k 9 && Nat.beq n 700) with
        | true =>
          rw [Bool.and_eq_true] at hb4
          have e := Nat.eq_of_beq_eq_true hb4.2
          subst e
          rw [cond_true]
          refine ⟨f, [0], h1, ⟨gN_I 0, trivial⟩, ?_⟩
          show tpR 0 255 700 f 0
          exact tpR_0 (g := 0) ⟨rfl, fun j hj => by rw [hz j hj]; exact ⟨by decide, by decide⟩, fun j hj h => absurd (bt_out (by rw [dc_00]; exact Nat.zero_le _)) h⟩
        | false => exact g
theorem up9_ok {c c2 : eC} {x : va_E} (g : gC ρ ad sb cA c x) : gC ρ ad sb cA (up9 c c2) x := by
  match c, g with
  | .inl o, g => exact g
  | .inr (k, n, d, []), g =>
    show gC ρ ad sb cA (bif Nat.beq k 0 && eEq d (eI 0) then up8 n (kc9 c2) (.inr (k, n, d, [])) else (bif (Nat.beq k 2 && eEq d (eI 0)) && (Nat.beq (kc9 c2) 10 && Nat.beq n 700) then .inr (10, 700, eI 0, [(0, eI 0)]) else .inr (k, n, d, []))) x
    cases hb : (Nat.beq k 0 && eEq d (eI 0)) with
    | false =>
      rw [cond_false]
      cases hb2 : ((Nat.beq k 2 && eEq d (eI 0)) && (Nat.beq (kc9 c2) 10 && Nat.beq n 700)) with
      | false => exact g
      | true =>
        simp only [Bool.and_eq_true] at hb2
        obtain ⟨⟨c0, c1⟩, -, c3⟩ := hb2
        have c0 := Nat.eq_of_beq_eq_true c0
        have c1 := eEq_eq c1
        have c3 := Nat.eq_of_beq_eq_true c3
        subst c0
        subst c1
        subst c3
        obtain ⟨f, h1, h2⟩ := g
        rw [cond_true]
        have hz := zr_of (d := eI 0) rfl (fun j hj => (h2 j hj).1)
        refine ⟨f, [0], h1, ⟨gN_I 0, trivial⟩, ?_⟩
        show tpR (-128) 127 700 f 0
        exact tpR_0 (g := 0) ⟨rfl, fun j hj => by rw [hz j hj]; exact ⟨by decide, by decide⟩, fun j hj h => absurd (bt_out (by rw [dc_00]; exact Nat.zero_le _)) h⟩
    | true =>
      rw [Bool.and_eq_true] at hb
      have e0 := Nat.eq_of_beq_eq_true hb.1
      have e1 := eEq_eq hb.2
      subst e0
      subst e1
      rw [cond_true]
      exact up8_ok g
  | .inr (k, n, d, p :: ov), g =>
    show gC ρ ad sb cA (bif Nat.beq k 0 && (Nat.ble n 20 && (List.range n).all (fun j => (p :: ov).any (fun q => Nat.beq q.1 j))) then .inr (0, n, aG d (p :: ov) (n - 1), p :: ov) else .inr (k, n, d, p :: ov)) x
    cases hb : (Nat.beq k 0 && (Nat.ble n 20 && (List.range n).all (fun j => (p :: ov).any (fun q => Nat.beq q.1 j)))) with
    | false => exact g
    | true =>
      rw [Bool.and_eq_true, Bool.and_eq_true] at hb
      have e0 := Nat.eq_of_beq_eq_true hb.1
      subst e0
      obtain ⟨f, h1, h2⟩ := g
      rw [cond_true]
      refine ⟨f, h1, fun j hj => ?_⟩
      have e := aG_tl (d := aG d (p :: ov) (n - 1)) (d2 := d) (List.all_eq_true.mp hb.2.2 j (List.mem_range.mpr hj))
      show gV ρ ad sb (aG (aG d (p :: ov) (n - 1)) (p :: ov) j) (.int (f j))
      rw [e]
      exact h2 j hj
/-- those cells -/
def wsG (ws : va_W) (is : List Nat) : va_W := is.map (fun i => ws.getD i (0, .inr (0, [])))
theorem wsG_at {ws : va_W} (hlt : ∀ k, k < is.length → nG is k < ws.length) {k : Nat} {q : Nat × va_E} (h : (wsG ws is)[k]? = some q) : k < is.length ∧ ws[nG is k]? = some q := by
  unfold wsG at h
  rw [List.getElem?_map] at h
  cases hi : is[k]? with
  | none => rw [hi] at h; cases h
  | some i =>
    rw [hi] at h
    have hk : k < is.length := (List.getElem?_eq_some_iff.mp hi).1
    have e := hlt k hk
    rw [nG_at hi] at e ⊢
    refine ⟨hk, ?_⟩
    have h9 : ws.getD i (0, .inr (0, [])) = q := Option.some.inj h
    rw [List.getD_eq_getElem?_getD, List.getElem?_eq_getElem e] at h9
    rw [List.getElem?_eq_getElem e]
    exact congrArg some h9
theorem wsG_to {ws : va_W} {k i : Nat} (hi : is[k]? = some i) {q : Nat × va_E} (h : ws[i]? = some q) : (wsG ws is)[k]? = some q := by
  unfold wsG
  rw [List.getElem?_map, hi]
  show some (ws.getD i (0, .inr (0, []))) = some q
  rw [List.getD_eq_getElem?_getD, h]
  rfl
theorem d9Hp_ok (h : d9H n is ad ad2 sb sb2) {hp T : eH} {ws : va_W} (hT : T.length = is.length) (hlt : ∀ k, k < is.length → nG is k < hp.length) (hk : ∀ k, k < is.length → d9K n is inv (d9G hp (nG is k)) = true) (g : gH ρ ad sb cA hp ws) : gH ρ ad2 sb2 cA (List.zipWith up9 (is.map (fun i => d9C n inv (d9G hp i))) T) (wsG ws is) := by
  refine ⟨by unfold wsG; rw [List.length_zipWith, List.length_map, List.length_map, hT, Nat.min_self], fun k c hc => ?_⟩
  rw [List.getElem?_zipWith, List.getElem?_map] at hc
  cases hi : is[k]? with
  | none => rw [hi] at hc; cases hc
  | some i =>
    have hkl : k < is.length := (List.getElem?_eq_some_iff.mp hi).1
    have hlt9 := hlt k hkl
    have hk9 := hk k hkl
    rw [nG_at hi] at hlt9 hk9
    have hti : T[k]? = some T[k] := List.getElem?_eq_getElem (by rw [hT]; exact hkl)
    rw [hi, hti] at hc
    have e : up9 (d9C n inv (d9G hp i)) T[k] = c := Option.some.inj hc
    have hg : hp[i]? = some (d9G hp i) := by
      unfold d9G
      rw [eGet_eq, List.getElem?_eq_getElem hlt9]
    obtain ⟨x, q1, q2⟩ := g.2 i _ hg
    refine ⟨x, ?_, e ▸ up9_ok (d9C_ok h hk9 q2)⟩
    rw [h.1 k, nG_at hi]
    exact wsG_to hi q1
end DN
theorem er_P {D : va_G} {cl : List vw_C} {ws : va_W} {H : Heap} {is : List Nat} (hlt : ∀ k, k < is.length → nG is k < ws.length) (h : va_P D cl ws H) : va_P D cl (wsG ws is) H := h.by (fun k => nG is k) (fun _ _ hk => (wsG_at hlt hk).2)
theorem er_D {A : Nat → Prop} {ws : va_W} {is inv : List Nat} (hlt : ∀ k, k < is.length → nG is k < ws.length) (hin : ∀ k, k < is.length → nG inv (nG is k) = k) (h : va_D A ws) : va_D A (wsG ws is) := h.by (fun k => nG is k) (fun _ _ hk => (wsG_at hlt hk).2) (fun i j hi hj hij => by
  have hl : (wsG ws is).length = is.length := by unfold wsG; rw [List.length_map]
  rw [hl] at hi hj
  have e1 := hin i hi
  have e2 := hin j hj
  have hij : nG is i = nG is j := hij
  rw [hij] at e1
  exact e1.symm.trans e2)
/-- the law's end, with 1 on the stack -/
theorem lw_ret2 {p : Program} {l : Launch} {e : Env} {R : Room} {s : State} {m : MethodId} {args : Array Value} {below : List Frame} {meth : Method} {c : Code} (hx : p.tables.exec = Jvm.exec) (hb : c.code = code) (hr : meth.sig.returnType = ret) (hlocks : meth.locks = false) {pc N : Nat} {H : Heap} {ls : Array Slot} {locs : List Loc} (hl : ∀ q ∈ locs, N ≤ q.base) (hdg : decode code pc = .ok (.ireturn, 1)) : W p l e R s m args below meth c H locs R.cells R.slots (lwY below s N R.cells R.slots) (F0 m pc ls [.int 1]) := by
  intro T hT X
  obtain ⟨fs, hret, hrun, hended, hW, hframe⟩ := X.leave (v := some (.int 1)) (hlocks := hlocks) (fun h => by rw [hr] at h; cases h)
  have hmeth' : T.vm.method? m = some meth := X.method'
  refine ⟨T.setFrames fs, ?_, hrun, hended, locs, hl, ⟨_, rfl⟩, hW, hframe⟩
  jvm_step X.here [X.here.top, hx, hb, hdg, hmeth', hr, ret, narrow_b1]
  (try refine ⟨rfl, ?_⟩); (try refine ⟨rfl, ?_⟩)
  first | (intro acts; rw [hret _ acts rfl rfl rfl]) | rw [hret _ _ rfl rfl rfl]
  exact Steps.refl _
theorem rowL_at {pc : Nat} {q : eQ} (hq : ft_L pc = some q) : decode code pc = .ok (q.1, q.2.1) ∧ lenB q.1 q.2.1 = true ∧ (stp q = false → ∀ meth : Method, okE GT eCls RL meth mtF npF ciF dfF q) := by
  obtain ⟨h1, h2, h3, -⟩ := rowsB_ok zf_L rows_L pc q hq
  exact ⟨h1, h2, fun hs meth => h3 hs meth (fun z => by cases z)⟩
section LE
variable {p : Program} {l : Launch} {e : Env} {R : Room} {s : State} {m : MethodId} {args : Array Value} {below : List Frame} {meth : Method} {c : Code}
variable {D : va_G} {cA : Nat → ClassId} {A : Nat → Prop} {sb : eSB} {ρ : Nat → Int} {ad0 : Nat → Nat} {h0 : Nat}
theorem law_end (hx : p.tables.exec = Jvm.exec) (hb : c.code = code) (hr : meth.sig.returnType = ret) (hlocks : meth.locks = false) {N : Nat} (hA : ∀ q, A q → N ≤ q) {o : Nat × eS} {C Z : Nat} (h : retB o = true) (hC : C ≤ R.cells) (hZ : Z ≤ R.slots) : eW p l e R s m args below meth c (lwY below s N R.cells R.slots) D eCls cA A sb ρ ad0 h0 7 (setZ o.2 C Z) := by
  obtain ⟨k, pc, lo, st, B, hp, c9, z9⟩ := o
  unfold retB at h
  dsimp only at h
  split at h
  next q hq =>
    obtain ⟨hd, hlen, -⟩ := rowL_at hq
    obtain ⟨i, len, a1, a2, z⟩ := q
    dsimp only at h hd hlen
    split at h
    · have hl : len = 1 := lenB_ret hlen (Or.inl rfl)
      subst hl
      split at h
      next v =>
        simp only [Bool.and_eq_true, decide_eq_true_eq] at h
        obtain ⟨v1, v2, v3⟩ := h
        intro ad ls lc vs ws H locs g1 g2 g3 g4 g5 g6 g7 g8 g9
        match vs, g4 with
        | [u], g4 =>
          obtain ⟨w0, w1, w2, w3⟩ := v
          have e1 := Nat.eq_of_beq_eq_true v1
          dsimp only at e1
          subst e1
          obtain ⟨y, rfl, hy⟩ := g4.1
          have u1 := eLo_ok g2 hy
          have u2 := eHi_ok g2 hy
          dsimp only [setZ] at u1 u2
          have hy1 : y = 1 := i32_of (show y.toInt = 1 by omega)
          subst hy1
          refine W.widen hC hZ ?_
          exact lw_ret2 hx hb hr hlocks (fun q hq => hA _ (g8.2.2 q hq)) hd
        | [], g4 => exact g4.elim
        | _ :: _ :: _, g4 => exact g4.2.elim
      next => cases h
    · cases h
  next => cases h
end LE
