/-! ===== THE ENGINE, 15: contracts over a part of the cells, with names of their own ===== -/
def cT (ρ : Nat → Int) (sb : eSB) (D : va_G) (cl : List vw_C) (cA : Nat → ClassId) (ad : Nat → Nat) (nP : Nat) (A' : Nat → Prop) (o : eO) (v : Option Value) (t : State) : Prop :=
  ∃ (ρ' : Nat → Int) (ws' : va_W), (∀ i, i < nP → ρ' i = ρ i) ∧ eRet ρ' ad sb o.2.1 v ∧ gB ρ' o.2.2.1 ∧ gH ρ' ad sb cA o.2.2.2 ws' ∧ va_P D cl ws' t.heap ∧ va_K D cl (eTys cA) t ∧ va_D A' ws'
def cQ (ρ : Nat → Int) (sb : eSB) (D : va_G) (cl : List vw_C) (cA : Nat → ClassId) (ad : Nat → Nat) (nP : Nat) (A' : Nat → Prop) (outs : List eO) : Array Value → State → Outcome → State → Prop := fun _ st oc t =>
  (∃ (v : Option Value) (o : eO), oc = .returned v ∧ o ∈ outs ∧ o.1 = 0 ∧ cT ρ sb D cl cA ad nP A' o v t) ∧ va_F A' st t
def cX (ρ : Nat → Int) (sb : eSB) (D : va_G) (cl : List vw_C) (cA : Nat → ClassId) (ad : Nat → Nat) (nP : Nat) (A' : Nat → Prop) (outs : List eO) : String → State → State → Prop := fun E st t =>
  (∃ (k : Nat) (o : eO), o ∈ outs ∧ o.1 = k + 1 ∧ E = exN (k + 1) ∧ o.2.1 = none ∧ cT ρ sb D cl cA ad nP A' o none t) ∧ va_F A' st t
/-- the method y, called with as over the cells hp, comes to one of outs; names below nP stay -/
def cM (l : Launch) (GT : List Cond) (strs : List (String × Nat × String)) (sb : eSB) (D : va_G) (cl : List vw_C) (cA : Nat → ClassId) (d : Nat) (y : eM) (ρ : Nat → Int) (as : List eV) (B : eB) (hp : eH) (nP : Nat) (outs : List eO) : Prop :=
  ∀ (ad : Nat → Nat) (vs : List Value) (ws : va_W) (sz : Nat), gB ρ B → gS ρ ad sb as vs → gH ρ ad sb cA hp ws →
    vx_Met l y.1 (y.2.1 :: GT) (rmD d y.2.2.2.2.2.1 y.2.2.2.2.2.2) (ePc strs sb D cl cA vs ws sz) (cQ ρ sb D cl cA ad nP (va_A ws sz) outs) (cX ρ sb D cl cA ad nP (va_A ws sz) outs) y.2.2.2.2.2.1 y.2.2.2.2.2.2 (va_A ws sz)
-- names below N
def tgT (N g : Nat) : Bool := match g with
  | 0 => true
  | t + 1 => Nat.blt (nB t) N
def tgV (N : Nat) (a : eV) : Bool := bif Nat.ble a.1 1 then tgT N a.2.1 else true
def tgC (N : Nat) (c : eC) : Bool := match c with
  | .inl o => o.2.all (tgV N)
  | .inr a => tgT N a.2.2.1.2.1 && a.2.2.2.all (fun p => tgT N p.2.2.1)
def tgL (N : Nat) (l : eL) : Bool := l.all (fun p => tgV N p.2)
section TG
variable {ρ ρ2 : Nat → Int} {ad : Nat → Nat} {sb : eSB} {N : Nat} {cA : Nat → ClassId}
theorem tgT_ok {g : Nat} (h : tgT N g = true) : ∀ t, g = t + 1 → nB t < N := by
  intro t ht
  subst ht
  exact blt_lt h
theorem gN_ag (hag : ∀ i, i < N → ρ2 i = ρ i) {a : eV} {z : Int} (h : tgT N a.2.1 = true) (g : gN ρ a z) : gN ρ2 a z :=
  ⟨fun t ht => by rw [hag _ (tgT_ok h t ht)]; exact g.1 t ht, g.2⟩
theorem gV_ag (hag : ∀ i, i < N → ρ2 i = ρ i) {a : eV} {v : Value} (h : a.1 ≤ 1 → tgT N a.2.1 = true) (g : gV ρ ad sb a v) : gV ρ2 ad sb a v := by
  obtain ⟨k, t, lo, hi⟩ := a
  match k, g, h with
  | 0, g, h => obtain ⟨x, e, g⟩ := g; exact ⟨x, e, gN_ag hag (h (Nat.zero_le 1)) g⟩
  | 1, g, h => obtain ⟨x, e, g⟩ := g; exact ⟨x, e, gN_ag hag (h (Nat.le_refl 1)) g⟩
  | 2, g, _ => exact g
  | 3, g, _ => exact g
  | 4, g, _ => exact g
  | 5, g, _ => exact g
  | (n + 6), g, _ => exact g.elim
theorem tgV_ok {a : eV} (h : tgV N a = true) : a.1 ≤ 1 → tgT N a.2.1 = true := fun h1 => by
  unfold tgV at h
  rw [Nat.ble_eq_true_of_le h1, cond_true] at h
  exact h
theorem gS_ag (hag : ∀ i, i < N → ρ2 i = ρ i) : ∀ {as : List eV} {vs : List Value}, as.all (tgV N) = true → gS ρ ad sb as vs → gS ρ2 ad sb as vs
  | [], [], _, _ => trivial
  | a :: as, v :: vs, h, g => by
    rw [List.all_cons, Bool.and_eq_true] at h
    exact ⟨gV_ag hag (tgV_ok h.1) g.1, gS_ag hag h.2 g.2⟩
  | [], _ :: _, _, g => g.elim
  | _ :: _, [], _, g => g.elim
theorem gL_ag (hag : ∀ i, i < N → ρ2 i = ρ i) : ∀ {as : eL} {vs : List (Nat × Value)}, tgL N as = true → gL ρ ad sb as vs → gL ρ2 ad sb as vs
  | [], [], _, _ => trivial
  | a :: as, v :: vs, h, g => by
    unfold tgL at h
    rw [List.all_cons, Bool.and_eq_true] at h
    exact ⟨⟨g.1.1, gV_ag hag (tgV_ok h.1) g.1.2⟩, gL_ag hag h.2 g.2⟩
  | [], _ :: _, _, g => g.elim
  | _ :: _, [], _, g => g.elim
theorem gNs_ag (hag : ∀ i, i < N → ρ2 i = ρ i) : ∀ {as : List (Nat × eV)} {zs : List Int}, as.all (fun p => tgT N p.2.2.1) = true → gNs ρ as zs → gNs ρ2 as zs
  | [], [], _, _ => trivial
  | a :: as, z :: zs, h, g => by
    rw [List.all_cons, Bool.and_eq_true] at h
    exact ⟨gN_ag hag h.1 g.1, gNs_ag hag h.2 g.2⟩
  | [], _ :: _, _, g => g.elim
  | _ :: _, [], _, g => g.elim
theorem aG_all {P : eV → Prop} {d : eV} (hd : P d) : ∀ {l : List (Nat × eV)}, (∀ p ∈ l, P p.2) → ∀ j, P (aG d l j)
  | [], _, _ => hd
  | p :: r, h, j => by
    unfold aG
    cases Nat.beq p.1 j
    · exact aG_all hd (fun q hq => h q (List.mem_cons_of_mem _ hq)) j
    · exact h p List.mem_cons_self
theorem gC_ag (hag : ∀ i, i < N → ρ2 i = ρ i) {c : eC} {x : va_E} (h : tgC N c = true) (g : gC ρ ad sb cA c x) : gC ρ2 ad sb cA c x := by
  match c, h, g with
  | .inl o, h, g =>
    obtain ⟨vs, h1, h2⟩ := g
    exact ⟨vs, h1, gS_ag hag h h2⟩
  | .inr (k, n, d, ov), h, g =>
    have h9 : (tgT N d.2.1 && ov.all (fun p => tgT N p.2.2.1)) = true := h
    rw [Bool.and_eq_true] at h9
    have hj : ∀ j, tgT N (aG d ov j).2.1 = true := aG_all (P := fun v => tgT N v.2.1 = true) h9.1 (fun p hp => List.all_eq_true.mp h9.2 p hp)
    match k, g with
    | 0, g =>
      obtain ⟨f, h1, h2⟩ := g
      exact ⟨f, h1, fun j hl => gV_ag hag (fun _ => hj j) (h2 j hl)⟩
    | 1, g =>
      obtain ⟨f, h1, h2⟩ := g
      exact ⟨f, h1, fun j hl => gV_ag hag (fun _ => hj j) (h2 j hl)⟩
    | 2, g =>
      obtain ⟨f, h1, h2⟩ := g
      exact ⟨f, h1, fun j hl => ⟨gV_ag hag (fun _ => hj j) (h2 j hl).1, (h2 j hl).2⟩⟩
    | 3, g =>
      have hj2 : ∀ j, tgT N (aG (aDf ov) ov j).2.1 = true := aG_all (P := fun v => tgT N v.2.1 = true) (aG_all (P := fun v => tgT N v.2.1 = true) rfl (fun p hp => List.all_eq_true.mp h9.2 p hp) _) (fun p hp => List.all_eq_true.mp h9.2 p hp)
      refine ⟨g.1, fun h => ?_⟩
      obtain ⟨f, h1, h2⟩ := g.2 h
      exact ⟨f, h1, fun j hl => gV_ag hag (fun _ => hj2 j) (h2 j hl)⟩
    | k + 4, g =>
      obtain ⟨f, zs, h1, h2, h3⟩ := g
      exact ⟨f, zs, h1, gNs_ag hag h9.2 h2, h3⟩
end TG
-- a contract's values, here
def rnT (B : eB) (l : eL) (hp : eH) (th : List (Option eP)) (N nP g : Nat) : Nat := match g with
  | 0 => 0
  | t + 1 => bif Nat.blt (nB t) nP then (match vN B l hp th (nB t) with
    | some a => bif nZ0 t then a.2.1 else tSh a.2.1 (nO t)
    | none => 0) else (N + (nB t - nP)) * 8192 + t % 8192 + 1
def imx (a b : Int) : Int := bif iLe a b then b else a
def imn (a b : Int) : Int := bif iLe a b then a else b
theorem imx_le {a b z : Int} (h1 : a ≤ z) (h2 : b ≤ z) : imx a b ≤ z := by
  unfold imx
  cases iLe a b
  · exact h1
  · exact h2
theorem le_imn {a b z : Int} (h1 : z ≤ a) (h2 : z ≤ b) : z ≤ imn a b := by
  unfold imn
  cases iLe a b
  · exact h2
  · exact h1
/-- the caller's own value of a contract's name -/
def rnA (B : eB) (l : eL) (hp : eH) (th : List (Option eP)) (nP g : Nat) : Option (Int × Int) := match g with
  | 0 => none
  | t + 1 => bif Nat.blt (nB t) nP then (match vN B l hp th (nB t) with
    | some a => some (pO a.2.2.1 t, pO a.2.2.2 t)
    | none => none) else none
def rnP (B : eB) (l : eL) (hp : eH) (th : List (Option eP)) (N nP : Nat) (Bo : eB) (b : eV) : eV := (b.1, rnT B l hp th N nP b.2.1, (match rnA B l hp th nP b.2.1 with
  | some q => (imx (eLo Bo b) q.1, imn (eHi Bo b) q.2)
  | none => (eLo Bo b, eHi Bo b)))
def rnV (B : eB) (l : eL) (hp : eH) (th : List (Option eP)) (N nP : Nat) (fm : Nat → Nat) (Bo : eB) (b : eV) : eV := match b.1 with
  | 0 => rnP B l hp th N nP Bo b
  | 1 => rnP B l hp th N nP Bo b
  | 2 => (2, fm b.2.1, 0, 0)
  | _ => b
def rnC (B : eB) (l : eL) (hp : eH) (th : List (Option eP)) (N nP : Nat) (fm : Nat → Nat) (Bo : eB) (c : eC) : eC := match c with
  | .inl o => .inl (o.1, o.2.map (rnV B l hp th N nP fm Bo))
  | .inr a => .inr (a.1, a.2.1, rnP B l hp th N nP Bo a.2.2.1, a.2.2.2.map (fun p => (p.1, rnP B l hp th N nP Bo p.2)))
def nmF (B : eB) (l : eL) (hp : eH) (th : List (Option eP)) (N nP i : Nat) : Option (Nat × Int) := bif Nat.blt i nP then (match vN B l hp th i with
  | some a => (match a.2.1 with
    | 0 => none
    | t + 1 => some (nB t, nO t))
  | none => none) else some (N + (i - nP), 0)
/-- an argument of a relation of the contract's, here -/
def rnG (B : eB) (l : eL) (hp : eH) (th : List (Option eP)) (N nP n : Nat) : Option Nat := bif Nat.blt n cB then (match n with
    | 0 => none
    | t + 1 => (match rnT B l hp th N nP (t + 1) with
      | g + 1 => bif Nat.blt (g + 1) cB then some (g + 1) else none
      | 0 => bif Nat.blt (nB t) nP then (match vN B l hp th (nB t) with
        | some a => bif decide (a.2.2.1 = a.2.2.2) && decide (-4294967296 ≤ a.2.2.1 + nO t) then some (aI (a.2.2.1 + nO t)) else none
        | none => none) else none)) else some n
def rnF (B : eB) (l : eL) (hp : eH) (th : List (Option eP)) (N nP : Nat) : List eF → List eF
  | [] => []
  | f :: r => bif Nat.ble f.1 2 then (match nmF B l hp th N nP f.2.1, nmF B l hp th N nP f.2.2.2.1 with
    | some a, some c => (match f.1 with
      | 0 => (0, a.1, f.2.2.1 - a.2, c.1, f.2.2.2.2 - c.2) :: rnF B l hp th N nP r
      | 1 => (1, a.1, f.2.2.1 + a.2 - c.2, c.1, 0) :: rnF B l hp th N nP r
      | _ => (2, a.1, f.2.2.1 - a.2, c.1, f.2.2.2.2 - c.2) :: rnF B l hp th N nP r)
    | _, _ => rnF B l hp th N nP r) else (match rnG B l hp th N nP f.2.1, rnG B l hp th N nP f.2.2.2.1, rnG B l hp th N nP f.2.2.1.toNat, rnG B l hp th N nP f.2.2.2.2.toNat with
    | some a, some b, some c, some d => (f.1, a, (c : Int), b, (d : Int)) :: rnF B l hp th N nP r
    | _, _, _, _ => rnF B l hp th N nP r)
/-- facts of two in a row -/
def cl1 (f : eF) : List eF → List eF
  | [] => []
  | g :: r => bif Nat.beq f.1 1 && (Nat.beq g.1 1 && Nat.beq g.2.2.2.1 f.2.1) then (1, g.2.1, g.2.2.1 + f.2.2.1, f.2.2.2.1, 0) :: cl1 f r else cl1 f r
def clsF (old : List eF) : List eF → List eF
  | [] => []
  | f :: r => f :: (bif Nat.beq f.1 1 then cl1 f old ++ clsF old r else clsF old r)
theorem cl1_ok {ρ : Nat → Int} {f : eF} (hf : gF ρ f) : ∀ {F : List eF}, (∀ g ∈ F, gF ρ g) → ∀ g ∈ cl1 f F, gF ρ g
  | [], _, g, hg => by cases hg
  | g :: r, h, g9, hg => by
    have ih := cl1_ok hf (fun z hz => h z (List.mem_cons_of_mem _ hz)) (F := r)
    unfold cl1 at hg
    cases hb : (Nat.beq f.1 1 && (Nat.beq g.1 1 && Nat.beq g.2.2.2.1 f.2.1)) with
    | false => rw [hb, cond_false] at hg; exact ih g9 hg
    | true =>
      rw [hb, cond_true] at hg
      rcases List.mem_cons.mp hg with q | q
      · subst q
        simp only [Bool.and_eq_true] at hb
        obtain ⟨c1, c2, c3⟩ := hb
        have h2 := h g List.mem_cons_self
        obtain ⟨f0, f1, f2, f3, f4⟩ := f
        obtain ⟨g0, g1, g2, g3, g4⟩ := g
        replace c1 := Nat.eq_of_beq_eq_true c1
        replace c2 := Nat.eq_of_beq_eq_true c2
        replace c3 := Nat.eq_of_beq_eq_true c3
        dsimp only at c1 c2 c3
        subst c1
        subst c2
        subst c3
        have hf : ρ g3 + f2 ≤ ρ f3 := hf
        have h2 : ρ g1 + g2 ≤ ρ g3 := h2
        show ρ g1 + (g2 + f2) ≤ ρ f3
        omega
      · exact ih g9 q
theorem clsF_ok {ρ : Nat → Int} {old : List eF} (ho : ∀ g ∈ old, gF ρ g) : ∀ {F : List eF}, (∀ g ∈ F, gF ρ g) → ∀ g ∈ clsF old F, gF ρ g
  | [], _, g, hg => by cases hg
  | f :: r, h, g9, hg => by
    unfold clsF at hg
    have hr := clsF_ok ho (fun z hz => h z (List.mem_cons_of_mem _ hz)) (F := r)
    rcases List.mem_cons.mp hg with q | q
    · subst q
      exact h _ List.mem_cons_self
    · cases hb : Nat.beq f.1 1 with
      | true =>
        rw [hb, cond_true] at q
        rcases List.mem_append.mp q with q | q
        · exact cl1_ok (h f List.mem_cons_self) ho g9 q
        · exact hr g9 q
      | false =>
        rw [hb, cond_false] at q
        exact hr g9 q
/-- facts that aren't told yet -/
def mkF : List eF → Nat
  | [] => 0
  | f :: r => Nat.lor (Nat.shiftLeft 1 f.1) (mkF r)
def hsF (f : eF) (F : List eF) : Bool := !(Nat.beq (Nat.land (Nat.shiftRight (mkF F) f.1) 1) 0) && F.any (fun g => (Nat.beq g.1 f.1 && Nat.beq g.2.1 f.2.1) && (Nat.beq g.2.2.2.1 f.2.2.2.1 && (match f.1 with
  | 0 => decide (g.2.2.1 = f.2.2.1) && decide (f.2.2.2.2 ≤ g.2.2.2.2)
  | 1 => decide (f.2.2.1 ≤ g.2.2.1)
  | 2 => decide (g.2.2.1 = f.2.2.1) && decide (g.2.2.2.2 ≤ f.2.2.2.2)
  | _ => decide (g.2.2.1 = f.2.2.1) && decide (g.2.2.2.2 = f.2.2.2.2))))
def nwF (old : List eF) : List eF → List eF
  | [] => []
  | f :: r => bif hsF f old then nwF old r else f :: nwF (f :: old) r
theorem nwF_sub : ∀ {F old : List eF} {g : eF}, g ∈ nwF old F → g ∈ F
  | [], _, g, h => h
  | f :: r, old, g, h => by
    unfold nwF at h
    cases hb : hsF f old with
    | true => rw [hb, cond_true] at h; exact List.mem_cons_of_mem _ (nwF_sub h)
    | false =>
      rw [hb, cond_false] at h
      rcases List.mem_cons.mp h with q | q
      · rw [q]; exact List.mem_cons_self
      · exact List.mem_cons_of_mem _ (nwF_sub q)
/-- what the ends say of the names that were there -/
def rfN (B : eB) (l : eL) (hp : eH) (th : List (Option eP)) : Nat → List (Int × Int) → eB → Option eB
  | _, [], B9 => some B9
  | i, p :: r, B9 => match vN B l hp th i with
    | some a => bif iLe p.1 (eLo B9 a) && iLe (eHi B9 a) p.2 then rfN B l hp th (i + 1) r B9 else (match eRef B9 a p.1 p.2 with
      | some B8 => rfN B l hp th (i + 1) r B8
      | none => none)
    | none => rfN B l hp th (i + 1) r B9
section RN
variable {ρ ρ3 ρ2 : Nat → Int} {ad : Nat → Nat} {sb : eSB} {N nP : Nat} {cA : Nat → ClassId}
variable {B Bo : eB} {l : eL} {hp : eH} {th : List (Option eP)} {fm : Nat → Nat}
/-- ρ: here; ρ3: the contract's, at its end; ρ2: here, with its new names -/
def RnH (ρ ρ3 ρ2 : Nat → Int) (B : eB) (l : eL) (hp : eH) (th : List (Option eP)) (N nP : Nat) : Prop := (∀ i, i < nP → ∀ a, vN B l hp th i = some a → gN ρ2 a (ρ3 i)) ∧ (∀ i, nP ≤ i → ρ2 (N + (i - nP)) = ρ3 i)
theorem rnT_ok (hR : RnH ρ ρ3 ρ2 B l hp th N nP) {g : Nat} {z : Int} (h : ∀ t, g = t + 1 → z = ρ3 (nB t) + nO t) : ∀ t, rnT B l hp th N nP g = t + 1 → z = ρ2 (nB t) + nO t := by
  intro t ht
  unfold rnT at ht
  cases g with
  | zero => cases ht
  | succ u =>
    dsimp only at ht
    have e0 := h u rfl
    cases hb : Nat.blt (nB u) nP with
    | true =>
      rw [hb, cond_true] at ht
      split at ht
      next a ha =>
        have e1 := hR.1 _ (blt_lt hb) a ha
        cases h0 : nZ0 u with
        | true =>
          rw [h0, cond_true] at ht
          have e2 := e1.1 t ht
          have e3 := nZ0_ok h0
          omega
        | false =>
          rw [h0, cond_false] at ht
          have e2 := tSh_ok (ρ := ρ2) (g := a.2.1) (c := nO u) (z := ρ3 (nB u)) e1.1 t ht
          omega
      next => cases ht
    | false =>
      rw [hb, cond_false] at ht
      have e1 : nP ≤ nB u := by
        have : ¬ nB u < nP := fun q => by
          rw [show Nat.blt (nB u) nP = true from Nat.ble_eq_true_of_le q] at hb
          cases hb
        omega
      have e2 := hR.2 _ e1
      have e3 : t = (N + (nB u - nP)) * 8192 + u % 8192 := by omega
      have e4 : nB t = N + (nB u - nP) := by unfold nB at *; omega
      have e5 : nO t = nO u := by unfold nO; omega
      rw [e4, e2, e5]
      exact e0
theorem rnP_ok (hR : RnH ρ ρ3 ρ2 B l hp th N nP) (hB : gB ρ3 Bo) {b : eV} {z : Int} (g : gN ρ3 b z) : gN ρ2 (rnP B l hp th N nP Bo b) z := by
  refine ⟨rnT_ok hR g.1, ?_⟩
  unfold rnP
  dsimp only
  split
  next q hq =>
    have hq9 : q.1 ≤ z ∧ z ≤ q.2 := by
      unfold rnA at hq
      split at hq
      next => cases hq
      next t ht =>
        cases hb : Nat.blt (nB t) nP with
        | false => rw [hb] at hq; cases hq
        | true =>
          rw [hb, cond_true] at hq
          split at hq
          next a ha =>
            cases hq
            have e1 := hR.1 _ (blt_lt hb) a ha
            have e2 := g.1 t ht
            have e3 := e1.2.1
            have e4 := e1.2.2
            dsimp only
            rw [pO_eq, pO_eq]
            exact ⟨by omega, by omega⟩
          next => cases hq
    exact ⟨imx_le (eLo_ok hB g) hq9.1, le_imn (eHi_ok hB g) hq9.2⟩
  next => exact ⟨eLo_ok hB g, eHi_ok hB g⟩
theorem rnV_ok (hR : RnH ρ ρ3 ρ2 B l hp th N nP) (hB : gB ρ3 Bo) {b : eV} {v : Value} (g : gV ρ3 (fun k => ad (fm k)) sb b v) : gV ρ2 ad sb (rnV B l hp th N nP fm Bo b) v := by
  obtain ⟨k, t, lo, hi⟩ := b
  match k, g with
  | 0, g =>
    obtain ⟨x, e, g⟩ := g
    exact ⟨x, e, rnP_ok hR hB g⟩
  | 1, g =>
    obtain ⟨x, e, g⟩ := g
    exact ⟨x, e, rnP_ok hR hB g⟩
  | 2, g => exact g
  | 3, g => exact g
  | 4, g => exact g
  | 5, g => exact g
  | (n + 6), g => exact g.elim
theorem rnS_ok (hR : RnH ρ ρ3 ρ2 B l hp th N nP) (hB : gB ρ3 Bo) : ∀ {as : List eV} {vs : List Value}, gS ρ3 (fun k => ad (fm k)) sb as vs → gS ρ2 ad sb (as.map (rnV B l hp th N nP fm Bo)) vs
  | [], [], _ => trivial
  | a :: as, v :: vs, g => ⟨rnV_ok hR hB g.1, rnS_ok hR hB g.2⟩
  | [], _ :: _, g => g.elim
  | _ :: _, [], g => g.elim
theorem rnNs_ok (hR : RnH ρ ρ3 ρ2 B l hp th N nP) (hB : gB ρ3 Bo) : ∀ {as : List (Nat × eV)} {zs : List Int}, gNs ρ3 as zs → gNs ρ2 (as.map (fun p => (p.1, rnP B l hp th N nP Bo p.2))) zs
  | [], [], _ => trivial
  | a :: as, v :: vs, g => ⟨rnP_ok hR hB g.1, rnNs_ok hR hB g.2⟩
  | [], _ :: _, g => g.elim
  | _ :: _, [], g => g.elim
theorem aG_map (f : eV → eV) (d : eV) : ∀ (ov : List (Nat × eV)) (j : Nat), aG (f d) (ov.map (fun p => (p.1, f p.2))) j = f (aG d ov j)
  | [], _ => rfl
  | p :: r, j => by
    show (bif Nat.beq p.1 j then f p.2 else aG (f d) (r.map (fun p => (p.1, f p.2))) j) = f (bif Nat.beq p.1 j then p.2 else aG d r j)
    rw [aG_map f d r j]
    cases Nat.beq p.1 j <;> rfl
theorem rnVn_ok (hR : RnH ρ ρ3 ρ2 B l hp th N nP) (hB : gB ρ3 Bo) {b : eV} {ad' : Nat → Nat} {v : Value} (hv : v.category = 2 ∨ ∃ x, v = .int x) (g : gV ρ3 ad' sb b v) : gV ρ2 ad sb (rnP B l hp th N nP Bo b) v := by
  obtain ⟨k, t, lo, hi⟩ := b
  match k, g with
  | 0, g =>
    obtain ⟨x, e, g⟩ := g
    exact ⟨x, e, rnP_ok hR hB g⟩
  | 1, g =>
    obtain ⟨x, e, g⟩ := g
    exact ⟨x, e, rnP_ok hR hB g⟩
  | 2, g =>
    have g : v = .ref _ := g
    subst g
    rcases hv with h | ⟨x, h⟩ <;> cases h
  | 3, g =>
    have g : v = .null := g
    subst g
    rcases hv with h | ⟨x, h⟩ <;> cases h
  | 4, g =>
    obtain ⟨q, g⟩ := g
    subst g
    rcases hv with h | ⟨x, h⟩ <;> cases h
  | 5, g =>
    have g : v = .ref _ := g
    subst g
    rcases hv with h | ⟨x, h⟩ <;> cases h
  | (n + 6), g => exact g.elim
theorem rnC_ok (hR : RnH ρ ρ3 ρ2 B l hp th N nP) (hB : gB ρ3 Bo) {c : eC} {x : va_E} (hc : isK3 c = false) (g : gC ρ3 (fun k => ad (fm k)) sb cA c x) : gC ρ2 ad sb cA (rnC B l hp th N nP fm Bo c) x := by
  match c, hc, g with
  | .inl o, _, g =>
    obtain ⟨vs, h1, h2⟩ := g
    exact ⟨vs, h1, rnS_ok hR hB h2⟩
  | .inr (0, n, d, ov), _, g =>
    obtain ⟨f, h1, h2⟩ := g
    refine ⟨f, h1, fun j hj => ?_⟩
    dsimp only
    rw [aG_map (rnP B l hp th N nP Bo) d ov j]
    exact rnVn_ok hR hB (Or.inr ⟨_, rfl⟩) (h2 j hj)
  | .inr (1, n, d, ov), _, g =>
    obtain ⟨f, h1, h2⟩ := g
    refine ⟨f, h1, fun j hj => ?_⟩
    dsimp only
    rw [aG_map (rnP B l hp th N nP Bo) d ov j]
    exact rnVn_ok hR hB (Or.inl rfl) (h2 j hj)
  | .inr (2, n, d, ov), _, g =>
    obtain ⟨f, h1, h2⟩ := g
    refine ⟨f, h1, fun j hj => ⟨?_, (h2 j hj).2⟩⟩
    dsimp only
    rw [aG_map (rnP B l hp th N nP Bo) d ov j]
    exact rnVn_ok hR hB (Or.inr ⟨_, rfl⟩) (h2 j hj).1
  | .inr (3, n, d, ov), hc, _ => cases hc
  | .inr (k + 4, n, d, ov), _, g =>
    obtain ⟨f, zs, h1, h2, h3⟩ := g
    have e9 : (ov.map (fun p => (p.1, rnP B l hp th N nP Bo p.2))).map Prod.fst = ov.map Prod.fst := by rw [List.map_map]; rfl
    refine ⟨f, zs, h1, rnNs_ok hR hB h2, ?_⟩
    show PRD k n f ((ov.map (fun p => (p.1, rnP B l hp th N nP Bo p.2))).map Prod.fst) zs
    rw [e9]
    exact h3
theorem nmF_ok (hR : RnH ρ ρ3 ρ2 B l hp th N nP) {i : Nat} {a : Nat × Int} (h : nmF B l hp th N nP i = some a) : ρ3 i = ρ2 a.1 + a.2 := by
  unfold nmF at h
  cases hb : Nat.blt i nP with
  | true =>
    rw [hb, cond_true] at h
    split at h
    next c hc =>
      split at h
      next => cases h
      next t ht =>
        cases h
        exact (hR.1 i (blt_lt hb) c hc).1 t ht
    next => cases h
  | false =>
    rw [hb, cond_false] at h
    cases h
    have e1 : nP ≤ i := by
      have : ¬ i < nP := fun q => by
        rw [show Nat.blt i nP = true from Nat.ble_eq_true_of_le q] at hb
        cases hb
      omega
    have := hR.2 i e1
    dsimp only
    omega
theorem rnG_ok (hR : RnH ρ ρ3 ρ2 B l hp th N nP) {n n' : Nat} (h : rnG B l hp th N nP n = some n') : aR ρ3 n = aR ρ2 n' := by
  unfold rnG at h
  cases hb : Nat.blt n cB with
  | false =>
    rw [hb, cond_false] at h
    cases h
    unfold aR
    rw [hb, cond_false, cond_false]
  | true =>
    rw [hb, cond_true] at h
    split at h
    next => cases h
    next t =>
      have e0 : aR ρ3 (t + 1) = ρ3 (nB t) + nO t := by
        unfold aR
        rw [hb, cond_true]
        rfl
      split at h
      next g hg =>
        cases hc : Nat.blt (g + 1) cB with
        | false => rw [hc] at h; cases h
        | true =>
          rw [hc, cond_true] at h
          cases h
          have e1 := rnT_ok hR (g := t + 1) (z := ρ3 (nB t) + nO t) (fun u hu => by cases hu; rfl) g hg
          rw [e0, e1]
          unfold aR
          rw [hc, cond_true]
          rfl
      next hg =>
        cases hp9 : Nat.blt (nB t) nP with
        | false => rw [hp9] at h; cases h
        | true =>
          rw [hp9, cond_true] at h
          split at h
          next a ha =>
            cases hd : (decide (a.2.2.1 = a.2.2.2) && decide (-4294967296 ≤ a.2.2.1 + nO t)) with
            | false => rw [hd] at h; cases h
            | true =>
              rw [hd, cond_true] at h
              cases h
              rw [Bool.and_eq_true, decide_eq_true_eq, decide_eq_true_eq] at hd
              have h9 := hR.1 _ (blt_lt hp9) a ha
              have e2 := h9.2.1
              have e3 := h9.2.2
              rw [e0, aI_ok hd.2]
              omega
          next => cases h
theorem rnF_ok (hR : RnH ρ ρ3 ρ2 B l hp th N nP) : ∀ {F : List eF}, (∀ f ∈ F, gF ρ3 f) → ∀ f ∈ rnF B l hp th N nP F, gF ρ2 f
  | [], _, f, hf => by cases hf
  | f :: r, h, g, hg => by
    have ih := rnF_ok hR (fun z hz => h z (List.mem_cons_of_mem _ hz)) (F := r)
    have hf := h f List.mem_cons_self
    unfold rnF at hg
    cases hk : Nat.ble f.1 2 with
    | true =>
      rw [hk, cond_true] at hg
      split at hg
      next a c ha hc =>
        have ea := nmF_ok hR ha
        have ec := nmF_ok hR hc
        obtain ⟨f0, f1, f2, f3, f4⟩ := f
        dsimp only at hg ea ec hk
        match f0, hk, hg, hf with
        | 0, _, hg, hf =>
          rcases List.mem_cons.mp hg with q | q
          · subst q
            have hf : ρ3 f1 = f2 → f4 ≤ ρ3 f3 := hf
            show ρ2 a.1 = f2 - a.2 → f4 - c.2 ≤ ρ2 c.1
            intro q
            have := hf (by omega)
            omega
          · exact ih g q
        | 1, _, hg, hf =>
          rcases List.mem_cons.mp hg with q | q
          · subst q
            have hf : ρ3 f1 + f2 ≤ ρ3 f3 := hf
            show ρ2 a.1 + (f2 + a.2 - c.2) ≤ ρ2 c.1
            omega
          · exact ih g q
        | 2, _, hg, hf =>
          rcases List.mem_cons.mp hg with q | q
          · subst q
            have hf : ρ3 f1 = f2 → ρ3 f3 ≤ f4 := hf
            show ρ2 a.1 = f2 - a.2 → ρ2 c.1 ≤ f4 - c.2
            intro q
            have := hf (by omega)
            omega
          · exact ih g q
        | k + 3, hk, _, _ =>
          have := Nat.le_of_ble_eq_true hk
          omega
      next => exact ih g hg
    | false =>
      rw [hk, cond_false] at hg
      split at hg
      next a b c d ha hb hc hd =>
        have ea := rnG_ok hR ha
        have eb := rnG_ok hR hb
        have ec := rnG_ok hR hc
        have ed := rnG_ok hR hd
        obtain ⟨f0, f1, f2, f3, f4⟩ := f
        dsimp only at hg ea eb ec ed hk
        rcases List.mem_cons.mp hg with q | q
        · subst q
          match f0, hk, hf with
          | 0, hk, _ => cases hk
          | 1, hk, _ => cases hk
          | 2, hk, _ => cases hk
          | k + 3, _, hf =>
            have hf : RK k (aR ρ3 f1) (aR ρ3 f3) (aR ρ3 f2.toNat) (aR ρ3 f4.toNat) := hf
            show RK k (aR ρ2 a) (aR ρ2 b) (aR ρ2 (c : Int).toNat) (aR ρ2 (d : Int).toNat)
            rw [Int.toNat_natCast, Int.toNat_natCast, ← ea, ← eb, ← ec, ← ed]
            exact hf
        · exact ih g q
      next => exact ih g hg
theorem rfN_ok (hR : RnH ρ ρ3 ρ2 B l hp th N nP) : ∀ {ps : List (Int × Int)} {i : Nat} {B9 : eB}, i + ps.length ≤ nP → (∀ (j : Nat) (p : Int × Int), ps[j]? = some p → p.1 ≤ ρ3 (i + j) ∧ ρ3 (i + j) ≤ p.2) → gB ρ2 B9 → ∃ B8, rfN B l hp th i ps B9 = some B8 ∧ gB ρ2 B8
  | [], i, B9, _, _, hB => ⟨B9, rfl, hB⟩
  | p :: r, i, B9, hn, hp9, hB => by
    rw [List.length_cons] at hn
    have hr : ∀ (j : Nat) (q : Int × Int), r[j]? = some q → q.1 ≤ ρ3 (i + 1 + j) ∧ ρ3 (i + 1 + j) ≤ q.2 := fun j q hj => by
      have := hp9 (j + 1) q (by rw [List.getElem?_cons_succ]; exact hj)
      rw [show i + 1 + j = i + (j + 1) by omega]
      exact this
    unfold rfN
    cases hv : vN B l hp th i with
    | none => exact rfN_ok hR (by omega) hr hB
    | some a =>
      dsimp only
      have h0 := hp9 0 p rfl
      rw [Nat.add_zero] at h0
      cases hc : (iLe p.1 (eLo B9 a) && iLe (eHi B9 a) p.2) with
      | true => exact rfN_ok hR (by omega) hr hB
      | false =>
        rw [cond_false]
        obtain ⟨B8, e1, e2⟩ := eRef_ok hB (hR.1 i (by omega) a hv) h0.1 h0.2
        rw [e1]
        exact rfN_ok hR (by omega) hr e2
end RN
