/-! ===== THE ENGINE, 16: a contract at a call ===== -/
def selE {α : Type} (l : List α) : List Nat → Option (List α)
  | [] => some []
  | i :: is => match eGet l i with
    | some c => (match selE l is with
      | some r => some (c :: r)
      | none => none)
    | none => none
theorem selE_get {α : Type} {l : List α} : ∀ {φ : List Nat} {r : List α}, selE l φ = some r → r.length = φ.length ∧ ∀ (k i : Nat), φ[k]? = some i → ∃ c, l[i]? = some c ∧ r[k]? = some c
  | [], r, h => by
    cases h
    exact ⟨rfl, fun k i hk => by simp at hk⟩
  | i :: is, r, h => by
    unfold selE at h
    split at h
    next c hc =>
      split at h
      next r9 hr =>
        cases h
        obtain ⟨h1, h2⟩ := selE_get hr
        refine ⟨by rw [List.length_cons, List.length_cons, h1], fun k j hk => ?_⟩
        cases k with
        | zero =>
          have : i = j := Option.some.inj hk
          subst this
          exact ⟨c, by rw [← eGet_eq]; exact hc, rfl⟩
        | succ k =>
          rw [List.getElem?_cons_succ] at hk ⊢
          exact h2 k j hk
      next => cases h
    next => cases h
theorem selE_ex {α β : Type} {l : List α} {w : List β} (hw : w.length = l.length) : ∀ {φ : List Nat} {r : List α}, selE l φ = some r → ∃ r2, selE w φ = some r2
  | [], _, _ => ⟨[], rfl⟩
  | i :: is, r, h => by
    unfold selE at h
    split at h
    next c hc =>
      split at h
      next r9 hr =>
        obtain ⟨r2, h2⟩ := selE_ex hw hr
        rw [eGet_eq] at hc
        have hl : i < w.length := by rw [hw]; exact (List.getElem?_eq_some_iff.mp hc).1
        refine ⟨w[i] :: r2, ?_⟩
        unfold selE
        rw [eGet_eq, List.getElem?_eq_getElem hl]
        dsimp only
        rw [h2]
      next => cases h
    next => cases h
def putL {α : Type} : List α → List Nat → List α → List α
  | l, i :: is, c :: cs => putL (eSet l i c) is cs
  | l, _, _ => l
/-- all of them, in their order: those alone -/
def isRg : Nat → List Nat → Bool
  | _, [] => true
  | k, i :: r => Nat.beq i k && isRg (k + 1) r
def putE {α : Type} (l : List α) (φ : List Nat) (cs : List α) : List α := bif isRg 0 φ && (Nat.beq l.length φ.length && Nat.beq cs.length φ.length) then cs else putL l φ cs
theorem set_take {α : Type} : ∀ (l : List α) (k : Nat) (c : α), k < l.length → (eSet l k c).take (k + 1) = l.take k ++ [c]
  | [], k, _, h => absurd h (Nat.not_lt_zero k)
  | _ :: _, 0, _, _ => rfl
  | a :: r, k + 1, c, h => by
    show a :: (eSet r k c).take (k + 1) = a :: (r.take k ++ [c])
    rw [set_take r k c (Nat.lt_of_succ_lt_succ h)]
theorem putL_rg {α : Type} : ∀ (φ : List Nat) (k : Nat) (l cs : List α), isRg k φ = true → l.length = k + φ.length → cs.length = φ.length → putL l φ cs = l.take k ++ cs
  | [], k, l, [], _, hl, _ => by
    have hl : l.length = k := hl
    unfold putL
    rw [List.append_nil, List.take_of_length_le (Nat.le_of_eq hl)]
  | [], _, _, _ :: _, _, _, h => by cases h
  | _ :: _, _, _, [], _, _, h => by cases h
  | i :: is, k, l, c :: cs, h, hl, hc => by
    unfold isRg at h
    rw [Bool.and_eq_true] at h
    have e := Nat.eq_of_beq_eq_true h.1
    subst e
    rw [List.length_cons] at hl hc
    unfold putL
    rw [putL_rg is (i + 1) (eSet l i c) cs h.2 (by rw [eSet_eq, List.length_set]; omega) (by rw [List.length_cons] at hc; omega), set_take l i c (by omega), List.append_assoc]
    rfl
theorem putE_eq {α : Type} (l : List α) (φ : List Nat) (cs : List α) : putE l φ cs = putL l φ cs := by
  unfold putE
  cases hb : (isRg 0 φ && (Nat.beq l.length φ.length && Nat.beq cs.length φ.length)) with
  | false => rfl
  | true =>
    rw [cond_true]
    rw [Bool.and_eq_true, Bool.and_eq_true] at hb
    rw [putL_rg φ 0 l cs hb.1 (by rw [Nat.eq_of_beq_eq_true hb.2.1]; omega) (Nat.eq_of_beq_eq_true hb.2.2)]
    rfl
theorem putL_len {α : Type} : ∀ (φ : List Nat) (l cs : List α), (putL l φ cs).length = l.length
  | [], l, cs => by unfold putL; rfl
  | i :: is, l, [] => by unfold putL; rfl
  | i :: is, l, c :: cs => by
    unfold putL
    rw [putL_len is, eSet_eq, List.length_set]
theorem putL_out {α : Type} : ∀ (φ : List Nat) (l cs : List α) (i : Nat), i ∉ φ → (putL l φ cs)[i]? = l[i]?
  | [], l, cs, i, _ => by unfold putL; rfl
  | j :: is, l, [], i, _ => by unfold putL; rfl
  | j :: is, l, c :: cs, i, h => by
    unfold putL
    rw [putL_out is _ cs i (fun q => h (List.mem_cons_of_mem _ q)), eSet_eq, List.getElem?_set_ne (fun q => h (by rw [q]; exact List.mem_cons_self))]
theorem putL_in {α : Type} : ∀ (φ : List Nat) (l cs : List α) (k i : Nat) (c : α), va_nd φ = true → φ[k]? = some i → cs[k]? = some c → i < l.length → (putL l φ cs)[i]? = some c
  | [], l, cs, k, i, c, _, h, _, _ => by simp at h
  | j :: is, l, [], k, i, c, _, _, h, _ => by simp at h
  | j :: is, l, c9 :: cs, k, i, c, hn, h1, h2, hl => by
    unfold putL
    have hnd : va_nd is = true ∧ j ∉ is := by
      unfold va_nd at hn
      simp only [Bool.and_eq_true] at hn
      refine ⟨hn.2, fun q => ?_⟩
      have := hn.1
      simp [q] at this
    cases k with
    | zero =>
      have e1 : j = i := Option.some.inj h1
      have e2 : c9 = c := Option.some.inj h2
      subst e1
      subst e2
      rw [putL_out is _ cs j hnd.2, eSet_eq, List.getElem?_set_self hl]
    | succ k =>
      rw [List.getElem?_cons_succ] at h1 h2
      exact putL_in is _ cs k i c hnd.1 h1 h2 (by rw [eSet_eq, List.length_set]; exact hl)
def fmO (φ : List Nat) (k : Nat) : Nat := match eGet φ k with
  | some i => i
  | none => 0
theorem fmO_at {φ : List Nat} {k i : Nat} (h : φ[k]? = some i) : fmO φ k = i := by
  unfold fmO
  rw [eGet_eq, h]
/-- arguments, from the local i on -/
def mSa (fm : Nat → Nat) (B : eB) (l : eL) (hp : eH) (th : List (Option eP)) : Nat → List eV → List eV → Bool
  | _, [], [] => true
  | i, a :: as, b :: bs => mV fm B l hp th (some (0, i, 0)) a b && mSa fm B l hp th (bif Nat.beq a.1 1 then i + 2 else i + 1) as bs
  | _, _, _ => false
theorem args_ge : ∀ {vs : List Value} {i j : Nat} {x : Value}, vFind (lv_args i vs) j = some x → i ≤ j
  | [], i, j, x, h => by cases h
  | v :: vs, i, j, x, h => by
    have h : (bif Nat.beq i j then some v else vFind (lv_args (if v.category = 2 then i + 2 else i + 1) vs) j) = some x := h
    cases hb : Nat.beq i j with
    | true => rw [Nat.eq_of_beq_eq_true hb]; exact Nat.le_refl _
    | false =>
      rw [hb, cond_false] at h
      have := args_ge h
      split at this <;> omega
section SA
variable {ρ ρ' : Nat → Int} {ad adI : Nat → Nat} {sb : eSB} {cA : Nat → ClassId}
variable {fm : Nat → Nat} {B : eB} {l : eL} {hp : eH} {lc : List (Nat × Value)} {ws : va_W} {th : List (Option eP)} {N : Nat}
theorem mSa_ok (hB : gB ρ B) (h1 : gL ρ ad sb l lc) (h2 : gHx ρ ad adI sb cA hp ws) (hR : Ren ρ ρ' lc ws th) : ∀ {as bs : List eV} {vs : List Value} (i : Nat), (∀ j v, vFind (lv_args i vs) j = some v → vFind lc j = some v) → mSa fm B l hp th i as bs = true → gS ρ ad sb as vs → gS ρ' (fun k => ad (fm k)) sb bs vs
  | [], [], [], _, _, _, _ => trivial
  | a :: as, b :: bs, v :: vs, i, hf, h, g => by
    unfold mSa at h
    rw [Bool.and_eq_true] at h
    have e1 : (if v.category = 2 then i + 2 else i + 1) = (bif Nat.beq a.1 1 then i + 2 else i + 1) := by
      rw [gV_cat g.1]
      by_cases h1 : a.1 = 1
      · rw [if_pos h1, h1]; rfl
      · rw [if_neg h1]
        cases h3 : Nat.beq a.1 1 with
        | false => rfl
        | true => exact absurd (Nat.eq_of_beq_eq_true h3) h1
    refine ⟨mV_ok hB h1 h2 hR (fun p hp9 => ?_) h.1 g.1, mSa_ok hB h1 h2 hR _ (fun j v9 hj => hf j v9 ?_) h.2 g.2⟩
    · have := Option.some.inj hp9
      subst this
      refine hf i v ?_
      show (bif Nat.beq i i then some v else _) = some v
      rw [Nat.beq_refl]
      rfl
    · show (bif Nat.beq i j then some v else vFind (lv_args (if v.category = 2 then i + 2 else i + 1) vs) j) = some v9
      have hge := args_ge hj
      cases hb : Nat.beq i j with
      | true =>
        have := Nat.eq_of_beq_eq_true hb
        cases hc : Nat.beq a.1 1 <;> rw [hc] at hge <;> simp only [cond_true, cond_false] at hge <;> omega
      | false =>
        rw [cond_false, e1]
        exact hj
  | [], [], _ :: _, _, _, _, g => g.elim
  | _ :: _, _ :: _, [], _, _, _, g => g.elim
  | [], _ :: _, _, _, _, h, _ => by cases h
  | _ :: _, [], _, _, _, h, _ => by cases h
theorem eFind_in : ∀ {l : eL} {i : Nat} {a : eV}, eFind l i = some a → ∃ p ∈ l, p.2 = a
  | [], _, _, h => by cases h
  | p :: r, i, a, h => by
    unfold eFind at h
    cases hb : Nat.beq p.1 i with
    | true =>
      rw [hb, cond_true] at h
      exact ⟨p, List.mem_cons_self, Option.some.inj h⟩
    | false =>
      rw [hb, cond_false] at h
      obtain ⟨q, h1, h2⟩ := eFind_in h
      exact ⟨q, List.mem_cons_of_mem _ h1, h2⟩
theorem vA_tg {y : Nat × Nat × eV × List (Nat × eV)} (h : tgC N (.inr y) = true) : tgC N (.inr (vA y)) = true := by
  unfold vA
  cases hb : (Nat.beq y.1 3 && Nat.beq y.2.2.1.1 9) with
  | false =>
    rw [cond_false]
    cases Nat.beq y.1 8 with
    | false => exact h
    | true => rfl
  | true =>
    have h : (tgT N y.2.2.1.2.1 && y.2.2.2.all (fun p => tgT N p.2.2.1)) = true := h
    rw [Bool.and_eq_true] at h
    show (tgT N (aDf y.2.2.2).2.1 && y.2.2.2.all (fun p => tgT N p.2.2.1)) = true
    rw [Bool.and_eq_true]
    exact ⟨aG_all (P := fun v => tgT N v.2.1 = true) rfl (fun p hp => List.all_eq_true.mp h.2 p hp) _, h.2⟩
theorem gP_tg (h1 : tgL N l = true) (h2 : hp.all (tgC N) = true) {q : eP} {a : eV} (h : gP l hp q = some a) (h0 : a.1 = 0) : tgT N a.2.1 = true := by
  obtain ⟨k, i, j⟩ := q
  unfold gP at h
  dsimp only at h
  have hv : tgV N a = true → tgT N a.2.1 = true := fun z => tgV_ok z (by rw [h0]; exact Nat.zero_le 1)
  match k, h with
  | 0, h =>
    obtain ⟨p, e1, e2⟩ := eFind_in h
    exact hv (by rw [← e2]; exact List.all_eq_true.mp h1 p e1)
  | 1, h =>
    have h : (match eGet hp i with
      | some (.inl o) => eGet o.2 j
      | _ => none) = some a := h
    split at h
    next o ho =>
      rw [eGet_eq] at ho h
      have := List.all_eq_true.mp h2 _ (List.mem_of_getElem? ho)
      exact hv (List.all_eq_true.mp this a (List.mem_of_getElem? h))
    next => cases h
  | k + 2, h =>
    have h : (match eGet hp i with
      | some (.inr a) => bif Nat.beq (vA a).1 0 && Nat.blt j (vA a).2.1 then some (aG (vA a).2.2.1 (vA a).2.2.2 j) else none
      | _ => none) = some a := h
    split at h
    next y hy =>
      rw [eGet_eq] at hy
      have h9 := vA_tg (List.all_eq_true.mp h2 _ (List.mem_of_getElem? hy))
      generalize vA y = y at h h9
      cases hb : (Nat.beq y.1 0 && Nat.blt j y.2.1) with
      | false => rw [hb] at h; cases h
      | true =>
        rw [hb, cond_true] at h
        have e := Option.some.inj h
        rw [← e]
        have h9 : (tgT N y.2.2.1.2.1 && y.2.2.2.all (fun p => tgT N p.2.2.1)) = true := h9
        rw [Bool.and_eq_true] at h9
        exact aG_all (P := fun v => tgT N v.2.1 = true) h9.1 (fun p hp => List.all_eq_true.mp h9.2 p hp) j
    next => cases h
theorem vN_tg (h1 : tgL B.1.length l = true) (h2 : hp.all (tgC B.1.length) = true) {i : Nat} {a : eV} (h : vN B l hp th i = some a) : tgT B.1.length a.2.1 = true := by
  unfold vN at h
  split at h
  next =>
    split at h
    next p hp9 =>
      cases h
      rw [eGet_eq] at hp9
      have := (List.getElem?_eq_some_iff.mp hp9).1
      show Nat.blt (nB (i * 8192 + 4096)) B.1.length = true
      rw [nB_at]
      exact Nat.ble_eq_true_of_le this
    next => cases h
  next p _ =>
    cases hg : isG p with
    | true =>
      rw [hg, cond_true] at h
      unfold ghV at h
      cases hb : Nat.beq p.1 3 with
      | true =>
        rw [hb, cond_true] at h
        split at h
        next r hr =>
          cases h
          rw [eGet_eq] at hr
          exact Nat.ble_eq_true_of_le (List.getElem?_eq_some_iff.mp hr).1
        next => cases h
      | false =>
        rw [hb, cond_false] at h
        cases h
        rfl
    | false =>
    rw [hg, cond_false] at h
    split at h
    next c hc =>
      cases hb : Nat.beq c.1 0 with
      | false => rw [hb] at h; cases h
      | true =>
        rw [hb, cond_true] at h
        cases h
        exact gP_tg h1 h2 hc (Nat.eq_of_beq_eq_true hb)
    next => cases h
theorem tgL_args : ∀ {as : List eV} (i : Nat), as.all (tgV N) = true → tgL N (eArgs i as) = true
  | [], _, _ => rfl
  | a :: as, i, h => by
    rw [List.all_cons, Bool.and_eq_true] at h
    unfold eArgs tgL
    rw [List.all_cons, Bool.and_eq_true]
    exact ⟨h.1, tgL_args _ h.2⟩
end SA
def tgA (N n : Nat) : Bool := bif Nat.blt n cB then Nat.blt 0 n && Nat.blt (nB (n - 1)) N else true
def tgF (N : Nat) (F : List eF) : Bool := F.all (fun f => bif Nat.ble f.1 2 then Nat.blt f.2.1 N && Nat.blt f.2.2.2.1 N else (tgA N f.2.1 && (tgA N f.2.2.2.1 && (tgA N f.2.2.1.toNat && tgA N f.2.2.2.2.toNat))))
theorem tgA_ok {ρ ρ2 : Nat → Int} {N n : Nat} (h : tgA N n = true) (hag : ∀ i, i < N → ρ2 i = ρ i) : aR ρ2 n = aR ρ n := by
  unfold tgA at h
  unfold aR
  cases hb : Nat.blt n cB with
  | false => rfl
  | true =>
    rw [hb, cond_true, Bool.and_eq_true] at h
    rw [cond_true, cond_true, hag _ (blt_lt h.2)]
theorem gF_ag {ρ ρ2 : Nat → Int} {N : Nat} {F : List eF} (h : tgF N F = true) (hag : ∀ i, i < N → ρ2 i = ρ i) {f : eF} (hf : f ∈ F) (g : gF ρ f) : gF ρ2 f := by
  have h2 := List.all_eq_true.mp h f hf
  obtain ⟨f0, f1, f2, f3, f4⟩ := f
  dsimp only at h2
  cases hk : Nat.ble f0 2 with
  | true =>
    rw [hk, cond_true, Bool.and_eq_true] at h2
    have e1 := hag _ (blt_lt h2.1)
    have e2 := hag _ (blt_lt h2.2)
    match f0, hk, g with
    | 0, _, g => exact (show ρ2 f1 = f2 → f4 ≤ ρ2 f3 by rw [e1, e2]; exact g)
    | 1, _, g => exact (show ρ2 f1 + f2 ≤ ρ2 f3 by rw [e1, e2]; exact g)
    | 2, _, g => exact (show ρ2 f1 = f2 → ρ2 f3 ≤ f4 by rw [e1, e2]; exact g)
    | k + 3, hk, _ =>
      have := Nat.le_of_ble_eq_true hk
      omega
  | false =>
    rw [hk, cond_false, Bool.and_eq_true, Bool.and_eq_true, Bool.and_eq_true] at h2
    match f0, hk, g with
    | 0, hk, _ => cases hk
    | 1, hk, _ => cases hk
    | 2, hk, _ => cases hk
    | k + 3, _, g =>
      show RK k (aR ρ2 f1) (aR ρ2 f3) (aR ρ2 f2.toNat) (aR ρ2 f4.toNat)
      rw [tgA_ok h2.1 hag, tgA_ok h2.2.1 hag, tgA_ok h2.2.2.1 hag, tgA_ok h2.2.2.2 hag]
      exact g
/-- a cell that comes out: the old one, if the contract leaves it as it is -/
def rnK (B : eB) (l : eL) (hp : eH) (th : List (Option eP)) (N nP : Nat) (fm : Nat → Nat) (Bo : eB) (c0 c : eC) : eC := bif isK3 c then c0 else rnC B l hp th N nP fm Bo c
def frOk : Nat → eH → Bool
  | _, [] => true
  | k, c :: r => (!(isK3 c) || isF k c) && frOk (k + 1) r
theorem frOk_at : ∀ {h : eH} (k : Nat), frOk k h = true → ∀ (i : Nat) (c : eC), h[i]? = some c → isK3 c = true → isF (k + i) c = true
  | [], _, _, i, c, hi, _ => by simp at hi
  | c :: r, k, h, i, c9, hi, h3 => by
    unfold frOk at h
    rw [Bool.and_eq_true, Bool.or_eq_true] at h
    cases i with
    | zero =>
      have : c = c9 := Option.some.inj hi
      subst this
      rcases h.1 with q | q
      · rw [h3] at q; cases q
      · exact q
    | succ i =>
      rw [List.getElem?_cons_succ] at hi
      rw [show k + (i + 1) = k + 1 + i by omega]
      exact frOk_at (k + 1) h.2 i c9 hi h3
/-- an end of a contract, here -/
def instO (B : eB) (l : eL) (hpS hp : eH) (φ : List Nat) (th : List (Option eP)) (nP : Nat) (o : eO) : Option eO := match rfN B l hpS th 0 (o.2.2.1.1.take nP) (B.1 ++ o.2.2.1.1.drop nP, B.2 ++ nwF B.2 (clsF B.2 (rnF B l hpS th B.1.length nP o.2.2.1.2))) with
  | none => none
  | some B' => some (o.1, o.2.1.map (rnV B l hpS th B.1.length nP (fmO φ) o.2.2.1), B', putE hp φ (List.zipWith (rnK B l hpS th B.1.length nP (fmO φ) o.2.2.1) hpS o.2.2.2))
/-- a contract (its arguments, bounds, cells, the places of its names, its ends) at a call with as over hp, its cells being those of φ -/
def instC (as0 : List eV) (B0 : eB) (hp0 : eH) (th0 : List (Option eP)) (outs : List eO) (φ : List Nat) (as : List eV) (B : eB) (hp : eH) : Option (List eO) := match selE hp φ with
  | none => none
  | some hpS => bif va_nd φ && (thOk (eArgs 0 as) hpS th0 && (mSa (fmO φ) B (eArgs 0 as) hpS th0 0 as as0 && (mB B (eArgs 0 as) hpS th0 B0 && (mH true (fmO φ) B (eArgs 0 as) hpS th0 0 hpS hp0 && (as.all (tgV B.1.length) && (hp.all (tgC B.1.length) && (tgF B.1.length B.2 && outs.all (fun o => Nat.beq o.2.2.2.length φ.length && frOk 0 o.2.2.2)))))))) then
      some (outs.filterMap (instO B (eArgs 0 as) hpS hp φ th0 B0.1.length)) else none
/-- a contract of a reader that calls itself: its first name is the caller's first, or one more -/
def gdH (z : Int) (th : List (Option eP)) (ρ' : Nat → Int) : Prop := (∀ (i : Nat) (r : List (Option eP)), th = some (3, 4096, i) :: r → ρ' 0 = z) ∧ ∀ (i : Nat) (r : List (Option eP)), th = some (3, 4097, i) :: r → ρ' 0 = z + 1
theorem gdH_of {ρ ρ' : Nat → Int} {lc : List (Nat × Value)} {ws : va_W} {th : List (Option eP)} (h : Ren ρ ρ' lc ws th) : gdH (ρ 0) th ρ' := by
  have h0 := h 0
  refine ⟨fun i r e => ?_, fun i r e => ?_⟩
  · subst e
    have h0 : (isG (3, 4096, i) = true ∧ ρ' 0 = ghR ρ (3, 4096, i)) ∨ (isG (3, 4096, i) = false ∧ ∃ x : Int32, mP lc ws (3, 4096, i) = some (.int x) ∧ ρ' 0 = x.toInt) := h0
    rcases h0 with ⟨-, q⟩ | ⟨q, -⟩
    · have q : ρ' 0 = ρ (nB 4096) + nO 4096 := q
      rw [q, show nB 4096 = 0 by decide, show nO 4096 = 0 by decide, Int.add_zero]
    · exact absurd (show true = false from q) (by decide)
  · subst e
    have h0 : (isG (3, 4097, i) = true ∧ ρ' 0 = ghR ρ (3, 4097, i)) ∨ (isG (3, 4097, i) = false ∧ ∃ x : Int32, mP lc ws (3, 4097, i) = some (.int x) ∧ ρ' 0 = x.toInt) := h0
    rcases h0 with ⟨-, q⟩ | ⟨q, -⟩
    · have q : ρ' 0 = ρ (nB 4097) + nO 4097 := q
      rw [q, show nB 4097 = 0 by decide, show nO 4097 = 1 by decide]
    · exact absurd (show true = false from q) (by decide)
section IN
variable {l : Launch} {D : va_G} {cl : List vw_C} {cA : Nat → ClassId} {sb : eSB} {ρ : Nat → Int}
variable {strs : List (String × Nat × String)} {GT : List Cond} {d : Nat} {y : eM}
theorem eZ_sub {A1 A2 : Nat → Prop} {U : State} {H : Heap} (h : eZ strs sb A1 U H) (hA : ∀ q, A2 q → A1 q) : eZ strs sb A2 U H := by
  obtain ⟨z1, z2, z3, z4⟩ := h
  refine ⟨vx_Zq.narrow z1 hA, vx_Zq.narrow z2 hA, ⟨fun q hq => ?_, eZs_sub z3.2 hA⟩, z4⟩
  obtain ⟨sa, k1, k2, k3⟩ := z3.1 q hq
  exact ⟨sa, k1, fun z => k2 (hA _ z), k3⟩
set_option maxHeartbeats 1000000 in
theorem instT {as : List eV} {B : eB} {hp hpS : eH} {φ : List Nat} {th0 : List (Option eP)} {nP : Nat} {ad : Nat → Nat} {ws wsS : va_W} {sz : Nat} {ρ' : Nat → Int} {lc : List (Nat × Value)} {s t : State}
    (hsel : selE hp φ = some hpS) (hselW : selE ws φ = some wsS) (hnd : va_nd φ = true) (hg : as.all (tgV B.1.length) = true) (hgh : hp.all (tgC B.1.length) = true) (hgf : tgF B.1.length B.2 = true)
    (hB : gB ρ B) (hH : gH ρ ad sb cA hp ws) (hP : va_P D cl ws s.heap) (hDd : va_D (fun _ => True) ws) (hsz : s.heap.size = sz)
    (hL : gL ρ ad sb (eArgs 0 as) lc) (hHS : gHx ρ ad (fun k => ad (fmO φ k)) sb cA hpS wsS) (hR : Ren ρ ρ' lc wsS th0)
    {o : eO} {v : Option Value} {FR : Nat → va_E} (hFR : ∀ k a0 x, wsS[k]? = some (a0, x) → x = FR k) (hlen : o.2.2.2.length = φ.length) (hfo : frOk 0 o.2.2.2 = true) (hF : va_F (va_A wsS sz) s t) (hT : cT ρ' (sb.1, FR) D cl cA (fun k => ad (fmO φ k)) nP (va_A wsS sz) o v t) :
    ∃ o', instO B (eArgs 0 as) hpS hp φ th0 nP o = some o' ∧ o'.1 = o.1 ∧ o'.2.1 = o.2.1.map (rnV B (eArgs 0 as) hpS th0 B.1.length nP (fmO φ) o.2.2.1) ∧ o'.2.2.2.length = hp.length ∧ cT ρ sb D cl cA ad B.1.length (va_A ws sz) o' v t := by
  obtain ⟨ρ3, wsO, k1, k2, k3, k4, k5, k6, k7⟩ := hT
  obtain ⟨s1, s2⟩ := selE_get hsel
  obtain ⟨w1, w2⟩ := selE_get hselW
  have hgS : hpS.all (tgC B.1.length) = true := by
    refine List.all_eq_true.mpr (fun c hc => ?_)
    obtain ⟨k, hk⟩ := List.getElem?_of_mem hc
    have hkl : k < φ.length := by rw [← s1]; exact (List.getElem?_eq_some_iff.mp hk).1
    obtain ⟨c9, q1, q2⟩ := s2 k φ[k] (List.getElem?_eq_getElem hkl)
    rw [hk] at q2
    have e := Option.some.inj q2
    rw [e]
    exact List.all_eq_true.mp hgh c9 (List.mem_of_getElem? q1)
  obtain ⟨ρ2, hρ2⟩ : ∃ ρ2 : Nat → Int, ρ2 = fun i => if i < B.1.length then ρ i else ρ3 (i - B.1.length + nP) := ⟨_, rfl⟩
  have hag : ∀ i, i < B.1.length → ρ2 i = ρ i := fun i hi => by rw [hρ2]; exact if_pos hi
  have hRn : RnH ρ ρ3 ρ2 B (eArgs 0 as) hpS th0 B.1.length nP := by
    refine ⟨fun i hi a ha => ?_, fun i hi => ?_⟩
    · have h1 := vN_ok hB hL hHS hR ha
      rw [k1 i hi]
      exact gN_ag hag (vN_tg (tgL_args 0 hg) hgS ha) h1
    · rw [hρ2]
      dsimp only
      rw [if_neg (by omega), show B.1.length + (i - nP) - B.1.length + nP = i by omega]
  have hB1 : gB ρ2 (B.1 ++ o.2.2.1.1.drop nP, B.2 ++ nwF B.2 (clsF B.2 (rnF B (eArgs 0 as) hpS th0 B.1.length nP o.2.2.1.2))) := by
    have hold : ∀ f ∈ B.2, gF ρ2 f := fun f q => gF_ag hgf hag q (hB.2 f q)
    refine ⟨fun i p hi => ?_, fun f hf => ?_⟩
    · dsimp only at hi
      by_cases hl : i < B.1.length
      · rw [List.getElem?_append_left hl] at hi
        rw [hag i hl]
        exact hB.1 i p hi
      · rw [List.getElem?_append_right (Nat.not_lt.mp hl), List.getElem?_drop] at hi
        have := k3.1 _ p hi
        rw [hρ2]
        dsimp only
        rw [if_neg hl, Nat.add_comm (i - B.1.length) nP]
        exact this
    · rcases List.mem_append.mp hf with q | q
      · exact hold f q
      · exact clsF_ok hold (rnF_ok hRn k3.2) f (nwF_sub q)
  obtain ⟨B', hB2, hB3⟩ := rfN_ok hRn (i := 0) (ps := o.2.2.1.1.take nP) (by rw [Nat.zero_add]; exact List.length_take_le _ _) (fun j p hj => by
    have hj9 : j < nP := by
      have := (List.getElem?_eq_some_iff.mp hj).1
      rw [List.length_take] at this
      omega
    rw [List.getElem?_take_of_lt hj9] at hj
    rw [Nat.zero_add]
    exact k3.1 j p hj) hB1
  have hwl : wsO.length = φ.length := by rw [k4.1, hlen]
  have hphi : ∀ k i, φ[k]? = some i → ∃ c x, hp[i]? = some c ∧ ws[i]? = some (ad i, x) := fun k i hk => by
    obtain ⟨c, q1, q2⟩ := s2 k i hk
    obtain ⟨x, q3, q4⟩ := hH.2 i c q1
    exact ⟨c, x, q1, q3⟩
  -- the cells that come out
  have hat : ∀ i q, (putL ws φ wsO)[i]? = some q → (∃ k, φ[k]? = some i ∧ wsO[k]? = some q) ∨ (i ∉ φ ∧ ws[i]? = some q) := fun i q hq => by
    by_cases hi : i ∈ φ
    · obtain ⟨k, hk⟩ := List.getElem?_of_mem hi
      have hkl : k < wsO.length := by rw [hwl]; exact (List.getElem?_eq_some_iff.mp hk).1
      obtain ⟨c, x, q1, q2⟩ := hphi k i hk
      have h1 := putL_in φ ws wsO k i wsO[k] hnd hk (List.getElem?_eq_getElem hkl) (List.getElem?_eq_some_iff.mp q2).1
      rw [h1] at hq
      exact Or.inl ⟨k, hk, by rw [← hq]; exact List.getElem?_eq_getElem hkl⟩
    · rw [putL_out φ ws wsO i hi] at hq
      exact Or.inr ⟨hi, hq⟩
  have hadr : ∀ i q, (putL ws φ wsO)[i]? = some q → ∃ x, ws[i]? = some (q.1, x) ∧ q.1 = ad i := fun i q hq => by
    rcases hat i q hq with ⟨k, h1, h2⟩ | ⟨h1, h2⟩
    · obtain ⟨c, x, q1, q2⟩ := hphi k i h1
      have hkl : k < o.2.2.2.length := by rw [hlen]; exact (List.getElem?_eq_some_iff.mp h1).1
      obtain ⟨x9, q3, q4⟩ := k4.2 k o.2.2.2[k] (List.getElem?_eq_getElem hkl)
      rw [h2] at q3
      have e := Option.some.inj q3
      have e2 : q.1 = ad i := by rw [e]; show ad (fmO φ k) = ad i; rw [fmO_at h1]
      exact ⟨x, by rw [e2]; exact q2, e2⟩
    · have hl : i < hp.length := by rw [← hH.1]; exact (List.getElem?_eq_some_iff.mp h2).1
      obtain ⟨x, q1, q2⟩ := hH.2 i hp[i] (List.getElem?_eq_getElem hl)
      rw [h2] at q1
      have e := Option.some.inj q1
      exact ⟨q.2, h2, by rw [e]⟩
  refine ⟨(o.1, o.2.1.map (rnV B (eArgs 0 as) hpS th0 B.1.length nP (fmO φ) o.2.2.1), B', putL hp φ (List.zipWith (rnK B (eArgs 0 as) hpS th0 B.1.length nP (fmO φ) o.2.2.1) hpS o.2.2.2)), by unfold instO; rw [putE_eq, hB2], rfl, rfl, putL_len _ _ _, ρ2, putL ws φ wsO, hag, ?_, hB3, ?_, ?_, k6, ?_⟩
  · dsimp only
    match hr : o.2.1, v, k2 with
    | none, none, _ => exact trivial
    | some a, some v, k2 => exact gV_sb (sb := (sb.1, FR)) rfl (rnV_ok hRn k3 k2)
    | none, some _, k2 => exact k2.elim
    | some _, none, k2 => exact k2.elim
  · refine ⟨by rw [putL_len, putL_len]; exact hH.1, fun i c hi => ?_⟩
    dsimp only at hi
    by_cases hin : i ∈ φ
    · obtain ⟨k, hk⟩ := List.getElem?_of_mem hin
      obtain ⟨c9, x9, q1, q2⟩ := hphi k i hk
      have hkl : k < o.2.2.2.length := by rw [hlen]; exact (List.getElem?_eq_some_iff.mp hk).1
      obtain ⟨x, q3, q4⟩ := k4.2 k o.2.2.2[k] (List.getElem?_eq_getElem hkl)
      have q3 : wsO[k]? = some (ad (fmO φ k), x) := q3
      rw [fmO_at hk] at q3
      obtain ⟨c8, u1, u2⟩ := s2 k i hk
      have h1 := putL_in φ hp (List.zipWith (rnK B (eArgs 0 as) hpS th0 B.1.length nP (fmO φ) o.2.2.1) hpS o.2.2.2) k i (rnK B (eArgs 0 as) hpS th0 B.1.length nP (fmO φ) o.2.2.1 c8 o.2.2.2[k]) hnd hk (by rw [List.getElem?_zipWith, u2, List.getElem?_eq_getElem hkl]) (List.getElem?_eq_some_iff.mp q1).1
      rw [h1] at hi
      have e := Option.some.inj hi
      subst e
      refine ⟨x, putL_in φ ws wsO k i _ hnd hk q3 (List.getElem?_eq_some_iff.mp q2).1, ?_⟩
      unfold rnK
      cases h3 : isK3 o.2.2.2[k] with
      | false =>
        rw [cond_false]
        exact rnC_ok hRn k3 h3 (gC_sb (sb := (sb.1, FR)) (sb' := sb) rfl h3 q4)
      | true =>
        rw [cond_true]
        have hf := frOk_at 0 hfo k _ (List.getElem?_eq_getElem hkl) h3
        rw [Nat.zero_add] at hf
        have ex : x = FR k := by
          obtain ⟨z, e9⟩ := isF_eq hf
          rw [e9] at q4
          exact q4.1
        obtain ⟨y9, q5, q6⟩ := hH.2 i c8 u1
        obtain ⟨e9, q7, q8⟩ := w2 k i hk
        rw [q5] at q7
        have e10 := Option.some.inj q7
        rw [← e10] at q8
        have e11 := hFR k _ _ q8
        rw [ex, ← e11]
        exact gC_ag hag (List.all_eq_true.mp hgh c8 (List.mem_of_getElem? u1)) q6
    · rw [putL_out _ _ _ _ hin] at hi
      obtain ⟨x, q1, q2⟩ := hH.2 i c hi
      exact ⟨x, by rw [putL_out _ _ _ _ hin]; exact q1, gC_ag hag (List.all_eq_true.mp hgh c (List.mem_of_getElem? hi)) q2⟩
  · intro i q hq
    rcases hat i q hq with ⟨k, h1, h2⟩ | ⟨h1, h2⟩
    · exact k5 k q h2
    · refine (hP i q h2).kept (hF.2 q.1 ((hP i q h2).lt) (fun z => ?_))
      rcases z with ⟨k, x, z⟩ | z
      · have hkl : k < φ.length := by rw [← w1]; exact (List.getElem?_eq_some_iff.mp z).1
        obtain ⟨c, q1, q2⟩ := w2 k φ[k] (List.getElem?_eq_getElem hkl)
        rw [z] at q2
        have e := Option.some.inj q2
        have := hDd.1 i φ[k] q c h2 q1 (by rw [← e])
        exact h1 (by rw [this]; exact List.getElem_mem hkl)
      · have := (hP i q h2).lt
        omega
  · refine ⟨fun i j p q hi hj e => ?_, fun i q hi => ?_⟩
    · obtain ⟨x1, q1, -⟩ := hadr i p hi
      obtain ⟨x2, q2, -⟩ := hadr j q hj
      exact hDd.1 i j _ _ q1 q2 e
    · obtain ⟨x1, q1, -⟩ := hadr i q hi
      exact Or.inl ⟨i, x1, q1⟩
set_option maxHeartbeats 1000000 in
theorem instC_ok {as0 : List eV} {B0 : eB} {hp0 : eH} {th0 : List (Option eP)} {outs : List eO} (hC : ∀ (FR : Nat → va_E) (ρ' : Nat → Int), gdH (ρ 0) th0 ρ' → cM l GT strs (sb.1, FR) D cl cA d y ρ' as0 B0 hp0 B0.1.length outs) {φ : List Nat} {as : List eV} {B : eB} {hp : eH} {outs' : List eO} (h : instC as0 B0 hp0 th0 outs φ as B hp = some outs') :
    cM l GT strs sb D cl cA d y ρ as B hp B.1.length outs' ∧ ∀ o ∈ outs', o.2.2.2.length = hp.length := by
  unfold instC at h
  split at h
  next => cases h
  next hpS hsel =>
    cases hb : (va_nd φ && (thOk (eArgs 0 as) hpS th0 && (mSa (fmO φ) B (eArgs 0 as) hpS th0 0 as as0 && (mB B (eArgs 0 as) hpS th0 B0 && (mH true (fmO φ) B (eArgs 0 as) hpS th0 0 hpS hp0 && (as.all (tgV B.1.length) && (hp.all (tgC B.1.length) && (tgF B.1.length B.2 && outs.all (fun o => Nat.beq o.2.2.2.length φ.length && frOk 0 o.2.2.2))))))))) with
    | false => rw [hb] at h; cases h
    | true =>
      rw [hb, cond_true] at h
      cases h
      simp only [Bool.and_eq_true] at hb
      obtain ⟨b1, b2, b3, b4, b5, b6, b7, b8, b9⟩ := hb
      refine ⟨fun ad vs ws sz hB hS hH => ?_, fun o ho => ?_⟩
      · obtain ⟨wsS, hselW⟩ := selE_ex hH.1 hsel
        obtain ⟨s1, s2⟩ := selE_get hsel
        obtain ⟨w1, w2⟩ := selE_get hselW
        have hL : gL ρ ad sb (eArgs 0 as) (lv_args 0 vs) := gL_args 0 hS
        have hHS : gHx ρ ad (fun k => ad (fmO φ k)) sb cA hpS wsS := by
          refine ⟨by rw [w1, s1], fun k c hk => ?_⟩
          have hkl : k < φ.length := by rw [← s1]; exact (List.getElem?_eq_some_iff.mp hk).1
          obtain ⟨c9, q1, q2⟩ := s2 k φ[k] (List.getElem?_eq_getElem hkl)
          obtain ⟨e9, q3, q4⟩ := w2 k φ[k] (List.getElem?_eq_getElem hkl)
          rw [hk] at q2
          have e := Option.some.inj q2
          subst e
          obtain ⟨x, q5, q6⟩ := hH.2 _ _ q1
          rw [q3] at q5
          have e := Option.some.inj q5
          subst e
          exact ⟨x, by rw [q4]; show some (ad φ[k], x) = some (ad (fmO φ k), x); rw [fmO_at (List.getElem?_eq_getElem hkl)], q6⟩
        obtain ⟨ρ', hR⟩ := ren_ex hL hHS b2
        have c1 := mB_ok hB hL hHS hR b4
        have c2 := mSa_ok hB hL hHS hR 0 (fun _ _ q => q) b3 hS
        obtain ⟨FR, hFR⟩ : ∃ FR : Nat → va_E, ∀ k a0 x, wsS[k]? = some (a0, x) → x = FR k := ⟨fun k => match wsS[k]? with | some q => q.2 | none => sb.2 k, fun k a0 x hk => by dsimp only; rw [hk]⟩
        have c3 := mH_ok hB hL hHS hR (sb' := (sb.1, FR)) rfl (fun _ => hFR) (fun q => by cases q) b5
        have hMt := hC FR ρ' (gdH_of hR) (fun k => ad (fmO φ k)) vs wsS sz c1 (gS_sb (sb := sb) (sb' := (sb.1, FR)) rfl c2) c3
        intro p e a1 a2 a3 s m args below d1 d2 d3 d4
        obtain ⟨r0, r1, rP, rK, rD, rZ⟩ := d3
        have hsubA : ∀ q, va_A wsS sz q → va_A ws sz q := fun q hq => by
          rcases hq with ⟨k, x, hk⟩ | hq
          · have hkl : k < φ.length := by rw [← w1]; exact (List.getElem?_eq_some_iff.mp hk).1
            obtain ⟨c, q1, q2⟩ := w2 k φ[k] (List.getElem?_eq_getElem hkl)
            rw [hk] at q2
            have e := Option.some.inj q2
            exact Or.inl ⟨_, x, by rw [q1, ← e]⟩
          · exact Or.inr hq
        have rPS : va_P D cl wsS s.heap := fun k q hk => by
          have hkl : k < φ.length := by rw [← w1]; exact (List.getElem?_eq_some_iff.mp hk).1
          obtain ⟨c, q1, q2⟩ := w2 k φ[k] (List.getElem?_eq_getElem hkl)
          rw [hk] at q2
          have e := Option.some.inj q2
          subst e
          exact rP _ _ q1
        have rDS : va_D (fun _ => True) wsS := by
          refine ⟨fun i j p9 q9 hi hj e => ?_, fun _ _ _ => trivial⟩
          have hil : i < φ.length := by rw [← w1]; exact (List.getElem?_eq_some_iff.mp hi).1
          have hjl : j < φ.length := by rw [← w1]; exact (List.getElem?_eq_some_iff.mp hj).1
          obtain ⟨c, q1, q2⟩ := w2 i φ[i] (List.getElem?_eq_getElem hil)
          obtain ⟨c', q3, q4⟩ := w2 j φ[j] (List.getElem?_eq_getElem hjl)
          rw [hi] at q2
          rw [hj] at q4
          have e1 := Option.some.inj q2
          have e2 := Option.some.inj q4
          subst e1
          subst e2
          have := rD.1 _ _ _ _ q1 q3 e
          exact va_nd_inj φ b1 i j φ[i] (List.getElem?_eq_getElem hil) (by rw [this]; exact List.getElem?_eq_getElem hjl)
        obtain ⟨n9, o9, f1, f2, f3, f4⟩ := hMt p e a1 a2 a3 s m args below d1 d2 ⟨r0, r1, rPS, rK, rDS, eZ_sub rZ hsubA⟩ d4
        refine ⟨n9, o9, f1, f2, f3, ?_⟩
        have hF9 : ∀ {t : State}, va_F (va_A wsS sz) s t → va_F (va_A ws sz) s t := fun {t} hF => ⟨hF.1, fun q h1 h2 => hF.2 q h1 (fun z => h2 (hsubA q z))⟩
        rcases f4 with ⟨⟨⟨v, o, hv, hin, h0, hT⟩, hF⟩, L, hL1, hL2⟩ | ⟨q, hq, E, ce, L, ⟨⟨k, o, hin, h0, hE, hn9, hT⟩, hF⟩, g1, g2, g3, g4, g5, g6⟩
        · obtain ⟨o', k1, k2, k3, k4, k5⟩ := instT hsel hselW b1 b6 b7 b8 hB hH rP rD r1 hL hHS hR hFR (Nat.eq_of_beq_eq_true ((Bool.and_eq_true _ _ ▸ List.all_eq_true.mp b9 o hin).1)) ((Bool.and_eq_true _ _ ▸ List.all_eq_true.mp b9 o hin).2) hF hT
          exact Or.inl ⟨⟨⟨v, o', hv, List.mem_filterMap.mpr ⟨o, hin, k1⟩, k2.trans h0, k5⟩, hF9 hF⟩, L, hL1, fun z hz => hsubA _ (hL2 z hz)⟩
        · obtain ⟨o', k1, k2, k3, k4, k5⟩ := instT hsel hselW b1 b6 b7 b8 hB hH rP rD r1 hL hHS hR hFR (Nat.eq_of_beq_eq_true ((Bool.and_eq_true _ _ ▸ List.all_eq_true.mp b9 o hin).1)) ((Bool.and_eq_true _ _ ▸ List.all_eq_true.mp b9 o hin).2) hF hT
          exact Or.inr ⟨q, hq, E, ce, L, ⟨⟨k, o', List.mem_filterMap.mpr ⟨o, hin, k1⟩, k2.trans h0, hE, by rw [k3, hn9]; rfl, k5⟩, hF9 hF⟩, g1, g2, g3, g4, g5, fun z hz => hsubA _ (g6 z hz)⟩
      · obtain ⟨o9, h1, h2⟩ := List.mem_filterMap.mp ho
        unfold instO at h2
        rw [putE_eq] at h2
        split at h2
        next => cases h2
        next => cases h2; exact putL_len _ _ _
end IN
