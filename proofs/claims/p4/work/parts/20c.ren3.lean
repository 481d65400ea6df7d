/-! ===== THE ENGINE, 13: a whole state within another ===== -/
/-- locals -/
def mL (fm : Nat → Nat) (B : eB) (l : eL) (hp : eH) (th : List (Option eP)) : eL → Bool
  | [] => true
  | q :: r => (match eFind l q.1 with
    | some a => mV fm B l hp th (some (0, q.1, 0)) a q.2
    | none => false) && mL fm B l hp th r
/-- values behind each other, at no places -/
def mS (fm : Nat → Nat) (B : eB) (l : eL) (hp : eH) (th : List (Option eP)) : List eV → List eV → Bool
  | [], [] => true
  | a :: as, b :: bs => mV fm B l hp th none a b && mS fm B l hp th as bs
  | _, _ => false
/-- fields of the cell k, from j on -/
def mFd (fm : Nat → Nat) (B : eB) (l : eL) (hp : eH) (th : List (Option eP)) (k : Nat) : Nat → List eV → List eV → Bool
  | _, [], [] => true
  | j, a :: as, b :: bs => mV fm B l hp th (some (1, k, j)) a b && mFd fm B l hp th k (j + 1) as bs
  | _, _, _ => false
/-- entries at some places of an array -/
def mAk (fm : Nat → Nat) (B : eB) (l : eL) (hp : eH) (th : List (Option eP)) (k : Nat) (pl : Bool) (n : Nat) (d : eV) (ov : List (Nat × eV)) (d2 : eV) (ov2 : List (Nat × eV)) : List (Nat × eV) → Bool
  | [] => true
  | p :: r => (bif Nat.blt p.1 n then mV fm B l hp th (bif pl then some (2, k, p.1) else none) (aG d ov p.1) (aG d2 ov2 p.1) else true) && mAk fm B l hp th k pl n d ov d2 ov2 r
def mA (fm : Nat → Nat) (B : eB) (l : eL) (hp : eH) (th : List (Option eP)) (k : Nat) (pl : Bool) (n : Nat) (d : eV) (ov : List (Nat × eV)) (d2 : eV) (ov2 : List (Nat × eV)) : Bool :=
  mAk fm B l hp th k pl n d ov d2 ov2 ov && (mAk fm B l hp th k pl n d ov d2 ov2 ov2 && (mV fm B l hp th none d d2 || aCov ov2 n 0))
def isF (k : Nat) (c : eC) : Bool := match c with
  | .inr a => Nat.beq a.1 3 && Nat.beq a.2.1 k
  | _ => false
/-- an array that is read lies within what is told of it -/
def mRd (fm : Nat → Nat) (B : eB) (l : eL) (hp : eH) (th : List (Option eP)) (k : Nat) (c : eC) (b : Nat × Nat × eV × List (Nat × eV)) : Bool := match c with
  | .inl _ => false
  | .inr a => Nat.beq (vA a).1 0 && (Nat.beq (vA a).2.1 b.2.2.1.2.2.1.toNat && mA fm B l hp th k true b.2.2.1.2.2.1.toNat (vA a).2.2.1 (vA a).2.2.2 (aDf b.2.2.2) b.2.2.2)
/-- fr: a cell that the other leaves as it is may be any -/
def mC (fr : Bool) (fm : Nat → Nat) (B : eB) (l : eL) (hp : eH) (th : List (Option eP)) (k : Nat) (c c2 : eC) : Bool := match c2 with
  | .inl o2 => (match c with
    | .inl o => Nat.beq o.1 o2.1 && mFd fm B l hp th k 0 o.2 o2.2
    | .inr _ => false)
  | .inr b => bif Nat.beq b.1 3 then (Nat.beq b.2.1 k && (fr || isF k c)) && (bif Nat.beq b.2.2.1.1 9 then mRd fm B l hp th k c b else true) else (match c with
    | .inl _ => false
    | .inr a => (match b.1 with
      | 0 => bif Nat.beq a.1 8 then Nat.beq a.2.1 b.2.1 && mA fm B l hp th k true b.2.1 eTop [] b.2.2.1 b.2.2.2 else (Nat.beq a.1 0 && (Nat.beq a.2.1 b.2.1 && mA fm B l hp th k true b.2.1 a.2.2.1 a.2.2.2 b.2.2.1 b.2.2.2))
      | 1 => Nat.beq a.1 1 && (Nat.beq a.2.1 b.2.1 && mA fm B l hp th k false b.2.1 a.2.2.1 a.2.2.2 b.2.2.1 b.2.2.2)
      | 2 => Nat.beq a.1 2 && (Nat.beq a.2.1 b.2.1 && mA fm B l hp th k false b.2.1 a.2.2.1 a.2.2.2 b.2.2.1 b.2.2.2)
      | 3 => false
      | t + 4 => Nat.beq a.2.1 b.2.1 && (mSp B l hp th a.1 b.2.1 a.2.2.2 (t + 4) b.2.2.2 || m9c B l hp th a.1 (t + 4) a.2.2.2 b.2.2.2)))
/-- cells from the k-th on -/
def mH (fr : Bool) (fm : Nat → Nat) (B : eB) (l : eL) (hp : eH) (th : List (Option eP)) : Nat → eH → eH → Bool
  | _, [], [] => true
  | k, c :: cs, c2 :: cs2 => mC fr fm B l hp th k c c2 && mH fr fm B l hp th (k + 1) cs cs2
  | _, _, _ => false
/-- bounds of the other names -/
def mBn (B : eB) (l : eL) (hp : eH) (th : List (Option eP)) : Nat → List (Int × Int) → Bool
  | _, [] => true
  | i, p :: r => (match vN B l hp th i with
    | some a => iLe p.1 (eLo B a) && (iLe (eHi B a) p.2 || hi12 B a p.2)
    | none => false) && mBn B l hp th (i + 1) r
def mF1 (B : eB) (l : eL) (hp : eH) (th : List (Option eP)) (f : eF) : Bool := bif Nat.ble f.1 2 then (match vN B l hp th f.2.1, vN B l hp th f.2.2.2.1 with
    | some a, some c => (match f.1 with
      | 0 => dIf B a f.2.2.1 c f.2.2.2.2
      | 1 => dLe B a c f.2.2.1 || (d12 B a c f.2.2.1 || dL2 B a c f.2.2.1)
      | _ => dIu B a f.2.2.1 c f.2.2.2.2)
    | _, _ => false) else (match argT B l hp th f.2.1, argT B l hp th f.2.2.2.1, argT B l hp th f.2.2.1.toNat, argT B l hp th f.2.2.2.2.toNat with
    | some a, some b, some c, some d => prR B (f.1 - 3) a b c d
    | _, _, _, _ => false)
def mFc (B : eB) (l : eL) (hp : eH) (th : List (Option eP)) : List eF → Bool
  | [] => true
  | f :: r => mF1 B l hp th f && mFc B l hp th r
def mB (B : eB) (l : eL) (hp : eH) (th : List (Option eP)) (B2 : eB) : Bool := mBn B l hp th 0 B2.1 && mFc B l hp th B2.2
section E13
variable {ρ ρ' : Nat → Int} {ad adI : Nat → Nat} {sb : eSB} {cA : Nat → ClassId}
variable {fm : Nat → Nat} {B : eB} {l : eL} {hp : eH} {lc : List (Nat × Value)} {ws : va_W} {th : List (Option eP)}
theorem vFind_in : ∀ {lc : List (Nat × Value)} {i : Nat} {v : Value}, vFind lc i = some v → (i, v) ∈ lc
  | [], _, _, h => by cases h
  | p :: r, i, v, h => by
    unfold vFind at h
    cases hb : Nat.beq p.1 i with
    | true =>
      rw [hb, cond_true] at h
      have e1 := Nat.eq_of_beq_eq_true hb
      have e2 : p.2 = v := Option.some.inj h
      rw [← e1, ← e2]
      exact List.mem_cons_self
    | false =>
      rw [hb, cond_false] at h
      exact List.mem_cons_of_mem _ (vFind_in h)
theorem mL_ok (hB : gB ρ B) (h1 : gL ρ ad sb l lc) (h2 : gHx ρ ad adI sb cA hp ws) (hR : Ren ρ ρ' lc ws th) : ∀ {l2 : eL}, mL fm B l hp th l2 = true → ∃ lc2, gL ρ' (fun k => ad (fm k)) sb l2 lc2 ∧ ∀ q ∈ lc2, q ∈ lc
  | [], _ => ⟨[], trivial, fun q h => by cases h⟩
  | q :: r, h => by
    unfold mL at h
    rw [Bool.and_eq_true] at h
    obtain ⟨lc2, k1, k2⟩ := mL_ok hB h1 h2 hR h.2
    have h := h.1
    split at h
    next a ha =>
      obtain ⟨v, hv1, hv2⟩ := vFind_ok h1 ha
      refine ⟨(q.1, v) :: lc2, ⟨⟨rfl, mV_ok hB h1 h2 hR (fun p hp9 => ?_) h hv2⟩, k1⟩, fun z hz => ?_⟩
      · have := Option.some.inj hp9
        subst this
        exact hv1
      · rcases List.mem_cons.mp hz with e | e
        · rw [e]; exact vFind_in hv1
        · exact k2 z e
    next => cases h
theorem mS_ok (hB : gB ρ B) (h1 : gL ρ ad sb l lc) (h2 : gHx ρ ad adI sb cA hp ws) (hR : Ren ρ ρ' lc ws th) : ∀ {as bs : List eV} {vs : List Value}, mS fm B l hp th as bs = true → gS ρ ad sb as vs → gS ρ' (fun k => ad (fm k)) sb bs vs
  | [], [], [], _, _ => trivial
  | a :: as, b :: bs, v :: vs, h, g => by
    unfold mS at h
    rw [Bool.and_eq_true] at h
    exact ⟨mV_ok hB h1 h2 hR (fun p hp9 => by cases hp9) h.1 g.1, mS_ok hB h1 h2 hR h.2 g.2⟩
  | [], [], _ :: _, _, g => g.elim
  | _ :: _, _ :: _, [], _, g => g.elim
  | [], _ :: _, _, h, _ => by cases h
  | _ :: _, [], _, h, _ => by cases h
theorem mFd_ok (hB : gB ρ B) (h1 : gL ρ ad sb l lc) (h2 : gHx ρ ad adI sb cA hp ws) (hR : Ren ρ ρ' lc ws th) {k a0 ci : Nat} {us : List Value} (hw : ws[k]? = some (a0, .inr (ci, us))) : ∀ {as bs : List eV} {vs : List Value} (j : Nat), (∀ i v, vs[i]? = some v → us[j + i]? = some v) → mFd fm B l hp th k j as bs = true → gS ρ ad sb as vs → gS ρ' (fun k => ad (fm k)) sb bs vs
  | [], [], [], _, _, _, _ => trivial
  | a :: as, b :: bs, v :: vs, j, hu, h, g => by
    unfold mFd at h
    rw [Bool.and_eq_true] at h
    refine ⟨mV_ok hB h1 h2 hR (fun p hp9 => ?_) h.1 g.1, mFd_ok hB h1 h2 hR hw (j + 1) (fun i v hv => ?_) h.2 g.2⟩
    · have := Option.some.inj hp9
      subst this
      show (match ws[k]? with
        | some (_, .inr o) => o.2[j]?
        | _ => none) = some v
      rw [hw]
      exact hu 0 v rfl
    · have := hu (i + 1) v (by rw [List.getElem?_cons_succ]; exact hv)
      rw [show j + 1 + i = j + (i + 1) by omega]
      exact this
  | [], [], _ :: _, _, _, _, g => g.elim
  | _ :: _, _ :: _, [], _, _, _, g => g.elim
  | [], _ :: _, _, _, _, h, _ => by cases h
  | _ :: _, [], _, _, _, h, _ => by cases h
theorem mAk_in {k n : Nat} {pl : Bool} {d d2 : eV} {ov ov2 : List (Nat × eV)} : ∀ {ks : List (Nat × eV)} {j : Nat}, mAk fm B l hp th k pl n d ov d2 ov2 ks = true → aHas ks j = true → j < n → mV fm B l hp th (bif pl then some (2, k, j) else none) (aG d ov j) (aG d2 ov2 j) = true
  | [], j, _, h, _ => by cases h
  | p :: r, j, h, ha, hj => by
    unfold mAk at h
    rw [Bool.and_eq_true] at h
    unfold aHas at ha
    cases hb : Nat.beq p.1 j with
    | true =>
      have e := Nat.eq_of_beq_eq_true hb
      have h := h.1
      rw [e] at h
      have hlt : Nat.blt j n = true := Nat.ble_eq_true_of_le hj
      rw [hlt, cond_true] at h
      exact h
    | false =>
      rw [hb, cond_false] at ha
      exact mAk_in h.2 ha hj
theorem aG_def {d : eV} : ∀ {l : List (Nat × eV)} {j : Nat}, aHas l j = false → aG d l j = d
  | [], _, _ => rfl
  | p :: r, j, h => by
    unfold aHas at h
    unfold aG
    cases hb : Nat.beq p.1 j with
    | true => rw [hb, cond_true] at h; cases h
    | false =>
      rw [hb, cond_false] at h
      rw [cond_false]
      exact aG_def h
theorem mA_at {k n : Nat} {pl : Bool} {d d2 : eV} {ov ov2 : List (Nat × eV)} (h : mA fm B l hp th k pl n d ov d2 ov2 = true) {j : Nat} (hj : j < n) : mV fm B l hp th (bif pl then some (2, k, j) else none) (aG d ov j) (aG d2 ov2 j) = true ∨ mV fm B l hp th none (aG d ov j) (aG d2 ov2 j) = true := by
  unfold mA at h
  rw [Bool.and_eq_true, Bool.and_eq_true, Bool.or_eq_true] at h
  obtain ⟨h1, h2, h3⟩ := h
  cases ha : aHas ov j with
  | true => exact Or.inl (mAk_in h1 ha hj)
  | false =>
    cases ha2 : aHas ov2 j with
    | true => exact Or.inl (mAk_in h2 ha2 hj)
    | false =>
      rcases h3 with h3 | h3
      · rw [aG_def ha, aG_def ha2]
        exact Or.inr h3
      · rw [aCov_ok h3 (Nat.zero_le _) (by omega)] at ha2
        cases ha2
theorem isF_eq {k : Nat} {c : eC} (h : isF k c = true) : ∃ z, c = .inr (3, k, z) := by
  match c, h with
  | .inr (a0, a1, a2), h =>
    have h : (Nat.beq a0 3 && Nat.beq a1 k) = true := h
    rw [Bool.and_eq_true] at h
    rw [Nat.eq_of_beq_eq_true h.1, Nat.eq_of_beq_eq_true h.2]
    exact ⟨a2, rfl⟩
  | .inl _, h => cases h
theorem gV_sb {sb' : eSB} (hs : sb'.1 = sb.1) {a : eV} {v : Value} (g : gV ρ ad sb a v) : gV ρ ad sb' a v := by
  obtain ⟨k, t, lo, hi⟩ := a
  match k, g with
  | 0, g => exact g
  | 1, g => exact g
  | 2, g => exact g
  | 3, g => exact g
  | 4, g => exact g
  | 5, g =>
    have g : v = .ref (sb.1 t) := g
    show v = .ref (sb'.1 t)
    rw [hs]
    exact g
  | (n + 6), g => exact g.elim
theorem gS_sb {sb' : eSB} (hs : sb'.1 = sb.1) : ∀ {as : List eV} {vs : List Value}, gS ρ ad sb as vs → gS ρ ad sb' as vs
  | [], [], _ => trivial
  | a :: as, v :: vs, g => ⟨gV_sb hs g.1, gS_sb hs g.2⟩
  | [], _ :: _, g => g.elim
  | _ :: _, [], g => g.elim
def isK3 (c : eC) : Bool := match c with
  | .inr a => Nat.beq a.1 3
  | _ => false
theorem gC_sb {sb' : eSB} (hs : sb'.1 = sb.1) {c : eC} {x : va_E} (hc : isK3 c = false) (g : gC ρ ad sb cA c x) : gC ρ ad sb' cA c x := by
  match c, hc, g with
  | .inl o, _, g =>
    obtain ⟨vs, h1, h2⟩ := g
    exact ⟨vs, h1, gS_sb hs h2⟩
  | .inr (0, a), _, g =>
    obtain ⟨f, h1, h2⟩ := g
    exact ⟨f, h1, fun j hj => gV_sb hs (h2 j hj)⟩
  | .inr (1, a), _, g =>
    obtain ⟨f, h1, h2⟩ := g
    exact ⟨f, h1, fun j hj => gV_sb hs (h2 j hj)⟩
  | .inr (2, a), _, g =>
    obtain ⟨f, h1, h2⟩ := g
    exact ⟨f, h1, fun j hj => ⟨gV_sb hs (h2 j hj).1, (h2 j hj).2⟩⟩
  | .inr (3, a), hc, _ => cases hc
  | .inr (k + 4, a), _, g => exact g
theorem mC_ok (hB : gB ρ B) (h1 : gL ρ ad sb l lc) (h2 : gHx ρ ad adI sb cA hp ws) (hR : Ren ρ ρ' lc ws th) {fr : Bool} {sb' : eSB} (hs : sb'.1 = sb.1) (hF : fr = true → ∀ k a0 x, ws[k]? = some (a0, x) → x = sb'.2 k) (hF' : fr = false → sb'.2 = sb.2) {k a0 : Nat} {x : va_E} {c c2 : eC} (hw : ws[k]? = some (a0, x)) (h : mC fr fm B l hp th k c c2 = true) (g : gC ρ ad sb cA c x) : gC ρ' (fun k => ad (fm k)) sb' cA c2 x := by
  match c, c2, h, g with
  | c, .inr (3, bn, bd, bov), h, g =>
    have h : ((Nat.beq bn k && (fr || isF k c)) && (bif Nat.beq bd.1 9 then mRd fm B l hp th k c (3, bn, bd, bov) else true)) = true := h
    rw [Bool.and_eq_true, Bool.and_eq_true, Bool.or_eq_true] at h
    obtain ⟨h, hrd⟩ := h
    have e1 := Nat.eq_of_beq_eq_true h.1
    subst e1
    refine ⟨?_, fun h9 => ?_⟩
    · show x = sb'.2 bn
      cases hfr : fr with
      | true => exact hF hfr _ _ _ hw
      | false =>
        rw [hF' hfr]
        rcases h.2 with q | q
        · rw [hfr] at q; cases q
        · obtain ⟨z, e⟩ := isF_eq q
          rw [e] at g
          exact g.1
    · have h9 : bd.1 = 9 := h9
      rw [h9, show Nat.beq 9 9 = true from rfl, cond_true] at hrd
      match c, hrd, g with
      | .inr a, hrd, g =>
        have hrd : (Nat.beq (vA a).1 0 && (Nat.beq (vA a).2.1 bd.2.2.1.toNat && mA fm B l hp th bn true bd.2.2.1.toNat (vA a).2.2.1 (vA a).2.2.2 (aDf bov) bov)) = true := hrd
        replace g := vA_ok g
        generalize vA a = a at hrd g
        obtain ⟨a0, an, ad9, aov⟩ := a
        rw [Bool.and_eq_true, Bool.and_eq_true] at hrd
        obtain ⟨b0, b1, c2⟩ := hrd
        replace b0 := Nat.eq_of_beq_eq_true b0
        replace b1 := Nat.eq_of_beq_eq_true b1
        dsimp only at b0 b1 c2
        subst b0
        obtain ⟨f, k1, k2⟩ := g
        subst k1
        dsimp only at k2
        refine ⟨f, by rw [← b1], fun j hj => ?_⟩
        dsimp only at hj ⊢
        rcases mA_at c2 hj with q | q
        · refine gV_sb hs (mV_ok hB h1 h2 hR (fun p hp9 => ?_) q (k2 j (by rw [b1]; exact hj)))
          have := Option.some.inj hp9
          subst this
          show (match ws[bn]? with
            | some (_, .inl (_, _, .inl f)) => some (Value.int (f j))
            | _ => none) = some (.int (f j))
          rw [hw]
        · exact gV_sb hs (mV_ok hB h1 h2 hR (fun p hp9 => by cases hp9) q (k2 j (by rw [b1]; exact hj)))
      | .inl o, hrd, _ => cases hrd
  | .inl o, .inl o2, h, g =>
    have h : (Nat.beq o.1 o2.1 && mFd fm B l hp th k 0 o.2 o2.2) = true := h
    rw [Bool.and_eq_true] at h
    obtain ⟨vs, e1, e2⟩ := g
    subst e1
    have e3 := Nat.eq_of_beq_eq_true h.1
    exact ⟨vs, by rw [e3], gS_sb hs <| mFd_ok hB h1 h2 hR hw 0 (fun i v hv => by rw [Nat.zero_add]; exact hv) h.2 e2⟩
  | .inr (ak, an, ad9, aov), .inr (0, bn, bd, bov), h, g =>
    have hh : (bif Nat.beq ak 8 then Nat.beq an bn && mA fm B l hp th k true bn eTop [] bd bov else (Nat.beq ak 0 && (Nat.beq an bn && mA fm B l hp th k true bn ad9 aov bd bov))) = true := h
    have hz : ∃ (d : eV) (ov : List (Nat × eV)), an = bn ∧ mA fm B l hp th k true bn d ov bd bov = true ∧ gC ρ ad sb cA (.inr (0, bn, d, ov)) x := by
      cases h8 : Nat.beq ak 8 with
      | true =>
        rw [h8, cond_true, Bool.and_eq_true] at hh
        have e0 := Nat.eq_of_beq_eq_true h8
        have e1 := Nat.eq_of_beq_eq_true hh.1
        subst e0
        subst e1
        exact ⟨_, _, rfl, hh.2, vA_ok g⟩
      | false =>
        rw [h8, cond_false, Bool.and_eq_true, Bool.and_eq_true] at hh
        obtain ⟨e0, e1, e2⟩ := hh
        have e0 := Nat.eq_of_beq_eq_true e0
        have e1 := Nat.eq_of_beq_eq_true e1
        subst e0
        subst e1
        exact ⟨_, _, rfl, e2, g⟩
    obtain ⟨d, ov, e1, e2, g⟩ := hz
    obtain ⟨f, k1, k2⟩ := g
    subst k1
    refine ⟨f, rfl, fun j hj => ?_⟩
    rcases mA_at e2 hj with q | q
    · refine gV_sb hs (mV_ok hB h1 h2 hR (fun p hp9 => ?_) q (k2 j hj))
      have := Option.some.inj hp9
      subst this
      show (match ws[k]? with
        | some (_, .inl (_, _, .inl f)) => some (Value.int (f j))
        | _ => none) = some (.int (f j))
      rw [hw]
    · exact gV_sb hs (mV_ok hB h1 h2 hR (fun p hp9 => by cases hp9) q (k2 j hj))
  | .inr (ak, an, ad9, aov), .inr (1, bn, bd, bov), h, g =>
    have h : (Nat.beq ak 1 && (Nat.beq an bn && mA fm B l hp th k false bn ad9 aov bd bov)) = true := h
    rw [Bool.and_eq_true, Bool.and_eq_true] at h
    obtain ⟨e0, e1, e2⟩ := h
    have e0 := Nat.eq_of_beq_eq_true e0
    have e1 := Nat.eq_of_beq_eq_true e1
    subst e0
    subst e1
    obtain ⟨f, k1, k2⟩ := g
    subst k1
    refine ⟨f, rfl, fun j hj => ?_⟩
    rcases mA_at e2 hj with q | q <;> exact gV_sb hs (mV_ok hB h1 h2 hR (fun p hp9 => by cases hp9) q (k2 j hj))
  | .inr (ak, an, ad9, aov), .inr (2, bn, bd, bov), h, g =>
    have h : (Nat.beq ak 2 && (Nat.beq an bn && mA fm B l hp th k false bn ad9 aov bd bov)) = true := h
    rw [Bool.and_eq_true, Bool.and_eq_true] at h
    obtain ⟨e0, e1, e2⟩ := h
    have e0 := Nat.eq_of_beq_eq_true e0
    have e1 := Nat.eq_of_beq_eq_true e1
    subst e0
    subst e1
    obtain ⟨f, k1, k2⟩ := g
    subst k1
    refine ⟨f, rfl, fun j hj => ?_⟩
    rcases mA_at e2 hj with q | q <;> exact ⟨gV_sb hs (mV_ok hB h1 h2 hR (fun p hp9 => by cases hp9) q (k2 j hj).1), (k2 j hj).2⟩
  | .inr (ak, an, ad9, aov), .inr (t + 4, bn, bd, bov), h, g =>
    have h : (Nat.beq an bn && (mSp B l hp th ak bn aov (t + 4) bov || m9c B l hp th ak (t + 4) aov bov)) = true := h
    rw [Bool.and_eq_true, Bool.or_eq_true] at h
    have e1 := Nat.eq_of_beq_eq_true h.1
    subst e1
    rcases h.2 with w | w
    · exact mSp_ok hB h1 h2 hR w g
    · exact m9c_ok hB h1 h2 hR w g
  | .inl o, .inr (0, b9), h, _ => cases h
  | .inl o, .inr (1, b9), h, _ => cases h
  | .inl o, .inr (2, b9), h, _ => cases h
  | .inl o, .inr (t + 4, b9), h, _ => cases h
  | .inr _, .inl _, h, _ => cases h
theorem mH_get {fr : Bool} : ∀ {hs hs2 : eH} (k : Nat), mH fr fm B l hp th k hs hs2 = true → hs2.length = hs.length ∧ ∀ (i : Nat) (c2 : eC), hs2[i]? = some c2 → ∃ c, hs[i]? = some c ∧ mC fr fm B l hp th (k + i) c c2 = true
  | [], [], _, _ => ⟨rfl, fun i c2 h => by simp at h⟩
  | c :: cs, c2 :: cs2, k, h => by
    unfold mH at h
    rw [Bool.and_eq_true] at h
    obtain ⟨k1, k2⟩ := mH_get (k + 1) h.2
    refine ⟨by rw [List.length_cons, List.length_cons, k1], fun i c9 hi => ?_⟩
    cases i with
    | zero =>
      have : c2 = c9 := Option.some.inj hi
      subst this
      exact ⟨c, rfl, h.1⟩
    | succ i =>
      rw [List.getElem?_cons_succ] at hi
      obtain ⟨c8, e1, e2⟩ := k2 i c9 hi
      exact ⟨c8, by rw [List.getElem?_cons_succ]; exact e1, by rw [show k + (i + 1) = k + 1 + i by omega]; exact e2⟩
  | [], _ :: _, _, h => by cases h
  | _ :: _, [], _, h => by cases h
theorem mH_ok (hB : gB ρ B) (h1 : gL ρ ad sb l lc) (h2 : gHx ρ ad adI sb cA hp ws) (hR : Ren ρ ρ' lc ws th) {fr : Bool} {sb' : eSB} (hs : sb'.1 = sb.1) (hF : fr = true → ∀ k a0 x, ws[k]? = some (a0, x) → x = sb'.2 k) (hF' : fr = false → sb'.2 = sb.2) {hp2 : eH} (h : mH fr fm B l hp th 0 hp hp2 = true) : gHx ρ' (fun k => ad (fm k)) adI sb' cA hp2 ws := by
  obtain ⟨k1, k2⟩ := mH_get 0 h
  refine ⟨by rw [k1]; exact h2.1, fun k c2 hk => ?_⟩
  obtain ⟨c, e1, e2⟩ := k2 k c2 hk
  obtain ⟨x, e3, e4⟩ := h2.2 k c e1
  rw [Nat.zero_add] at e2
  exact ⟨x, e3, mC_ok hB h1 h2 hR hs hF hF' e3 e2 e4⟩
theorem mBn_ok (hB : gB ρ B) (h1 : gL ρ ad sb l lc) (h2 : gHx ρ ad adI sb cA hp ws) (hR : Ren ρ ρ' lc ws th) : ∀ {bs : List (Int × Int)} (i : Nat), mBn B l hp th i bs = true → ∀ (j : Nat) (p : Int × Int), bs[j]? = some p → p.1 ≤ ρ' (i + j) ∧ ρ' (i + j) ≤ p.2
  | [], i, _, j, p, hj => by simp at hj
  | b :: bs, i, h, j, p, hj => by
    unfold mBn at h
    rw [Bool.and_eq_true] at h
    cases j with
    | zero =>
      have : b = p := Option.some.inj hj
      subst this
      have h := h.1
      split at h
      next a ha =>
        simp only [Bool.and_eq_true, Bool.or_eq_true, iLe_iff] at h
        have g := vN_ok hB h1 h2 hR ha
        have a1 := eLo_ok hB g
        have a2 := eHi_ok hB g
        rw [Nat.add_zero]
        obtain ⟨w1, w2 | w2⟩ := h
        · omega
        · have a3 := hi12_ok hB g w2
          omega
      next => cases h
    | succ j =>
      rw [List.getElem?_cons_succ] at hj
      rw [show i + (j + 1) = i + 1 + j by omega]
      exact mBn_ok hB h1 h2 hR (i + 1) h.2 j p hj
theorem argT_ok (hB : gB ρ B) (h1 : gL ρ ad sb l lc) (h2 : gHx ρ ad adI sb cA hp ws) (hR : Ren ρ ρ' lc ws th) {n : Nat} {a : eV} (h : argT B l hp th n = some a) : gN ρ a (aR ρ' n) := by
  unfold argT at h
  unfold aR
  cases hb : Nat.blt n cB with
  | false =>
    rw [hb] at h
    rw [cond_false]
    cases h
    exact gN_I _
  | true =>
    rw [hb, cond_true] at h
    rw [cond_true]
    split at h
    next c hc =>
      cases h
      exact shV_ok (vN_ok hB h1 h2 hR hc)
    next => cases h
theorem mFc_ok (hB : gB ρ B) (h1 : gL ρ ad sb l lc) (h2 : gHx ρ ad adI sb cA hp ws) (hR : Ren ρ ρ' lc ws th) : ∀ {F : List eF}, mFc B l hp th F = true → ∀ f ∈ F, gF ρ' f
  | [], _, f, hf => by cases hf
  | f :: r, h, g, hg => by
    unfold mFc at h
    rw [Bool.and_eq_true] at h
    rcases List.mem_cons.mp hg with e | e
    · subst e
      have h := h.1
      unfold mF1 at h
      obtain ⟨f0, f1, f2, f3, f4⟩ := g
      dsimp only at h
      cases hk : Nat.ble f0 2 with
      | true =>
        rw [hk, cond_true] at h
        split at h
        next a c ha hc =>
          have ga := vN_ok hB h1 h2 hR ha
          have gc := vN_ok hB h1 h2 hR hc
          match f0, hk, h with
          | 0, _, h => exact dIf_ok hB ga gc h
          | 1, _, h => exact (Bool.or_eq_true_iff.mp h).elim (dLe_ok hB ga gc) (fun h => (Bool.or_eq_true_iff.mp h).elim (d12_ok hB ga gc) (dL2_ok hB ga gc))
          | 2, _, h => exact dIu_ok hB ga gc h
          | k + 3, hk, _ => have := Nat.le_of_ble_eq_true hk; omega
        next => cases h
      | false =>
        have h3 : ∃ k, f0 = k + 3 := ⟨f0 - 3, by
          have : ¬ f0 ≤ 2 := fun hle => by rw [Nat.ble_eq_true_of_le hle] at hk; cases hk
          omega⟩
        obtain ⟨k, rfl⟩ := h3
        rw [hk, cond_false] at h
        split at h
        next a b c d ha hb hc hd =>
          have p := prR_ok hB h (argT_ok hB h1 h2 hR ha) (argT_ok hB h1 h2 hR hb) (argT_ok hB h1 h2 hR hc) (argT_ok hB h1 h2 hR hd)
          rw [Nat.add_sub_cancel] at p
          show RK k (aR ρ' f1) (aR ρ' f3) (aR ρ' f2.toNat) (aR ρ' f4.toNat)
          exact p
        next => cases h
    · exact mFc_ok hB h1 h2 hR h.2 g e
theorem mB_ok (hB : gB ρ B) (h1 : gL ρ ad sb l lc) (h2 : gHx ρ ad adI sb cA hp ws) (hR : Ren ρ ρ' lc ws th) {B2 : eB} (h : mB B l hp th B2 = true) : gB ρ' B2 := by
  unfold mB at h
  rw [Bool.and_eq_true] at h
  exact ⟨fun i p hi => by have := mBn_ok hB h1 h2 hR 0 h.1 i p hi; rw [Nat.zero_add] at this; exact this, mFc_ok hB h1 h2 hR h.2⟩
end E13
