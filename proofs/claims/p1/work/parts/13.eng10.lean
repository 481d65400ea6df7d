/-! ===== THE ENGINE, 10: contracts out of runs ===== -/
def lenB (i : Instr) (n : Nat) : Bool := match i with
  | .aload_n _ | .iload_n _ | .lload_n _ | .istore_n _ | .lstore_n _ | .astore_n _ | .iconst _ | .lconst _ | .iaload | .laload | .baload | .iastore | .lastore | .bastore | .arraylength | .dup | .dup2 | .pop | .iadd | .isub | .iand | .ior | .ixor | .imul | .ishl | .ishr | .iushr | .idiv | .irem | .ineg | .i2b | .i2l | .ladd | .lsub | .land | .lor | .lushr | .lshl | .lcmp | .ireturn | .return_ | .areturn => Nat.beq n 1
  | .aload _ | .iload _ | .lload _ | .istore _ | .lstore _ | .astore _ | .bipush _ | .ldc _ | .newarray _ => Nat.beq n 2
  | .tableswitch _ _ _ _ => true
  | _ => Nat.beq n 3
theorem lenB_ok {i : Instr} {n : Nat} (h : lenB i n = true) : lenP i n ∨ i = .ireturn ∨ i = .return_ ∨ i = .areturn := by
  cases i <;> first | exact Or.inl (Nat.eq_of_beq_eq_true h) | exact Or.inl trivial | exact Or.inr (Or.inl rfl) | exact Or.inr (Or.inr (Or.inl rfl)) | exact Or.inr (Or.inr (Or.inr rfl))
theorem lenB_ret {i : Instr} {n : Nat} (h : lenB i n = true) (hi : i = .ireturn ∨ i = .return_ ∨ i = .areturn) : n = 1 := by
  rcases hi with rfl | rfl | rfl <;> exact Nat.eq_of_beq_eq_true h
/-- what is known of a method and its rows -/
def mOk (GT : List Cond) (strs : List (String × Nat × String)) (cl : List vw_C) (mt : Nat → eM) (np ciM : Nat → Nat) (dfs : Nat → List eV) (y : eM) (ft : Nat → Option eQ) : Prop :=
  plainName y.1.cls = true ∧ ∀ (pc : Nat) (q : eQ), ft pc = some q → decode y.2.2.1 pc = .ok (q.1, q.2.1) ∧ lenB q.1 q.2.1 = true ∧ (stp q = false → ∀ meth : Method, meth.name = y.1.name → okE GT cl y.1.cls meth mt np ciM dfs q) ∧ (Nat.ble 1000 q.2.2.1 = true → ∀ ix, q.1 = .new ix → okT GT strs y.1.cls y.2.2.1 pc (q.2.2.1 - 1000))
def eArgs : Nat → List eV → eL
  | _, [] => []
  | i, a :: as => (i, a) :: eArgs (bif Nat.beq a.1 1 then i + 2 else i + 1) as
section E10
variable {l : Launch} {D : va_G} {cl : List vw_C} {cA : Nat → ClassId} {sb : Nat} {ρ : Nat → Int}
variable {strs : List (String × Nat × String)} {GT : List Cond} {cal : eCal} {mt : Nat → eM} {np ciM : Nat → Nat} {dfs : Nat → List eV} {d : Nat}
theorem gL_args {ad : Nat → Nat} : ∀ {as : List eV} {vs : List Value} (i : Nat), gS ρ ad sb as vs → gL ρ ad sb (eArgs i as) (lv_args i vs)
  | [], [], _, _ => trivial
  | a :: as, v :: vs, i, h => by
    refine ⟨⟨rfl, h.1⟩, ?_⟩
    have e1 : (if v.category = 2 then i + 2 else i + 1) = (bif Nat.beq a.1 1 then i + 2 else i + 1) := by
      rw [gV_cat h.1]
      by_cases h1 : a.1 = 1
      · rw [if_pos h1, h1]; rfl
      · rw [if_neg h1]
        cases h3 : Nat.beq a.1 1 with
        | false => rfl
        | true => exact absurd (Nat.eq_of_beq_eq_true h3) h1
    show gL ρ ad sb (eArgs _ as) (lv_args (if v.category = 2 then i + 2 else i + 1) vs)
    rw [e1]
    exact gL_args _ h.2
  | [], _ :: _, _, h => h.elim
  | _ :: _, [], _, h => h.elim
theorem sl_len : ∀ vs : List Value, (lg_sl vs).length = (vs.map fun v => v.category).sum
  | [] => rfl
  | v :: vs => by
    rw [List.map_cons, List.sum_cons, ← sl_len vs]
    cases v <;> simp [lg_sl, Value.category] <;> omega
set_option maxRecDepth 20000 in
theorem natW : 8 + (nativeFrameWords "java/lang/System" "arraycopy" 5 + 11) ≤ 1000 := by decide +kernel
set_option maxRecDepth 20000 in
theorem eCM_of (htr : l.stackTraces = false) (hgood : ∀ w ∈ GT, goodWord w = true) {y : eM} {ft : Nat → Option eQ} (hy : y.2.1 = Jvm.Cond.code y.1 y.2.2.1 y.2.2.2.1 y.2.2.2.2.1) (hm : mOk GT strs cl mt np ciM dfs y ft)
    (hcal : ∀ M as B hp outs, cal M as B hp = some outs → eCM l GT strs ρ sb D cl cA d (mt M) as B hp outs)
    {as : List eV} {B : eB} {hp : eH} {n cut : Nat} {os : List (Nat × eS)} {outs : List eO} (hw : Nat.ble (eWords as) y.2.2.2.1 = true)
    (hrun : run ft cut (ex cal mt np ciM dfs y.2.2.2.1 y.2.2.2.2.2.1 y.2.2.2.2.2.2 none (fun _ _ => none)) n [(0, eArgs 0 as, [], B, hp, 0, 0)] [] = some os)
    (hend : ends ft y.2.2.2.2.1 y.2.2.2.2.2.1 y.2.2.2.2.2.2 os = some outs) : eCM l GT strs ρ sb D cl cA (d + 1) y as B hp outs := by
  intro ad vs ws sz g2 ga g5
  refine vx_ofW (cc := y.2.2.1) (maxL := y.2.2.2.1) (ret := y.2.2.2.2.1) hm.1 (by rw [hy]) ?_
  intro p e s m args below meth c s₁ Bd hml hnoex hv
  obtain ⟨rfl, hsz, hP, hK, hD0, hZ⟩ := hv
  subst hsz
  have hD := hD0.self (sz := s.heap.size)
  have hts := atoms_spec (ws := y.2.1 :: GT) Bd.pre
  have hown : s.vm.findClass y.1.cls = some m.cls := findClass_of_methodNamed Bd.named
  have hname : meth.name = y.1.name := (name_of_methodNamed Bd.named Bd.method).1
  have hA : ∀ q, s.heap.size ≤ q → va_A ws s.heap.size q := fun q h => Or.inr h
  have hts' : ∀ w ∈ GT, w.before vs.toArray s = true := fun w hw => hts w (List.mem_cons_of_mem _ hw)
  have K : eK p m c s vs.toArray y.2.2.1 y.1.cls y.2.2.2.1 GT D cl cA (va_A ws s.heap.size) := ⟨Bd.exec, Bd.bytes, hml, hown, hts', hK, hA⟩
  have hRf : (headSpec (y.2.1 :: GT) (rmD (d + 1) y.2.2.2.2.2.1 y.2.2.2.2.2.2)).room.frames = d + 9 := by show d + 1 + 8 = d + 9; omega
  have hRl : (headSpec (y.2.1 :: GT) (rmD (d + 1) y.2.2.2.2.2.1 y.2.2.2.2.2.2)).room.locals = 64 * d + 1064 := by show 64 * (d + 1) + 1000 = 64 * d + 1064; omega
  have hnat := natW
  have all := run_ok (p := p) (l := l) (e := e) (R := (headSpec (y.2.1 :: GT) (rmD (d + 1) y.2.2.2.2.2.1 y.2.2.2.2.2.2)).room) (s := s) (m := m) (args := vs.toArray) (below := below) (meth := meth) (c := c) (Q := vx_MQ below (eQc ρ sb D cl cA ad hp.length (va_A ws s.heap.size) outs) (eXc ρ sb D cl cA ad hp.length (va_A ws s.heap.size) outs) vs.toArray s y.2.2.2.2.2.1 y.2.2.2.2.2.2 (va_A ws s.heap.size)) (D := D) (cl := cl) (cA := cA) (A := va_A ws s.heap.size) (sb := sb) (ρ := ρ) (ad0 := ad) (h0 := hp.length) (nL := y.2.2.2.1) (ft := ft) (cut := cut)
    (X := ex cal mt np ciM dfs y.2.2.2.1 y.2.2.2.2.2.1 y.2.2.2.2.2.2 none (fun _ _ => none)) (fun S q rs hq hs hX hr => by
      obtain ⟨h1, h2, h3, h4⟩ := hm.2 S.1 q hq
      refine ex_ok (d := d) (sc := none) K hZ trivial hgood (Nat.le_refl _) (Nat.le_refl _) (by rw [hRf]; exact Nat.le_refl _) (by rw [hRl]; exact Nat.le_refl _) (by rw [hRl]; omega) hcal h1 (h3 hs meth hname) (fun _ _ q => by cases q) ?_ hX hr
      rcases lenB_ok h2 with q9 | q9
      · exact q9
      · exfalso
        unfold stp at hs
        rcases q9 with q9 | q9 | q9 <;> rw [q9] at hs <;> cases hs) n _ _ os hrun (fun o ho => by
      obtain ⟨x, hx1, hx2⟩ := ends_in hend o ho
      exact leaf_ok (own := y.1.cls) Bd.exec Bd.bytes hml hown hts' hK hZ htr Bd.notSynchronized hnoex hA Bd.returns (Nat.le_refl _) (Nat.le_refl _) (by rw [hRf]; omega) (by rw [hRl]; omega) (fun pc q hq => by
        obtain ⟨h1, h2, h3, h4⟩ := hm.2 pc q hq
        exact ⟨h1, fun hi => lenB_ret h2 hi, h4⟩) hx1 hx2)
  have hent := all.1 _ List.mem_cons_self
  rw [lg_entry_eq]
  exact hent ad _ (lv_args 0 vs) [] ws s.heap [] ⟨Nat.le_refl _, fun _ _ => rfl, fun _ => rfl⟩ g2 (gL_args 0 ga) trivial g5 hP hD va_S.rf (lv_entry vs (by rw [sl_len, gS_words ga]; exact Nat.le_of_ble_eq_true hw))
-- joining ends: bounds that are wider
abbrev eHt : Type := List (Nat × Nat × Int × Int) × List (Nat × Int × Int)
def wkV (a : eV) (lo hi : Int) : Bool := Nat.beq a.1 0 && (decide (lo ≤ a.2.2.1) && decide (a.2.2.2 ≤ hi))
def wkC (hp : eH) : List (Nat × Nat × Int × Int) → Option eH
  | [] => some hp
  | w :: ws => match eGet hp w.1 with
    | some (.inl o) => (match eGet o.2 w.2.1 with
      | some a => bif wkV a w.2.2.1 w.2.2.2 then wkC (eSet hp w.1 (.inl (o.1, eSet o.2 w.2.1 (0, 0, w.2.2.1, w.2.2.2)))) ws else none
      | none => none)
    | some (.inr y) => bif Nat.beq y.1 0 && wkV (aG y.2.2.1 y.2.2.2 w.2.1) w.2.2.1 w.2.2.2 then wkC (eSet hp w.1 (.inr (0, y.2.1, y.2.2.1, aS y.2.2.1 y.2.2.2 w.2.1 (0, 0, w.2.2.1, w.2.2.2)))) ws else none
    | none => none
def wkB (B : eB) : List (Nat × Int × Int) → Option eB
  | [] => some B
  | w :: ws => match eGet B w.1 with
    | some b => bif decide (w.2.1 ≤ b.1) && decide (b.2 ≤ w.2.2) then wkB (eSet B w.1 (w.2.1, w.2.2)) ws else none
    | none => none
theorem wkV_ok {ad : Nat → Nat} {a : eV} {lo hi : Int} {v : Value} (h : wkV a lo hi = true) (g : gV ρ ad sb a v) : gV ρ ad sb (0, 0, lo, hi) v := by
  unfold wkV at h
  rw [Bool.and_eq_true, Bool.and_eq_true, decide_eq_true_eq, decide_eq_true_eq] at h
  obtain ⟨a0, a1, a2, a3⟩ := a
  have e0 := Nat.eq_of_beq_eq_true h.1
  dsimp only at e0 h
  subst e0
  obtain ⟨x, rfl, -, h2, h3⟩ := g
  dsimp only at h2 h3
  exact gV_int (gN_iv (by omega) (by omega))
theorem gS_wk {ad : Nat → Nat} : ∀ {as : List eV} {vs : List Value} {k : Nat} {a : eV} {lo hi : Int}, gS ρ ad sb as vs → as[k]? = some a → wkV a lo hi = true → gS ρ ad sb (as.set k (0, 0, lo, hi)) vs
  | a :: as, v :: vs, 0, b, lo, hi, h, e, w => by
    have : a = b := Option.some.inj e
    subst this
    exact ⟨wkV_ok w h.1, h.2⟩
  | a :: as, v :: vs, k + 1, b, lo, hi, h, e, w => by
    rw [List.getElem?_cons_succ] at e
    exact ⟨h.1, gS_wk h.2 e w⟩
  | [], _, k, _, _, _, _, e, _ => by simp at e
  | _ :: _, [], _, _, _, _, h, _, _ => h.elim
theorem gH_wk {ad : Nat → Nat} {h : eH} {ws : va_W} {k : Nat} {c c' : eC} (g : gH ρ ad sb cA h ws) (hc : h[k]? = some c) (hx : ∀ x, gC ρ ad sb cA c x → gC ρ ad sb cA c' x) : gH ρ ad sb cA (h.set k c') ws := by
  refine ⟨by rw [List.length_set]; exact g.1, fun j c9 hj => ?_⟩
  by_cases hjk : k = j
  · subst hjk
    have hl : k < h.length := (List.getElem?_eq_some_iff.mp hc).1
    rw [List.getElem?_set_self hl] at hj
    have e2 := Option.some.inj hj
    subst e2
    obtain ⟨x, h1, h2⟩ := g.2 k c hc
    exact ⟨x, h1, hx x h2⟩
  · rw [List.getElem?_set_ne hjk] at hj
    exact g.2 j c9 hj
theorem wkC_ok {ad : Nat → Nat} {ws : va_W} : ∀ (hs : List (Nat × Nat × Int × Int)) {hp hp' : eH}, wkC hp hs = some hp' → gH ρ ad sb cA hp ws → gH ρ ad sb cA hp' ws ∧ hp'.length = hp.length
  | [], hp, hp', h, g => by
    cases h
    exact ⟨g, rfl⟩
  | w :: hs, hp, hp', h, g => by
    unfold wkC at h
    split at h
    next o ho =>
      split at h
      next a ha =>
        cases hb : wkV a w.2.2.1 w.2.2.2 with
        | false => rw [hb] at h; cases h
        | true =>
          rw [hb, cond_true, eSet_eq, eSet_eq] at h
          obtain ⟨h1, h2⟩ := wkC_ok hs h (gH_wk g (by rw [← eGet_eq]; exact ho) (fun x hx => by
            obtain ⟨vs, h1, h2⟩ := hx
            exact ⟨vs, h1, gS_wk h2 (by rw [← eGet_eq]; exact ha) hb⟩))
          exact ⟨h1, by rw [h2, List.length_set]⟩
      next => cases h
    next y hy =>
      cases hb : (Nat.beq y.1 0 && wkV (aG y.2.2.1 y.2.2.2 w.2.1) w.2.2.1 w.2.2.2) with
      | false => rw [hb] at h; cases h
      | true =>
        rw [hb, cond_true, eSet_eq] at h
        rw [Bool.and_eq_true] at hb
        obtain ⟨h1, h2⟩ := wkC_ok hs h (gH_wk g (by rw [← eGet_eq]; exact hy) (fun x hx => by
          obtain ⟨y0, n, d, ov⟩ := y
          have e0 := Nat.eq_of_beq_eq_true hb.1
          have e1 := hb.2
          dsimp only at e0 e1
          subst e0
          obtain ⟨f, h1, h2⟩ := hx
          refine ⟨f, h1, fun j hj => ?_⟩
          dsimp only
          rw [aG_aS]
          by_cases hjw : j = w.2.1
          · rw [if_pos hjw]
            refine wkV_ok e1 ?_
            rw [← hjw]
            exact h2 j hj
          · rw [if_neg hjw]
            exact h2 j hj))
        exact ⟨h1, by rw [h2, List.length_set]⟩
    next => cases h
theorem wkB_ok : ∀ (bs : List (Nat × Int × Int)) {B B' : eB}, wkB B bs = some B' → gB ρ B → gB ρ B'
  | [], B, B', h, g => by
    cases h
    exact g
  | w :: bs, B, B', h, g => by
    unfold wkB at h
    split at h
    next b hb9 =>
      cases hb : (decide (w.2.1 ≤ b.1) && decide (b.2 ≤ w.2.2)) with
      | false => rw [hb] at h; cases h
      | true =>
        rw [hb, cond_true, eSet_eq] at h
        rw [Bool.and_eq_true, decide_eq_true_eq, decide_eq_true_eq] at hb
        refine wkB_ok bs h (fun i q hq => ?_)
        by_cases hi : w.1 = i
        · rw [hi] at hq hb9
          have hgt := g i b (by rw [← eGet_eq]; exact hb9)
          have hl : i < B.length := by rw [eGet_eq] at hb9; exact (List.getElem?_eq_some_iff.mp hb9).1
          rw [List.getElem?_set_self hl] at hq
          have e2 := Option.some.inj hq
          subst e2
          dsimp only
          omega
        · rw [List.getElem?_set_ne hi] at hq
          exact g i q hq
    next => cases h
def wkO (t : eHt) (o : eO) : Option eO := match wkC o.2.2.2 t.1 with
  | none => none
  | some hp => match wkB o.2.2.1 t.2 with
    | none => none
    | some B => some (o.1, o.2.1, B, hp)
theorem wkO_ok {ad : Nat → Nat} {n : Nat} {A' : Nat → Prop} {t : eHt} {o o' : eO} (h : wkO t o = some o') : o'.1 = o.1 ∧ o'.2.1 = o.2.1 ∧ ∀ (v : Option Value) (u : State), eT ρ sb D cl cA ad n A' o v u → eT ρ sb D cl cA ad n A' o' v u := by
  unfold wkO at h
  split at h
  next => cases h
  next hp h1 =>
    split at h
    next => cases h
    next B h2 =>
      cases h
      refine ⟨rfl, rfl, fun v u hT => ?_⟩
      obtain ⟨ad', ws', t1, t2, t3, t4, t5, t6, t7⟩ := hT
      obtain ⟨k1, k2⟩ := wkC_ok t.1 h1 t4
      exact ⟨ad', ws', by dsimp only; rw [k2]; exact t1, t2, wkB_ok t.2 h2 t3, k1, t5, t6, t7⟩
def eqVs : List eV → List eV → Bool
  | [], [] => true
  | a :: as, b :: bs => eEq a b && eqVs as bs
  | _, _ => false
theorem eqVs_eq : ∀ {as bs : List eV}, eqVs as bs = true → as = bs
  | [], [], _ => rfl
  | a :: as, b :: bs, h => by
    unfold eqVs at h
    rw [Bool.and_eq_true] at h
    rw [eEq_eq h.1, eqVs_eq h.2]
  | [], _ :: _, h => by cases h
  | _ :: _, [], h => by cases h
def eqOv : List (Nat × eV) → List (Nat × eV) → Bool
  | [], [] => true
  | a :: as, b :: bs => Nat.beq a.1 b.1 && (eEq a.2 b.2 && eqOv as bs)
  | _, _ => false
theorem eqOv_eq : ∀ {as bs : List (Nat × eV)}, eqOv as bs = true → as = bs
  | [], [], _ => rfl
  | (a, v) :: as, (b, w) :: bs, h => by
    unfold eqOv at h
    rw [Bool.and_eq_true, Bool.and_eq_true] at h
    have h1 := Nat.eq_of_beq_eq_true h.1
    have h2 := eEq_eq h.2.1
    dsimp only at h1 h2
    rw [h1, h2, eqOv_eq h.2.2]
  | [], _ :: _, h => by cases h
  | _ :: _, [], h => by cases h
def eqC (a b : eC) : Bool := match a, b with
  | .inl x, .inl y => Nat.beq x.1 y.1 && eqVs x.2 y.2
  | .inr x, .inr y => Nat.beq x.1 y.1 && (Nat.beq x.2.1 y.2.1 && (eEq x.2.2.1 y.2.2.1 && eqOv x.2.2.2 y.2.2.2))
  | _, _ => false
theorem eqC_eq {a b : eC} (h : eqC a b = true) : a = b := by
  match a, b, h with
  | .inl (x1, x2), .inl (y1, y2), h =>
    unfold eqC at h
    rw [Bool.and_eq_true] at h
    have h1 := Nat.eq_of_beq_eq_true h.1
    have h2 := eqVs_eq h.2
    dsimp only at h1 h2
    rw [h1, h2]
  | .inr (x1, x2, x3, x4), .inr (y1, y2, y3, y4), h =>
    unfold eqC at h
    rw [Bool.and_eq_true, Bool.and_eq_true, Bool.and_eq_true] at h
    have h1 := Nat.eq_of_beq_eq_true h.1
    have h2 := Nat.eq_of_beq_eq_true h.2.1
    have h3 := eEq_eq h.2.2.1
    have h4 := eqOv_eq h.2.2.2
    dsimp only at h1 h2 h3 h4
    rw [h1, h2, h3, h4]
  | .inl _, .inr _, h => cases h
  | .inr _, .inl _, h => cases h
def eqH : eH → eH → Bool
  | [], [] => true
  | a :: as, b :: bs => eqC a b && eqH as bs
  | _, _ => false
theorem eqH_eq : ∀ {as bs : eH}, eqH as bs = true → as = bs
  | [], [], _ => rfl
  | a :: as, b :: bs, h => by
    unfold eqH at h
    rw [Bool.and_eq_true] at h
    rw [eqC_eq h.1, eqH_eq h.2]
  | [], _ :: _, h => by cases h
  | _ :: _, [], h => by cases h
def eqB : eB → eB → Bool
  | [], [] => true
  | a :: as, b :: bs => decide (a.1 = b.1) && (decide (a.2 = b.2) && eqB as bs)
  | _, _ => false
theorem eqB_eq : ∀ {as bs : eB}, eqB as bs = true → as = bs
  | [], [], _ => rfl
  | (a, v) :: as, (b, w) :: bs, h => by
    unfold eqB at h
    rw [Bool.and_eq_true, Bool.and_eq_true, decide_eq_true_eq, decide_eq_true_eq] at h
    obtain ⟨h1, h2, h3⟩ := h
    dsimp only at h1 h2
    rw [h1, h2, eqB_eq h3]
  | [], _ :: _, h => by cases h
  | _ :: _, [], h => by cases h
def eqOp (a b : Option eV) : Bool := match a, b with
  | none, none => true
  | some x, some y => eEq x y
  | _, _ => false
theorem eqOp_eq {a b : Option eV} (h : eqOp a b = true) : a = b := by
  match a, b, h with
  | none, none, _ => rfl
  | some x, some y, h => rw [eEq_eq h]
  | none, some _, h => cases h
  | some _, none, h => cases h
def eEqO (a b : eO) : Bool := Nat.beq a.1 b.1 && (eqOp a.2.1 b.2.1 && (eqB a.2.2.1 b.2.2.1 && eqH a.2.2.2 b.2.2.2))
theorem eEqO_eq {a b : eO} (h : eEqO a b = true) : a = b := by
  obtain ⟨a1, a2, a3, a4⟩ := a
  obtain ⟨b1, b2, b3, b4⟩ := b
  unfold eEqO at h
  rw [Bool.and_eq_true, Bool.and_eq_true, Bool.and_eq_true] at h
  obtain ⟨h1, h2, h3, h4⟩ := h
  have h1 := Nat.eq_of_beq_eq_true h1
  have h2 := eqOp_eq h2
  have h3 := eqB_eq h3
  have h4 := eqH_eq h4
  dsimp only at h1 h2 h3 h4
  rw [h1, h2, h3, h4]
def mg1 (t : eHt) : List eO → Option (List eO)
  | [] => some []
  | o :: os => match wkO t o with
    | none => none
    | some x => match mg1 t os with
      | none => none
      | some xs => bif xs.any (fun y => eEqO y x) then some xs else some (x :: xs)
theorem mg1_in {t : eHt} : ∀ {os outs : List eO}, mg1 t os = some outs → ∀ o ∈ os, ∃ x, x ∈ outs ∧ wkO t o = some x
  | [], _, _, o, ho => by cases ho
  | a :: os, outs, h, o, ho => by
    unfold mg1 at h
    split at h
    next => cases h
    next x hx =>
      split at h
      next => cases h
      next xs hxs =>
        have hin : ∀ z, z ∈ xs → z ∈ outs := fun z hz => by
          cases hb : xs.any (fun y => eEqO y x) with
          | true => rw [hb, cond_true] at h; cases h; exact hz
          | false => rw [hb, cond_false] at h; cases h; exact List.mem_cons_of_mem _ hz
        rcases List.mem_cons.mp ho with q | q
        · rw [q]
          refine ⟨x, ?_, hx⟩
          cases hb : xs.any (fun y => eEqO y x) with
          | true =>
            obtain ⟨z, hz1, hz2⟩ := List.any_eq_true.mp hb
            have hz2 := eEqO_eq hz2
            exact hin x (hz2 ▸ hz1)
          | false => rw [hb, cond_false] at h; cases h; exact List.mem_cons_self
        · obtain ⟨z, h1, h2⟩ := mg1_in hxs o q
          exact ⟨z, hin z h1, h2⟩
def mgO (t : Option eHt) (os : List eO) : Option (List eO) := match t with
  | none => some os
  | some t => mg1 t os
theorem eCM_mono {y : eM} {as : List eV} {B : eB} {hp : eH} {outs outs' : List eO} (h : eCM l GT strs ρ sb D cl cA d y as B hp outs) (ho : ∀ o ∈ outs, ∃ o', o' ∈ outs' ∧ o'.1 = o.1 ∧ o'.2.1 = o.2.1 ∧ ∀ (ad : Nat → Nat) (A' : Nat → Prop) (v : Option Value) (u : State), eT ρ sb D cl cA ad hp.length A' o v u → eT ρ sb D cl cA ad hp.length A' o' v u) : eCM l GT strs ρ sb D cl cA d y as B hp outs' := by
  intro ad vs ws sz g2 ga g5 p e a1 a2 a3 s m args below b1 b2 b3 b4
  obtain ⟨n, o, c1, c2, c3, c4⟩ := h ad vs ws sz g2 ga g5 p e a1 a2 a3 s m args below b1 b2 b3 b4
  refine ⟨n, o, c1, c2, c3, ?_⟩
  rcases c4 with ⟨⟨⟨v, o9, hv, hin, h0, hT⟩, hF⟩, hL⟩ | ⟨q, hq, E, ce, L, ⟨⟨k, o9, hin, h0, hE, hn9, hT⟩, hF⟩, hrest⟩
  · obtain ⟨o', k1, k2, k3, k4⟩ := ho o9 hin
    exact Or.inl ⟨⟨⟨v, o', hv, k1, k2.trans h0, k4 _ _ _ _ hT⟩, hF⟩, hL⟩
  · obtain ⟨o', k1, k2, k3, k4⟩ := ho o9 hin
    exact Or.inr ⟨q, hq, E, ce, L, ⟨⟨k, o', k1, k2.trans h0, hE, k3.trans hn9, k4 _ _ _ _ hT⟩, hF⟩, hrest⟩
/-- methods, calls d deep -/
def callD (mU : Nat → Bool) (mt : Nat → eM) (np ciM : Nat → Nat) (dfs : Nat → List eV) (ftM : Nat → Nat → Option eQ) (mgF : Nat → Option eHt) (n : Nat) : Nat → eCal
  | 0 => fun _ _ _ _ => none
  | d + 1 => fun M as B hp => bif mU M && Nat.ble (eWords as) (mt M).2.2.2.1 then (match run (ftM M) 99999 (ex (callD mU mt np ciM dfs ftM mgF n d) mt np ciM dfs (mt M).2.2.2.1 (mt M).2.2.2.2.2.1 (mt M).2.2.2.2.2.2 none (fun _ _ => none)) n [(0, eArgs 0 as, [], B, hp, 0, 0)] [] with
    | none => none
    | some os => match ends (ftM M) (mt M).2.2.2.2.1 (mt M).2.2.2.2.2.1 (mt M).2.2.2.2.2.2 os with
      | none => none
      | some outs => mgO (mgF M) outs) else none
theorem callD_ok (htr : l.stackTraces = false) (hgood : ∀ w ∈ GT, goodWord w = true) {mU : Nat → Bool} {ftM : Nat → Nat → Option eQ} {mgF : Nat → Option eHt} {n : Nat} (hM : ∀ M, mU M = true → (mt M).2.1 = Jvm.Cond.code (mt M).1 (mt M).2.2.1 (mt M).2.2.2.1 (mt M).2.2.2.2.1 ∧ mOk GT strs cl mt np ciM dfs (mt M) (ftM M)) :
    ∀ (d M : Nat) (as : List eV) (B : eB) (hp : eH) (outs : List eO), callD mU mt np ciM dfs ftM mgF n d M as B hp = some outs → eCM l GT strs ρ sb D cl cA d (mt M) as B hp outs
  | 0, _, _, _, _, _, h => by cases h
  | d + 1, M, as, B, hp, outs, h => by
    unfold callD at h
    cases hb : (mU M && Nat.ble (eWords as) (mt M).2.2.2.1) with
    | false => rw [hb] at h; cases h
    | true =>
      rw [hb, cond_true] at h
      rw [Bool.and_eq_true] at hb
      split at h
      next => cases h
      next os hos =>
        split at h
        next => cases h
        next outs1 hends =>
          obtain ⟨m1, m2⟩ := hM M hb.1
          have h1 := eCM_of (ρ := ρ) (sb := sb) (D := D) (cA := cA) htr hgood m1 m2 (fun M as B hp outs ho => callD_ok htr hgood hM d M as B hp outs ho) hb.2 hos hends
          unfold mgO at h
          split at h
          · cases h
            exact h1
          · refine eCM_mono h1 (fun o ho => ?_)
            obtain ⟨x, hx1, hx2⟩ := mg1_in h o ho
            have hw := fun (ad : Nat → Nat) (A' : Nat → Prop) => wkO_ok (ρ := ρ) (sb := sb) (D := D) (cl := cl) (cA := cA) (ad := ad) (n := hp.length) (A' := A') hx2
            exact ⟨x, hx1, (hw (fun _ => 0) (fun _ => True)).1, (hw (fun _ => 0) (fun _ => True)).2.1, fun ad A' => (hw ad A').2.2⟩
end E10
