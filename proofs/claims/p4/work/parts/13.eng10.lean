/-! ===== THE ENGINE, 10: contracts out of runs ===== -/
def lenB (i : Instr) (n : Nat) : Bool := match i with
  | .aload_n _ | .iload_n _ | .lload_n _ | .istore_n _ | .lstore_n _ | .astore_n _ | .iconst _ | .lconst _ | .iaload | .laload | .baload | .aaload | .iastore | .lastore | .bastore | .arraylength | .dup | .dup2 | .pop | .iadd | .isub | .iand | .ior | .ixor | .imul | .ishl | .ishr | .iushr | .idiv | .irem | .ineg | .i2b | .i2c | .i2l | .l2i | .ladd | .lsub | .land | .lor | .lushr | .lshl | .lcmp | .ireturn | .return_ | .areturn => Nat.beq n 1
  | .aload _ | .iload _ | .lload _ | .istore _ | .lstore _ | .astore _ | .bipush _ | .ldc _ | .newarray _ => Nat.beq n 2
  | .tableswitch _ _ _ _ => true
  | _ => Nat.beq n 3
theorem lenB_ok {i : Instr} {n : Nat} (h : lenB i n = true) : lenP i n ∨ i = .ireturn ∨ i = .return_ ∨ i = .areturn := by
  cases i <;> first | exact Or.inl (Nat.eq_of_beq_eq_true h) | exact Or.inl trivial | exact Or.inr (Or.inl rfl) | exact Or.inr (Or.inr (Or.inl rfl)) | exact Or.inr (Or.inr (Or.inr rfl))
theorem lenB_ret {i : Instr} {n : Nat} (h : lenB i n = true) (hi : i = .ireturn ∨ i = .return_ ∨ i = .areturn) : n = 1 := by
  rcases hi with rfl | rfl | rfl <;> exact Nat.eq_of_beq_eq_true h
/-- what is known of a method and its rows -/
def mOk (GT : List Cond) (strs : List (String × Nat × String)) (cl : List vw_C) (mt : Nat → eM) (np ciM : Nat → Nat) (dfs : Nat → List eV) (y : eM) (ft : Nat → Option eQ) : Prop :=
  plainName y.1.cls = true ∧ ∀ (pc : Nat) (q : eQ), ft pc = some q → decode y.2.2.1 pc = .ok (q.1, q.2.1) ∧ lenB q.1 q.2.1 = true ∧ (stp q = false → ∀ meth : Method, meth.name = y.1.name → okE GT cl y.1.cls meth mt np ciM dfs q) ∧ (Nat.ble 1000 q.2.2.1 = true → ∀ ix, q.1 = .new ix → okT GT strs y.1.cls y.2.2.1 pc (q.2.2.1 - 1000))
def eArgs : Nat → List eV → eL
  | _, [] => []
  | i, a :: as => (i, a) :: eArgs (bif Nat.beq a.1 1 then i + 2 else i + 1) as
section E10
variable {l : Launch} {D : va_G} {cl : List vw_C} {cA : Nat → ClassId} {sb : eSB} {ρ : Nat → Int}
variable {strs : List (String × Nat × String)} {GT : List Cond} {cal : eCal} {mt : Nat → eM} {np ciM : Nat → Nat} {dfs : Nat → List eV} {d : Nat}
theorem gL_args {ad : Nat → Nat} : ∀ {as : List eV} {vs : List Value} (i : Nat), gS ρ ad sb as vs → gL ρ ad sb (eArgs i as) (lv_args i vs)
  | [], [], _, _ => trivial
  | a :: as, v :: vs, i, h => by
    refine ⟨⟨rfl, h.1⟩, ?_⟩
    have e1 : (if v.category = 2 then i + 2 else i + 1) = (bif Nat.beq a.1 1 then i + 2 else i + 1) := by
      rw [gV_cat h.1]
      by_cases h1 : a.1 = 1
      · rw [if_pos h1, h1]; rfl
      · rw [if_neg h1]
        cases h3 : Nat.beq a.1 1 with
        | false => rfl
        | true => exact absurd (Nat.eq_of_beq_eq_true h3) h1
    show gL ρ ad sb (eArgs _ as) (lv_args (if v.category = 2 then i + 2 else i + 1) vs)
    rw [e1]
    exact gL_args _ h.2
  | [], _ :: _, _, h => h.elim
  | _ :: _, [], _, h => h.elim
theorem sl_len : ∀ vs : List Value, (lg_sl vs).length = (vs.map fun v => v.category).sum
  | [] => rfl
  | v :: vs => by
    rw [List.map_cons, List.sum_cons, ← sl_len vs]
    cases v <;> simp [lg_sl, Value.category] <;> omega
set_option maxRecDepth 20000 in
theorem natW : 8 + (nativeFrameWords "java/lang/System" "arraycopy" 5 + 11) ≤ 1000 := by decide +kernel
set_option maxRecDepth 20000 in
theorem eCM_of (htr : l.stackTraces = false) (hgood : ∀ w ∈ GT, goodWord w = true) {y : eM} {ft : Nat → Option eQ} (hy : y.2.1 = Jvm.Cond.code y.1 y.2.2.1 y.2.2.2.1 y.2.2.2.2.1) (hm : mOk GT strs cl mt np ciM dfs y ft)
    (hcal : ∀ M as B hp outs, cal M as B hp = some outs → eCM l GT strs ρ sb D cl cA d (mt M) as B hp outs)
    {as : List eV} {B : eB} {hp : eH} {n : Nat} {cu : Option (Nat × List Nat × eHt)} {os : List (Nat × eS)} {outs : List eO} (hw : Nat.ble (eWords as) y.2.2.2.1 = true)
    (hrun : run2 ft cu (ex cal mt np ciM dfs y.2.2.2.1 y.2.2.2.2.2.1 y.2.2.2.2.2.2 none (fun _ _ => none)) n (0, eArgs 0 as, [], B, hp, 0, 0) = some os)
    (hend : ends ft y.2.2.2.2.1 y.2.2.2.2.2.1 y.2.2.2.2.2.2 os = some outs) : eCM l GT strs ρ sb D cl cA (d + 1) y as B hp outs := by
  intro ad vs ws sz g2 ga g5
  refine vx_ofW (cc := y.2.2.1) (maxL := y.2.2.2.1) (ret := y.2.2.2.2.1) hm.1 (by rw [hy]) ?_
  intro p e s m args below meth c s₁ Bd hml hnoex hv
  obtain ⟨rfl, hsz, hP, hK, hD0, hZ⟩ := hv
  subst hsz
  have hD := hD0.self (sz := s.heap.size)
  have hts := atoms_spec (ws := y.2.1 :: GT) Bd.pre
  have hown : s.vm.findClass y.1.cls = some m.cls := findClass_of_methodNamed Bd.named
  have hname : meth.name = y.1.name := (name_of_methodNamed Bd.named Bd.method).1
  have hA : ∀ q, s.heap.size ≤ q → va_A ws s.heap.size q := fun q h => Or.inr h
  have hts' : ∀ w ∈ GT, w.before vs.toArray s = true := fun w hw => hts w (List.mem_cons_of_mem _ hw)
  have K : eK p m c s vs.toArray y.2.2.1 y.1.cls y.2.2.2.1 GT D cl cA (va_A ws s.heap.size) := ⟨Bd.exec, Bd.bytes, hml, hown, hts', hK, hA⟩
  have hRf : (headSpec (y.2.1 :: GT) (rmD (d + 1) y.2.2.2.2.2.1 y.2.2.2.2.2.2)).room.frames = d + 9 := by show d + 1 + 8 = d + 9; omega
  have hRl : (headSpec (y.2.1 :: GT) (rmD (d + 1) y.2.2.2.2.2.1 y.2.2.2.2.2.2)).room.locals = 64 * d + 1064 := by show 64 * (d + 1) + 1000 = 64 * d + 1064; omega
  have hnat := natW
  have hent := run2_ok (p := p) (l := l) (e := e) (R := (headSpec (y.2.1 :: GT) (rmD (d + 1) y.2.2.2.2.2.1 y.2.2.2.2.2.2)).room) (s := s) (m := m) (args := vs.toArray) (below := below) (meth := meth) (c := c) (Q := vx_MQ below (eQc ρ sb D cl cA ad hp.length (va_A ws s.heap.size) outs) (eXc ρ sb D cl cA ad hp.length (va_A ws s.heap.size) outs) vs.toArray s y.2.2.2.2.2.1 y.2.2.2.2.2.2 (va_A ws s.heap.size)) (D := D) (cl := cl) (cA := cA) (A := va_A ws s.heap.size) (sb := sb) (ρ := ρ) (ad0 := ad) (h0 := hp.length) (nL := y.2.2.2.1) (ft := ft) (cu := cu)
    (X := ex cal mt np ciM dfs y.2.2.2.1 y.2.2.2.2.2.1 y.2.2.2.2.2.2 none (fun _ _ => none)) (fun S q rs hq hs hX hr => by
      obtain ⟨h1, h2, h3, h4⟩ := hm.2 S.1 q hq
      refine ex_ok (d := d) (sc := none) K hZ trivial hgood (Nat.le_refl _) (Nat.le_refl _) (by rw [hRf]; exact Nat.le_refl _) (by rw [hRl]; exact Nat.le_refl _) (by rw [hRl]; omega) hcal h1 (h3 hs meth hname) (fun _ _ q => by cases q) ?_ hX hr
      rcases lenB_ok h2 with q9 | q9
      · exact q9
      · exfalso
        unfold stp at hs
        rcases q9 with q9 | q9 | q9 <;> rw [q9] at hs <;> cases hs) n _ os hrun (fun o ho => by
      obtain ⟨x, hx1, hx2⟩ := ends_in hend o ho
      exact leaf_ok (own := y.1.cls) Bd.exec Bd.bytes hml hown hts' hK hZ htr Bd.notSynchronized hnoex hA Bd.returns (Nat.le_refl _) (Nat.le_refl _) (by rw [hRf]; omega) (by rw [hRl]; omega) (fun pc q hq => by
        obtain ⟨h1, h2, h3, h4⟩ := hm.2 pc q hq
        exact ⟨h1, fun hi => lenB_ret h2 hi, h4⟩) hx1 hx2)
  rw [lg_entry_eq]
  exact hent ad _ (lv_args 0 vs) [] ws s.heap [] ⟨Nat.le_refl _, fun _ _ => rfl, fun _ => rfl⟩ g2 (gL_args 0 ga) trivial g5 hP hD va_S.rf (lv_entry vs (by rw [sl_len, gS_words ga]; exact Nat.le_of_ble_eq_true hw))
def wkO (t : eHt) (o : eO) : Option eO := match wkC o.2.2.2 t.1 with
  | none => none
  | some hp => match wkB o.2.2.1 t.2 with
    | none => none
    | some B => some (o.1, o.2.1, B, hp)
theorem wkO_ok {ad : Nat → Nat} {n : Nat} {A' : Nat → Prop} {t : eHt} {o o' : eO} (h : wkO t o = some o') : o'.1 = o.1 ∧ o'.2.1 = o.2.1 ∧ ∀ (v : Option Value) (u : State), eT ρ sb D cl cA ad n A' o v u → eT ρ sb D cl cA ad n A' o' v u := by
  unfold wkO at h
  split at h
  next => cases h
  next hp h1 =>
    split at h
    next => cases h
    next B h2 =>
      cases h
      refine ⟨rfl, rfl, fun v u hT => ?_⟩
      obtain ⟨ad', ws', t1, t2, t3, t4, t5, t6, t7⟩ := hT
      obtain ⟨k1, k2⟩ := wkC_ok t.1 h1 t4
      exact ⟨ad', ws', by dsimp only; rw [k2]; exact t1, t2, wkB_ok t.2 h2 t3, k1, t5, t6, t7⟩
def eqOp (a b : Option eV) : Bool := match a, b with
  | none, none => true
  | some x, some y => eEq x y
  | _, _ => false
theorem eqOp_eq {a b : Option eV} (h : eqOp a b = true) : a = b := by
  match a, b, h with
  | none, none, _ => rfl
  | some x, some y, h => rw [eEq_eq h]
  | none, some _, h => cases h
  | some _, none, h => cases h
def eEqO (a b : eO) : Bool := Nat.beq a.1 b.1 && (eqOp a.2.1 b.2.1 && (eqB a.2.2.1 b.2.2.1 && eqH a.2.2.2 b.2.2.2))
theorem eEqO_eq {a b : eO} (h : eEqO a b = true) : a = b := by
  obtain ⟨a1, a2, a3, a4⟩ := a
  obtain ⟨b1, b2, b3, b4⟩ := b
  unfold eEqO at h
  rw [Bool.and_eq_true, Bool.and_eq_true, Bool.and_eq_true] at h
  obtain ⟨h1, h2, h3, h4⟩ := h
  have h1 := Nat.eq_of_beq_eq_true h1
  have h2 := eqOp_eq h2
  have h3 := eqB_eq h3
  have h4 := eqH_eq h4
  dsimp only at h1 h2 h3 h4
  rw [h1, h2, h3, h4]
def mg1 (t : eHt) : List eO → Option (List eO)
  | [] => some []
  | o :: os => match wkO t o with
    | none => none
    | some x => match mg1 t os with
      | none => none
      | some xs => bif xs.any (fun y => eEqO y x) then some xs else some (x :: xs)
theorem mg1_in {t : eHt} : ∀ {os outs : List eO}, mg1 t os = some outs → ∀ o ∈ os, ∃ x, x ∈ outs ∧ wkO t o = some x
  | [], _, _, o, ho => by cases ho
  | a :: os, outs, h, o, ho => by
    unfold mg1 at h
    split at h
    next => cases h
    next x hx =>
      split at h
      next => cases h
      next xs hxs =>
        have hin : ∀ z, z ∈ xs → z ∈ outs := fun z hz => by
          cases hb : xs.any (fun y => eEqO y x) with
          | true => rw [hb, cond_true] at h; cases h; exact hz
          | false => rw [hb, cond_false] at h; cases h; exact List.mem_cons_of_mem _ hz
        rcases List.mem_cons.mp ho with q | q
        · rw [q]
          refine ⟨x, ?_, hx⟩
          cases hb : xs.any (fun y => eEqO y x) with
          | true =>
            obtain ⟨z, hz1, hz2⟩ := List.any_eq_true.mp hb
            have hz2 := eEqO_eq hz2
            exact hin x (hz2 ▸ hz1)
          | false => rw [hb, cond_false] at h; cases h; exact List.mem_cons_self
        · obtain ⟨z, h1, h2⟩ := mg1_in hxs o q
          exact ⟨z, hin z h1, h2⟩
def mgO (t : Option eHt) (os : List eO) : Option (List eO) := match t with
  | none => some os
  | some t => mg1 t os
theorem eCM_mono {y : eM} {as : List eV} {B : eB} {hp : eH} {outs outs' : List eO} (h : eCM l GT strs ρ sb D cl cA d y as B hp outs) (ho : ∀ o ∈ outs, ∃ o', o' ∈ outs' ∧ o'.1 = o.1 ∧ o'.2.1 = o.2.1 ∧ ∀ (ad : Nat → Nat) (A' : Nat → Prop) (v : Option Value) (u : State), eT ρ sb D cl cA ad hp.length A' o v u → eT ρ sb D cl cA ad hp.length A' o' v u) : eCM l GT strs ρ sb D cl cA d y as B hp outs' := by
  intro ad vs ws sz g2 ga g5 p e a1 a2 a3 s m args below b1 b2 b3 b4
  obtain ⟨n, o, c1, c2, c3, c4⟩ := h ad vs ws sz g2 ga g5 p e a1 a2 a3 s m args below b1 b2 b3 b4
  refine ⟨n, o, c1, c2, c3, ?_⟩
  rcases c4 with ⟨⟨⟨v, o9, hv, hin, h0, hT⟩, hF⟩, hL⟩ | ⟨q, hq, E, ce, L, ⟨⟨k, o9, hin, h0, hE, hn9, hT⟩, hF⟩, hrest⟩
  · obtain ⟨o', k1, k2, k3, k4⟩ := ho o9 hin
    exact Or.inl ⟨⟨⟨v, o', hv, k1, k2.trans h0, k4 _ _ _ _ hT⟩, hF⟩, hL⟩
  · obtain ⟨o', k1, k2, k3, k4⟩ := ho o9 hin
    exact Or.inr ⟨q, hq, E, ce, L, ⟨⟨k, o', k1, k2.trans h0, hE, k3.trans hn9, k4 _ _ _ _ hT⟩, hF⟩, hrest⟩
/-- methods, calls d deep -/
def callD (mU : Nat → Bool) (mt : Nat → eM) (np ciM : Nat → Nat) (dfs : Nat → List eV) (ftM : Nat → Nat → Option eQ) (mgF : Nat → Option eHt) (cuF : Nat → Option (Nat × List Nat × eHt)) (n : Nat) : Nat → eCal
  | 0 => fun _ _ _ _ => none
  | d + 1 => fun M as B hp => bif mU M && Nat.ble (eWords as) (mt M).2.2.2.1 then (match run2 (ftM M) (cuF M) (ex (callD mU mt np ciM dfs ftM mgF cuF n d) mt np ciM dfs (mt M).2.2.2.1 (mt M).2.2.2.2.2.1 (mt M).2.2.2.2.2.2 none (fun _ _ => none)) n (0, eArgs 0 as, [], B, hp, 0, 0) with
    | none => none
    | some os => match ends (ftM M) (mt M).2.2.2.2.1 (mt M).2.2.2.2.2.1 (mt M).2.2.2.2.2.2 os with
      | none => none
      | some outs => mgO (mgF M) outs) else none
theorem callD_ok (htr : l.stackTraces = false) (hgood : ∀ w ∈ GT, goodWord w = true) {mU : Nat → Bool} {ftM : Nat → Nat → Option eQ} {mgF : Nat → Option eHt} {cuF : Nat → Option (Nat × List Nat × eHt)} {n : Nat} (hM : ∀ M, mU M = true → (mt M).2.1 = Jvm.Cond.code (mt M).1 (mt M).2.2.1 (mt M).2.2.2.1 (mt M).2.2.2.2.1 ∧ mOk GT strs cl mt np ciM dfs (mt M) (ftM M)) :
    ∀ (d M : Nat) (as : List eV) (B : eB) (hp : eH) (outs : List eO), callD mU mt np ciM dfs ftM mgF cuF n d M as B hp = some outs → eCM l GT strs ρ sb D cl cA d (mt M) as B hp outs
  | 0, _, _, _, _, _, h => by cases h
  | d + 1, M, as, B, hp, outs, h => by
    unfold callD at h
    cases hb : (mU M && Nat.ble (eWords as) (mt M).2.2.2.1) with
    | false => rw [hb] at h; cases h
    | true =>
      rw [hb, cond_true] at h
      rw [Bool.and_eq_true] at hb
      split at h
      next => cases h
      next os hos =>
        split at h
        next => cases h
        next outs1 hends =>
          obtain ⟨m1, m2⟩ := hM M hb.1
          have h1 := eCM_of (ρ := ρ) (sb := sb) (D := D) (cA := cA) htr hgood m1 m2 (fun M as B hp outs ho => callD_ok htr hgood hM d M as B hp outs ho) hb.2 hos hends
          unfold mgO at h
          split at h
          · cases h
            exact h1
          · refine eCM_mono h1 (fun o ho => ?_)
            obtain ⟨x, hx1, hx2⟩ := mg1_in h o ho
            have hw := fun (ad : Nat → Nat) (A' : Nat → Prop) => wkO_ok (ρ := ρ) (sb := sb) (D := D) (cl := cl) (cA := cA) (ad := ad) (n := hp.length) (A' := A') hx2
            exact ⟨x, hx1, (hw (fun _ => 0) (fun _ => True)).1, (hw (fun _ => 0) (fun _ => True)).2.1, fun ad A' => (hw ad A').2.2⟩
end E10
