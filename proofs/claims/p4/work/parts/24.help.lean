/-! ===== THE LAW, 1: its helpers with handlers ===== -/
def ckE (t : Nat) : Option Nat := bif Nat.beq t 13 then some 1 else bif Nat.beq t 18 then some 2 else none
set_option maxRecDepth 100000 in
theorem ck_all : (chk (CKs.getD 0 (0, 0, 0)).1 (.classLink RL 13 (exN 1)) && chk (CKs.getD 1 (0, 0, 0)).1 (.classLink RL 18 (exN 2))) = true := by decide +kernel
theorem ckE_ok {t E : Nat} (h : ckE t = some E) : Jvm.Cond.classLink RL t (exN E) ∈ GT ∧ t ≠ 0 ∧ (E = 1 ∨ E = 2) := by
  have hc := ck_all
  rw [Bool.and_eq_true] at hc
  unfold ckE at h
  cases h1 : Nat.beq t 13 with
  | true =>
    rw [h1] at h
    cases h
    rw [Nat.eq_of_beq_eq_true h1]
    exact ⟨chk_in hc.1, by decide, Or.inl rfl⟩
  | false =>
    rw [h1, cond_false] at h
    cases h2 : Nat.beq t 18 with
    | true =>
      rw [h2] at h
      cases h
      rw [Nat.eq_of_beq_eq_true h2]
      exact ⟨chk_in hc.2, by decide, Or.inr rfl⟩
    | false => rw [h2] at h; cases h
/-- where the exception E is caught at pc -/
def hnL (E pc : Nat) : List (Nat × Nat × Nat × Nat) → Option Nat
  | [] => none
  | h :: r => bif covers ⟨h.1, h.2.1, h.2.2.1, h.2.2.2⟩ pc then (match ckE h.2.2.2 with
    | some E' => bif Nat.beq E' E then some h.2.2.1 else (bif (Nat.beq E 1 && Nat.beq E' 2) || (Nat.beq E 2 && Nat.beq E' 1) then hnL E pc r else none)
    | none => none) else hnL E pc r
theorem hnL_ok {E pc h : Nat} : ∀ {hh : List (Nat × Nat × Nat × Nat)}, hnL E pc hh = some h → ∃ (pre : List ExceptionTableEntry) (x : ExceptionTableEntry) (suf : List ExceptionTableEntry), tableOf hh = pre ++ x :: suf ∧
    (∀ z ∈ pre, covers z pc = false ∨ (z.catchType ≠ 0 ∧ ∃ E', Jvm.Cond.classLink RL z.catchType (exN E') ∈ GT ∧ ((E = 1 ∧ E' = 2) ∨ (E = 2 ∧ E' = 1)))) ∧ covers x pc = true ∧ x.catchType ≠ 0 ∧ x.handlerPc = h ∧ Jvm.Cond.classLink RL x.catchType (exN E) ∈ GT
  | [], e => by cases e
  | q :: r, e => by
    unfold hnL at e
    have more : (covers ⟨q.1, q.2.1, q.2.2.1, q.2.2.2⟩ pc = false ∨ (q.2.2.2 ≠ 0 ∧ ∃ E', Jvm.Cond.classLink RL q.2.2.2 (exN E') ∈ GT ∧ ((E = 1 ∧ E' = 2) ∨ (E = 2 ∧ E' = 1)))) → hnL E pc r = some h → ∃ (pre : List ExceptionTableEntry) (x : ExceptionTableEntry) (suf : List ExceptionTableEntry), tableOf (q :: r) = pre ++ x :: suf ∧
        (∀ z ∈ pre, covers z pc = false ∨ (z.catchType ≠ 0 ∧ ∃ E', Jvm.Cond.classLink RL z.catchType (exN E') ∈ GT ∧ ((E = 1 ∧ E' = 2) ∨ (E = 2 ∧ E' = 1)))) ∧ covers x pc = true ∧ x.catchType ≠ 0 ∧ x.handlerPc = h ∧ Jvm.Cond.classLink RL x.catchType (exN E) ∈ GT := fun hq hr => by
      obtain ⟨pre, x, suf, h1, h2, h3⟩ := hnL_ok hr
      refine ⟨⟨q.1, q.2.1, q.2.2.1, q.2.2.2⟩ :: pre, x, suf, ?_, fun z hz => ?_, h3⟩
      · show _ :: tableOf r = _
        rw [h1]; rfl
      · rcases List.mem_cons.mp hz with e9 | e9
        · rw [e9]; exact hq
        · exact h2 z e9
    cases hc : covers ⟨q.1, q.2.1, q.2.2.1, q.2.2.2⟩ pc with
    | false =>
      rw [hc, cond_false] at e
      exact more (Or.inl hc) e
    | true =>
      rw [hc, cond_true] at e
      split at e
      next E' hE' =>
        obtain ⟨k1, k2, k3⟩ := ckE_ok hE'
        cases hb : Nat.beq E' E with
        | true =>
          rw [hb, cond_true] at e
          cases e
          rw [Nat.eq_of_beq_eq_true hb] at k1
          exact ⟨[], ⟨q.1, q.2.1, q.2.2.1, q.2.2.2⟩, tableOf r, rfl, (fun z hz => by cases hz), hc, k2, rfl, k1⟩
        | false =>
          rw [hb, cond_false] at e
          cases hp : ((Nat.beq E 1 && Nat.beq E' 2) || (Nat.beq E 2 && Nat.beq E' 1)) with
          | false => rw [hp] at e; cases e
          | true =>
            rw [hp, cond_true] at e
            rw [Bool.or_eq_true, Bool.and_eq_true, Bool.and_eq_true] at hp
            refine more (Or.inr ⟨k2, E', k1, ?_⟩) e
            rcases hp with ⟨p1, p2⟩ | ⟨p1, p2⟩
            · exact Or.inl ⟨Nat.eq_of_beq_eq_true p1, Nat.eq_of_beq_eq_true p2⟩
            · exact Or.inr ⟨Nat.eq_of_beq_eq_true p1, Nat.eq_of_beq_eq_true p2⟩
      next => cases e
-- ends that return an int
def endI (ft : Nat → Option eQ) (mc ms : Nat) (o : Nat × eS) : Option eO := bif Nat.ble o.2.2.2.2.2.2.1 mc && Nat.ble o.2.2.2.2.2.2.2 ms then (match o.1 with
  | _ + 1 => none
  | 0 => match ft o.2.1 with
    | none => none
    | some q => match q.1 with
      | .ireturn => (match o.2.2.2.1 with
        | [v] => bif Nat.beq v.1 0 then some (0, some v, o.2.2.2.2.1, o.2.2.2.2.2.1) else none
        | _ => none)
      | _ => none) else none
section E35
variable {p : Program} {l : Launch} {e : Env} {R : Room} {s : State} {m : MethodId} {args : Array Value} {below : List Frame} {meth : Method} {c : Code} {Q : State → Prop}
variable {D : va_G} {cl : List vw_C} {cA : Nat → ClassId} {A : Nat → Prop} {sb : eSB} {ρ : Nat → Int} {ad0 : Nat → Nat} {h0 nL : Nat} {cc : ByteArray} {own : String}
theorem leafI_ok {A' : Nat → Prop} {ad1 : Nat → Nat} {n1 : Nat} (hx : p.tables.exec = Jvm.exec) (hb : c.code = cc) (hK : va_K D cl (eTys cA) s) (hlocks : meth.locks = false) {ft : Nat → Option eQ} (hret : meth.sig.returnType = some .int) {mc ms : Nat} {outs : List eO}
    (hft : ∀ pc q, ft pc = some q → decode cc pc = .ok (q.1, q.2.1) ∧ (q.1 = .ireturn ∨ q.1 = .return_ ∨ q.1 = .areturn → q.2.1 = 1)) {o : Nat × eS} {x : eO} (hxo : x ∈ outs) (h : endI ft mc ms o = some x) :
    eLf p l e R s m args below meth c (vx_MQ below (eQc ρ sb D cl cA ad1 n1 A' outs) (eXc ρ sb D cl cA ad1 n1 A' outs) args s mc ms A') D cl cA A' sb ρ ad1 n1 nL o := by
  obtain ⟨k, pc, lo, st, B, hp, c9, z9⟩ := o
  unfold endI at h
  dsimp only at h
  cases hcs : (Nat.ble c9 mc && Nat.ble z9 ms) with
  | false => rw [hcs] at h; cases h
  | true =>
    rw [hcs, cond_true] at h
    rw [Bool.and_eq_true] at hcs
    have hc1 := Nat.le_of_ble_eq_true hcs.1
    have hc2 := Nat.le_of_ble_eq_true hcs.2
    cases k with
    | succ E => cases h
    | zero =>
      dsimp only at h
      split at h
      next => cases h
      next q hq =>
        obtain ⟨hd, hlen⟩ := hft pc q hq
        obtain ⟨i, len, a1, a2, z⟩ := q
        dsimp only at h hd hlen
        split at h
        · have hl := hlen (Or.inl rfl)
          subst hl
          split at h
          next v =>
            cases hrt : Nat.beq v.1 0 with
            | false => rw [hrt] at h; cases h
            | true =>
              rw [hrt, cond_true] at h
              cases h
              intro ad ls lc vs ws H locs g1 g2 g3 g4 g5 g6 g7 g8 g9
              match vs, g4 with
              | [u], g4 =>
                obtain ⟨v0, v1, v2, v3⟩ := v
                have e0 := Nat.eq_of_beq_eq_true hrt
                dsimp only at e0
                subst e0
                obtain ⟨y, rfl, hy⟩ := g4.1
                refine vx_ret (W.widen hc1 hc2 ?_)
                exact W.iret hx hb hret (fun t ht hW => ⟨⟨some (.int y), _, rfl, hxo, rfl, ad, ws, g1, g4.1, g2, g5, by rw [ht]; exact g6, va_K.moved hW.alike hK, g7⟩, g8.F ht⟩) g8.2.2 hd hlocks
              | [], g4 => exact g4.elim
              | _ :: _ :: _, g4 => exact g4.2.elim
          next => cases h
        · cases h
end E35
section E35A
variable {l : Launch} {D : va_G} {cA : Nat → ClassId} {sb : eSB} {d : Nat}
def chkH (M : Nat) (L : eUs) (as : List eV) (B : eB) (hp : eH) (outs : List (eO × List (Option eP))) : Bool := Nat.ble (eWords as) (mtF M).2.2.2.1 && (match run1 (ftF M) (fun _ => false) (exE (chF L) (inl kIn) mtF npF ciF dfF (mtF M).2.2.2.1 (mtF M).2.2.2.2.2.1 (mtF M).2.2.2.2.2.2 B.1.length none (fun E pc => hnL E pc (hhF M))) 300 (0, eArgs 0 as, [], B, hp, 0, 0) with
  | none => false
  | some os => os.all (fun o => match endI (ftF M) (mtF M).2.2.2.2.2.1 (mtF M).2.2.2.2.2.2 o with
    | none => false
    | some x => outs.any (fun w => subO B.1.length hp.length w.2 x w.1)))
def hlpB (M : Nat) : Bool := decide ((mtF M).1.cls = RL) && decide ((mtF M).2.2.2.2.1 = some .int)
set_option maxRecDepth 100000 in
theorem hlp_all : (List.range (322 - 294)).all (fun k => hlpB (294 + k)) = true := by decide +kernel
set_option maxRecDepth 20000 in
theorem cM_ofH (htr : l.stackTraces = false) (hvs : sb.1 60 = 1) {M : Nat} (hM1 : 294 ≤ M) (hM2 : M < 322) {L : eUs} (hL : chB M L = true) (hd9 : kIn ≤ d) (hU : ∀ u ∈ L, ∀ c ∈ u.2.2, cdH l sb D cA d u.2.1 c)
    {as : List eV} {B : eB} {hp : eH} {outs : List (eO × List (Option eP))} (h : chkH M L as B hp outs = true) : ∀ ρ : Nat → Int, cM l GT strs sb D eCls cA (d + 1) (mtF M) ρ as B hp B.1.length (outs.map (fun w => w.1)) := by
  have hm := mOk_of hM2 (rows_all M hM2)
  have hb9 := List.all_eq_true.mp hlp_all (M - 294) (List.mem_range.mpr (by omega))
  rw [show 294 + (M - 294) = M by omega] at hb9
  unfold hlpB at hb9
  rw [Bool.and_eq_true, decide_eq_true_eq, decide_eq_true_eq] at hb9
  obtain ⟨hcls, hrt⟩ := hb9
  have hy := (eMtW_of hM2 hM1).1
  have hch : ∀ pc q cs, ftF M pc = some q → chF L pc = some cs → ∀ c9 ∈ cs, ∀ (FR : Nat → va_E) (ρ' : Nat → Int), cM l GT strs (sb.1, FR) D eCls cA d (mtF q.2.2.1) ρ' c9.1 c9.2.1 c9.2.2.1 c9.2.1.1.length c9.2.2.2.2.1 := fun pc q cs hq hcs c9 hc9 => by
    obtain ⟨u, hu, e1, e2⟩ := chF_in hcs
    have hb := List.all_eq_true.mp hL u hu
    rw [e1, hq] at hb
    have e3 := Nat.eq_of_beq_eq_true hb
    rw [← e2] at hc9
    have := fun FR => hU u hu c9 hc9 FR d (by omega)
    rw [← e3] at this
    exact this
  unfold chkH at h
  rw [Bool.and_eq_true] at h
  obtain ⟨hw, h⟩ := h
  generalize mtF M = y at *
  generalize ftF M = ft at *
  generalize hhF M = hh at *
  split at h
  next => cases h
  next os hrun =>
    intro ρ ad vs ws sz g2 ga g5
    refine vx_ofWH (cc := y.2.2.1) (maxL := y.2.2.2.1) (ret := y.2.2.2.2.1) (hh := hh) hm.1 (by rw [hy]) ?_
    intro p e s m args below meth c s₁ Bd hml hv
    obtain ⟨rfl, hsz, hP, hK, hD0, hZ⟩ := hv
    subst hsz
    have hD := hD0.self (sz := s.heap.size)
    have hts := atoms_spec (ws := y.2.1 :: GT) Bd.pre
    have hown : s.vm.findClass y.1.cls = some m.cls := findClass_of_methodNamed Bd.named
    have hname : meth.name = y.1.name := (name_of_methodNamed Bd.named Bd.method).1
    have hA : ∀ q, s.heap.size ≤ q → va_A ws s.heap.size q := fun q h => Or.inr h
    have hts' : ∀ w ∈ GT, w.before vs.toArray s = true := fun w hw => hts w (List.mem_cons_of_mem _ hw)
    have htab : c.exceptionTable.toList = tableOf hh := vx_table (x := y.1) Bd (by
      have := hts _ List.mem_cons_self
      rw [hy] at this
      exact this)
    have K0 : eK p m c s vs.toArray y.2.2.1 y.1.cls y.2.2.2.1 GT D eCls cA (va_A ws s.heap.size) := ⟨Bd.exec, Bd.bytes, hml, hown, hts', hK, hA⟩
    have hRf : (headSpec (y.2.1 :: GT) (rmD (d + 1) y.2.2.2.2.2.1 y.2.2.2.2.2.2)).room.frames = d + 9 := by show d + 1 + 8 = d + 9; omega
    have hRl : (headSpec (y.2.1 :: GT) (rmD (d + 1) y.2.2.2.2.2.1 y.2.2.2.2.2.2)).room.locals = 64 * d + 1064 := by show 64 * (d + 1) + 1000 = 64 * d + 1064; omega
    have hnat := natW
    have hent := run1_ok (PW := fun S => ∀ ρ1 : Nat → Int, (∀ i, i < B.1.length → ρ1 i = ρ i) → eW p l e (headSpec (y.2.1 :: GT) (rmD (d + 1) y.2.2.2.2.2.1 y.2.2.2.2.2.2)).room s m vs.toArray below meth c (vx_MQ below (cQ ρ sb D eCls cA ad B.1.length (va_A ws s.heap.size) (outs.map (fun w => w.1))) (cX ρ sb D eCls cA ad B.1.length (va_A ws s.heap.size) (outs.map (fun w => w.1))) vs.toArray s y.2.2.2.2.2.1 y.2.2.2.2.2.2 (va_A ws s.heap.size)) D eCls cA (va_A ws s.heap.size) sb ρ1 ad hp.length y.2.2.2.1 S) (PL := fun o => ∀ ρ1 : Nat → Int, (∀ i, i < B.1.length → ρ1 i = ρ i) → eLf p l e (headSpec (y.2.1 :: GT) (rmD (d + 1) y.2.2.2.2.2.1 y.2.2.2.2.2.2)).room s m vs.toArray below meth c (vx_MQ below (cQ ρ sb D eCls cA ad B.1.length (va_A ws s.heap.size) (outs.map (fun w => w.1))) (cX ρ sb D eCls cA ad B.1.length (va_A ws s.heap.size) (outs.map (fun w => w.1))) vs.toArray s y.2.2.2.2.2.1 y.2.2.2.2.2.2 (va_A ws s.heap.size)) D eCls cA (va_A ws s.heap.size) sb ρ1 ad hp.length y.2.2.2.1 o) (fun S => Iff.rfl) (fun S q rs hq hs hX hr ρ1 hag1 => by
      obtain ⟨h1, h2, h3, h4⟩ := hm.2 S.1 q hq
      refine exE_ok (d := d) (sc := none) (ρ := ρ1) K0 hZ hvs (fun _ _ => trivial) GT_good (Nat.le_refl _) (Nat.le_refl _) (by rw [hRf]; exact Nat.le_refl _) (by rw [hRl]; exact Nat.le_refl _) (by rw [hRl]; omega) (fun ρ M as B hp outs ho => inl_ok htr kIn d (by omega) M as B hp outs ho) (fun _ _ cs hcs c9 hc9 FR ρ' _ => hch S.1 q cs hq hcs c9 hc9 FR ρ') h1 (h3 hs meth hname) (fun E h9 q9 H locs k z ls us ce q e1 e2 e3 kk => ?_) ?_ hX (fun r hr9 ρ2 hag2 => hr r hr9 ρ2 (fun i hi => (hag2 i hi).trans (hag1 i hi)))
      · obtain ⟨pre, x, suf, t1, t2, t3, t4, t5, t6⟩ := hnL_ok q9
        rw [hcls] at hown
        refine vx_catch hown pre x suf (htab.trans t1) (fun z hz => ?_) t3 t4 (hts' _ t6) (va_Nw.use rfl (hZ.2.2.2.2.1 E)) e1 e2 e3 (by rw [t5]; exact kk)
        rcases t2 z hz with u | ⟨u1, E', u2, u3⟩
        · exact Or.inl u
        · refine Or.inr ⟨u1, exN E', hts' _ u2, ?_⟩
          rcases u3 with ⟨rfl, rfl⟩ | ⟨rfl, rfl⟩
          · exact hZ.2.2.2.2.2.1
          · exact hZ.2.2.2.2.2.2.1
      · rcases lenB_ok h2 with q9 | q9
        · exact q9
        · exfalso
          unfold stp at hs
          rcases q9 with q9 | q9 | q9 <;> rw [q9] at hs <;> cases hs) hrun (fun o ho ρ1 hag1 => by
      have ho9 := List.all_eq_true.mp h o ho
      split at ho9
      next => cases ho9
      next x hx =>
        obtain ⟨w, hw1, hw2⟩ := List.any_eq_true.mp ho9
        refine eLf_mono (fun t ht => ?_) (leafI_ok (outs := [x]) (ρ := ρ1) (sb := sb) (ad1 := ad) (n1 := hp.length) Bd.exec Bd.bytes hK Bd.notSynchronized (Bd.returns.trans hrt) (fun pc q hq => by
          obtain ⟨h1, h2, h3, h4⟩ := hm.2 pc q hq
          exact ⟨h1, fun hi => lenB_ret h2 hi⟩) (List.mem_singleton.mpr rfl) hx)
        obtain ⟨oc, b1, b2, b3⟩ := ht
        refine ⟨oc, b1, b2, ?_⟩
        rcases b3 with ⟨⟨⟨v, o9, hv, hin, h00, hT⟩, hF⟩, hL⟩ | ⟨q, hq, E, ce, L, ⟨⟨k, o9, hin, h00, hE, hn9, hT⟩, hF⟩, hrest⟩
        · have e9 := List.mem_singleton.mp hin
          subst e9
          obtain ⟨j1, j2, j3⟩ := subO_ok hw2 hag1 hT
          exact Or.inl ⟨⟨⟨v, w.1, hv, List.mem_map.mpr ⟨w, hw1, rfl⟩, j1.trans h00, j3⟩, hF⟩, hL⟩
        · have e9 := List.mem_singleton.mp hin
          subst e9
          obtain ⟨j1, j2, j3⟩ := subO_ok hw2 hag1 hT
          exact Or.inr ⟨q, hq, E, ce, L, ⟨⟨k, w.1, List.mem_map.mpr ⟨w, hw1, rfl⟩, j1.trans h00, hE, j2 hn9, j3⟩, hF⟩, hrest⟩) ρ (fun _ _ => rfl)
    rw [lg_entry_eq]
    exact hent ad _ (lv_args 0 vs) [] ws s.heap [] ⟨Nat.le_refl _, fun _ _ => rfl, fun _ => rfl⟩ g2 (gL_args 0 ga) trivial g5 hP hD va_S.rf (lv_entry vs (by rw [sl_len, gS_words ga]; exact Nat.le_of_ble_eq_true hw))
theorem ctH_ofH (htr : l.stackTraces = false) (hvs : sb.1 60 = 1) {M : Nat} (hM1 : Nat.ble 294 M = true) (hM2 : Nat.blt M 322 = true) {lev : Nat} (hlev : kIn ≤ lev) {L : eUs} (hL : chB M L = true) (hU : ∀ u ∈ L, ∀ c ∈ u.2.2, cdH l sb D cA lev u.2.1 c) {as : List eV} {B : eB} {hp : eH} {outs : List (eO × List (Option eP))} (h : chkH M L as B hp outs = true) : ctH l sb D cA M (lev + 1) as B hp (outs.map (fun w => w.1)) := by
  intro d hd
  obtain ⟨d', rfl⟩ : ∃ d', d = d' + 1 := ⟨d - 1, by omega⟩
  exact cM_ofH htr hvs (Nat.le_of_ble_eq_true hM1) (blt_lt hM2) hL (by omega) (fun u hu c hc FR => ctH_mono (by omega) (hU u hu c hc FR)) h
end E35A
