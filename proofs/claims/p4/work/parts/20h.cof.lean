/-! ===== THE ENGINE, 18: contracts out of cuts ===== -/
def retL (r : Option eV) : eL := match r with
  | none => []
  | some a => [(0, a)]
/-- an end lies within another -/
def subO (nP n : Nat) (th : List (Option eP)) (x o : eO) : Bool :=
  Nat.beq x.1 o.1 && (thP nP th && (thOk (retL x.2.1) x.2.2.2 th && ((match x.2.1, o.2.1 with
    | none, none => true
    | some a, some b => mV (fun k => k) x.2.2.1 (retL x.2.1) x.2.2.2 th (some (0, 0, 0)) a b
    | _, _ => false) && (mB x.2.2.1 (retL x.2.1) x.2.2.2 th o.2.2.1 && (mH false (fun k => k) x.2.2.1 (retL x.2.1) x.2.2.2 th 0 x.2.2.2 o.2.2.2 && Nat.beq x.2.2.2.length n)))))
section E19
variable {ρ0 ρ1 : Nat → Int} {sb : eSB} {D : va_G} {cl : List vw_C} {cA : Nat → ClassId}
theorem subO_ok {nP n : Nat} {th : List (Option eP)} {x o : eO} {ad : Nat → Nat} {A' : Nat → Prop} {v : Option Value} {t : State} (h : subO nP n th x o = true) (hag : ∀ i, i < nP → ρ1 i = ρ0 i) (hT : eT ρ1 sb D cl cA ad n A' x v t) : o.1 = x.1 ∧ (x.2.1 = none → o.2.1 = none) ∧ cT ρ0 sb D cl cA ad nP A' o v t := by
  unfold subO at h
  simp only [Bool.and_eq_true] at h
  obtain ⟨a1, a2, a3, a4, a5, a6, a7⟩ := h
  have a1 := Nat.eq_of_beq_eq_true a1
  have a7 := Nat.eq_of_beq_eq_true a7
  obtain ⟨ad', ws', t1, t2, t3, t4, t5, t6, t7⟩ := hT
  have e0 : ad' = ad := t1.2.2 a7
  subst e0
  have hl : ∃ lc, gL ρ1 ad' sb (retL x.2.1) lc ∧ (∀ z, v = some z → vFind lc 0 = some z) := by
    match hx : x.2.1, v, t2 with
    | none, none, _ => exact ⟨[], trivial, fun z hz => by cases hz⟩
    | some a, some z, t2 => exact ⟨[(0, z)], ⟨⟨rfl, t2⟩, trivial⟩, fun w hw => by cases hw; rfl⟩
    | none, some _, t2 => exact t2.elim
    | some _, none, t2 => exact t2.elim
  obtain ⟨lc, g3, hf⟩ := hl
  obtain ⟨ρ', hR⟩ := ren_ex g3 (gHx_of t4) a3
  refine ⟨a1.symm, fun hn => ?_, ρ', ws', fun i hi => ?_, ?_, mB_ok t3 g3 (gHx_of t4) hR a5, mH_ok t3 g3 (gHx_of t4) hR rfl (fun q => by cases q) (fun _ => rfl) a6, t5, t6, t7⟩
  · rw [hn] at a4
    cases ho : o.2.1 with
    | none => rfl
    | some b => rw [ho] at a4; cases a4
  · have := hR i
    rw [thP_ok a2 i hi] at this
    have this : ρ' i = ρ1 i := this
    rw [this, hag i hi]
  · revert a4 t2
    cases hx : x.2.1 with
    | none =>
      cases ho : o.2.1 with
      | none =>
        intro _ t2
        cases v with
        | none => exact trivial
        | some z => exact t2.elim
      | some b => intro a4; cases a4
    | some a =>
      cases ho : o.2.1 with
      | none => intro a4; cases a4
      | some b =>
        intro a4 t2
        cases v with
        | none => exact t2.elim
        | some z =>
          rw [hx] at g3
          refine mV_ok (fm := fun k => k) t3 g3 (gHx_of t4) hR (fun p hp => ?_) a4 t2
          have := Option.some.inj hp
          subst this
          exact hf z rfl
end E19
section E20
variable {p : Program} {l : Launch} {e : Env} {R : Room} {s : State} {m : MethodId} {args : Array Value} {below : List Frame} {meth : Method} {c : Code} {Q Q' : State → Prop}
variable {D : va_G} {cl : List vw_C} {cA : Nat → ClassId} {A : Nat → Prop} {sb : eSB} {ρ : Nat → Int} {ad0 : Nat → Nat} {h0 nL : Nat}
theorem eLf_mono (hQ : ∀ t, Q t → Q' t) {o : Nat × eS} (h : eLf p l e R s m args below meth c Q D cl cA A sb ρ ad0 h0 nL o) : eLf p l e R s m args below meth c Q' D cl cA A sb ρ ad0 h0 nL o := by
  obtain ⟨k, S⟩ := o
  cases k with
  | zero =>
    intro ad ls lc vs ws H locs g1 g2 g3 g4 g5 g6 g7 g8 g9 T hT X
    obtain ⟨t, a1, b1⟩ := h ad ls lc vs ws H locs g1 g2 g3 g4 g5 g6 g7 g8 g9 T hT X
    exact ⟨t, a1, hQ t b1⟩
  | succ E =>
    intro ad ls lc vs ws H locs ce q g1 g2 g3 g4 g5 g6 g7 g8 g9 k1 k2 k3 T hT X
    obtain ⟨t, a1, b1⟩ := h ad ls lc vs ws H locs ce q g1 g2 g3 g4 g5 g6 g7 g8 g9 k1 k2 k3 T hT X
    exact ⟨t, a1, hQ t b1⟩
end E20
/-- an end is one of those that are told -/
def finO (ft : Nat → Option eQ) (rt : Option FieldType) (mc ms nP n : Nat) (outs : List (eO × List (Option eP))) (o : Nat × eS) : Bool := match eEnd ft rt mc ms o with
  | none => false
  | some x => outs.any (fun w => subO nP n w.2 x w.1)
/-- a cut's turn is good -/
def chk1 (sp : List (Nat × Nat)) (ft : Nat → Option eQ) (isC : Nat → Bool) (ch : Nat → Option (List eCd)) (cal : eCal) (mt : Nat → eM) (np ciM : Nat → Nat) (dfs : Nat → List eV) (y : eM) (n nP nH : Nat) (outs : List (eO × List (Option eP))) (K : List eCut) (c : eCut) : Bool :=
  meOk c.1.2.2.2.1 c.2.2 && (Nat.ble nP c.1.2.2.2.1.1.length && (match run1 ft isC (exS sp ch cal mt np ciM dfs y.2.2.2.1 y.2.2.2.2.2.1 y.2.2.2.2.2.2 c.1.2.2.2.1.1.length none (fun _ _ => none)) n c.1 with
    | none => false
    | some os => os.all (fun o => finO ft y.2.2.2.2.1 y.2.2.2.2.2.1 y.2.2.2.2.2.2 nP nH outs o || K.any (edg nP c.2.2 o))))
section E21
variable {l : Launch} {D : va_G} {cl : List vw_C} {cA : Nat → ClassId} {sb : eSB}
variable {strs : List (String × Nat × String)} {GT : List Cond} {cal : eCal} {mt : Nat → eM} {np ciM : Nat → Nat} {dfs : Nat → List eV} {d : Nat} {ch : Nat → Option (List eCd)}
set_option maxRecDepth 20000 in
theorem cM_of (htr : l.stackTraces = false) (hvs : sb.1 60 = 1) (hgood : ∀ w ∈ GT, goodWord w = true) {y : eM} {ft : Nat → Option eQ} (hy : y.2.1 = Jvm.Cond.code y.1 y.2.2.1 y.2.2.2.1 y.2.2.2.2.1) (hm : mOk GT strs cl mt np ciM dfs y ft)
    (hcal : ∀ (ρ : Nat → Int) M as B hp outs, cal M as B hp = some outs → eCM l GT strs ρ sb D cl cA d (mt M) as B hp outs)
    {as : List eV} {B : eB} {hp : eH} {ρ : Nat → Int} (hch : ∀ z : Int, (∀ p, B.1[0]? = some p → z = ρ 0) → ∀ pc q cs, ft pc = some q → ch pc = some cs → ∀ c9 ∈ cs, ∀ (FR : Nat → va_E) (ρ' : Nat → Int), gdH z c9.2.2.2.1 ρ' → cM l GT strs (sb.1, FR) D cl cA d (mt q.2.2.1) ρ' c9.1 c9.2.1 c9.2.2.1 c9.2.1.1.length c9.2.2.2.2.1)
    {n : Nat} {sp : List (Nat × Nat)} {isC : Nat → Bool} {outs : List (eO × List (Option eP))} {c0 : eCut} {K : List eCut} (hw : Nat.ble (eWords as) y.2.2.2.1 = true) (h0 : c0.1 = (0, eArgs 0 as, [], B, hp, 0, 0))
    (hK9 : ∀ c9 ∈ c0 :: K, chk1 sp ft isC ch cal mt np ciM dfs y n B.1.length hp.length outs (c0 :: K) c9 = true) : cM l GT strs sb D cl cA (d + 1) y ρ as B hp B.1.length (outs.map (fun w => w.1)) := by
  intro ad vs ws sz g2 ga g5
  refine vx_ofW (cc := y.2.2.1) (maxL := y.2.2.2.1) (ret := y.2.2.2.2.1) hm.1 (by rw [hy]) ?_
  intro p e s m args below meth c s₁ Bd hml hnoex hv
  obtain ⟨rfl, hsz, hP, hK, hD0, hZ⟩ := hv
  subst hsz
  have hD := hD0.self (sz := s.heap.size)
  have hts := atoms_spec (ws := y.2.1 :: GT) Bd.pre
  have hown : s.vm.findClass y.1.cls = some m.cls := findClass_of_methodNamed Bd.named
  have hname : meth.name = y.1.name := (name_of_methodNamed Bd.named Bd.method).1
  have hA : ∀ q, s.heap.size ≤ q → va_A ws s.heap.size q := fun q h => Or.inr h
  have hts' : ∀ w ∈ GT, w.before vs.toArray s = true := fun w hw => hts w (List.mem_cons_of_mem _ hw)
  have K0 : eK p m c s vs.toArray y.2.2.1 y.1.cls y.2.2.2.1 GT D cl cA (va_A ws s.heap.size) := ⟨Bd.exec, Bd.bytes, hml, hown, hts', hK, hA⟩
  have hRf : (headSpec (y.2.1 :: GT) (rmD (d + 1) y.2.2.2.2.2.1 y.2.2.2.2.2.2)).room.frames = d + 9 := by show d + 1 + 8 = d + 9; omega
  have hRl : (headSpec (y.2.1 :: GT) (rmD (d + 1) y.2.2.2.2.2.1 y.2.2.2.2.2.2)).room.locals = 64 * d + 1064 := by show 64 * (d + 1) + 1000 = 64 * d + 1064; omega
  have hnat := natW
  have hall := cuts_ok (p := p) (l := l) (e := e) (R := (headSpec (y.2.1 :: GT) (rmD (d + 1) y.2.2.2.2.2.1 y.2.2.2.2.2.2)).room) (s := s) (m := m) (args := vs.toArray) (below := below) (meth := meth) (c := c) (Q := vx_MQ below (cQ ρ sb D cl cA ad B.1.length (va_A ws s.heap.size) (outs.map (fun w => w.1))) (cX ρ sb D cl cA ad B.1.length (va_A ws s.heap.size) (outs.map (fun w => w.1))) vs.toArray s y.2.2.2.2.2.1 y.2.2.2.2.2.2 (va_A ws s.heap.size)) (D := D) (cl := cl) (cA := cA) (A := va_A ws s.heap.size) (sb := sb) (ad0 := ad) (h0 := hp.length) (nL := y.2.2.2.1) (K := c0 :: K) (nP := B.1.length) (ρ0 := ρ) (fun c9 hc9 => by
    have hk := hK9 c9 hc9
    unfold chk1 at hk
    rw [Bool.and_eq_true, Bool.and_eq_true] at hk
    obtain ⟨k1, k2, k3⟩ := hk
    have k2 := Nat.le_of_ble_eq_true k2
    split at k3
    next => cases k3
    next os hos =>
      refine ⟨k1, k2, os, fun ρ9 hz9 ho => ?_, fun o ho => ?_⟩
      · refine run1_ok (PW := fun S => ∀ ρ1 : Nat → Int, (∀ i, i < c9.1.2.2.2.1.1.length → ρ1 i = ρ9 i) → eW p l e _ s m vs.toArray below meth c _ D cl cA (va_A ws s.heap.size) sb ρ1 ad hp.length y.2.2.2.1 S) (PL := fun o => ∀ ρ1 : Nat → Int, (∀ i, i < c9.1.2.2.2.1.1.length → ρ1 i = ρ9 i) → eLf p l e _ s m vs.toArray below meth c _ D cl cA (va_A ws s.heap.size) sb ρ1 ad hp.length y.2.2.2.1 o) (fun S => Iff.rfl) (fun S q rs hq hs hX hr ρ1 hag1 => ?_) hos ho ρ9 (fun _ _ => rfl)
        obtain ⟨h1, h2, h3, h4⟩ := hm.2 S.1 q hq
        refine exS_ok hX (fun r hr9 ρ2 hag2 => hr r hr9 ρ2 (fun i hi => (hag2 i hi).trans (hag1 i hi))) (fun hX => ?_)
        refine exE_ok (d := d) (sc := none) (ρ := ρ1) K0 hZ hvs (fun _ _ => trivial) hgood (Nat.le_refl _) (Nat.le_refl _) (by rw [hRf]; exact Nat.le_refl _) (by rw [hRl]; exact Nat.le_refl _) (by rw [hRl]; omega) hcal (fun z hz cs hcs => hch z (fun p hp9 => by
          have hl9 := (List.getElem?_eq_some_iff.mp hp9).1
          rw [hz (by omega), hag1 0 (by omega), hz9 0 hl9]) S.1 q cs hq hcs) h1 (h3 hs meth hname) (fun _ _ q => by cases q) ?_ hX (fun r hr9 ρ2 hag2 => hr r hr9 ρ2 (fun i hi => (hag2 i hi).trans (hag1 i hi)))
        rcases lenB_ok h2 with q9 | q9
        · exact q9
        · exfalso
          unfold stp at hs
          rcases q9 with q9 | q9 | q9 <;> rw [q9] at hs <;> cases hs
      · have ho9 := List.all_eq_true.mp k3 o ho
        rw [Bool.or_eq_true] at ho9
        rcases ho9 with hfin | hed
        · refine Or.inl (fun ρ1 hag1 => ?_)
          unfold finO at hfin
          split at hfin
          next => cases hfin
          next x hx =>
            obtain ⟨w, hw1, hw2⟩ := List.any_eq_true.mp hfin
            refine eLf_mono (fun t ht => ?_) (leaf_ok (own := y.1.cls) (outs := [x]) (ρ := ρ1) (sb := sb) (ad1 := ad) (n1 := hp.length) Bd.exec Bd.bytes hml hown hts' hK hZ htr Bd.notSynchronized hnoex hA Bd.returns (Nat.le_refl _) (Nat.le_refl _) (by rw [hRf]; omega) (by rw [hRl]; omega) (fun pc q hq => by
              obtain ⟨h1, h2, h3, h4⟩ := hm.2 pc q hq
              exact ⟨h1, fun hi => lenB_ret h2 hi, h4⟩) (List.mem_singleton.mpr rfl) hx)
            obtain ⟨oc, b1, b2, b3⟩ := ht
            refine ⟨oc, b1, b2, ?_⟩
            rcases b3 with ⟨⟨⟨v, o9, hv, hin, h00, hT⟩, hF⟩, hL⟩ | ⟨q, hq, E, ce, L, ⟨⟨k, o9, hin, h00, hE, hn9, hT⟩, hF⟩, hrest⟩
            · have e9 := List.mem_singleton.mp hin
              subst e9
              obtain ⟨j1, j2, j3⟩ := subO_ok hw2 hag1 hT
              exact Or.inl ⟨⟨⟨v, w.1, hv, List.mem_map.mpr ⟨w, hw1, rfl⟩, j1.trans h00, j3⟩, hF⟩, hL⟩
            · have e9 := List.mem_singleton.mp hin
              subst e9
              obtain ⟨j1, j2, j3⟩ := subO_ok hw2 hag1 hT
              exact Or.inr ⟨q, hq, E, ce, L, ⟨⟨k, w.1, List.mem_map.mpr ⟨w, hw1, rfl⟩, j1.trans h00, hE, j2 hn9, j3⟩, hF⟩, hrest⟩
        · obtain ⟨c', hc1, hc2⟩ := List.any_eq_true.mp hed
          exact Or.inr ⟨c', hc1, hc2⟩)
  have hent := hall (mea ρ c0.2.2 + 1) c0 ρ List.mem_cons_self (Nat.lt_succ_self _) (fun _ _ => rfl)
  rw [h0] at hent
  rw [lg_entry_eq]
  exact hent ad _ (lv_args 0 vs) [] ws s.heap [] ⟨Nat.le_refl _, fun _ _ => rfl, fun _ => rfl⟩ g2 (gL_args 0 ga) trivial g5 hP hD va_S.rf (lv_entry vs (by rw [sl_len, gS_words ga]; exact Nat.le_of_ble_eq_true hw))
end E21
