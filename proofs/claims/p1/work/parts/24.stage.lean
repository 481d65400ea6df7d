/-! ===== THE LAW, 5: long runs in stages; ranges of a script's number ===== -/
section E24
variable {p : Program} {l : Launch} {e : Env} {R : Room} {s : State} {m : MethodId} {args : Array Value} {below : List Frame} {meth : Method} {c : Code} {Q : State → Prop}
variable {D : va_G} {cl : List vw_C} {cA : Nat → ClassId} {A : Nat → Prop} {sb : Nat} {ρ : Nat → Int} {ad0 : Nat → Nat} {h0 nL : Nat} {cc : ByteArray} {own : String}
def sbL (l l' : eL) : Bool := l'.all (fun q => match eFind l q.1 with
  | some a => eEq a q.2
  | none => false)
theorem sbL_ok {ad : Nat → Nat} {l : eL} {lc : List (Nat × Value)} (g : gL ρ ad sb l lc) : ∀ {l' : eL}, sbL l l' = true → ∃ lc' : List (Nat × Value), gL ρ ad sb l' lc' ∧ ∀ q ∈ lc', q ∈ lc
  | [], _ => ⟨[], trivial, fun q hq => by cases hq⟩
  | a :: r, h => by
    unfold sbL at h
    rw [List.all_cons, Bool.and_eq_true] at h
    obtain ⟨lc', h1, h2⟩ := sbL_ok g (l' := r) h.2
    have h3 := h.1
    split at h3
    next x hx =>
      obtain ⟨k, v, hk, hv⟩ := gL_find g hx
      rw [eEq_eq h3] at hv
      refine ⟨(a.1, v) :: lc', ⟨⟨rfl, hv⟩, h1⟩, fun q hq => ?_⟩
      rcases List.mem_cons.mp hq with e9 | e9
      · rw [e9]
        exact List.mem_of_getElem? hk
      · exact h2 q e9
    next => cases h3
def sbT (a b : eS) : Bool := Nat.beq a.1 b.1 && (sbL a.2.1 b.2.1 && (eqVs a.2.2.1 b.2.2.1 && (eqB a.2.2.2.1 b.2.2.2.1 && (Nat.beq a.2.2.2.2.2.1 b.2.2.2.2.2.1 && (Nat.beq a.2.2.2.2.2.2 b.2.2.2.2.2.2 && sbH a.2.2.2.2.1 b.2.2.2.2.1)))))
theorem sbT_ok {a b : eS} (h : sbT a b = true) (hw : eW p l e R s m args below meth c Q D cl cA A sb ρ ad0 h0 nL b) : eW p l e R s m args below meth c Q D cl cA A sb ρ ad0 h0 nL a := by
  obtain ⟨a1, a2, a3, a4, a5, a6, a7⟩ := a
  obtain ⟨b1, b2, b3, b4, b5, b6, b7⟩ := b
  unfold sbT at h
  simp only [Bool.and_eq_true] at h
  obtain ⟨h1, h2, h3, h4, h6, h7, h5⟩ := h
  have e1 : a1 = b1 := Nat.eq_of_beq_eq_true h1
  have e3 : a3 = b3 := eqVs_eq h3
  have e4 : a4 = b4 := eqB_eq h4
  have e6 : a6 = b6 := Nat.eq_of_beq_eq_true h6
  have e7 : a7 = b7 := Nat.eq_of_beq_eq_true h7
  subst e1
  subst e3
  subst e4
  subst e6
  subst e7
  have e5 : a5.length = b5.length := (sbH_at h5).1
  intro ad ls lc vs ws H locs g1 g2 g3 g4 g5 g6 g7 g8 g9
  dsimp only at g1
  rw [e5] at g1
  obtain ⟨lc', k1, k2⟩ := sbL_ok g3 h2
  exact hw ad ls lc' vs ws H locs g1 g2 k1 g4 (sbH_ok h5 g5) g6 g7 g8 ⟨g9.1, g9.2.1, fun q hq => g9.2.2 q (k2 q hq)⟩
/-- a number of the script lies on this side or on that -/
theorem eW_split {S : eS} {j : Nat} {lo c9 d9 hi : Int} (hd : d9 = c9 + 1) (hB : S.2.2.2.1[j]? = some (lo, hi)) (h1 : eW p l e R s m args below meth c Q D cl cA A sb ρ ad0 h0 nL (S.1, S.2.1, S.2.2.1, S.2.2.2.1.set j (lo, c9), S.2.2.2.2)) (h2 : eW p l e R s m args below meth c Q D cl cA A sb ρ ad0 h0 nL (S.1, S.2.1, S.2.2.1, S.2.2.2.1.set j (d9, hi), S.2.2.2.2)) : eW p l e R s m args below meth c Q D cl cA A sb ρ ad0 h0 nL S := by
  intro ad ls lc vs ws H locs g1 g2 g3 g4 g5 g6 g7 g8 g9
  have hj : j < S.2.2.2.1.length := (List.getElem?_eq_some_iff.mp hB).1
  have hr := g2 j _ hB
  have put : ∀ q : Int × Int, q.1 ≤ ρ j → ρ j ≤ q.2 → gB ρ (S.2.2.2.1.set j q) := fun q z1 z2 i r hi9 => by
    by_cases hij : j = i
    · subst hij
      rw [List.getElem?_set_self hj] at hi9
      rw [← Option.some.inj hi9]
      exact ⟨z1, z2⟩
    · rw [List.getElem?_set_ne hij] at hi9
      exact g2 i r hi9
  by_cases hc : ρ j ≤ c9
  · exact h1 ad ls lc vs ws H locs g1 (put (lo, c9) hr.1 hc) g3 g4 g5 g6 g7 g8 g9
  · exact h2 ad ls lc vs ws H locs g1 (put (d9, hi) (by dsimp only; omega) hr.2) g3 g4 g5 g6 g7 g8 g9
end E24
-- runs, whatever they are for
theorem run_P {ft : Nat → Option eQ} {cut : Nat} {X : eQ → eS → eR} {P : Nat × eS → Prop} (hX : ∀ (S : eS) (q : eQ) (rs : List (Nat × eS)), ft S.1 = some q → stp q = false → X q S = some rs → (∀ r ∈ rs, P r) → P (0, S)) : ∀ (n : Nat) (wl : List eS) (acc outs : List (Nat × eS)), run ft cut X n wl acc = some outs → (∀ o ∈ outs, P o) → (∀ S ∈ wl, P (0, S)) ∧ (∀ o ∈ acc, P o)
  | 0, _, _, _, h, _ => by cases h
  | n + 1, wl, acc, outs, h, ho => by
    unfold run at h
    split at h
    next =>
      cases h
      exact ⟨fun S hS => (by cases hS), ho⟩
    next S wl =>
      have stop : run ft cut X n wl ((0, S) :: acc) = some outs → (∀ T ∈ S :: wl, P (0, T)) ∧ (∀ o ∈ acc, P o) := fun h => by
        obtain ⟨h1, h2⟩ := run_P hX n wl _ outs h ho
        refine ⟨fun T hT => ?_, fun o hO => h2 o (List.mem_cons_of_mem _ hO)⟩
        rcases List.mem_cons.mp hT with q | q
        · rw [q]
          exact h2 (0, S) List.mem_cons_self
        · exact h1 T q
      cases hc : Nat.beq S.1 cut with
      | true => rw [hc, cond_true] at h; exact stop h
      | false =>
        rw [hc, cond_false] at h
        split at h
        next => cases h
        next q hq =>
          cases hs : stp q with
          | true => rw [hs, cond_true] at h; exact stop h
          | false =>
            rw [hs, cond_false] at h
            split at h
            next => cases h
            next rs hrs =>
              obtain ⟨h1, h2⟩ := run_P hX n _ _ outs h ho
              obtain ⟨h3, h4⟩ := nrm_in (P := fun S => P (0, S)) h1
              obtain ⟨h5, h6⟩ := exc_in h2
              refine ⟨fun T hT => ?_, h5⟩
              rcases List.mem_cons.mp hT with q9 | q9
              · rw [q9]
                refine hX S q rs hq hs hrs (fun r hr => ?_)
                obtain ⟨k, T9⟩ := r
                cases k with
                | zero => exact h4 T9 hr
                | succ k => exact h6 k T9 hr
              · exact h3 T q9
/-- n steps, none of which throws -/
def runK (ft : Nat → Option eQ) (X : eQ → eS → eR) : Nat → List eS → Option (List eS)
  | 0, wl => some wl
  | n + 1, wl => match wl with
    | [] => some []
    | S :: wl => match ft S.1 with
      | none => none
      | some q => bif stp q then none else (match X q S with
        | none => none
        | some rs => bif rs.all (fun r => Nat.beq r.1 0) then runK ft X n (nrm rs wl) else none)
theorem runK_P {ft : Nat → Option eQ} {X : eQ → eS → eR} {P : Nat × eS → Prop} (hX : ∀ (S : eS) (q : eQ) (rs : List (Nat × eS)), ft S.1 = some q → stp q = false → X q S = some rs → (∀ r ∈ rs, P r) → P (0, S)) : ∀ (n : Nat) (wl wl' : List eS), runK ft X n wl = some wl' → (∀ S ∈ wl', P (0, S)) → ∀ S ∈ wl, P (0, S)
  | 0, wl, wl', h, hw => by
    cases h
    exact hw
  | n + 1, wl, wl', h, hw => by
    unfold runK at h
    split at h
    next => exact fun S hS => by cases hS
    next S wl =>
      split at h
      next => cases h
      next q hq =>
        cases hs : stp q with
        | true => rw [hs] at h; cases h
        | false =>
          rw [hs, cond_false] at h
          split at h
          next => cases h
          next rs hrs =>
            cases ha : rs.all (fun r => Nat.beq r.1 0) with
            | false => rw [ha] at h; cases h
            | true =>
              rw [ha, cond_true] at h
              obtain ⟨h3, h4⟩ := nrm_in (P := fun S => P (0, S)) (runK_P hX n _ wl' h hw)
              intro T hT
              rcases List.mem_cons.mp hT with q9 | q9
              · rw [q9]
                refine hX S q rs hq hs hrs (fun r hr => ?_)
                obtain ⟨k, T9⟩ := r
                have e0 : k = 0 := Nat.eq_of_beq_eq_true (List.all_eq_true.mp ha (k, T9) hr)
                subst e0
                exact h4 T9 hr
              · exact h3 T q9
/-- from S all goes to fin, whatever that is for -/
def Rc (ft : Nat → Option eQ) (X : eQ → eS → eR) (fin : Nat × eS → Prop) (S : eS) : Prop := ∀ P : Nat × eS → Prop, (∀ (S : eS) (q : eQ) (rs : List (Nat × eS)), ft S.1 = some q → stp q = false → X q S = some rs → (∀ r ∈ rs, P r) → P (0, S)) → (∀ o, fin o → P o) → (∀ a b : eS, sbT a b = true → P (0, b) → P (0, a)) → P (0, S)
def stgB (ft : Nat → Option eQ) (X : eQ → eS → eR) (n : Nat) (S S' : eS) : Bool := match runK ft X n [S] with
  | some wl => wl.all (fun T => sbT T S')
  | none => false
theorem Rc_stage {ft : Nat → Option eQ} {X : eQ → eS → eR} {fin : Nat × eS → Prop} {n : Nat} {S S' : eS} (h : stgB ft X n S S' = true) (h' : Rc ft X fin S') : Rc ft X fin S := by
  intro P hX hf hs
  unfold stgB at h
  split at h
  next wl hwl => exact runK_P hX n _ wl hwl (fun T hT => hs T S' (List.all_eq_true.mp h T hT) (h' P hX hf hs)) S List.mem_cons_self
  next => cases h
theorem Rc_run {ft : Nat → Option eQ} {X : eQ → eS → eR} {fin : Nat × eS → Prop} {n : Nat} {S : eS} {os : List (Nat × eS)} (h : run ft 99999 X n [S] [] = some os) (ho : ∀ o ∈ os, fin o) : Rc ft X fin S := fun P hX hf _ => (run_P hX n _ _ os h (fun o hO => hf o (ho o hO))).1 S List.mem_cons_self
section E24A
variable {l : Launch} {D : va_G} {cA : Nat → ClassId} {sb : Nat} {ρ : Nat → Int} {cal : eCal} {d : Nat}
set_option maxHeartbeats 1000000 in
theorem eCM_ofR (htr : l.stackTraces = false) {M : Nat} (hM : M < 185)
    (hcal : ∀ M as B hp outs, cal M as B hp = some outs → eCM l GT strs ρ sb D eCls cA d (mtF M) as B hp outs)
    {as : List eV} {B : eB} {hp : eH} {outs : List eO} (hw : Nat.ble (eWords as) (mtF M).2.2.2.1 = true)
    (hR : Rc (ftF M) (ex cal mtF npF ciF dfF (mtF M).2.2.2.1 (mtF M).2.2.2.2.2.1 (mtF M).2.2.2.2.2.2 none (fun _ _ => none)) (fun o => ∃ x, x ∈ outs ∧ eEnd (ftF M) (mtF M).2.2.2.2.1 (mtF M).2.2.2.2.2.1 (mtF M).2.2.2.2.2.2 o = some x) (0, eArgs 0 as, [], B, hp, 0, 0)) : eCM l GT strs ρ sb D eCls cA (d + 1) (mtF M) as B hp outs := by
  have hm := mOk_of (M := M) (Nat.lt_trans hM (by decide)) (rows_all M (Nat.lt_trans hM (by decide)))
  have hy := (eMt_of hM).1
  generalize mtF M = y at *
  generalize ftF M = ft at *
  intro ad vs ws sz g2 ga g5
  refine vx_ofW (cc := y.2.2.1) (maxL := y.2.2.2.1) (ret := y.2.2.2.2.1) hm.1 (by rw [hy]) ?_
  intro p e s m args below meth c s₁ Bd hml hnoex hv
  obtain ⟨rfl, hsz, hP, hK, hD0, hZ⟩ := hv
  subst hsz
  have hD := hD0.self (sz := s.heap.size)
  have hts := atoms_spec (ws := y.2.1 :: GT) Bd.pre
  have hown : s.vm.findClass y.1.cls = some m.cls := findClass_of_methodNamed Bd.named
  have hname : meth.name = y.1.name := (name_of_methodNamed Bd.named Bd.method).1
  have hA : ∀ q, s.heap.size ≤ q → va_A ws s.heap.size q := fun q h => Or.inr h
  have hts' : ∀ w ∈ GT, w.before vs.toArray s = true := fun w hw => hts w (List.mem_cons_of_mem _ hw)
  have K : eK p m c s vs.toArray y.2.2.1 y.1.cls y.2.2.2.1 GT D eCls cA (va_A ws s.heap.size) := ⟨Bd.exec, Bd.bytes, hml, hown, hts', hK, hA⟩
  have hRf : (headSpec (y.2.1 :: GT) (rmD (d + 1) y.2.2.2.2.2.1 y.2.2.2.2.2.2)).room.frames = d + 9 := by show d + 1 + 8 = d + 9; omega
  have hRl : (headSpec (y.2.1 :: GT) (rmD (d + 1) y.2.2.2.2.2.1 y.2.2.2.2.2.2)).room.locals = 64 * d + 1064 := by show 64 * (d + 1) + 1000 = 64 * d + 1064; omega
  have hnat := natW
  have hent := hR (fun r => eLf p l e (headSpec (y.2.1 :: GT) (rmD (d + 1) y.2.2.2.2.2.1 y.2.2.2.2.2.2)).room s m vs.toArray below meth c (vx_MQ below (eQc ρ sb D eCls cA ad hp.length (va_A ws s.heap.size) outs) (eXc ρ sb D eCls cA ad hp.length (va_A ws s.heap.size) outs) vs.toArray s y.2.2.2.2.2.1 y.2.2.2.2.2.2 (va_A ws s.heap.size)) D eCls cA (va_A ws s.heap.size) sb ρ ad hp.length y.2.2.2.1 r)
    (fun S q rs hq hs hX hr => by
      obtain ⟨h1, h2, h3, h4⟩ := hm.2 S.1 q hq
      refine ex_ok (d := d) (sc := none) K hZ trivial GT_good (Nat.le_refl _) (Nat.le_refl _) (by rw [hRf]; exact Nat.le_refl _) (by rw [hRl]; exact Nat.le_refl _) (by rw [hRl]; omega) hcal h1 (h3 hs meth hname) (fun _ _ q => by cases q) ?_ hX hr
      rcases lenB_ok h2 with q9 | q9
      · exact q9
      · exfalso
        unfold stp at hs
        rcases q9 with q9 | q9 | q9 <;> rw [q9] at hs <;> cases hs)
    (fun o ho => by
      obtain ⟨x, hx1, hx2⟩ := ho
      exact leaf_ok (own := y.1.cls) Bd.exec Bd.bytes hml hown hts' hK hZ htr Bd.notSynchronized hnoex hA Bd.returns (Nat.le_refl _) (Nat.le_refl _) (by rw [hRf]; omega) (by rw [hRl]; omega) (fun pc q hq => by
        obtain ⟨h1, h2, h3, h4⟩ := hm.2 pc q hq
        exact ⟨h1, fun hi => lenB_ret h2 hi, h4⟩) hx1 hx2)
    (fun a b hab hb => sbT_ok hab hb)
  rw [lg_entry_eq]
  exact hent ad _ (lv_args 0 vs) [] ws s.heap [] ⟨Nat.le_refl _, fun _ _ => rfl, fun _ => rfl⟩ g2 (gL_args 0 ga) trivial g5 hP hD va_S.rf (lv_entry vs (by rw [sl_len, gS_words ga]; exact Nat.le_of_ble_eq_true hw))
theorem eCM_sub {y : eM} {as : List eV} {B : eB} {hp hp' : eH} {outs : List eO} (hs : sbH hp hp' = true) (h : eCM l GT strs ρ sb D eCls cA d y as B hp' outs) : eCM l GT strs ρ sb D eCls cA d y as B hp outs := by
  intro ad vs ws sz g2 ga g5
  rw [(sbH_at hs).1]
  exact h ad vs ws sz g2 ga (sbH_ok hs g5)
/-- one method's frame over any calls -/
def frm (cal : eCal) (n M : Nat) (as : List eV) (B : eB) (hp : eH) : Option (List eO) := bif Nat.blt M 185 && Nat.ble (eWords as) (mtF M).2.2.2.1 then (match run (ftF M) 99999 (ex cal mtF npF ciF dfF (mtF M).2.2.2.1 (mtF M).2.2.2.2.2.1 (mtF M).2.2.2.2.2.2 none (fun _ _ => none)) n [(0, eArgs 0 as, [], B, hp, 0, 0)] [] with
  | some os => ends (ftF M) (mtF M).2.2.2.2.1 (mtF M).2.2.2.2.2.1 (mtF M).2.2.2.2.2.2 os
  | none => none) else none
theorem frm_ok (htr : l.stackTraces = false) {n M : Nat}
    (hcal : ∀ M as B hp outs, cal M as B hp = some outs → eCM l GT strs ρ sb D eCls cA d (mtF M) as B hp outs)
    {as : List eV} {B : eB} {hp : eH} {outs : List eO} (h : frm cal n M as B hp = some outs) : eCM l GT strs ρ sb D eCls cA (d + 1) (mtF M) as B hp outs := by
  unfold frm at h
  cases hb : (Nat.blt M 185 && Nat.ble (eWords as) (mtF M).2.2.2.1) with
  | false => rw [hb] at h; cases h
  | true =>
    rw [hb, cond_true] at h
    rw [Bool.and_eq_true] at hb
    split at h
    next os hos => exact eCM_ofR htr (blt_lt hb.1) hcal hb.2 (Rc_run hos (fun o ho => ends_in h o ho))
    next => cases h
end E24A
section E24B
variable {p : Program} {e : Env} {s : State} {m : MethodId} {below : List Frame} {meth : Method} {c : Code} {l : Launch} {b L : Nat} {xs : Nat → Int32}
def xC (cal : eCal) (sc : Option (Nat × Nat)) : eQ → eS → eR := ex cal mtF npF ciF dfF 7 600002 7302232 sc (fun _ _ => none)
def lawRunC (cal : eCal) (S : eS) : Bool := match run ft_L 99999 (xC cal (some (6, 6))) 40000 [S] [] with
  | some os => os.all lawEnd
  | none => false
theorem law_runC {D : va_G} {cA : Nat → ClassId} (hK : va_K D eCls (eTys cA) s) (C0 : lw_At p s m meth c b L xs) {cal : eCal} (hcal : ∀ M as B hp outs, cal M as B hp = some outs → eCM l GT strs (fun i => (xs i).toInt) b D eCls cA 11 (mtF M) as B hp outs) (hL : L = 6) {S : eS} (h : lawRunC cal S = true) : eWL p l e s m below meth c b xs D cA S := by
  unfold lawRunC at h
  split at h
  next os hos =>
    refine (run_ok (cut := 99999) (fun S q rs hq hs hX hr => ?_) 40000 _ _ os hos (fun o ho => law_leaf C0 (List.all_eq_true.mp h o ho))).1 S List.mem_cons_self
    obtain ⟨hx, hb, hret, hml, hown, hts, hX0, hbl, hlocks, hgv⟩ := C0
    have htG : ∀ w ∈ GT, w.before #[Value.ref b] s = true := fun w hw => hts w (GT_tbl w hw)
    have K : eK p m c s #[Value.ref b] code RL 7 GT D eCls cA (fun q : Nat => s.heap.size ≤ q) := ⟨hx, hb, hml, hown, htG, hK, fun _ h => h⟩
    obtain ⟨h1, h2, h3, -⟩ := rowsB_ok zf_L rows_L S.1 q hq
    have hsc : eSc s (fun q : Nat => s.heap.size ≤ q) b (fun i => (xs i).toInt) (some (6, 6)) := ⟨L, xs, hX0, hbl, Nat.not_le.mpr hbl, by omega, by omega, by omega, fun _ _ => rfl⟩
    have hnat := natW
    refine ex_ok (d := 11) (own := RL) (cc := code) K (eZ_start hts hgv) hsc GT_good (Nat.le_refl _) (Nat.le_refl _) (Nat.le_of_ble_eq_true rfl) (Nat.le_of_ble_eq_true rfl) (Nat.le_trans hnat (Nat.le_of_ble_eq_true rfl)) hcal h1 (h3 hs meth (fun z => by cases z)) (fun _ _ q => by cases q) ?_ hX hr
    rcases lenB_ok h2 with q9 | q9
    · exact q9
    · exfalso
      unfold stp at hs
      rcases q9 with q9 | q9 | q9 <;> rw [q9] at hs <;> cases hs
  next => cases h
/-- the case's first state with other bounds -/
def SB (pc : Nat) (B : eB) : eS := (pc, [(4, eI 0), (3, (2, 96, 0, 0)), (2, (2, 59, 0, 0)), (1, (2, 0, 0, 0)), (0, (5, 0, 0, 0))], [], B, FH, 97, 34934)
theorem law_split {D : va_G} {cA : Nat → ClassId} {t j : Nat} {B : eB} {lo hi : Int} (c9 d9 : Int) (hd : d9 = c9 + 1) (hB : B[j]? = some (lo, hi)) (h1 : eWL p l e s m below meth c b xs D cA (SB t (B.set j (lo, c9)))) (h2 : eWL p l e s m below meth c b xs D cA (SB t (B.set j (d9, hi)))) : eWL p l e s m below meth c b xs D cA (SB t B) := eW_split (S := SB t B) hd hB h1 h2
end E24B
