/-! ===== THE ENGINE, 9: runs, ends, contracts ===== -/
def stp (q : eQ) : Bool := match q.1 with
  | .ireturn => true
  | .return_ => true
  | .areturn => true
  | .new _ => Nat.ble 1000 q.2.2.1
  | _ => false
def nrm : List (Nat × eS) → List eS → List eS
  | [], wl => wl
  | r :: rs, wl => match r.1 with
    | 0 => r.2 :: nrm rs wl
    | _ + 1 => nrm rs wl
def exc : List (Nat × eS) → List (Nat × eS) → List (Nat × eS)
  | [], acc => acc
  | r :: rs, acc => match r.1 with
    | 0 => exc rs acc
    | _ + 1 => r :: exc rs acc
def run (ft : Nat → Option eQ) (cut : Nat) (X : eQ → eS → eR) : Nat → List eS → List (Nat × eS) → Option (List (Nat × eS))
  | 0, _, _ => none
  | n + 1, wl, acc => match wl with
    | [] => some acc
    | S :: wl => bif Nat.beq S.1 cut then run ft cut X n wl ((0, S) :: acc) else (match ft S.1 with
      | none => none
      | some q => bif stp q then run ft cut X n wl ((0, S) :: acc) else (match X q S with
        | none => none
        | some rs => run ft cut X n (nrm rs wl) (exc rs acc)))
section E9
variable {p : Program} {l : Launch} {e : Env} {R : Room} {s : State} {m : MethodId} {args : Array Value} {below : List Frame} {meth : Method} {c : Code} {Q : State → Prop}
variable {D : va_G} {cl : List vw_C} {cA : Nat → ClassId} {A : Nat → Prop} {sb : eSB} {ρ : Nat → Int} {ad0 : Nat → Nat} {h0 nL : Nat} {cc : ByteArray} {own : String}
variable {strs : List (String × Nat × String)} {GT : List Cond} {cal : eCal} {mt : Nat → eM} {np ciM : Nat → Nat} {dfs : Nat → List eV} {cm sm d : Nat} {sc : Option (Nat × Nat)} {hn : Nat → Nat → Option Nat}
theorem nrm_in : ∀ {rs : List (Nat × eS)} {wl : List eS} {P : eS → Prop}, (∀ S ∈ nrm rs wl, P S) → (∀ S ∈ wl, P S) ∧ ∀ S, (0, S) ∈ rs → P S
  | [], wl, P, h => ⟨h, fun S hS => by cases hS⟩
  | r :: rs, wl, P, h => by
    obtain ⟨k, T⟩ := r
    cases k with
    | zero =>
      have h : ∀ S ∈ T :: nrm rs wl, P S := h
      obtain ⟨h1, h2⟩ := nrm_in (fun S hS => h S (List.mem_cons_of_mem _ hS))
      refine ⟨h1, fun S hS => ?_⟩
      rcases List.mem_cons.mp hS with q | q
      · rw [(Prod.mk.inj q).2]
        exact h T List.mem_cons_self
      · exact h2 S q
    | succ k =>
      have h : ∀ S ∈ nrm rs wl, P S := h
      obtain ⟨h1, h2⟩ := nrm_in h
      refine ⟨h1, fun S hS => ?_⟩
      rcases List.mem_cons.mp hS with q | q
      · cases q
      · exact h2 S q
theorem exc_in : ∀ {rs acc : List (Nat × eS)} {P : Nat × eS → Prop}, (∀ o ∈ exc rs acc, P o) → (∀ o ∈ acc, P o) ∧ ∀ k S, (k + 1, S) ∈ rs → P (k + 1, S)
  | [], acc, P, h => ⟨h, fun k S hS => by cases hS⟩
  | r :: rs, acc, P, h => by
    obtain ⟨k, T⟩ := r
    cases k with
    | zero =>
      have h : ∀ o ∈ exc rs acc, P o := h
      obtain ⟨h1, h2⟩ := exc_in h
      refine ⟨h1, fun k S hS => ?_⟩
      rcases List.mem_cons.mp hS with q | q
      · cases q
      · exact h2 k S q
    | succ k =>
      have h : ∀ o ∈ (k + 1, T) :: exc rs acc, P o := h
      obtain ⟨h1, h2⟩ := exc_in (fun o ho => h o (List.mem_cons_of_mem _ ho))
      refine ⟨h1, fun k S hS => ?_⟩
      rcases List.mem_cons.mp hS with q | q
      · rw [q]
        exact h _ List.mem_cons_self
      · exact h2 k S q
theorem run_ok {ft : Nat → Option eQ} {cut : Nat} {X : eQ → eS → eR} (hX : ∀ (S : eS) (q : eQ) (rs : List (Nat × eS)), ft S.1 = some q → stp q = false → X q S = some rs → (∀ r ∈ rs, eLf p l e R s m args below meth c Q D cl cA A sb ρ ad0 h0 nL r) → eW p l e R s m args below meth c Q D cl cA A sb ρ ad0 h0 nL S) : ∀ (n : Nat) (wl : List eS) (acc outs : List (Nat × eS)), run ft cut X n wl acc = some outs → (∀ o ∈ outs, eLf p l e R s m args below meth c Q D cl cA A sb ρ ad0 h0 nL o) → (∀ S ∈ wl, eW p l e R s m args below meth c Q D cl cA A sb ρ ad0 h0 nL S) ∧ (∀ o ∈ acc, eLf p l e R s m args below meth c Q D cl cA A sb ρ ad0 h0 nL o)
  | 0, _, _, _, h, _ => by cases h
  | n + 1, wl, acc, outs, h, ho => by
    unfold run at h
    split at h
    next =>
      cases h
      exact ⟨fun S hS => (by cases hS), ho⟩
    next S wl =>
      have stop : run ft cut X n wl ((0, S) :: acc) = some outs → (∀ T ∈ S :: wl, eW p l e R s m args below meth c Q D cl cA A sb ρ ad0 h0 nL T) ∧ (∀ o ∈ acc, eLf p l e R s m args below meth c Q D cl cA A sb ρ ad0 h0 nL o) := fun h => by
        obtain ⟨h1, h2⟩ := run_ok hX n wl _ outs h ho
        refine ⟨fun T hT => ?_, fun o hO => h2 o (List.mem_cons_of_mem _ hO)⟩
        rcases List.mem_cons.mp hT with q | q
        · rw [q]
          exact h2 (0, S) List.mem_cons_self
        · exact h1 T q
      cases hc : Nat.beq S.1 cut with
      | true => rw [hc, cond_true] at h; exact stop h
      | false =>
        rw [hc, cond_false] at h
        split at h
        next => cases h
        next q hq =>
          cases hs : stp q with
          | true => rw [hs, cond_true] at h; exact stop h
          | false =>
            rw [hs, cond_false] at h
            split at h
            next => cases h
            next rs hrs =>
              obtain ⟨h1, h2⟩ := run_ok hX n _ _ outs h ho
              obtain ⟨h3, h4⟩ := nrm_in h1
              obtain ⟨h5, h6⟩ := exc_in h2
              refine ⟨fun T hT => ?_, h5⟩
              rcases List.mem_cons.mp hT with q9 | q9
              · rw [q9]
                refine hX S q rs hq hs hrs (fun r hr => ?_)
                obtain ⟨k, T9⟩ := r
                cases k with
                | zero => exact h4 T9 hr
                | succ k => exact h6 k T9 hr
              · exact h3 T q9
/-- a state with wider bounds -/
def wkS (ds : List Nat) (t : eHt) (S : eS) : Option eS := match wkC S.2.2.2.2.1 t.1 with
  | none => none
  | some hp => match wkB S.2.2.2.1 t.2 with
    | none => none
    | some B => some (S.1, S.2.1.filter (fun q => !(ds.any (Nat.beq q.1))), S.2.2.1, B, hp, S.2.2.2.2.2)
theorem wkS_ok {ds : List Nat} {t : eHt} {S S' : eS} (h : wkS ds t S = some S') (hw : eW p l e R s m args below meth c Q D cl cA A sb ρ ad0 h0 nL S') : eW p l e R s m args below meth c Q D cl cA A sb ρ ad0 h0 nL S := by
  unfold wkS at h
  split at h
  next => cases h
  next hp h1 =>
    split at h
    next => cases h
    next B h2 =>
      cases h
      intro ad ls lc vs ws H locs g1 g2 g3 g4 g5 g6 g7 g8 g9
      obtain ⟨k1, k2⟩ := wkC_ok t.1 h1 g5
      exact hw ad ls (lc.filter (fun q => !(ds.any (Nat.beq q.1)))) vs ws H locs (by dsimp only; rw [k2]; exact g1) (wkB_ok t.2 h2 g2) (gL_filter (fun q w e9 _ => by rw [e9]) g3) g4 k1 g6 g7 g8 ⟨g9.1, g9.2.1, fun q hq => g9.2.2 q (List.mem_filter.mp hq).1⟩
def eEqS (a b : eS) : Bool := Nat.beq a.1 b.1 && (eqL a.2.1 b.2.1 && (eqVs a.2.2.1 b.2.2.1 && (eqB a.2.2.2.1 b.2.2.2.1 && (eqH a.2.2.2.2.1 b.2.2.2.2.1 && (Nat.beq a.2.2.2.2.2.1 b.2.2.2.2.2.1 && Nat.beq a.2.2.2.2.2.2 b.2.2.2.2.2.2)))))
theorem eEqS_eq {a b : eS} (h : eEqS a b = true) : a = b := by
  obtain ⟨a1, a2, a3, a4, a5, a6, a7⟩ := a
  obtain ⟨b1, b2, b3, b4, b5, b6, b7⟩ := b
  unfold eEqS eqL at h
  simp only [Bool.and_eq_true] at h
  obtain ⟨h1, h2, h3, h4, h5, h6, h7⟩ := h
  rw [Nat.eq_of_beq_eq_true h1, eqOv_eq h2, eqVs_eq h3, eqB_eq h4, eqH_eq h5, Nat.eq_of_beq_eq_true h6, Nat.eq_of_beq_eq_true h7]
/-- the states at the cut, wider and each once; the other ends -/
def mgS (c : Nat) (ds : List Nat) (t : eHt) : List (Nat × eS) → Option (List eS × List (Nat × eS))
  | [] => some ([], [])
  | o :: os => match mgS c ds t os with
    | none => none
    | some r => match o.1 with
      | _ + 1 => some (r.1, o :: r.2)
      | 0 => bif Nat.beq o.2.1 c then (match wkS ds t o.2 with
        | none => none
        | some S => bif r.1.any (fun z => eEqS z S) then some r else some (S :: r.1, r.2)) else some (r.1, o :: r.2)
theorem mgS_ok {c0 : Nat} {ds : List Nat} {t : eHt} : ∀ {os : List (Nat × eS)} {r : List eS × List (Nat × eS)}, mgS c0 ds t os = some r → (∀ S ∈ r.1, eW p l e R s m args below meth c Q D cl cA A sb ρ ad0 h0 nL S) → (∀ o ∈ r.2, eLf p l e R s m args below meth c Q D cl cA A sb ρ ad0 h0 nL o) → ∀ o ∈ os, eLf p l e R s m args below meth c Q D cl cA A sb ρ ad0 h0 nL o
  | [], _, _, _, _, o, ho => by cases ho
  | a :: os, r, h, h1, h2, o, ho => by
    unfold mgS at h
    split at h
    next => cases h
    next r9 hr9 =>
      obtain ⟨k, S⟩ := a
      cases k with
      | succ k =>
        cases h
        have ih := mgS_ok hr9 h1 (fun o ho => h2 o (List.mem_cons_of_mem _ ho))
        rcases List.mem_cons.mp ho with q | q
        · rw [q]; exact h2 _ List.mem_cons_self
        · exact ih o q
      | zero =>
        dsimp only at h
        cases hc : Nat.beq S.1 c0 with
        | false =>
          rw [hc, cond_false] at h
          cases h
          have ih := mgS_ok hr9 h1 (fun o ho => h2 o (List.mem_cons_of_mem _ ho))
          rcases List.mem_cons.mp ho with q | q
          · rw [q]; exact h2 _ List.mem_cons_self
          · exact ih o q
        | true =>
          rw [hc, cond_true] at h
          split at h
          next => cases h
          next S' hS' =>
            cases hb : r9.1.any (fun z => eEqS z S') with
            | true =>
              rw [hb, cond_true] at h
              cases h
              have ih := mgS_ok hr9 h1 h2
              rcases List.mem_cons.mp ho with q | q
              · rw [q]
                obtain ⟨z, hz1, hz2⟩ := List.any_eq_true.mp hb
                exact wkS_ok hS' (eEqS_eq hz2 ▸ h1 z hz1)
              · exact ih o q
            | false =>
              rw [hb, cond_false] at h
              cases h
              have ih := mgS_ok hr9 (fun S hS => h1 S (List.mem_cons_of_mem _ hS)) h2
              rcases List.mem_cons.mp ho with q | q
              · rw [q]
                exact wkS_ok hS' (h1 S' List.mem_cons_self)
              · exact ih o q
/-- a run, perhaps with a cut -/
def run2 (ft : Nat → Option eQ) (cu : Option (Nat × List Nat × eHt)) (X : eQ → eS → eR) (n : Nat) (S : eS) : Option (List (Nat × eS)) := match cu with
  | none => run ft 99999 X n [S] []
  | some u => match run ft u.1 X n [S] [] with
    | none => none
    | some os => match mgS u.1 u.2.1 u.2.2 os with
      | none => none
      | some r => run ft 99999 X n r.1 r.2
theorem run2_ok {ft : Nat → Option eQ} {cu : Option (Nat × List Nat × eHt)} {X : eQ → eS → eR} (hX : ∀ (S : eS) (q : eQ) (rs : List (Nat × eS)), ft S.1 = some q → stp q = false → X q S = some rs → (∀ r ∈ rs, eLf p l e R s m args below meth c Q D cl cA A sb ρ ad0 h0 nL r) → eW p l e R s m args below meth c Q D cl cA A sb ρ ad0 h0 nL S) (n : Nat) (S : eS) (outs : List (Nat × eS)) (h : run2 ft cu X n S = some outs) (ho : ∀ o ∈ outs, eLf p l e R s m args below meth c Q D cl cA A sb ρ ad0 h0 nL o) : eW p l e R s m args below meth c Q D cl cA A sb ρ ad0 h0 nL S := by
  unfold run2 at h
  split at h
  next => exact (run_ok hX n _ _ outs h ho).1 S List.mem_cons_self
  next u =>
    split at h
    next => cases h
    next os hos =>
      split at h
      next => cases h
      next r hr =>
        obtain ⟨h1, h2⟩ := run_ok hX n _ _ outs h ho
        exact (run_ok hX n _ _ os hos (mgS_ok hr h1 h2)).1 S List.mem_cons_self
-- an end of a method
theorem nar_chr : ∀ k : Fin 128, narrow .char (.int (Int32.ofNat k.val)) = .int (Int32.ofNat k.val) := by decide
theorem nar_byt : ∀ k : Fin 128, narrow .byte (.int (Int32.ofNat k.val)) = .int (Int32.ofNat k.val) := by decide
theorem i32_low {y : Int32} (h1 : 0 ≤ y.toInt) (h2 : y.toInt ≤ 127) : ∃ k : Fin 128, y = Int32.ofNat k.val := by
  refine ⟨⟨y.toInt.toNat, by omega⟩, ?_⟩
  apply Int32.toInt_inj.mp
  rw [i32_nat (by dsimp only; omega)]
  dsimp only
  omega
def rtOk (rt : Option FieldType) (B : eB) (v : eV) : Bool := match rt with
  | some .char => Nat.beq v.1 0 && (decide (0 ≤ eLo B v) && decide (eHi B v ≤ 127))
  | some .byte => Nat.beq v.1 0 && (decide (0 ≤ eLo B v) && decide (eHi B v ≤ 127))
  | some .int => Nat.beq v.1 0
  | some .boolean => Nat.beq v.1 0 && (decide (0 ≤ eLo B v) && decide (eHi B v ≤ 1))
  | _ => false
def rtRef (rt : Option FieldType) : Bool := match rt with
  | some (.object _) => true
  | some (.array _) => true
  | _ => false
def eEnd (ft : Nat → Option eQ) (rt : Option FieldType) (mc ms : Nat) (o : Nat × eS) : Option eO := bif Nat.ble o.2.2.2.2.2.2.1 mc && Nat.ble o.2.2.2.2.2.2.2 ms then (match o.1 with
  | E + 1 => some (E + 1, none, o.2.2.2.2.1, o.2.2.2.2.2.1)
  | 0 => match ft o.2.1 with
    | none => none
    | some q => match q.1 with
      | .ireturn => (match o.2.2.2.1 with
        | [v] => bif rtOk rt o.2.2.2.2.1 v then some (0, some v, o.2.2.2.2.1, o.2.2.2.2.2.1) else none
        | _ => none)
      | .return_ => (match o.2.2.2.1 with
        | [] => bif decide (rt = none) then some (0, none, o.2.2.2.2.1, o.2.2.2.2.2.1) else none
        | _ => none)
      | .areturn => (match o.2.2.2.1 with
        | [v] => bif rtRef rt && eIsR v then some (0, some v, o.2.2.2.2.1, o.2.2.2.2.2.1) else none
        | _ => none)
      | .new _ => bif Nat.ble 1001 q.2.2.1 && (Nat.ble (o.2.2.2.2.2.2.1 + 1) mc && (Nat.ble (o.2.2.2.2.2.2.2 + 6) ms && Nat.ble (eWords o.2.2.2.1) 8)) then some (q.2.2.1 - 1000, none, o.2.2.2.2.1, o.2.2.2.2.2.1) else none
      | _ => none) else none
def ends (ft : Nat → Option eQ) (rt : Option FieldType) (mc ms : Nat) : List (Nat × eS) → Option (List eO)
  | [] => some []
  | o :: os => match eEnd ft rt mc ms o with
    | none => none
    | some x => match ends ft rt mc ms os with
      | none => none
      | some xs => some (x :: xs)
theorem ends_in {ft : Nat → Option eQ} {rt : Option FieldType} {mc ms : Nat} : ∀ {os : List (Nat × eS)} {outs : List eO}, ends ft rt mc ms os = some outs → ∀ o ∈ os, ∃ x, x ∈ outs ∧ eEnd ft rt mc ms o = some x
  | [], _, _, o, ho => by cases ho
  | a :: os, outs, h, o, ho => by
    unfold ends at h
    split at h
    next => cases h
    next x hx =>
      split at h
      next => cases h
      next xs hxs =>
        cases h
        rcases List.mem_cons.mp ho with q | q
        · rw [q]
          exact ⟨x, List.mem_cons_self, hx⟩
        · obtain ⟨y, h1, h2⟩ := ends_in hxs o q
          exact ⟨y, List.mem_cons_of_mem _ h1, h2⟩
/-- 'throw new E("..")' at pc -/
def okT (GT : List Cond) (strs : List (String × Nat × String)) (own : String) (cc : ByteArray) (pc E : Nat) : Prop := ∃ (ik is ic ix : Nat) (text Y0 : String) (names : List String) (bytes : ByteArray),
  decode cc pc = .ok (.new ik, 3) ∧ decode cc (pc + 3) = .ok (.dup, 1) ∧ ((decode cc (pc + 4) = .ok (.ldc is, 2) ∧ decode cc (pc + 6) = .ok (.invokespecial ic, 3) ∧ decode cc (pc + 9) = .ok (.athrow, 1)) ∨ (decode cc (pc + 4) = .ok (.ldc_w is, 3) ∧ decode cc (pc + 7) = .ok (.invokespecial ic, 3) ∧ decode cc (pc + 10) = .ok (.athrow, 1))) ∧ (own, is, text) ∈ strs ∧
  Jvm.Cond.classLink own ik (exN E) ∈ GT ∧ Jvm.Cond.initialized (exN E) ∈ GT ∧ (∀ w ∈ vy_at own ic (exN E) Y0 names ix bytes, w ∈ GT ∨ w = Jvm.Cond.castable (exN E) (exN E) ∨ ∃ y ∈ eDecl, w = Jvm.Cond.declares y) ∧ (∀ w ∈ Jvm.Cond.classLink own ik (exN E) :: Jvm.Cond.initialized (exN E) :: vy_at own ic (exN E) Y0 names ix bytes, vx_ot w = true) ∧ Bundle.fit (exN E) = true ∧ (∀ n ∈ names, Bundle.fit n = true) ∧ names.length ≤ 4 ∧ vy_by ix bytes ∧ Bundle.fit Y0 = true
theorem leaf_ok {W0 : va_W} {ad1 : Nat → Nat} {n1 : Nat} (hx : p.tables.exec = Jvm.exec) (hb : c.code = cc) (hml : c.maxLocals = nL) (hown : s.vm.findClass own = some m.cls) (hts : ∀ w ∈ GT, w.before args s = true) (hK : va_K D cl (eTys cA) s) (hZ : eZ strs sb (va_A W0 s.heap.size) s s.heap) (htr : l.stackTraces = false) (hlocks : meth.locks = false) (hnoex : ∀ x ∈ c.exceptionTable.toList, False) (hA : ∀ q, s.heap.size ≤ q → va_A W0 s.heap.size q)
    {ft : Nat → Option eQ} {rt : Option FieldType} (hret : meth.sig.returnType = rt) {mc ms : Nat} (hRc : mc ≤ R.cells) (hRs : ms ≤ R.slots) (hfr : 9 ≤ R.frames) (hlo : 1000 ≤ R.locals) {outs : List eO}
    (hft : ∀ pc q, ft pc = some q → decode cc pc = .ok (q.1, q.2.1) ∧ (q.1 = .ireturn ∨ q.1 = .return_ ∨ q.1 = .areturn → q.2.1 = 1) ∧ (Nat.ble 1000 q.2.2.1 = true → ∀ ix, q.1 = .new ix → okT GT strs own cc pc (q.2.2.1 - 1000)))
    {o : Nat × eS} {x : eO} (hxo : x ∈ outs) (h : eEnd ft rt mc ms o = some x) :
    eLf p l e R s m args below meth c (vx_MQ below (eQc ρ sb D cl cA ad1 n1 (va_A W0 s.heap.size) outs) (eXc ρ sb D cl cA ad1 n1 (va_A W0 s.heap.size) outs) args s mc ms (va_A W0 s.heap.size)) D cl cA (va_A W0 s.heap.size) sb ρ ad1 n1 nL o := by
  obtain ⟨k, pc, lo, st, B, hp, c9, z9⟩ := o
  unfold eEnd at h
  dsimp only at h
  cases hcs : (Nat.ble c9 mc && Nat.ble z9 ms) with
  | false => rw [hcs] at h; cases h
  | true =>
    rw [hcs, cond_true] at h
    rw [Bool.and_eq_true] at hcs
    have hc1 := Nat.le_of_ble_eq_true hcs.1
    have hc2 := Nat.le_of_ble_eq_true hcs.2
    cases k with
    | succ E =>
      cases h
      intro ad ls lc vs ws H locs ce q g1 g2 g3 g4 g5 g6 g7 g8 g9 hce hcv hcl
      refine vx_out (fun x hx9 => (hnoex x hx9).elim) hlocks hce hcv hcl (fun t ht hal => ?_) g8.2.2 hc1 hc2
      exact ⟨⟨E, _, hxo, rfl, rfl, rfl, ad, ws, g1, trivial, g2, g5, by rw [ht]; exact g6, va_K.moved hal hK, g7⟩, g8.F ht⟩
    | zero =>
      dsimp only at h
      split at h
      next => cases h
      next q hq =>
        obtain ⟨hd, hlen, hthr⟩ := hft pc q hq
        obtain ⟨i, len, a1, a2, z⟩ := q
        dsimp only at h hd hlen hthr
        split at h
        · have hl := hlen (Or.inl rfl)
          subst hl
          split at h
          next v =>
            cases hrt : rtOk rt B v with
            | false => rw [hrt] at h; cases h
            | true =>
              rw [hrt, cond_true] at h
              cases h
              intro ad ls lc vs ws H locs g1 g2 g3 g4 g5 g6 g7 g8 g9
              match vs, g4 with
              | [u], g4 =>
                unfold rtOk at hrt
                have fin : ∀ y : Int32, u = .int y → ∀ t : State, t.heap = H → s.WarmedH t.vm → eQc ρ sb D cl cA ad1 n1 (va_A W0 s.heap.size) outs args s (.returned (some (.int y))) t := fun y hy t ht hW =>
                  ⟨⟨some (.int y), _, rfl, hxo, rfl, ad, ws, g1, by rw [← hy]; exact g4.1, g2, g5, by rw [ht]; exact g6, va_K.moved hW.alike hK, g7⟩, g8.F ht⟩
                split at hrt
                · rw [Bool.and_eq_true, Bool.and_eq_true, decide_eq_true_eq, decide_eq_true_eq] at hrt
                  obtain ⟨v0, v1, v2, v3⟩ := v
                  have e0 := Nat.eq_of_beq_eq_true hrt.1
                  have e1 := hrt.2
                  dsimp only at e0
                  subst e0
                  obtain ⟨y, rfl, hy⟩ := g4.1
                  have u1 := eLo_ok g2 hy
                  have u2 := eHi_ok g2 hy
                  dsimp only at u1 u2
                  obtain ⟨k9, hk9⟩ := i32_low (y := y) (by omega) (by omega)
                  refine vx_ret (W.widen hc1 hc2 ?_)
                  exact W.zret hx hb hret (by rw [hk9]; exact nar_chr k9) (fin y rfl) g8.2.2 hd hlocks
                · rw [Bool.and_eq_true, Bool.and_eq_true, decide_eq_true_eq, decide_eq_true_eq] at hrt
                  obtain ⟨v0, v1, v2, v3⟩ := v
                  have e0 := Nat.eq_of_beq_eq_true hrt.1
                  have e1 := hrt.2
                  dsimp only at e0
                  subst e0
                  obtain ⟨y, rfl, hy⟩ := g4.1
                  have u1 := eLo_ok g2 hy
                  have u2 := eHi_ok g2 hy
                  dsimp only at u1 u2
                  obtain ⟨k9, hk9⟩ := i32_low (y := y) (by omega) (by omega)
                  refine vx_ret (W.widen hc1 hc2 ?_)
                  exact W.zret hx hb hret (by rw [hk9]; exact nar_byt k9) (fin y rfl) g8.2.2 hd hlocks
                · obtain ⟨v0, v1, v2, v3⟩ := v
                  have e0 := Nat.eq_of_beq_eq_true hrt
                  dsimp only at e0
                  subst e0
                  obtain ⟨y, rfl, hy⟩ := g4.1
                  refine vx_ret (W.widen hc1 hc2 ?_)
                  exact W.iret hx hb hret (fin y rfl) g8.2.2 hd hlocks
                · rw [Bool.and_eq_true, Bool.and_eq_true, decide_eq_true_eq, decide_eq_true_eq] at hrt
                  obtain ⟨v0, v1, v2, v3⟩ := v
                  have e0 := Nat.eq_of_beq_eq_true hrt.1
                  have e1 := hrt.2
                  dsimp only at e0
                  subst e0
                  obtain ⟨y, rfl, hy⟩ := g4.1
                  have u1 := eLo_ok g2 hy
                  have u2 := eHi_ok g2 hy
                  dsimp only at u1 u2
                  have hnar : narrow .boolean (.int y) = .int y := by
                    rcases (show y.toInt = 0 ∨ y.toInt = 1 by omega) with q9 | q9
                    · rw [show y = 0 from i32_of q9]; rfl
                    · rw [show y = 1 from i32_of q9]; rfl
                  refine vx_ret (W.widen hc1 hc2 ?_)
                  exact W.zret hx hb hret hnar (fin y rfl) g8.2.2 hd hlocks
                · cases hrt
              | [], g4 => exact g4.elim
              | _ :: _ :: _, g4 => exact g4.2.elim
          next => cases h
        · have hl := hlen (Or.inr (Or.inl rfl))
          subst hl
          split at h
          next =>
            cases hrt : decide (rt = none) with
            | false => rw [hrt] at h; cases h
            | true =>
              rw [hrt, cond_true] at h
              rw [decide_eq_true_eq] at hrt
              cases h
              intro ad ls lc vs ws H locs g1 g2 g3 g4 g5 g6 g7 g8 g9
              match vs, g4 with
              | [], _ =>
                refine vx_ret (W.widen hc1 hc2 ?_)
                exact W.vret hx hb (hret.trans hrt) (fun t ht hW => ⟨⟨none, _, rfl, hxo, rfl, ad, ws, g1, trivial, g2, g5, by rw [ht]; exact g6, va_K.moved hW.alike hK, g7⟩, g8.F ht⟩) g8.2.2 hd hlocks
              | _ :: _, g4 => exact g4.elim
          next => cases h
        · have hl := hlen (Or.inr (Or.inr rfl))
          subst hl
          split at h
          next v =>
            cases hrt : (rtRef rt && eIsR v) with
            | false => rw [hrt] at h; cases h
            | true =>
              rw [hrt, cond_true] at h
              rw [Bool.and_eq_true] at hrt
              cases h
              intro ad ls lc vs ws H locs g1 g2 g3 g4 g5 g6 g7 g8 g9
              match vs, g4 with
              | [u], g4 =>
                obtain ⟨q9, rfl⟩ := eIsR_ok hrt.2 g4.1
                have h1 := hrt.1
                unfold rtRef at h1
                have hcase : ∃ r, rt = some r ∧ ((∃ n, r = FieldType.object n) ∨ ∃ t, r = FieldType.array t) := by
                  split at h1
                  · exact ⟨_, rfl, Or.inl ⟨_, rfl⟩⟩
                  · exact ⟨_, rfl, Or.inr ⟨_, rfl⟩⟩
                  · cases h1
                obtain ⟨r, hr1, hr2⟩ := hcase
                refine vx_ret (W.widen hc1 hc2 ?_)
                exact W.aret hx hb (hret.trans hr1) hr2 (Or.inr ⟨_, rfl⟩) (fun t ht hW => ⟨⟨some (.ref q9), _, rfl, hxo, rfl, ad, ws, g1, g4.1, g2, g5, by rw [ht]; exact g6, va_K.moved hW.alike hK, g7⟩, g8.F ht⟩) g8.2.2 hd hlocks
              | [], g4 => exact g4.elim
              | _ :: _ :: _, g4 => exact g4.2.elim
          next => cases h
        · next ix =>
          cases hrt : (Nat.ble 1001 a1 && (Nat.ble (c9 + 1) mc && (Nat.ble (z9 + 6) ms && Nat.ble (eWords st) 8))) with
          | false => rw [hrt] at h; cases h
          | true =>
            rw [hrt, cond_true] at h
            simp only [Bool.and_eq_true] at hrt
            obtain ⟨r1, r2, r3, r4⟩ := hrt
            have r1 := Nat.le_of_ble_eq_true r1
            have r2 := Nat.le_of_ble_eq_true r2
            have r3 := Nat.le_of_ble_eq_true r3
            have r4 := Nat.le_of_ble_eq_true r4
            have hxe := Option.some.inj h
            rw [← hxe] at hxo
            obtain ⟨ik, is, ic, ix, text, Y0, names, bytes, d0, d3, dd, hstr, w1, w2, w3, w4, w5, w6, w7, w8, w9⟩ := hthr (Nat.ble_eq_true_of_le (by omega)) ix rfl
            obtain ⟨E, hE⟩ : ∃ E, a1 - 1000 = E + 1 := ⟨a1 - 1001, by omega⟩
            obtain ⟨z1, z2, z3, z4⟩ := hZ
            obtain ⟨sa, hsa, -⟩ := z3.1 _ hstr
            intro ad ls lc vs ws H locs g1 g2 g3 g4 g5 g6 g7 g8 g9
            have hat : ∀ w ∈ vy_at own ic (exN (a1 - 1000)) Y0 names ix bytes, w.before args s = true := fun w hw => by
              rcases w3 w hw with q9 | q9 | ⟨y9, q8, q9⟩
              · exact hts _ q9
              · rw [q9]
                exact va_Nw.use rfl (z4.2.1 _)
              · rw [q9]
                exact va_Nw.use rfl (z4.2.2.2.2.1 _ q8)
            have hlc : (vs.map fun v => v.category).sum + (13 * (names.length + 2) + 43) ≤ R.locals := by
              rw [gS_words g4]
              dsimp only
              omega
            have hxx : ∀ t : State, s.vm.Alike t.vm → H.size ≤ t.heap.size → (∀ q : Nat, q < H.size → t.heap[q]? = H[q]?) → eXc ρ sb D cl cA ad1 n1 (va_A W0 s.heap.size) outs (exN (a1 - 1000)) s t := fun t hal hsz hkp => by
              have hP9 : va_P D cl ws t.heap := g6.kept (fun k q9 hk => hkp _ ((g6 k q9 hk).lt))
              refine ⟨⟨E, _, hxo, hE, by rw [hE], rfl, ad, ws, g1, trivial, g2, g5, hP9, va_K.moved hal hK, g7⟩, Nat.le_trans g8.1 hsz, fun q9 h1 h2 => ?_⟩
              rw [hkp q9 (Nat.lt_of_lt_of_le h1 g8.1)]
              exact g8.2.1 q9 h1 h2
            rcases dd with ⟨d4, d6, d9⟩ | ⟨d4, d7, d10⟩
            · exact vy_throwS hx hb htr w8 hown w5 w9 w6 (hts _ w1) (hts _ w2) hsa hat w4 z1 z2 g8 (by rw [hml]; exact g9.1) d0 d3 d4 d6 d9 (fun x hx9 => (hnoex x hx9).elim) (by omega) hlc (by dsimp only; omega) (by dsimp only; omega) hlocks hxx g8.2.2 r2 r3
            · exact vy_throwSW hx hb htr w8 hown w5 w9 w6 (hts _ w1) (hts _ w2) hsa hat w4 z1 z2 g8 (by rw [hml]; exact g9.1) d0 d3 d4 d7 d10 (fun x hx9 => (hnoex x hx9).elim) (by omega) hlc (by dsimp only; omega) (by dsimp only; omega) hlocks hxx g8.2.2 r2 r3
        · cases h
end E9
