/-! ===== THE LAW, 4: what holds at its entry ===== -/
def memT (w : Cond) : Bool := lw_tbl.any (fun v => condEq v w)
theorem memT_in {w : Cond} (h : memT w = true) : w ∈ lw_tbl := by
  obtain ⟨v, h1, h2⟩ := List.any_eq_true.mp h
  have := condEq_eq h2
  subst this
  exact h1
def memG (w : Cond) : Bool := (flatC (Jvm.Cond.and given_1 narrow_1)).any (fun v => condEq v w)
theorem memG_in {w : Cond} (h : memG w = true) : w ∈ flatC (Jvm.Cond.and given_1 narrow_1) := by
  obtain ⟨v, h1, h2⟩ := List.any_eq_true.mp h
  have := condEq_eq h2
  subst this
  exact h1
set_option maxRecDepth 100000 in
theorem inst_all : (List.range 11).all (fun ci => CLs.any (fun z => Nat.beq z.2.2.2.2.2 ci)) = true := by decide +kernel
theorem inst_ok {ci : Nat} (h : ci < 11) : Jvm.Cond.instantiable (clF ci).1 (clF ci).2.2 ∈ GT := by
  obtain ⟨z, h1, h2⟩ := List.any_eq_true.mp (List.all_eq_true.mp inst_all ci (List.mem_range.mpr h))
  have h3 := List.all_eq_true.mp CL_all z h1
  rw [Nat.eq_of_beq_eq_true h2] at h3
  simp only [Bool.and_eq_true] at h3
  exact chk_in h3.2.2.1
set_option maxRecDepth 100000 in
theorem str_all : strs.all (fun q => memT (.stringRef q.1 q.2.1 q.2.2) && memG (.exactly (.string q.1 q.2.1) "java/lang/String")) = true := by decide +kernel
set_option maxRecDepth 100000 in
theorem z_all : (memT (.laysStatic Bundle.tN "UNASSIGNED_STACK" Bundle.steD) && (memT (.laysStatic Bundle.tN "SUPPRESSED_SENTINEL" Bundle.listD) && (memT (.initialized Bundle.tN) && (memG (.isRef (.static Bundle.tN "UNASSIGNED_STACK" Bundle.steD)) && memG (.isRef (.static Bundle.tN "SUPPRESSED_SENTINEL" Bundle.listD)))))) = true := by decide +kernel
set_option maxRecDepth 100000 in
theorem y_all : (eNest.all (fun q => memT (.methodLinkNest q.1 q.2.1 q.2.2.1 q.2.2.2)) && (memT (.castable (exN 1) (exN 1)) && (memT (.castable (exN 2) (exN 2)) && (memG (.not (.castable (exN 1) (exN 2))) && (memG (.not (.castable (exN 2) (exN 1))) && (eDecl.all (fun y => memT (.declares y)) && memT (.arrayOver (.object "java/lang/String")))))))) = true := by decide +kernel
theorem eZ_start {s : State} {b : Nat} (hts : ∀ w ∈ lw_tbl, w.before #[Value.ref b] s = true) (hgv : (Jvm.Cond.and given_1 narrow_1).before #[Value.ref b] s = true) : eZ strs (fun q : Nat => s.heap.size ≤ q) s s.heap := by
  have hg := flat_of_before _ hgv
  have hnA : ∀ a : Nat, a < s.heap.size → ¬ (fun q : Nat => s.heap.size ≤ q) a := fun a h => Nat.not_le.mpr h
  have hz := z_all
  have hy := y_all
  rw [Bool.and_eq_true, Bool.and_eq_true, Bool.and_eq_true, Bool.and_eq_true] at hz
  rw [Bool.and_eq_true, Bool.and_eq_true, Bool.and_eq_true, Bool.and_eq_true, Bool.and_eq_true, Bool.and_eq_true] at hy
  obtain ⟨z1, z2, z3, z4, z5⟩ := hz
  obtain ⟨y1, y2, y3, y4, y5, y6, y7⟩ := hy
  refine ⟨vx_Zqof (hts _ (memT_in z1)) (hts _ (memT_in z3)) (hg _ (memG_in z4)) hnA, vx_Zqof (hts _ (memT_in z2)) (hts _ (memT_in z3)) (hg _ (memG_in z5)) hnA, fun q hq => ?_, fun q hq => va_Nw.of rfl (hts _ (memT_in (List.all_eq_true.mp y1 q hq))), fun k => ?_, va_Nc.of (hg _ (memG_in y4)), va_Nc.of (hg _ (memG_in y5)), fun y hy => va_Nw.of rfl (hts _ (memT_in (List.all_eq_true.mp y6 y hy))), va_AO.of (hts _ (memT_in y7))⟩
  · have h := List.all_eq_true.mp str_all q hq
    rw [Bool.and_eq_true] at h
    obtain ⟨a, cQ, cell, kQ, ha, hQ, hcell, hkQ, hstat, hcls, -⟩ := Cond.exactly_spec (hg _ (memG_in h.2))
    exact ⟨a, vk_R.of (hts _ (memT_in h.1)) ha, hnA a (Array.getElem?_eq_some_iff.mp hcell).1, cell, hcell, hstat, by rw [hcls]; exact hQ⟩
  · have c2 : va_Nw (.castable (exN 2) (exN 2)) s := va_Nw.of rfl (hts _ (memT_in y3))
    match k with
    | 0 => exact c2
    | 1 => exact va_Nw.of rfl (hts _ (memT_in y2))
    | k + 2 => exact c2
theorem K_start {s : State} {b : Nat} (hts : ∀ w ∈ lw_tbl, w.before #[Value.ref b] s = true) : ∃ (D : va_G) (cA : Nat → ClassId), va_K D eCls (eTys cA) s := by
  have htG : ∀ w ∈ GT, w.before #[Value.ref b] s = true := fun w hw => hts w (GT_tbl w hw)
  have hk : ∀ k : Nat, ∃ (c : ClassId) (iS : Nat → Nat), ∀ q : vw_C, eCls[k]? = some q → u_Kn s q.1 q.2.1 q.2.2 c iS := fun k => by
    by_cases h : k < 11
    · obtain ⟨c, iS, hK⟩ := u_known htG (cl_ws h) (htG _ (inst_ok h))
      refine ⟨c, iS, fun q hq => ?_⟩
      rw [cl_at k h] at hq
      rw [← Option.some.inj hq]
      exact hK
    · refine ⟨0, fun _ => 0, fun q hq => ?_⟩
      have : k < eCls.length := (List.getElem?_eq_some_iff.mp hq).1
      exact absurd this h
  obtain ⟨r1, r2, r3, -⟩ := AR_facts
  obtain ⟨c0, k0, comp0, a1, a2, a3⟩ := Cond.arrayClass_spec (htG _ r1)
  obtain ⟨c1, k1, comp1, b1, b2, b3⟩ := Cond.arrayClass_spec (htG _ r2)
  obtain ⟨c2, k2, comp2, d1, d2, d3⟩ := Cond.arrayClass_spec (htG _ r3)
  refine ⟨(fun k => Classical.choose (hk k), fun k => Classical.choose (Classical.choose_spec (hk k))), fun k => if k = 0 then c0 else if k = 1 then c1 else c2, fun k q hq => Classical.choose_spec (Classical.choose_spec (hk k)) q hq, fun k q hq => ?_⟩
  match k, hq with
  | 0, hq => cases hq; exact ⟨fun n z => ⟨fun k h => (by cases h), k0, a2, comp0, a3⟩, a1⟩
  | 1, hq => cases hq; exact ⟨fun n z => ⟨fun k h => (by cases h), k1, b2, comp1, b3⟩, b1⟩
  | 2, hq => cases hq; exact ⟨fun n z => ⟨fun k h => (by cases h), k2, d2, comp2, d3⟩, d1⟩
  | k + 3, hq => simp at hq
section E23
variable {p : Program} {e : Env} {s : State} {m : MethodId} {below : List Frame} {meth : Method} {c : Code} {l : Launch} {b L : Nat} {xs : Nat → Int32}
abbrev eWL (p : Program) (l : Launch) (e : Env) (s : State) (m : MethodId) (below : List Frame) (meth : Method) (c : Code) (b : Nat) (xs : Nat → Int32) (D : va_G) (cA : Nat → ClassId) (S : eS) : Prop := eW p l e room_1 s m #[Value.ref b] below meth c (lw_Z below #[Value.ref b] s) D eCls cA (fun q : Nat => s.heap.size ≤ q) b (fun i => (xs i).toInt) (fun _ => 0) 0 7 S
abbrev eLL (p : Program) (l : Launch) (e : Env) (s : State) (m : MethodId) (below : List Frame) (meth : Method) (c : Code) (b : Nat) (xs : Nat → Int32) (D : va_G) (cA : Nat → ClassId) (r : Nat × eS) : Prop := eLf p l e room_1 s m #[Value.ref b] below meth c (lw_Z below #[Value.ref b] s) D eCls cA (fun q : Nat => s.heap.size ≤ q) b (fun i => (xs i).toInt) (fun _ => 0) 0 7 r
theorem law_leaf {D : va_G} {cA : Nat → ClassId} (C0 : lw_At p s m meth c b L xs) {o : Nat × eS} (h : lawEnd o = true) : eLL p l e s m below meth c b xs D cA o := by
  obtain ⟨hx, hb, hr, hml, hown, hts, hX, hbl, hlocks, hgv⟩ := C0
  obtain ⟨k, pc, lo, st, B, hp, c9, z9⟩ := o
  unfold lawEnd at h
  dsimp only at h
  rw [Bool.and_eq_true] at h
  obtain ⟨h0, h⟩ := h
  have e0 : k = 0 := Nat.eq_of_beq_eq_true h0
  subst e0
  split at h
  next q hq =>
    obtain ⟨hd, hlen, -, -⟩ := rowsB_ok zf_L rows_L pc q hq
    obtain ⟨i, len, a1, a2, z⟩ := q
    dsimp only at h hd hlen
    split at h
    · have hl : len = 1 := lenB_ret hlen (Or.inl rfl)
      subst hl
      split at h
      next v =>
        simp only [Bool.and_eq_true, decide_eq_true_eq] at h
        obtain ⟨v1, v2, v3, v4, v5⟩ := h
        have v4 := Nat.le_of_ble_eq_true v4
        have v5 := Nat.le_of_ble_eq_true v5
        intro ad ls lc vs ws H locs g1 g2 g3 g4 g5 g6 g7 g8 g9
        match vs, g4 with
        | [u], g4 =>
          obtain ⟨w0, w1, w2, w3⟩ := v
          have e1 := Nat.eq_of_beq_eq_true v1
          dsimp only at e1
          subst e1
          obtain ⟨y, rfl, hy⟩ := g4.1
          have u1 := eLo_ok g2 hy
          have u2 := eHi_ok g2 hy
          dsimp only at u1 u2
          have hy1 : y = 1 := i32_of (show y.toInt = 1 by omega)
          subst hy1
          refine va_forget (fun q hq => g8.2.2 q hq) (W.widen v4 v5 ?_)
          exact lw_ret hx hb hr hlocks hd
        | [], g4 => exact g4.elim
        | _ :: _ :: _, g4 => exact g4.2.elim
      next => cases h
    · cases h
  next => cases h
theorem law_step (hflags : l.flags = flags0) {D : va_G} {cA : Nat → ClassId} (hK : va_K D eCls (eTys cA) s) (C0 : lw_At p s m meth c b L xs) {mgF : Nat → Option eHt} {cuF : Nat → Option (Nat × List Nat × eHt)} {lo hi : Nat} (hL1 : lo ≤ L) (hL2 : L ≤ hi) (hL : L ≤ 6) (S : eS) (q : eQ) (rs : List (Nat × eS)) (hq : ft_L S.1 = some q) (hs : stp q = false) (hX : xL mgF cuF (some (lo, hi)) q S = some rs) (hr : ∀ r ∈ rs, eLL p l e s m below meth c b xs D cA r) : eWL p l e s m below meth c b xs D cA S := by
  obtain ⟨hx, hb, hret, hml, hown, hts, hX0, hbl, hlocks, hgv⟩ := C0
  have htr : l.stackTraces = false := by
    unfold Launch.stackTraces
    rw [hflags]
    decide
  have htG : ∀ w ∈ GT, w.before #[Value.ref b] s = true := fun w hw => hts w (GT_tbl w hw)
  have K : eK p m c s #[Value.ref b] code RL 7 GT D eCls cA (fun q : Nat => s.heap.size ≤ q) := ⟨hx, hb, hml, hown, htG, hK, fun _ h => h⟩
  obtain ⟨h1, h2, h3, -⟩ := rowsB_ok zf_L rows_L S.1 q hq
  have hsc : eSc s (fun q : Nat => s.heap.size ≤ q) b (fun i => (xs i).toInt) (some (lo, hi)) := ⟨L, xs, hX0, hbl, Nat.not_le.mpr hbl, hL1, hL2, by omega, fun _ _ => rfl⟩
  have hnat := natW
  refine ex_ok (d := 11) (own := RL) (cc := code) K (eZ_start hts hgv) hsc GT_good (Nat.le_refl _) (Nat.le_refl _) (Nat.le_of_ble_eq_true rfl) (Nat.le_of_ble_eq_true rfl) (Nat.le_trans hnat (Nat.le_of_ble_eq_true rfl)) (callL_ok htr) h1 (h3 hs meth (fun z => by cases z)) (fun _ _ q => by cases q) ?_ hX hr
  rcases lenB_ok h2 with q9 | q9
  · exact q9
  · exfalso
    unfold stp at hs
    rcases q9 with q9 | q9 | q9 <;> rw [q9] at hs <;> cases hs
theorem law_run (hflags : l.flags = flags0) {D : va_G} {cA : Nat → ClassId} (hK : va_K D eCls (eTys cA) s) (C0 : lw_At p s m meth c b L xs) {mgF : Nat → Option eHt} {cuF : Nat → Option (Nat × List Nat × eHt)} {lo hi : Nat} (hL1 : lo ≤ L) (hL2 : L ≤ hi) (hL : L ≤ 6) {S : eS} (h : lawRun mgF cuF (some (lo, hi)) S = true) : eWL p l e s m below meth c b xs D cA S := by
  unfold lawRun at h
  split at h
  next os hos => exact (run_ok (cut := 99999) (law_step hflags hK C0 hL1 hL2 hL) 40000 _ _ os hos (fun o ho => law_leaf C0 (List.all_eq_true.mp h o ho))).1 S List.mem_cons_self
  next => cases h
theorem law_all (hflags : l.flags = flags0) {D : va_G} {cA : Nat → ClassId} (hK : va_K D eCls (eTys cA) s) (C0 : lw_At p s m meth c b L xs) (hL : L = 6) (hpre : lawPre = true) (htab : lawTab = true) (hc : ∀ t ∈ TGs, eWL p l e s m below meth c b xs D cA (SL t [])) : eWL p l e s m below meth c b xs D cA S0 := by
  have h40 : eWL p l e s m below meth c b xs D cA (SL 40 [(0, 0, 0, 63)]) := by
    unfold lawTab at htab
    split at htab
    next q hq =>
      split at htab
      next rs hrs =>
        rw [Bool.and_eq_true] at htab
        have hs : stp q = false := by
          cases hz : stp q with
          | false => rfl
          | true => rw [hz] at htab; cases htab.1
        refine law_step hflags hK C0 (by omega) (by omega) (by omega) _ q rs hq hs hrs (fun r hr => ?_)
        have h1 := List.all_eq_true.mp htab.2 r hr
        rw [Bool.and_eq_true] at h1
        obtain ⟨t, ht1, ht2⟩ := List.any_eq_true.mp h1.2
        obtain ⟨k, S⟩ := r
        have e0 := Nat.eq_of_beq_eq_true h1.1
        dsimp only at e0
        subst e0
        exact sbS_ok ht2 (hc t ht1)
      next => cases htab
    next => cases htab
  unfold lawPre at hpre
  split at hpre
  next os hos =>
    refine (run_ok (cut := 40) (law_step hflags hK C0 (by omega) (by omega) (by omega)) 40000 _ _ os hos (fun o ho => ?_)).1 S0 List.mem_cons_self
    have h1 := List.all_eq_true.mp hpre o ho
    rw [Bool.and_eq_true] at h1
    obtain ⟨k, S⟩ := o
    have e0 := Nat.eq_of_beq_eq_true h1.1
    dsimp only at e0
    subst e0
    exact sbS_ok h1.2 h40
  next => cases hpre
/-- from the entry -/
theorem law_entry {D : va_G} {cA : Nat → ClassId} (h : eWL p l e s m below meth c b xs D cA S0) : W p l e room_1 s m #[Value.ref b] below meth c s.heap [] 0 0 (lw_Z below #[Value.ref b] s) (entryFrame m ([Value.ref b] : List Value).toArray 7) := by
  have hl := lv_entry ([.ref b]) (n := 7) (Nat.le_of_ble_eq_true rfl)
  rw [lg_entry_eq]
  refine h (fun _ => 0) _ (lv_args 0 [.ref b]) [] [] s.heap [] ⟨Nat.le_refl _, fun _ _ => rfl, fun _ => rfl⟩ ?_ ⟨⟨rfl, rfl⟩, trivial⟩ trivial ⟨rfl, fun k c hk => by simp [S0] at hk⟩ (fun k q hk => by simp at hk) ⟨fun i j p q hi => by simp at hi, fun k q hk => by simp at hk⟩ va_S.rf hl
  intro i q hi
  have lo := i32_lo (xs i)
  have hi2 := i32_hi (xs i)
  have hq : q = (-2147483648, 2147483647) := by
    match i, hi with
    | 0, hi => exact (Option.some.inj hi).symm
    | 1, hi => exact (Option.some.inj hi).symm
    | 2, hi => exact (Option.some.inj hi).symm
    | 3, hi => exact (Option.some.inj hi).symm
    | 4, hi => exact (Option.some.inj hi).symm
    | 5, hi => exact (Option.some.inj hi).symm
    | i + 6, hi => simp [S0, B0] at hi
  rw [hq]
  exact ⟨lo, hi2⟩
end E23
