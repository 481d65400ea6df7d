/-! ===== THE LAW, 2: the model's constructor, whose first field is a row of texts ===== -/
section E21
variable {p : Program} {l : Launch} {e : Env} {R : Room} {s : State} {m : MethodId} {args : Array Value} {below : List Frame} {meth : Method} {c : Code} {Q : State → Prop}
variable {D : va_G} {cl : List vw_C} {cA : Nat → ClassId} {A : Nat → Prop} {sb : Nat} {ρ : Nat → Int} {ad0 : Nat → Nat} {h0 nL : Nat} {cc : ByteArray} {own : String} {Ts : List Cond}
abbrev ar9 (cQ : ClassId) (f : Nat → Option Nat) : va_E := .inl (cQ, 7, .inr (.inr (.inr (.inr f))))
theorem set_last {α : Type} (ws : List α) (x y : α) : (ws ++ [x]).set ws.length y = ws ++ [y] := by
  rw [List.set_append_right _ _ (Nat.le_refl _), Nat.sub_self]
  rfl
theorem get_last {α : Type} (ws : List α) (x : α) : (ws ++ [x])[ws.length]? = some x := by
  rw [List.getElem?_append_right (Nat.le_refl _), Nat.sub_self]
  rfl
/-- one text into the row: dup, the place, the text, aastore -/
theorem mdl_one (hx : p.tables.exec = Jvm.exec) (hb : c.code = cc) (hown : s.vm.findClass own = some m.cls) {tys : List (ClassId × FieldType)} (hK : va_K D cl tys s) {t0 : Nat} {cQ : ClassId} (ht : tys[t0]? = some (cQ, .object "java/lang/String")) {ix : Nat} {tx : String} (hZ : eSt (own, ix, tx) A s s.heap) {pc pl : Nat} {i : Int32} {ls : Array Slot} {k z : Nat}
    (hd0 : decode cc pc = .ok (.dup, 1)) (hpush : ∀ (H : Heap) (locs : List Loc) (vs : List Value), W p l e R s m args below meth c H locs k z Q (F0 m (pc + 1 + pl) ls (.int i :: vs)) → W p l e R s m args below meth c H locs k z Q (F0 m (pc + 1) ls vs)) (hdl : decode cc (pc + 1 + pl) = .ok (.ldc ix, 2)) (hds : decode cc (pc + 1 + pl + 2) = .ok (.aastore, 1)) (hin : vp_in i 7)
    {ws : va_W} {q : Nat} {vs : List Value} (kk : ∀ (f : Nat → Option Nat) (H : Heap) (locs : List Loc), va_P D cl (ws ++ [(q, ar9 cQ f)]) H → va_D A (ws ++ [(q, ar9 cQ f)]) → va_S A s.heap H locs → W p l e R s m args below meth c H locs k z Q (F0 m (pc + 1 + pl + 2 + 1) ls (.ref q :: vs))) :
    ∀ (f : Nat → Option Nat) (H : Heap) (locs : List Loc), va_P D cl (ws ++ [(q, ar9 cQ f)]) H → va_D A (ws ++ [(q, ar9 cQ f)]) → va_S A s.heap H locs → W p l e R s m args below meth c H locs k z Q (F0 m pc ls (.ref q :: vs)) := by
  intro f H locs hP hD hS
  obtain ⟨sa, h1, h2, ce, h3, h4, h5⟩ := hZ
  refine lv_dup hx hb hd0 rfl ?_
  refine hpush H locs _ ?_
  refine va_ldcS hx hb hown h1 hdl ?_
  refine vb_astq hx hb hK hP hD hS ws.length t0 (E := "java/lang/String") (C := "java/lang/String") (get_last ws _) ht ⟨ce, by rw [hS.2.1 sa (Array.getElem?_eq_some_iff.mp h3).1 h2]; exact h3, h4, h5⟩ vb_asgS hin hds (fun H1 locs1 a1 a2 a3 => ?_)
  rw [set_last] at a1 a2
  exact kk _ H1 locs1 a1 a2 a3
/-- from the row's making to its end -/
def x_mdl (cm sm : Nat) (S : eS) : Option eS := match S.2.2.1 with
  | n :: r => bif Nat.beq S.1 7 && (eEq n (eI 7) && (Nat.ble (S.2.2.2.2.2.1 + 1) cm && (Nat.ble (S.2.2.2.2.2.2 + 7) sm && eScoped S.2.1 r S.2.2.2.2.1))) then
      some (46, S.2.1, (2, S.2.2.2.2.1.length, 0, 0) :: r, S.2.2.2.1, S.2.2.2.2.1 ++ [.inr (9, 7, (3, 0, 0, 0), [])], S.2.2.2.2.2.1 + 1, S.2.2.2.2.2.2 + 7) else none
  | _ => none
set_option maxRecDepth 100000 in
theorem cl_str : memW (.classLink RX11 9 "java/lang/String") = true := by decide +kernel
theorem k_mdl (K : eK p m c s args cX11_init RX11 nL GT D cl cA A) (hZ : eZ strs A s s.heap) {S S' : eS} {cm sm : Nat} (hcm : cm ≤ R.cells) (hsm : sm ≤ R.slots) (h : x_mdl cm sm S = some S') (hw : eW p l e R s m args below meth c Q D cl cA A sb ρ ad0 h0 nL S') : eW p l e R s m args below meth c Q D cl cA A sb ρ ad0 h0 nL S := by
  obtain ⟨hx, hb, hml, hown, hts, hK, hA⟩ := K
  obtain ⟨pc, lo, st, B, hp, c9, z9⟩ := S
  unfold x_mdl at h
  split at h
  next n r hst =>
    dsimp only at hst
    subst hst
    dsimp only at h
    cases hb9 : (Nat.beq pc 7 && (eEq n (eI 7) && (Nat.ble (c9 + 1) cm && (Nat.ble (z9 + 7) sm && eScoped lo r hp)))) with
    | false => rw [hb9] at h; cases h
    | true =>
      rw [hb9, cond_true] at h
      cases h
      simp only [Bool.and_eq_true] at hb9
      obtain ⟨b1, b2, b5, b6, b7⟩ := hb9
      have e1 := Nat.eq_of_beq_eq_true b1
      have e2 := eEq_eq b2
      subst e1 e2
      have b5 := Nat.le_of_ble_eq_true b5
      have b6 := Nat.le_of_ble_eq_true b6
      unfold eScoped at b7
      rw [Bool.and_eq_true, Bool.and_eq_true] at b7
      intro ad ls lc vs ws H locs g1 g2 g3 g4 g5 g6 g7 g8 g9
      match vs, g4 with
      | w :: vs, g4 =>
        obtain ⟨⟨x, rfl, -, u1, u2⟩, g4⟩ := g4
        dsimp only at u1 u2
        have hx7 : x = 7 := i32_of (show x.toInt = 7 by omega)
        subst hx7
        have hstr : ∀ (ix : Nat) (tx : String), (RX11, ix, tx) ∈ strs → eSt (RX11, ix, tx) A s s.heap := fun ix tx hin => hZ.2.2.1 _ hin
        refine va_newq (N' := 7) hx hb hown (hts _ (memW_in cl_str)) hZ.2.2.2.2.2.2.2.2 hK g6 g7 g8 hA (by decide) (by decide) (by decide) (Nat.le_trans b5 hcm) (Nat.le_trans b6 hsm) (show decode cX11_init 7 = .ok (.anewarray 9, 3) by decide +kernel) (fun q cQ H1 c1 c2 c3 c4 => ?_)
        have hno : ∀ k, k < hp.length → (fun k => if k = hp.length then q else ad k) k = ad k := fun k hk => if_neg (Nat.ne_of_lt hk)
        have last : ∀ (f : Nat → Option Nat) (H : Heap) (locs : List Loc), va_P D cl (ws ++ [(q, ar9 cQ f)]) H → va_D A (ws ++ [(q, ar9 cQ f)]) → va_S A s.heap H locs → W p l e R s m args below meth c H locs (c9 + 1) (z9 + 7) Q (F0 m 46 ls (.ref q :: vs)) := fun f H locs hP hD hS => by
          refine hw (fun k => if k = hp.length then q else ad k) ls lc (.ref q :: vs) _ H locs ?_ g2 (gL_mono hno b7.1 g3) ⟨?_, gS_mono hno b7.2.1 g4⟩ (gH_push b7.2.2 g5 trivial) hP hD hS g9
          · dsimp only
            rw [List.length_append]
            exact eAd_push g1
          · show Value.ref q = .ref (if hp.length = hp.length then q else ad hp.length)
            rw [if_pos rfl]
        have s6 := mdl_one (pc := 40) (pl := 2) (i := (Int8.ofInt 6).toInt32) hx hb hown c1 (t0 := 3) rfl (hstr 23 "day" (by decide +kernel)) (by decide +kernel) (fun H locs vs k => lv_bipush hx hb (n := 6) (by decide +kernel) rfl k) (by decide +kernel) (by decide +kernel) (by unfold vp_in; decide) last
        have s5 := mdl_one (pc := 35) (pl := 1) (i := Int32.ofInt 5) hx hb hown c1 (t0 := 3) rfl (hstr 21 "free" (by decide +kernel)) (by decide +kernel) (fun H locs vs k => lv_iconst hx hb (n := 5) (by decide +kernel) rfl k) (by decide +kernel) (by decide +kernel) (by unfold vp_in; decide) s6
        have s4 := mdl_one (pc := 30) (pl := 1) (i := Int32.ofInt 4) hx hb hown c1 (t0 := 3) rfl (hstr 19 "beside" (by decide +kernel)) (by decide +kernel) (fun H locs vs k => lv_iconst hx hb (n := 4) (by decide +kernel) rfl k) (by decide +kernel) (by decide +kernel) (by unfold vp_in; decide) s5
        have s3 := mdl_one (pc := 25) (pl := 1) (i := Int32.ofInt 3) hx hb hown c1 (t0 := 3) rfl (hstr 17 "gone" (by decide +kernel)) (by decide +kernel) (fun H locs vs k => lv_iconst hx hb (n := 3) (by decide +kernel) rfl k) (by decide +kernel) (by decide +kernel) (by unfold vp_in; decide) s4
        have s2 := mdl_one (pc := 20) (pl := 1) (i := Int32.ofInt 2) hx hb hown c1 (t0 := 3) rfl (hstr 15 "iron" (by decide +kernel)) (by decide +kernel) (fun H locs vs k => lv_iconst hx hb (n := 2) (by decide +kernel) rfl k) (by decide +kernel) (by decide +kernel) (by unfold vp_in; decide) s3
        have s1 := mdl_one (pc := 15) (pl := 1) (i := Int32.ofInt 1) hx hb hown c1 (t0 := 3) rfl (hstr 13 "pots" (by decide +kernel)) (by decide +kernel) (fun H locs vs k => lv_iconst hx hb (n := 1) (by decide +kernel) rfl k) (by decide +kernel) (by decide +kernel) (by unfold vp_in; decide) s2
        have s0 := mdl_one (pc := 10) (pl := 1) (i := Int32.ofInt 0) hx hb hown c1 (t0 := 3) rfl (hstr 11 "times" (by decide +kernel)) (by decide +kernel) (fun H locs vs k => lv_iconst hx hb (n := 0) (by decide +kernel) rfl k) (by decide +kernel) (by decide +kernel) (by unfold vp_in; decide) s1
        exact s0 _ H1 locs c2 c3 c4
      | [], g4 => exact g4.elim
  next => cases h
end E21
section E21A
variable {l : Launch} {D : va_G} {cA : Nat → ClassId} {sb : Nat} {ρ : Nat → Int} {cal : eCal} {d : Nat}
def xM (cal : eCal) : eQ → eS → eR := ex cal mtF npF ciF dfF (mtF 107).2.2.2.1 (mtF 107).2.2.2.2.2.1 (mtF 107).2.2.2.2.2.2 none (fun _ _ => none)
def mdlR (cal : eCal) (n : Nat) (as : List eV) (B : eB) (hp : eH) : Option (List eO) := bif Nat.ble (eWords as) (mtF 107).2.2.2.1 then (match run (ftF 107) 7 (xM cal) n [(0, eArgs 0 as, [], B, hp, 0, 0)] [] with
    | some [(0, S7)] => (match x_mdl (mtF 107).2.2.2.2.2.1 (mtF 107).2.2.2.2.2.2 S7 with
      | some S9 => (match run (ftF 107) 99999 (xM cal) n [S9] [] with
        | some os => ends (ftF 107) (mtF 107).2.2.2.2.1 (mtF 107).2.2.2.2.2.1 (mtF 107).2.2.2.2.2.2 os
        | none => none)
      | none => none)
    | _ => none) else none
theorem eCM_mdl (htr : l.stackTraces = false)
    (hcal : ∀ M as B hp outs, cal M as B hp = some outs → eCM l GT strs ρ sb D eCls cA d (mtF M) as B hp outs)
    {as : List eV} {B : eB} {hp : eH} {n : Nat} {outs : List eO} (h : mdlR cal n as B hp = some outs) : eCM l GT strs ρ sb D eCls cA (d + 1) (mtF 107) as B hp outs := by
  have hm := mOk_of (M := 107) (by decide) (rows_all 107 (by decide))
  have hy := (eMt_of (M := 107) (by decide)).1
  have hcc : (mtF 107).2.2.1 = cX11_init := rfl
  have hcn : (mtF 107).1.cls = RX11 := rfl
  unfold mdlR xM at h
  generalize hgy : mtF 107 = y at *
  generalize ftF 107 = ft at *
  cases hw : Nat.ble (eWords as) y.2.2.2.1 with
  | false => rw [hw] at h; cases h
  | true =>
    rw [hw, cond_true] at h
    split at h
    next S7 hrun1 =>
      split at h
      next S9 hS9 =>
        split at h
        next os hrun2 =>
          intro ad vs ws sz g2 ga g5
          refine vx_ofW (cc := y.2.2.1) (maxL := y.2.2.2.1) (ret := y.2.2.2.2.1) hm.1 (by rw [hy]) ?_
          intro p e s m args below meth c s₁ Bd hml hnoex hv
          obtain ⟨rfl, hsz, hP, hK, hD0, hZ⟩ := hv
          subst hsz
          have hD := hD0.self (sz := s.heap.size)
          have hts := atoms_spec (ws := y.2.1 :: GT) Bd.pre
          have hown : s.vm.findClass y.1.cls = some m.cls := findClass_of_methodNamed Bd.named
          have hname : meth.name = y.1.name := (name_of_methodNamed Bd.named Bd.method).1
          have hA : ∀ q, s.heap.size ≤ q → va_A ws s.heap.size q := fun q h => Or.inr h
          have hts' : ∀ w ∈ GT, w.before vs.toArray s = true := fun w hw => hts w (List.mem_cons_of_mem _ hw)
          have K : eK p m c s vs.toArray y.2.2.1 y.1.cls y.2.2.2.1 GT D eCls cA (va_A ws s.heap.size) := ⟨Bd.exec, Bd.bytes, hml, hown, hts', hK, hA⟩
          have hRf : (headSpec (y.2.1 :: GT) (rmD (d + 1) y.2.2.2.2.2.1 y.2.2.2.2.2.2)).room.frames = d + 9 := by show d + 1 + 8 = d + 9; omega
          have hRl : (headSpec (y.2.1 :: GT) (rmD (d + 1) y.2.2.2.2.2.1 y.2.2.2.2.2.2)).room.locals = 64 * d + 1064 := by show 64 * (d + 1) + 1000 = 64 * d + 1064; omega
          have hnat := natW
          have hX : ∀ (S : eS) (q : eQ) (rs : List (Nat × eS)), ft S.1 = some q → stp q = false → ex cal mtF npF ciF dfF y.2.2.2.1 y.2.2.2.2.2.1 y.2.2.2.2.2.2 none (fun _ _ => none) q S = some rs → (∀ r ∈ rs, eLf p l e (headSpec (y.2.1 :: GT) (rmD (d + 1) y.2.2.2.2.2.1 y.2.2.2.2.2.2)).room s m vs.toArray below meth c (vx_MQ below (eQc ρ sb D eCls cA ad hp.length (va_A ws s.heap.size) outs) (eXc ρ sb D eCls cA ad hp.length (va_A ws s.heap.size) outs) vs.toArray s y.2.2.2.2.2.1 y.2.2.2.2.2.2 (va_A ws s.heap.size)) D eCls cA (va_A ws s.heap.size) sb ρ ad hp.length y.2.2.2.1 r) → eW p l e (headSpec (y.2.1 :: GT) (rmD (d + 1) y.2.2.2.2.2.1 y.2.2.2.2.2.2)).room s m vs.toArray below meth c (vx_MQ below (eQc ρ sb D eCls cA ad hp.length (va_A ws s.heap.size) outs) (eXc ρ sb D eCls cA ad hp.length (va_A ws s.heap.size) outs) vs.toArray s y.2.2.2.2.2.1 y.2.2.2.2.2.2 (va_A ws s.heap.size)) D eCls cA (va_A ws s.heap.size) sb ρ ad hp.length y.2.2.2.1 S := fun S q rs hq hs hX hr => by
            obtain ⟨h1, h2, h3, h4⟩ := hm.2 S.1 q hq
            refine ex_ok (d := d) (sc := none) K hZ trivial GT_good (Nat.le_refl _) (Nat.le_refl _) (by rw [hRf]; exact Nat.le_refl _) (by rw [hRl]; exact Nat.le_refl _) (by rw [hRl]; omega) hcal h1 (h3 hs meth hname) (fun _ _ q => by cases q) ?_ hX hr
            rcases lenB_ok h2 with q9 | q9
            · exact q9
            · exfalso
              unfold stp at hs
              rcases q9 with q9 | q9 | q9 <;> rw [q9] at hs <;> cases hs
          have h9 := (run_ok (cut := 99999) hX n _ _ os hrun2 (fun o ho => by
            obtain ⟨x, hx1, hx2⟩ := ends_in h o ho
            exact leaf_ok (own := y.1.cls) Bd.exec Bd.bytes hml hown hts' hK hZ htr Bd.notSynchronized hnoex hA Bd.returns (Nat.le_refl _) (Nat.le_refl _) (by rw [hRf]; omega) (by rw [hRl]; omega) (fun pc q hq => by
              obtain ⟨h1, h2, h3, h4⟩ := hm.2 pc q hq
              exact ⟨h1, fun hi => lenB_ret h2 hi, h4⟩) hx1 hx2)).1 S9 List.mem_cons_self
          have K' := K
          rw [hcc, hcn] at K'
          have h7 := k_mdl K' hZ (Nat.le_refl _) (Nat.le_refl _) hS9 h9
          have hent := (run_ok (cut := 7) hX n _ _ _ hrun1 (fun o ho => by
            rw [List.mem_singleton.mp ho]
            exact h7)).1 _ List.mem_cons_self
          rw [lg_entry_eq]
          exact hent ad _ (lv_args 0 vs) [] ws s.heap [] ⟨Nat.le_refl _, fun _ _ => rfl, fun _ => rfl⟩ g2 (gL_args 0 ga) trivial g5 hP hD va_S.rf (lv_entry vs (by rw [sl_len, gS_words ga]; exact Nat.le_of_ble_eq_true hw))
        next => cases h
      next => cases h
    next => cases h
/-- what the law may call -/
def callL (mgF : Nat → Option eHt) (cuF : Nat → Option (Nat × List Nat × eHt)) (n d : Nat) : eCal := fun M as B hp =>
  bif Nat.beq M 107 then mdlR (callD mUF mtF npF ciF dfF ftF mgF cuF n d) n as B hp else (bif Nat.blt M 185 then callD mUF mtF npF ciF dfF ftF mgF cuF n (d + 1) M as B hp else (bif Nat.blt M 213 then hlpR (callD mUF mtF npF ciF dfF ftF mgF cuF n d) n M as B hp else none))
theorem callL_ok (htr : l.stackTraces = false) {mgF : Nat → Option eHt} {cuF : Nat → Option (Nat × List Nat × eHt)} {n : Nat} (M : Nat) (as : List eV) (B : eB) (hp : eH) (outs : List eO) (h : callL mgF cuF n d M as B hp = some outs) : eCM l GT strs ρ sb D eCls cA (d + 1) (mtF M) as B hp outs := by
  have hD : ∀ (d M : Nat) (as : List eV) (B : eB) (hp : eH) (outs : List eO), callD mUF mtF npF ciF dfF ftF mgF cuF n d M as B hp = some outs → eCM l GT strs ρ sb D eCls cA d (mtF M) as B hp outs :=
    callD_ok htr GT_good (fun M hM => ⟨(eMt_of (blt_lt hM)).1, mOk_of (Nat.lt_trans (blt_lt hM) (by decide)) (rows_all M (Nat.lt_trans (blt_lt hM) (by decide)))⟩)
  unfold callL at h
  cases h1 : Nat.beq M 107 with
  | true =>
    rw [h1, cond_true] at h
    rw [Nat.eq_of_beq_eq_true h1]
    exact eCM_mdl htr (hD d) h
  | false =>
    rw [h1, cond_false] at h
    cases h2 : Nat.blt M 185 with
    | true =>
      rw [h2, cond_true] at h
      exact hD (d + 1) M as B hp outs h
    | false =>
      rw [h2, cond_false] at h
      cases h3 : Nat.blt M 213 with
      | false => rw [h3] at h; cases h
      | true =>
        rw [h3, cond_true] at h
        have h4 : 185 ≤ M := Nat.not_lt.mp (fun z => by rw [lt_blt z] at h2; cases h2)
        exact eCM_ofH h4 (blt_lt h3) (hD d) h
end E21A
