/-! ===== THE LAW, 9: the classes; the model's constructor, whose first field is a row of texts ===== -/
set_option maxRecDepth 100000 in
theorem inst_all : (List.range 11).all (fun ci => CLs.any (fun z => Nat.beq z.2.2.2.2.2 ci)) = true := by decide +kernel
theorem inst_ok {ci : Nat} (h : ci < 11) : Jvm.Cond.instantiable (clF ci).1 (clF ci).2.2 ∈ GT := by
  obtain ⟨z, h1, h2⟩ := List.any_eq_true.mp (List.all_eq_true.mp inst_all ci (List.mem_range.mpr h))
  have h3 := List.all_eq_true.mp CL_all z h1
  rw [Nat.eq_of_beq_eq_true h2] at h3
  simp only [Bool.and_eq_true] at h3
  exact chk_in h3.2.2.1
theorem K_start {s : State} {b : Nat} (hts : ∀ w ∈ lw_tbl, w.before #[Value.ref b] s = true) : ∃ (D : va_G) (cA : Nat → ClassId), va_K D eCls (eTys cA) s := by
  have htG : ∀ w ∈ GT, w.before #[Value.ref b] s = true := fun w hw => hts w (GT_tbl w hw)
  have hk : ∀ k : Nat, ∃ (c : ClassId) (iS : Nat → Nat), ∀ q : vw_C, eCls[k]? = some q → u_Kn s q.1 q.2.1 q.2.2 c iS := fun k => by
    by_cases h : k < 11
    · obtain ⟨c, iS, hK⟩ := u_known htG (cl_ws h) (htG _ (inst_ok h))
      refine ⟨c, iS, fun q hq => ?_⟩
      rw [cl_at k h] at hq
      rw [← Option.some.inj hq]
      exact hK
    · refine ⟨0, fun _ => 0, fun q hq => ?_⟩
      have : k < eCls.length := (List.getElem?_eq_some_iff.mp hq).1
      exact absurd this h
  obtain ⟨r1, r2, r3, -⟩ := AR_facts
  obtain ⟨c0, k0, comp0, a1, a2, a3⟩ := Cond.arrayClass_spec (htG _ r1)
  obtain ⟨c1, k1, comp1, b1, b2, b3⟩ := Cond.arrayClass_spec (htG _ r2)
  obtain ⟨c2, k2, comp2, d1, d2, d3⟩ := Cond.arrayClass_spec (htG _ r3)
  refine ⟨(fun k => Classical.choose (hk k), fun k => Classical.choose (Classical.choose_spec (hk k))), fun k => if k = 0 then c0 else if k = 1 then c1 else c2, fun k q hq => Classical.choose_spec (Classical.choose_spec (hk k)) q hq, fun k q hq => ?_⟩
  match k, hq with
  | 0, hq => cases hq; exact ⟨fun n z => ⟨fun k h => (by cases h), k0, a2, comp0, a3⟩, a1⟩
  | 1, hq => cases hq; exact ⟨fun n z => ⟨fun k h => (by cases h), k1, b2, comp1, b3⟩, b1⟩
  | 2, hq => cases hq; exact ⟨fun n z => ⟨fun k h => (by cases h), k2, d2, comp2, d3⟩, d1⟩
  | k + 3, hq => simp at hq
abbrev ar9 (cQ : ClassId) (f : Nat → Option Nat) : va_E := .inl (cQ, 7, .inr (.inr (.inr (.inr f))))
/-- the row of texts, as far as it is filled -/
def mF (g : Nat → Nat) : Nat → Nat → Option Nat
  | 0 => fun _ => none
  | k + 1 => va_up (mF g k) k (some (g k))
theorem mF_at (g : Nat → Nat) : ∀ j, j < 7 → mF g 7 j = some (g j) := fun j hj => by
  match j, hj with
  | 0, _ => rfl
  | 1, _ => rfl
  | 2, _ => rfl
  | 3, _ => rfl
  | 4, _ => rfl
  | 5, _ => rfl
  | 6, _ => rfl
  | j + 7, h => omega
/-- where the texts of that row stand -/
def sTx (sb : eSB) (k : Nat) : Nat := sb.1 (2 * (15 + k) + 1)
def nmSt : String := "[" ++ (FieldType.object "java/lang/String").toString
theorem strArr {s : State} (h : va_AO "java/lang/String" s) : ∃ cA : ClassId, ArrOfT s cA (.object "java/lang/String") ∧ s.vm.findClass nmSt = some cA := by
  obtain ⟨comp, c, k, h1, h2, h3, h4, h5⟩ := Cond.arrayOver_spec h
  exact ⟨c, fun N z => ⟨(fun k h => by cases h), k, h3, comp, h4⟩, h5⟩
section E41
variable {p : Program} {l : Launch} {e : Env} {R : Room} {s : State} {m : MethodId} {args : Array Value} {below : List Frame} {meth : Method} {c : Code} {Q : State → Prop}
variable {D : va_G} {cl : List vw_C} {cA : Nat → ClassId} {A : Nat → Prop} {sb : eSB} {ρ : Nat → Int} {ad0 : Nat → Nat} {h0 nL : Nat} {cc : ByteArray} {own : String} {Ts : List Cond}
theorem set_last {α : Type} (ws : List α) (x y : α) : (ws ++ [x]).set ws.length y = ws ++ [y] := by
  rw [List.set_append_right _ _ (Nat.le_refl _), Nat.sub_self]
  rfl
theorem get_last {α : Type} (ws : List α) (x : α) : (ws ++ [x])[ws.length]? = some x := by
  rw [List.getElem?_append_right (Nat.le_refl _), Nat.sub_self]
  rfl
/-- one text into the row: dup, the place, the text, aastore -/
theorem mdl_one (hx : p.tables.exec = Jvm.exec) (hb : c.code = cc) (hown : s.vm.findClass own = some m.cls) {tys : List (ClassId × FieldType)} (hK : va_K D cl tys s) {t0 : Nat} {cQ : ClassId} (ht : tys[t0]? = some (cQ, .object "java/lang/String")) {ix a : Nat} {tx : String} (hR : vk_R own ix tx a s) (hO : va_O "java/lang/String" a A s s.heap) {pc pl : Nat} {i : Int32} {j : Nat} (hj : i.toNatClampNeg = j) {ls : Array Slot} {k z : Nat}
    (hd0 : decode cc pc = .ok (.dup, 1)) (hpush : ∀ (H : Heap) (locs : List Loc) (vs : List Value), W p l e R s m args below meth c H locs k z Q (F0 m (pc + 1 + pl) ls (.int i :: vs)) → W p l e R s m args below meth c H locs k z Q (F0 m (pc + 1) ls vs)) (hdl : decode cc (pc + 1 + pl) = .ok (.ldc ix, 2)) (hds : decode cc (pc + 1 + pl + 2) = .ok (.aastore, 1)) (hin : vp_in i 7)
    {ws : va_W} {q : Nat} {vs : List Value} {f : Nat → Option Nat} (kk : ∀ (H : Heap) (locs : List Loc), va_P D cl (ws ++ [(q, ar9 cQ (va_up f j (some a)))]) H → va_D A (ws ++ [(q, ar9 cQ (va_up f j (some a)))]) → va_S A s.heap H locs → W p l e R s m args below meth c H locs k z Q (F0 m (pc + 1 + pl + 2 + 1) ls (.ref q :: vs))) :
    ∀ (H : Heap) (locs : List Loc), va_P D cl (ws ++ [(q, ar9 cQ f)]) H → va_D A (ws ++ [(q, ar9 cQ f)]) → va_S A s.heap H locs → W p l e R s m args below meth c H locs k z Q (F0 m pc ls (.ref q :: vs)) := by
  intro H locs hP hD hS
  subst hj
  refine lv_dup hx hb hd0 rfl ?_
  refine hpush H locs _ ?_
  refine va_ldcS hx hb hown hR hdl ?_
  have hrec : ∃ cellV : Cell, H[a]? = some cellV ∧ cellV.vm.isStatics = false ∧ s.vm.findClass "java/lang/String" = some cellV.cls := by
    obtain ⟨cell, h1, h2, h3, -⟩ := hO.kept hS.2.1
    exact ⟨cell, h1, h2, h3⟩
  refine vb_astq hx hb hK hP hD hS ws.length t0 (E := "java/lang/String") (C := "java/lang/String") (get_last ws _) ht hrec vb_asgS hin hds (fun H1 locs1 a1 a2 a3 => ?_)
  rw [set_last] at a1 a2
  exact kk H1 locs1 a1 a2 a3
/-- from the row's making to its end: the row is a cell that stays as it is -/
def x_mdl (cm sm : Nat) (S : eS) : Option eS := match S.2.2.1 with
  | n :: r => bif Nat.beq S.1 7 && (eEq n (eI 7) && (Nat.ble (S.2.2.2.2.2.1 + 1) cm && (Nat.ble (S.2.2.2.2.2.2 + 7) sm && (eScoped S.2.1 r S.2.2.2.2.1 && S.2.2.2.2.1.all (fun c => !isK3 c))))) then
      some (46, S.2.1, (2, S.2.2.2.2.1.length, 0, 0) :: r, S.2.2.2.1, S.2.2.2.2.1 ++ [fr9 S.2.2.2.2.1.length], S.2.2.2.2.2.1 + 1, S.2.2.2.2.2.2 + 7) else none
  | _ => none
theorem gH_sb9 {ad : Nat → Nat} {sb' : eSB} (hs : sb'.1 = sb.1) {hp : eH} {ws : va_W} (h3 : hp.all (fun c => !isK3 c) = true) (g : gH ρ ad sb cA hp ws) : gH ρ ad sb' cA hp ws := ⟨g.1, fun k c9 hk => by
  obtain ⟨x, h1, h2⟩ := g.2 k c9 hk
  have := List.all_eq_true.mp h3 c9 (List.mem_of_getElem? hk)
  exact ⟨x, h1, gC_sb hs (by cases hz : isK3 c9 with | false => rfl | true => rw [hz] at this; cases this) h2⟩⟩
set_option maxRecDepth 100000 in
theorem cl_str : memT (.classLink RX11 9 "java/lang/String") = true := by decide +kernel
set_option maxRecDepth 100000 in
theorem cl_strG : goodWord (.classLink RX11 9 "java/lang/String") = true := by decide +kernel
theorem cl_strIn : Jvm.Cond.classLink RX11 9 "java/lang/String" ∈ GT := List.mem_filter.mpr ⟨memT_in cl_str, cl_strG⟩
theorem k_mdl (K : eK p m c s args cX11_init RX11 nL GT D cl cA A) (hZ : eZ strs sb A s s.heap) {S S' : eS} {cm sm : Nat} (hcm : cm ≤ R.cells) (hsm : sm ≤ R.slots) (h : x_mdl cm sm S = some S')
    (hw : ∀ (cQ : ClassId) (FR : Nat → va_E), FR S.2.2.2.2.1.length = ar9 cQ (mF (sTx sb) 7) → s.vm.findClass nmSt = some cQ → eW p l e R s m args below meth c Q D cl cA A (sb.1, FR) ρ ad0 h0 nL S') : eW p l e R s m args below meth c Q D cl cA A sb ρ ad0 h0 nL S := by
  obtain ⟨hx, hb, hml, hown, hts, hK, hA⟩ := K
  obtain ⟨pc, lo, st, B, hp, c9, z9⟩ := S
  unfold x_mdl at h
  split at h
  next n r hst =>
    dsimp only at hst
    subst hst
    dsimp only at h hw
    cases hb9 : (Nat.beq pc 7 && (eEq n (eI 7) && (Nat.ble (c9 + 1) cm && (Nat.ble (z9 + 7) sm && (eScoped lo r hp && hp.all (fun c => !isK3 c)))))) with
    | false => rw [hb9] at h; cases h
    | true =>
      rw [hb9, cond_true] at h
      cases h
      simp only [Bool.and_eq_true] at hb9
      obtain ⟨b1, b2, b5, b6, b7, b8⟩ := hb9
      have e1 := Nat.eq_of_beq_eq_true b1
      have e2 := eEq_eq b2
      subst e1 e2
      have b5 := Nat.le_of_ble_eq_true b5
      have b6 := Nat.le_of_ble_eq_true b6
      unfold eScoped at b7
      rw [Bool.and_eq_true, Bool.and_eq_true] at b7
      intro ad ls lc vs ws H locs g1 g2 g3 g4 g5 g6 g7 g8 g9
      match vs, g4 with
      | w :: vs, g4 =>
        obtain ⟨⟨x, rfl, -, u1, u2⟩, g4⟩ := g4
        dsimp only at u1 u2
        have hx7 : x = 7 := i32_of (show x.toInt = 7 by omega)
        subst hx7
        have hstr : ∀ (k ix : Nat) (tx : String), sIDs[15 + k]? = some (RX11, ix, tx) → vk_R RX11 ix tx (sTx sb k) s ∧ va_O "java/lang/String" (sTx sb k) A s s.heap := fun k ix tx hin => by
          have := hZ.2.2.1.2.1 (15 + k) _ hin
          exact ⟨this.1, this.2.1⟩
        refine va_newq (N' := 7) hx hb hown (hts _ cl_strIn) hZ.2.2.2.2.2.2.2.2 hK g6 g7 g8 hA (by decide) (by decide) (by decide) (Nat.le_trans b5 hcm) (Nat.le_trans b6 hsm) (show decode cX11_init 7 = .ok (.anewarray 9, 3) by decide +kernel) (fun q cQ H1 c1 c2 c3 c4 => ?_)
        have hfc : s.vm.findClass nmSt = some cQ := by
          obtain ⟨kA, comp, -, -, -, h4⟩ := (c1.2 3 _ rfl).2
          exact h4
        have hno : ∀ k, k < hp.length → (fun k => if k = hp.length then q else ad k) k = ad k := fun k hk => if_neg (Nat.ne_of_lt hk)
        have last : ∀ (H : Heap) (locs : List Loc), va_P D cl (ws ++ [(q, ar9 cQ (mF (sTx sb) 7))]) H → va_D A (ws ++ [(q, ar9 cQ (mF (sTx sb) 7))]) → va_S A s.heap H locs → W p l e R s m args below meth c H locs (c9 + 1) (z9 + 7) Q (F0 m 46 ls (.ref q :: vs)) := fun H locs hP hD hS => by
          have hFR : (fun k => if k = hp.length then ar9 cQ (mF (sTx sb) 7) else sb.2 k) hp.length = ar9 cQ (mF (sTx sb) 7) := if_pos rfl
          refine hw cQ (fun k => if k = hp.length then ar9 cQ (mF (sTx sb) 7) else sb.2 k) hFR hfc (fun k => if k = hp.length then q else ad k) ls lc (.ref q :: vs) _ H locs ?_ g2 (gL_sb (sb := sb) (sb' := (sb.1, fun k => if k = hp.length then ar9 cQ (mF (sTx sb) 7) else sb.2 k)) rfl (gL_mono hno b7.1 g3)) ⟨?_, gS_sb (sb := sb) (sb' := (sb.1, fun k => if k = hp.length then ar9 cQ (mF (sTx sb) 7) else sb.2 k)) rfl (gS_mono hno b7.2.1 g4)⟩ (gH_push b7.2.2 (gH_sb9 (sb := sb) (sb' := (sb.1, fun k => if k = hp.length then ar9 cQ (mF (sTx sb) 7) else sb.2 k)) rfl b8 g5) ⟨hFR.symm, fun h => by cases h⟩) hP hD hS g9
          · dsimp only
            rw [List.length_append]
            exact eAd_push g1
          · show Value.ref q = .ref (if hp.length = hp.length then q else ad hp.length)
            rw [if_pos rfl]
        have s6 := mdl_one (pc := 40) (pl := 2) (i := (Int8.ofInt 6).toInt32) (j := 6) (f := mF (sTx sb) 6) hx hb hown c1 (t0 := 3) rfl (hstr 6 23 "day" (by decide +kernel)).1 (hstr 6 23 "day" (by decide +kernel)).2 (by decide) (by decide +kernel) (fun H locs vs k => lv_bipush hx hb (n := 6) (by decide +kernel) rfl k) (by decide +kernel) (by decide +kernel) (by unfold vp_in; decide) last
        have s5 := mdl_one (pc := 35) (pl := 1) (i := Int32.ofInt 5) (j := 5) (f := mF (sTx sb) 5) hx hb hown c1 (t0 := 3) rfl (hstr 5 21 "free" (by decide +kernel)).1 (hstr 5 21 "free" (by decide +kernel)).2 (by decide) (by decide +kernel) (fun H locs vs k => lv_iconst hx hb (n := 5) (by decide +kernel) rfl k) (by decide +kernel) (by decide +kernel) (by unfold vp_in; decide) s6
        have s4 := mdl_one (pc := 30) (pl := 1) (i := Int32.ofInt 4) (j := 4) (f := mF (sTx sb) 4) hx hb hown c1 (t0 := 3) rfl (hstr 4 19 "beside" (by decide +kernel)).1 (hstr 4 19 "beside" (by decide +kernel)).2 (by decide) (by decide +kernel) (fun H locs vs k => lv_iconst hx hb (n := 4) (by decide +kernel) rfl k) (by decide +kernel) (by decide +kernel) (by unfold vp_in; decide) s5
        have s3 := mdl_one (pc := 25) (pl := 1) (i := Int32.ofInt 3) (j := 3) (f := mF (sTx sb) 3) hx hb hown c1 (t0 := 3) rfl (hstr 3 17 "gone" (by decide +kernel)).1 (hstr 3 17 "gone" (by decide +kernel)).2 (by decide) (by decide +kernel) (fun H locs vs k => lv_iconst hx hb (n := 3) (by decide +kernel) rfl k) (by decide +kernel) (by decide +kernel) (by unfold vp_in; decide) s4
        have s2 := mdl_one (pc := 20) (pl := 1) (i := Int32.ofInt 2) (j := 2) (f := mF (sTx sb) 2) hx hb hown c1 (t0 := 3) rfl (hstr 2 15 "iron" (by decide +kernel)).1 (hstr 2 15 "iron" (by decide +kernel)).2 (by decide) (by decide +kernel) (fun H locs vs k => lv_iconst hx hb (n := 2) (by decide +kernel) rfl k) (by decide +kernel) (by decide +kernel) (by unfold vp_in; decide) s3
        have s1 := mdl_one (pc := 15) (pl := 1) (i := Int32.ofInt 1) (j := 1) (f := mF (sTx sb) 1) hx hb hown c1 (t0 := 3) rfl (hstr 1 13 "pots" (by decide +kernel)).1 (hstr 1 13 "pots" (by decide +kernel)).2 (by decide) (by decide +kernel) (fun H locs vs k => lv_iconst hx hb (n := 1) (by decide +kernel) rfl k) (by decide +kernel) (by decide +kernel) (by unfold vp_in; decide) s2
        have s0 := mdl_one (pc := 10) (pl := 1) (i := Int32.ofInt 0) (j := 0) (f := mF (sTx sb) 0) hx hb hown c1 (t0 := 3) rfl (hstr 0 11 "times" (by decide +kernel)).1 (hstr 0 11 "times" (by decide +kernel)).2 (by decide) (by decide +kernel) (fun H locs vs k => lv_iconst hx hb (n := 0) (by decide +kernel) rfl k) (by decide +kernel) (by decide +kernel) (by unfold vp_in; decide) s1
        exact s0 H1 locs c2 c3 c4
      | [], g4 => exact g4.elim
  next => cases h
end E41
/-! the model's constructor -/
def kLw : Nat := 9
def xM : eQ → eS → eR := ex (inl kLw) mtF npF ciF dfF (mtF 165).2.2.2.1 (mtF 165).2.2.2.2.2.1 (mtF 165).2.2.2.2.2.2 none (fun _ _ => none)
def mdlR (n : Nat) (as : List eV) (B : eB) (hp : eH) : Option (List eO) := bif Nat.ble (eWords as) (mtF 165).2.2.2.1 then (match run (ftF 165) 7 xM n [(0, eArgs 0 as, [], B, hp, 0, 0)] [] with
    | some [(0, S7)] => bif Nat.beq S7.2.2.2.2.1.length hp.length then (match x_mdl (mtF 165).2.2.2.2.2.1 (mtF 165).2.2.2.2.2.2 S7 with
      | some S9 => (match run (ftF 165) 99999 xM n [S9] [] with
        | some os => (match ends (ftF 165) (mtF 165).2.2.2.2.1 (mtF 165).2.2.2.2.2.1 (mtF 165).2.2.2.2.2.2 os with
          | some outs => bif eNoX outs then some outs else none
          | none => none)
        | none => none)
      | none => none) else none
    | _ => none) else none
def mdQ (ρ : Nat → Int) (sb : eSB) (D : va_G) (cA : Nat → ClassId) (ad : Nat → Nat) (n : Nat) (A' : Nat → Prop) (outs : List eO) : Array Value → State → Outcome → State → Prop := fun a st oc t =>
  ∃ (cQ : ClassId) (FR : Nat → va_E), FR n = ar9 cQ (mF (sTx sb) 7) ∧ t.vm.findClass nmSt = some cQ ∧ eQc ρ (sb.1, FR) D eCls cA ad n A' outs a st oc t
section E41A
variable {l : Launch} {D : va_G} {cA : Nat → ClassId} {sb : eSB} {ρ : Nat → Int} {d : Nat}
set_option maxRecDepth 20000 in
theorem mdl_met (htr : l.stackTraces = false) (hd : kLw ≤ d) {as : List eV} {B : eB} {hp : eH} {n : Nat} {outs : List eO} (h : mdlR n as B hp = some outs) {ad : Nat → Nat} {vs : List Value} {ws : va_W} {sz : Nat} (g2 : gB ρ B) (ga : gS ρ ad sb as vs) (g5 : gH ρ ad sb cA hp ws) :
    vx_Met l (mtF 165).1 ((mtF 165).2.1 :: GT) (rmD (d + 1) (mtF 165).2.2.2.2.2.1 (mtF 165).2.2.2.2.2.2) (ePc strs sb D eCls cA vs ws sz) (mdQ ρ sb D cA ad hp.length (va_A ws sz) outs) (fun _ _ _ => False) (mtF 165).2.2.2.2.2.1 (mtF 165).2.2.2.2.2.2 (va_A ws sz) := by
  have hm := mOk_of (M := 165) (by decide) (rows_all 165 (by decide))
  have hy := (mt_facts (M := 165) (by decide)).2.2.2.2.2.2.2.1 (by decide)
  have hcc : (mtF 165).2.2.1 = cX11_init := rfl
  have hcn : (mtF 165).1.cls = RX11 := rfl
  unfold mdlR xM at h
  generalize hgy : mtF 165 = y at *
  generalize ftF 165 = ft at *
  cases hw : Nat.ble (eWords as) y.2.2.2.1 with
  | false => rw [hw] at h; cases h
  | true =>
    rw [hw, cond_true] at h
    split at h
    next S7 hrun1 =>
      cases hl7 : Nat.beq S7.2.2.2.2.1.length hp.length with
      | false => rw [hl7] at h; cases h
      | true =>
        rw [hl7, cond_true] at h
        have hl7 := Nat.eq_of_beq_eq_true hl7
        split at h
        next S9 hS9 =>
          split at h
          next os hrun2 =>
            split at h
            next outs1 hends =>
              cases hnx : eNoX outs1 with
              | false => rw [hnx] at h; cases h
              | true =>
                rw [hnx, cond_true] at h
                cases h
                refine vx_ofW (cc := y.2.2.1) (maxL := y.2.2.2.1) (ret := y.2.2.2.2.1) hm.1 (by rw [hy]) ?_
                intro p e s m args below meth c s₁ Bd hml hnoex hv
                obtain ⟨rfl, hsz, hP, hK, hD0, hZ⟩ := hv
                subst hsz
                have hD := hD0.self (sz := s.heap.size)
                have hts := atoms_spec (ws := y.2.1 :: GT) Bd.pre
                have hown : s.vm.findClass y.1.cls = some m.cls := findClass_of_methodNamed Bd.named
                have hname : meth.name = y.1.name := (name_of_methodNamed Bd.named Bd.method).1
                have hA : ∀ q, s.heap.size ≤ q → va_A ws s.heap.size q := fun q h => Or.inr h
                have hts' : ∀ w ∈ GT, w.before vs.toArray s = true := fun w hw => hts w (List.mem_cons_of_mem _ hw)
                have K : eK p m c s vs.toArray y.2.2.1 y.1.cls y.2.2.2.1 GT D eCls cA (va_A ws s.heap.size) := ⟨Bd.exec, Bd.bytes, hml, hown, hts', hK, hA⟩
                have hRf : (headSpec (y.2.1 :: GT) (rmD (d + 1) y.2.2.2.2.2.1 y.2.2.2.2.2.2)).room.frames = d + 9 := by show d + 1 + 8 = d + 9; omega
                have hRl : (headSpec (y.2.1 :: GT) (rmD (d + 1) y.2.2.2.2.2.1 y.2.2.2.2.2.2)).room.locals = 64 * d + 1064 := by show 64 * (d + 1) + 1000 = 64 * d + 1064; omega
                have hnat := natW
                have hX : ∀ (sb2 : eSB), eZ strs sb2 (va_A ws s.heap.size) s s.heap → ∀ (S : eS) (q : eQ) (rs : List (Nat × eS)), ft S.1 = some q → stp q = false → ex (inl kLw) mtF npF ciF dfF y.2.2.2.1 y.2.2.2.2.2.1 y.2.2.2.2.2.2 none (fun _ _ => none) q S = some rs → (∀ r ∈ rs, eLf p l e (headSpec (y.2.1 :: GT) (rmD (d + 1) y.2.2.2.2.2.1 y.2.2.2.2.2.2)).room s m vs.toArray below meth c (vx_MQ below (mdQ ρ sb D cA ad hp.length (va_A ws s.heap.size) outs) (fun _ _ _ => False) vs.toArray s y.2.2.2.2.2.1 y.2.2.2.2.2.2 (va_A ws s.heap.size)) D eCls cA (va_A ws s.heap.size) sb2 ρ ad hp.length y.2.2.2.1 r) → eW p l e (headSpec (y.2.1 :: GT) (rmD (d + 1) y.2.2.2.2.2.1 y.2.2.2.2.2.2)).room s m vs.toArray below meth c (vx_MQ below (mdQ ρ sb D cA ad hp.length (va_A ws s.heap.size) outs) (fun _ _ _ => False) vs.toArray s y.2.2.2.2.2.1 y.2.2.2.2.2.2 (va_A ws s.heap.size)) D eCls cA (va_A ws s.heap.size) sb2 ρ ad hp.length y.2.2.2.1 S := fun sb2 hZ2 S q rs hq hs hX hr => by
                  obtain ⟨h1, h2, h3, h4⟩ := hm.2 S.1 q hq
                  refine ex_ok (d := d) (sc := none) K hZ2 trivial GT_good (Nat.le_refl _) (Nat.le_refl _) (by rw [hRf]; exact Nat.le_refl _) (by rw [hRl]; exact Nat.le_refl _) (by rw [hRl]; omega) (fun M as B hp outs ho => inl_ok htr kLw d hd M as B hp outs ho) h1 (h3 hs meth hname) (fun _ _ q => by cases q) ?_ hX hr
                  rcases lenB_ok h2 with q9 | q9
                  · exact q9
                  · exfalso
                    unfold stp at hs
                    rcases q9 with q9 | q9 | q9 <;> rw [q9] at hs <;> cases hs
                have h9 : ∀ (cQ : ClassId) (FR : Nat → va_E), FR hp.length = ar9 cQ (mF (sTx sb) 7) → s.vm.findClass nmSt = some cQ → eW p l e (headSpec (y.2.1 :: GT) (rmD (d + 1) y.2.2.2.2.2.1 y.2.2.2.2.2.2)).room s m vs.toArray below meth c (vx_MQ below (mdQ ρ sb D cA ad hp.length (va_A ws s.heap.size) outs) (fun _ _ _ => False) vs.toArray s y.2.2.2.2.2.1 y.2.2.2.2.2.2 (va_A ws s.heap.size)) D eCls cA (va_A ws s.heap.size) (sb.1, FR) ρ ad hp.length y.2.2.2.1 S9 := fun cQ FR hFR hfc =>
                  (run_ok (cut := 99999) (hX (sb.1, FR) hZ) n _ _ os hrun2 (fun o ho => by
                    obtain ⟨x, hx1, hx2⟩ := ends_in hends o ho
                    refine eLf_mono (fun t ht => ?_) (leaf_ok (own := y.1.cls) (sb := (sb.1, FR)) Bd.exec Bd.bytes hml hown hts' hK hZ htr Bd.notSynchronized hnoex hA Bd.returns (Nat.le_refl _) (Nat.le_refl _) (by rw [hRf]; omega) (by rw [hRl]; omega) (fun pc q hq => by
                      obtain ⟨h1, h2, h3, h4⟩ := hm.2 pc q hq
                      exact ⟨h1, fun hi => lenB_ret h2 hi, h4⟩) hx1 hx2)
                    obtain ⟨oc, k1, k2, k3⟩ := ht
                    refine ⟨oc, k1, k2, ?_⟩
                    rcases k3 with ⟨hq, L, hFE, hfree⟩ | ⟨q, -, E, ce, L, ⟨⟨k, o9, ho9, h09, -⟩, -⟩, -⟩
                    · exact Or.inl ⟨⟨cQ, FR, hFR, by rw [hFE.2.1.alike.findClass]; exact hfc, hq⟩, L, hFE, hfree⟩
                    · have := Nat.eq_of_beq_eq_true (List.all_eq_true.mp hnx o9 ho9)
                      rw [h09] at this
                      cases this)).1 S9 List.mem_cons_self
                have K' := K
                rw [hcc, hcn] at K'
                have h7 := k_mdl K' hZ (Nat.le_refl _) (Nat.le_refl _) hS9 (by rw [hl7]; exact h9)
                have hent := (run_ok (cut := 7) (hX sb hZ) n _ _ _ hrun1 (fun o ho => by
                  rw [List.mem_singleton.mp ho]
                  exact h7)).1 _ List.mem_cons_self
                rw [lg_entry_eq]
                exact hent ad _ (lv_args 0 vs) [] ws s.heap [] ⟨Nat.le_refl _, fun _ _ => rfl, fun _ => rfl⟩ g2 (gL_args 0 ga) trivial g5 hP hD va_S.rf (lv_entry vs (by rw [sl_len, gS_words ga]; exact Nat.le_of_ble_eq_true hw))
            next => cases h
          next => cases h
        next => cases h
    next => cases h
end E41A
