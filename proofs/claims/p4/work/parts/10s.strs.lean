/-! ===== THE ENGINE, 7a: texts that stand in the pool ===== -/
section E7S
variable {p : Program} {l : Launch} {e : Env} {R : Room} {s : State} {m : MethodId} {args : Array Value} {below : List Frame} {meth : Method} {c : Code} {Q : State → Prop}
variable {D : va_G} {cl : List vw_C} {cA : Nat → ClassId} {A : Nat → Prop} {sb : eSB} {ρ : Nat → Int} {ad0 : Nat → Nat} {h0 nL : Nat} {cc : ByteArray} {own : String} {Ts : List Cond}
variable {strs : List (String × Nat × String)} {GT : List Cond}
theorem va_ldcSW {H : Heap} {locs : List Loc} {cells slots pc : Nat} {ls : Array Slot} {rest : List Value} (hexec : p.tables.exec = Jvm.exec) (hb : c.code = cc) {own tx : String} {index q : Nat} (hown : s.vm.findClass own = some m.cls) (hZ : vk_R own index tx q s) (hdg : decode cc pc = .ok (.ldc_w index, 3))
    (k : W p l e R s m args below meth c H locs cells slots Q (F0 m (pc + 3) ls (.ref q :: rest))) : W p l e R s m args below meth c H locs cells slots Q (F0 m pc ls rest) := by
  intro T hT X
  obtain ⟨t, a1, b1⟩ := k T hT X
  exact ⟨t, X.ldcStringW hexec hown (text := tx) (a := q) (index := index) hZ.1 hZ.2 (g := F0 m pc ls rest) rfl (by rw [hb]; exact hdg) t a1, b1⟩
/-- the string i -/
theorem eSt_at (hZ : eZ strs sb A s s.heap) {i : Nat} (hi : i < nSt) : ∃ q : String × Nat × String, sIDs[i]? = some q ∧ vk_R q.1 q.2.1 q.2.2 (sb.1 (2 * i + 1)) s ∧ va_O "java/lang/String" (sb.1 (2 * i + 1)) A s s.heap ∧ va_OF "java/lang/String" "coder" "B" (.int 0) (sb.1 (2 * i + 1)) A s s.heap ∧ va_OF "java/lang/String" "value" "[B" (.ref (sb.1 (2 * i + 2))) (sb.1 (2 * i + 1)) A s s.heap ∧ va_T .byte (sb.1 (2 * i + 2)) (sB i).length (fun j => .int (Int32.ofInt ((sB i).getD j 0))) A s s.heap := by
  have hl : i < sIDs.length := by rw [sIDs_len]; exact hi
  exact ⟨sIDs[i], List.getElem?_eq_getElem hl, hZ.2.2.1.2.1 i _ (List.getElem?_eq_getElem hl)⟩
def stO (t : Nat) : Bool := Nat.beq (t % 2) 1 && Nat.blt (t / 2) nSt
def stE (t : Nat) : Bool := Nat.beq (t % 2) 0 && (Nat.blt 0 t && Nat.blt (t / 2 - 1) nSt)
/-- a text's field: 0 its bytes, 1 its coder -/
def x_sget (cod : Nat) (S : eS) : eR := match S.2.2.1 with
  | a :: r => bif Nat.beq a.1 5 && stO a.2.1 then eNx (S.1 + 3, S.2.1, (bif Nat.beq cod 0 then (5, a.2.1 + 1, 0, 0) else eI 0) :: r, S.2.2.2) else none
  | _ => none
theorem k_sget (K : eK p m c s args cc own nL Ts D cl cA A) (hZ : eZ strs sb A s s.heap) {S : eS} {ix cod : Nat} (hw : (cod = 0 ∧ Jvm.Cond.fieldLink own ix "java/lang/String" "value" "[B" ∈ Ts) ∨ (cod = 1 ∧ Jvm.Cond.fieldLink own ix "java/lang/String" "coder" "B" ∈ Ts)) (hd : decode cc S.1 = .ok (.getfield ix, 3)) {rs : List (Nat × eS)} (h : x_sget cod S = some rs) (hr : ∀ r ∈ rs, eLf p l e R s m args below meth c Q D cl cA A sb ρ ad0 h0 nL r) : eW p l e R s m args below meth c Q D cl cA A sb ρ ad0 h0 nL S := by
  obtain ⟨hx, hb, hml, hown, hts, hK, hA⟩ := K
  obtain ⟨pc, lo, st, B, hp, Z⟩ := S
  unfold x_sget at h
  split at h
  next a r hst =>
    dsimp only at hst
    subst hst
    cases hb9 : (Nat.beq a.1 5 && stO a.2.1) with
    | false => dsimp only at h; rw [hb9] at h; cases h
    | true =>
      dsimp only at h
      rw [hb9, cond_true] at h
      have hn := eNx_ok (S := (pc, lo, a :: r, B, hp, Z)) h hr
      unfold stO at hb9
      simp only [Bool.and_eq_true] at hb9
      obtain ⟨c1, c2, c3⟩ := hb9
      replace c1 := Nat.eq_of_beq_eq_true c1
      replace c2 := Nat.eq_of_beq_eq_true c2
      replace c3 := blt_lt c3
      obtain ⟨a0, a1, a2, a3⟩ := a
      dsimp only at c1 c2 c3 hn
      subst c1
      obtain ⟨q, -, -, -, k3, k4, -⟩ := eSt_at hZ c3
      have e1 : 2 * (a1 / 2) + 1 = a1 := by omega
      have e2 : 2 * (a1 / 2) + 2 = a1 + 1 := by omega
      rw [e1] at k3 k4
      rw [e2] at k4
      intro ad ls lc vs ws H locs g1 g2 g3 g4 g5 g6 g7 g8 g9
      match vs, g4 with
      | w :: vs, g4 =>
        obtain ⟨hw9, g4⟩ := g4
        have hw9 : w = .ref (sb.1 a1) := hw9
        subst hw9
        rcases hw with ⟨e0, hw⟩ | ⟨e0, hw⟩
        · subst e0
          exact vk_getf hx hb k4 g8 hown (hts _ hw) (fun _ q => q) hd (hn ad ls lc (.ref (sb.1 (a1 + 1)) :: vs) ws H locs g1 g2 g3 ⟨rfl, g4⟩ g5 g6 g7 g8 g9)
        · subst e0
          exact vk_getf hx hb k3 g8 hown (hts _ hw) (fun _ q => q) hd (hn ad ls lc (.int 0 :: vs) ws H locs g1 g2 g3 ⟨gV_int (gN_I 0), g4⟩ g5 g6 g7 g8 g9)
      | [], g4 => exact g4.elim
  next => cases h
/-- the length of a text's bytes -/
def x_sle (S : eS) : eR := match S.2.2.1 with
  | a :: r => bif Nat.beq a.1 5 && stE a.2.1 then eNx (S.1 + 1, S.2.1, eI ((sB (a.2.1 / 2 - 1)).length : Int) :: r, S.2.2.2) else none
  | _ => none
theorem k_sle (K : eK p m c s args cc own nL Ts D cl cA A) (hZ : eZ strs sb A s s.heap) {S : eS} (hd : decode cc S.1 = .ok (.arraylength, 1)) {rs : List (Nat × eS)} (h : x_sle S = some rs) (hr : ∀ r ∈ rs, eLf p l e R s m args below meth c Q D cl cA A sb ρ ad0 h0 nL r) : eW p l e R s m args below meth c Q D cl cA A sb ρ ad0 h0 nL S := by
  obtain ⟨hx, hb, hml, hown, hts, hK, hA⟩ := K
  obtain ⟨pc, lo, st, B, hp, Z⟩ := S
  unfold x_sle at h
  split at h
  next a r hst =>
    dsimp only at hst
    subst hst
    cases hb9 : (Nat.beq a.1 5 && stE a.2.1) with
    | false => dsimp only at h; rw [hb9] at h; cases h
    | true =>
      dsimp only at h
      rw [hb9, cond_true] at h
      have hn := eNx_ok (S := (pc, lo, a :: r, B, hp, Z)) h hr
      unfold stE at hb9
      simp only [Bool.and_eq_true] at hb9
      obtain ⟨c1, c2, c4, c3⟩ := hb9
      replace c1 := Nat.eq_of_beq_eq_true c1
      replace c2 := Nat.eq_of_beq_eq_true c2
      replace c3 := blt_lt c3
      replace c4 := blt_lt c4
      obtain ⟨a0, a1, a2, a3⟩ := a
      dsimp only at c1 c2 c3 c4 hn
      subst c1
      obtain ⟨q, -, -, -, -, -, k5⟩ := eSt_at hZ c3
      have hl : (sB (a1 / 2 - 1)).length ≤ 16 := (sB_all ⟨a1 / 2 - 1, c3⟩).1
      have e2 : 2 * (a1 / 2 - 1) + 2 = a1 := by omega
      rw [e2] at k5
      intro ad ls lc vs ws H locs g1 g2 g3 g4 g5 g6 g7 g8 g9
      match vs, g4 with
      | w :: vs, g4 =>
        obtain ⟨hw9, g4⟩ := g4
        have hw9 : w = .ref (sb.1 a1) := hw9
        subst hw9
        exact va_tlen hx hb k5 g8 rfl hd (hn ad ls lc (.int (Int32.ofNat (sB (a1 / 2 - 1)).length) :: vs) ws H locs g1 g2 g3 ⟨gV_int (by rw [i32_nat (by omega)]; exact gN_I _), g4⟩ g5 g6 g7 g8 g9)
      | [], g4 => exact g4.elim
  next => cases h
/-- a byte of a text -/
def x_sbl (S : eS) : eR := match S.2.2.1 with
  | i :: a :: r => bif Nat.beq i.1 0 && (Nat.beq a.1 5 && (stE a.2.1 && (decide (0 ≤ eLo S.2.2.2.1 i) && decide (eHi S.2.2.2.1 i < ((sB (a.2.1 / 2 - 1)).length : Int))))) then eNx (S.1 + 1, S.2.1, (bif decide (eLo S.2.2.2.1 i = eHi S.2.2.2.1 i) then eI ((sB (a.2.1 / 2 - 1)).getD (eLo S.2.2.2.1 i).toNat 0) else (0, 0, 0, 127)) :: r, S.2.2.2) else none
  | _ => none
theorem k_sbl (K : eK p m c s args cc own nL Ts D cl cA A) (hZ : eZ strs sb A s s.heap) {S : eS} (hd : decode cc S.1 = .ok (.baload, 1)) {rs : List (Nat × eS)} (h : x_sbl S = some rs) (hr : ∀ r ∈ rs, eLf p l e R s m args below meth c Q D cl cA A sb ρ ad0 h0 nL r) : eW p l e R s m args below meth c Q D cl cA A sb ρ ad0 h0 nL S := by
  obtain ⟨hx, hb, hml, hown, hts, hK, hA⟩ := K
  obtain ⟨pc, lo, st, B, hp, Z⟩ := S
  unfold x_sbl at h
  split at h
  next i a r hst =>
    dsimp only at hst
    subst hst
    cases hb9 : (Nat.beq i.1 0 && (Nat.beq a.1 5 && (stE a.2.1 && (decide (0 ≤ eLo B i) && decide (eHi B i < ((sB (a.2.1 / 2 - 1)).length : Int)))))) with
    | false => dsimp only at h; rw [hb9] at h; cases h
    | true =>
      dsimp only at h
      rw [hb9, cond_true] at h
      have hn := eNx_ok (S := (pc, lo, i :: a :: r, B, hp, Z)) h hr
      unfold stE at hb9
      simp only [Bool.and_eq_true, decide_eq_true_eq] at hb9
      obtain ⟨c0, c1, ⟨c2, c4, c3⟩, c5, c6⟩ := hb9
      replace c0 := Nat.eq_of_beq_eq_true c0
      replace c1 := Nat.eq_of_beq_eq_true c1
      replace c2 := Nat.eq_of_beq_eq_true c2
      replace c3 := blt_lt c3
      replace c4 := blt_lt c4
      obtain ⟨i0, i1, i2, i3⟩ := i
      obtain ⟨a0, a1, a2, a3⟩ := a
      dsimp only at c0 c1 c2 c3 c4 c6 hn
      subst c0
      subst c1
      obtain ⟨q, -, -, -, -, -, k5⟩ := eSt_at hZ c3
      have hall := (sB_all ⟨a1 / 2 - 1, c3⟩).2
      have e2 : 2 * (a1 / 2 - 1) + 2 = a1 := by omega
      rw [e2] at k5
      intro ad ls lc vs ws H locs g1 g2 g3 g4 g5 g6 g7 g8 g9
      match vs, g4 with
      | v :: w :: vs, g4 =>
        obtain ⟨⟨x, rfl, hx9⟩, hw9, g4⟩ := g4
        have hw9 : w = .ref (sb.1 a1) := hw9
        subst hw9
        have u1 := eLo_ok g2 hx9
        have u2 := eHi_ok g2 hx9
        dsimp only at u1 u2
        obtain ⟨z1, z2, z3⟩ := vp_in_int (x := x) (n := (sB (a1 / 2 - 1)).length) (by omega) (by omega)
        refine va_tb hx hb k5 g8 z1 rfl hd (hn ad ls lc (.int (Int32.ofInt ((sB (a1 / 2 - 1)).getD x.toNatClampNeg 0)) :: vs) ws H locs g1 g2 g3 ⟨?_, g4⟩ g5 g6 g7 g8 g9)
        have hmem : (sB (a1 / 2 - 1)).getD x.toNatClampNeg 0 ∈ sB (a1 / 2 - 1) := by
          rw [List.getD_eq_getElem?_getD, List.getElem?_eq_getElem z3]
          exact List.getElem_mem z3
        have hb2 := hall _ hmem
        have hval : (Int32.ofInt ((sB (a1 / 2 - 1)).getD x.toNatClampNeg 0)).toInt = (sB (a1 / 2 - 1)).getD x.toNatClampNeg 0 := by
          rw [Int32.toInt_ofInt]
          show Int.bmod _ 4294967296 = _
          exact Int.bmod_eq_of_le (by omega) (by omega)
        cases hde : decide (eLo B (0, i1, i2, i3) = eHi B (0, i1, i2, i3)) with
        | true =>
          rw [decide_eq_true_eq] at hde
          rw [cond_true]
          have ex : x.toNatClampNeg = (eLo B (0, i1, i2, i3)).toNat := by omega
          rw [← ex]
          exact gV_int (by rw [hval]; exact gN_I _)
        | false =>
          rw [cond_false]
          exact gV_int (by rw [hval]; exact gN_iv hb2.1 hb2.2)
      | [_], g4 => exact g4.2.elim
      | [], g4 => exact g4.elim
  next => cases h
/-- two statics of the JDK's -/
def x_gst (k : Nat) (S : eS) : eR := match k with
  | 1 => eNx (S.1 + 3, S.2.1, eI 1 :: S.2.2.1, S.2.2.2)
  | 2 => some [(0, (S.1 + 3, S.2.1, (3, 0, 0, 0) :: S.2.2.1, S.2.2.2)), (0, (S.1 + 3, S.2.1, (4, 0, 0, 0) :: S.2.2.1, S.2.2.2))]
  | _ => none
theorem k_gst (K : eK p m c s args cc own nL Ts D cl cA A) (hZ : eZ strs sb A s s.heap) {S : eS} {ix k : Nat} (hw : (k = 1 ∧ Jvm.Cond.fieldLink own ix "java/lang/String" "COMPACT_STRINGS" "Z" ∈ Ts) ∨ (k = 2 ∧ Jvm.Cond.fieldLink own ix "jdk/internal/util/Preconditions" "SIOOBE_FORMATTER" "Ljava/util/function/BiFunction;" ∈ Ts)) (hd : decode cc S.1 = .ok (.getstatic ix, 3)) {rs : List (Nat × eS)} (h : x_gst k S = some rs) (hr : ∀ r ∈ rs, eLf p l e R s m args below meth c Q D cl cA A sb ρ ad0 h0 nL r) : eW p l e R s m args below meth c Q D cl cA A sb ρ ad0 h0 nL S := by
  obtain ⟨hx, hb, hml, hown, hts, hK, hA⟩ := K
  obtain ⟨-, -, ⟨-, -, s2, s3, -⟩, -⟩ := hZ
  rcases hw with ⟨e0, hw⟩ | ⟨e0, hw⟩
  · subst e0
    have hn := eNx_ok (S := S) h hr
    intro ad ls lc vs ws H locs g1 g2 g3 g4 g5 g6 g7 g8 g9
    exact va_gets hx hb s2 g8 hown (hts _ hw) (fun _ q => q) hd (hn ad ls lc (.int 1 :: vs) ws H locs g1 g2 g3 ⟨gV_int (gN_I 1), g4⟩ g5 g6 g7 g8 g9)
  · subst e0
    cases h
    intro ad ls lc vs ws H locs g1 g2 g3 g4 g5 g6 g7 g8 g9
    rcases s3 with s3 | ⟨t, s3⟩
    · exact va_gets hx hb s3 g8 hown (hts _ hw) (fun _ q => q) hd (hr _ List.mem_cons_self ad ls lc (.null :: vs) ws H locs g1 g2 g3 ⟨rfl, g4⟩ g5 g6 g7 g8 g9)
    · exact va_gets hx hb s3 g8 hown (hts _ hw) (fun _ q => q) hd (hr _ (List.mem_cons_of_mem _ (List.mem_singleton.mpr rfl)) ad ls lc (.ref t :: vs) ws H locs g1 g2 g3 ⟨⟨t, rfl⟩, g4⟩ g5 g6 g7 g8 g9)
/-- a call of a text's method -/
def okS (as : List eV) (_ : eH) : Bool := match as with
  | a :: _ => Nat.beq a.1 5 && stO a.2.1
  | [] => false
theorem k_callVS (K : eK p m c s args cc own nL Ts D cl cA A) (hZ : eZ strs sb A s s.heap) {S : eS} {d : Nat} {y : eM} {n ix cm sm : Nat} {f : List eV → eB → eH → Option (List eO)} {hn : Nat → Nat → Option Nat} (hG : ∀ w ∈ GT, w ∈ Ts ∧ goodWord w = true) (hM : eMt GT y n) (hlk : Jvm.Cond.methodLink own ix y.1 ∈ GT) (hst : Jvm.Cond.instanceMethod y.1 ∈ GT) (hse : Jvm.Cond.selects y.1.cls y.1 y.1 ∈ GT) (hci : y.1.cls = "java/lang/String") (hfr : d + 9 ≤ R.frames) (hlo : 64 * d + 1064 ≤ R.locals) (hcm : cm ≤ R.cells) (hsm : sm ≤ R.slots)
    (hf : ∀ as B hp outs, f as B hp = some outs → eCM l GT strs ρ sb D cl cA d y as B hp outs) (hd : decode cc S.1 = .ok (.invokevirtual ix, 3))
    (caught : ∀ (E h : Nat), hn E S.1 = some h → ∀ (H : Heap) (locs : List Loc) (k z : Nat) (ls : Array Slot) (vs : List Value) (ce : Cell) (q : Addr), H[q]? = some ce → ce.vm = .none → s.vm.findClass (exN E) = some ce.cls → W p l e R s m args below meth c H locs k z Q (F0 m h ls [.ref q]) → vx_W p l e R s m args below meth c H locs k z Q (F0 m S.1 ls vs) q)
    {rs : List (Nat × eS)} (h : x_call f (n + 1) y.2.2.2.2.2.1 y.2.2.2.2.2.2 cm sm hn okS S = some rs) (hr : ∀ r ∈ rs, eLf p l e R s m args below meth c Q D cl cA A sb ρ ad0 h0 nL r) : eW p l e R s m args below meth c Q D cl cA A sb ρ ad0 h0 nL S := by
  obtain ⟨hx, hb, hml, hown, hts, hK, hA⟩ := id K
  refine k_call K (fun outs ho hok ad ls av vs ws H locs hls g2 ga g5 g6 g7 g8 hwd hav hc1 hc2 => ?_) caught h hr
  have hMt := hf _ _ _ _ ho ad av ws H.size g2 ga g5
  generalize hAs : (S.2.2.1.take (n + 1)).reverse = as at hok ga
  unfold okS at hok
  match as, av, ga, hok with
  | a :: as, v :: av, ga, hok =>
    dsimp only at hok
    unfold stO at hok
    simp only [Bool.and_eq_true] at hok
    obtain ⟨c1, c2, c3⟩ := hok
    replace c1 := Nat.eq_of_beq_eq_true c1
    replace c2 := Nat.eq_of_beq_eq_true c2
    replace c3 := blt_lt c3
    obtain ⟨a0, a1, a2, a3⟩ := a
    dsimp only at c1 c2 c3
    subst c1
    have hv : v = .ref (sb.1 a1) := ga.1
    subst hv
    obtain ⟨q, -, -, k2, -⟩ := eSt_at hZ c3
    have e1 : 2 * (a1 / 2) + 1 = a1 := by omega
    rw [e1] at k2
    have hrec : ∃ cell : Cell, H[sb.1 a1]? = some cell ∧ cell.vm.isStatics = false ∧ s.vm.findClass "java/lang/String" = some cell.cls := by
      obtain ⟨cell, h1, h2, h3, -⟩ := k2.kept g8.2.1
      exact ⟨cell, h1, h2, h3⟩
    rw [← hci] at hrec
    exact vx_runV ⟨hx, hb, hml, hown, hts⟩ hMt ⟨eCB hG hts hM hlk hfr hlo, hts _ (hG _ hst).1, hts _ (hG _ hse).1⟩ ⟨ePc_blind, hrec, ePc_at hA hZ hK g6 g7 g8⟩ rfl (Nat.succ.inj hav) hls (by rw [List.reverse_cons, List.append_assoc]; rfl) (lv_room hwd) hd ⟨Nat.le_trans hc1 hcm, Nat.le_trans hc2 hsm⟩
  | [], _, _, hok => cases hok
  | _ :: _, [], ga, _ => exact ga.elim
end E7S
