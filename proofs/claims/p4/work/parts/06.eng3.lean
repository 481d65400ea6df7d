/-! ===== THE ENGINE, 3: steps within a method ===== -/
abbrev eR : Type := Option (List (Nat × eS))
def exN : Nat → String
  | 1 => "java/lang/IllegalArgumentException"
  | _ => "java/util/NoSuchElementException"
def eAd (ad0 ad : Nat → Nat) (h0 n : Nat) : Prop := h0 ≤ n ∧ (∀ k, k < h0 → ad k = ad0 k) ∧ (n = h0 → ad = ad0)
/-- from every machine that the state S stands for, the method comes to Q -/
def eW (p : Program) (l : Launch) (e : Env) (R : Room) (s : State) (m : MethodId) (args : Array Value) (below : List Frame) (meth : Method) (c : Code) (Q : State → Prop) (D : va_G) (cl : List vw_C) (cA : Nat → ClassId) (A : Nat → Prop) (sb : eSB) (ρ : Nat → Int) (ad0 : Nat → Nat) (h0 nL : Nat) (S : eS) : Prop :=
  ∀ (ad : Nat → Nat) (ls : Array Slot) (lc : List (Nat × Value)) (vs : List Value) (ws : va_W) (H : Heap) (locs : List Loc), eAd ad0 ad h0 S.2.2.2.2.1.length → gB ρ S.2.2.2.1 → gL ρ ad sb S.2.1 lc → gS ρ ad sb S.2.2.1 vs → gH ρ ad sb cA S.2.2.2.2.1 ws → va_P D cl ws H → va_D A ws → va_S A s.heap H locs → lv_has ls nL lc →
    W p l e R s m args below meth c H locs S.2.2.2.2.2.1 S.2.2.2.2.2.2 Q (F0 m S.1 ls vs)
/-- the same with an exception over the frame -/
def eX (p : Program) (l : Launch) (e : Env) (R : Room) (s : State) (m : MethodId) (args : Array Value) (below : List Frame) (meth : Method) (c : Code) (Q : State → Prop) (D : va_G) (cl : List vw_C) (cA : Nat → ClassId) (A : Nat → Prop) (sb : eSB) (ρ : Nat → Int) (ad0 : Nat → Nat) (h0 nL : Nat) (E : Nat) (S : eS) : Prop :=
  ∀ (ad : Nat → Nat) (ls : Array Slot) (lc : List (Nat × Value)) (vs : List Value) (ws : va_W) (H : Heap) (locs : List Loc) (ce : Cell) (q : Addr), eAd ad0 ad h0 S.2.2.2.2.1.length → gB ρ S.2.2.2.1 → gL ρ ad sb S.2.1 lc → gS ρ ad sb S.2.2.1 vs → gH ρ ad sb cA S.2.2.2.2.1 ws → va_P D cl ws H → va_D A ws → va_S A s.heap H locs → lv_has ls nL lc →
    H[q]? = some ce → ce.vm = .none → s.vm.findClass (exN E) = some ce.cls → vx_W p l e R s m args below meth c H locs S.2.2.2.2.2.1 S.2.2.2.2.2.2 Q (F0 m S.1 ls vs) q
def eLf (p : Program) (l : Launch) (e : Env) (R : Room) (s : State) (m : MethodId) (args : Array Value) (below : List Frame) (meth : Method) (c : Code) (Q : State → Prop) (D : va_G) (cl : List vw_C) (cA : Nat → ClassId) (A : Nat → Prop) (sb : eSB) (ρ : Nat → Int) (ad0 : Nat → Nat) (h0 nL : Nat) (r : Nat × eS) : Prop := match r.1 with
  | 0 => eW p l e R s m args below meth c Q D cl cA A sb ρ ad0 h0 nL r.2
  | E + 1 => eX p l e R s m args below meth c Q D cl cA A sb ρ ad0 h0 nL (E + 1) r.2
/-- what stands while the method runs -/
def eK (p : Program) (m : MethodId) (c : Code) (s : State) (args : Array Value) (cc : ByteArray) (own : String) (nL : Nat) (Ts : List Cond) (D : va_G) (cl : List vw_C) (cA : Nat → ClassId) (A : Nat → Prop) : Prop :=
  p.tables.exec = Jvm.exec ∧ c.code = cc ∧ c.maxLocals = nL ∧ s.vm.findClass own = some m.cls ∧ (∀ w ∈ Ts, w.before args s = true) ∧ va_K D cl (eTys cA) s ∧ (∀ q, s.heap.size ≤ q → A q)
section E3
variable {p : Program} {l : Launch} {e : Env} {R : Room} {s : State} {m : MethodId} {args : Array Value} {below : List Frame} {meth : Method} {c : Code} {Q : State → Prop}
variable {D : va_G} {cl : List vw_C} {cA : Nat → ClassId} {A : Nat → Prop} {sb : eSB} {ρ : Nat → Int} {ad0 : Nat → Nat} {h0 nL : Nat} {cc : ByteArray} {own : String} {Ts : List Cond}
abbrev eNx (S : eS) : eR := some [(0, S)]
theorem eNx_ok {S S' : eS} {rs : List (Nat × eS)} (h : eNx S' = some rs) (hr : ∀ r ∈ rs, eLf p l e R s m args below meth c Q D cl cA A sb ρ ad0 h0 nL r) : eW p l e R s m args below meth c Q D cl cA A sb ρ ad0 h0 nL S' := by
  cases h
  exact hr (0, S') (List.mem_singleton.mpr rfl)
-- loads
def x_ld (k i len : Nat) (S : eS) : eR := match eFind S.2.1 i with
  | some a => bif Nat.beq a.1 k then eNx (S.1 + len, S.2.1, a :: S.2.2.1, S.2.2.2) else none
  | none => none
theorem k_iload (K : eK p m c s args cc own nL Ts D cl cA A) {S : eS} {i len : Nat} {ins : Instr} (hd : decode cc S.1 = .ok (ins, len)) (hi : (ins = .iload i ∧ len = 2) ∨ ∃ k : Fin 4, ins = .iload_n k ∧ (k : Nat) = i ∧ len = 1) {rs : List (Nat × eS)} (h : x_ld 0 i len S = some rs) (hr : ∀ r ∈ rs, eLf p l e R s m args below meth c Q D cl cA A sb ρ ad0 h0 nL r) : eW p l e R s m args below meth c Q D cl cA A sb ρ ad0 h0 nL S := by
  obtain ⟨hx, hb, -⟩ := K
  unfold x_ld at h
  split at h
  next a hf =>
    cases hb9 : Nat.beq a.1 0 with
    | false => rw [hb9] at h; cases h
    | true =>
      rw [hb9] at h
      have hn := eNx_ok (S := S) h hr
      intro ad ls lc vs ws H locs g1 g2 g3 g4 g5 g6 g7 g8 g9
      obtain ⟨k, v, q1, q2⟩ := gL_find g3 hf
      obtain ⟨a0, a1, a2, a3⟩ := a
      have e0 := Nat.eq_of_beq_eq_true hb9
      dsimp only at e0
      subst e0
      obtain ⟨x, rfl, hx9⟩ := q2
      have hn := hn ad ls lc (.int x :: vs) ws H locs g1 g2 g3 ⟨⟨x, rfl, hx9⟩, g4⟩ g5 g6 g7 g8 g9
      rcases hi with ⟨rfl, rfl⟩ | ⟨k', rfl, hk', rfl⟩
      · exact lv_iload hx hb hd (lv_at g9 k q1) hn
      · exact lv_iload_n hx hb hd hk' (lv_at g9 k q1) hn
  next => cases h
theorem k_lload (K : eK p m c s args cc own nL Ts D cl cA A) {S : eS} {i len : Nat} {ins : Instr} (hd : decode cc S.1 = .ok (ins, len)) (hi : (ins = .lload i ∧ len = 2) ∨ ∃ k : Fin 4, ins = .lload_n k ∧ (k : Nat) = i ∧ len = 1) {rs : List (Nat × eS)} (h : x_ld 1 i len S = some rs) (hr : ∀ r ∈ rs, eLf p l e R s m args below meth c Q D cl cA A sb ρ ad0 h0 nL r) : eW p l e R s m args below meth c Q D cl cA A sb ρ ad0 h0 nL S := by
  obtain ⟨hx, hb, -⟩ := K
  unfold x_ld at h
  split at h
  next a hf =>
    cases hb9 : Nat.beq a.1 1 with
    | false => rw [hb9] at h; cases h
    | true =>
      rw [hb9] at h
      have hn := eNx_ok (S := S) h hr
      intro ad ls lc vs ws H locs g1 g2 g3 g4 g5 g6 g7 g8 g9
      obtain ⟨k, v, q1, q2⟩ := gL_find g3 hf
      obtain ⟨a0, a1, a2, a3⟩ := a
      have e0 := Nat.eq_of_beq_eq_true hb9
      dsimp only at e0
      subst e0
      obtain ⟨x, rfl, hx9⟩ := q2
      have hn := hn ad ls lc (.long x :: vs) ws H locs g1 g2 g3 ⟨⟨x, rfl, hx9⟩, g4⟩ g5 g6 g7 g8 g9
      rcases hi with ⟨rfl, rfl⟩ | ⟨k', rfl, hk', rfl⟩
      · exact lv_lload hx hb hd (lv_at g9 k q1) hn
      · exact lv_lload_n hx hb hd hk' (lv_at g9 k q1) hn
  next => cases h
/-- a reference that isn't null -/
def eIsR (a : eV) : Bool := Nat.beq a.1 2 || (Nat.beq a.1 4 || Nat.beq a.1 5)
theorem eIsR_ok {ad : Nat → Nat} {a : eV} {v : Value} (h : eIsR a = true) (g : gV ρ ad sb a v) : ∃ q : Nat, v = .ref q := by
  obtain ⟨k, t, lo, hi⟩ := a
  match k, h, g with
  | 0, h, _ => cases h
  | 1, h, _ => cases h
  | 2, _, g => exact ⟨_, g⟩
  | 3, h, _ => cases h
  | 4, _, g => exact g
  | 5, _, g => exact ⟨_, g⟩
  | (n + 6), _, g => exact g.elim
def x_ald (i len : Nat) (S : eS) : eR := match eFind S.2.1 i with
  | some a => bif eIsR a then eNx (S.1 + len, S.2.1, a :: S.2.2.1, S.2.2.2) else none
  | none => none
theorem k_aload (K : eK p m c s args cc own nL Ts D cl cA A) {S : eS} {i len : Nat} {ins : Instr} (hd : decode cc S.1 = .ok (ins, len)) (hi : (ins = .aload i ∧ len = 2) ∨ ∃ k : Fin 4, ins = .aload_n k ∧ (k : Nat) = i ∧ len = 1) {rs : List (Nat × eS)} (h : x_ald i len S = some rs) (hr : ∀ r ∈ rs, eLf p l e R s m args below meth c Q D cl cA A sb ρ ad0 h0 nL r) : eW p l e R s m args below meth c Q D cl cA A sb ρ ad0 h0 nL S := by
  obtain ⟨hx, hb, -⟩ := K
  unfold x_ald at h
  split at h
  next a hf =>
    cases hb9 : eIsR a with
    | false => rw [hb9] at h; cases h
    | true =>
      rw [hb9] at h
      have hn := eNx_ok (S := S) h hr
      intro ad ls lc vs ws H locs g1 g2 g3 g4 g5 g6 g7 g8 g9
      obtain ⟨k, v, q1, q2⟩ := gL_find g3 hf
      obtain ⟨x, rfl⟩ := eIsR_ok hb9 q2
      have hn := hn ad ls lc (.ref x :: vs) ws H locs g1 g2 g3 ⟨q2, g4⟩ g5 g6 g7 g8 g9
      rcases hi with ⟨rfl, rfl⟩ | ⟨k', rfl, hk', rfl⟩
      · exact lv_aload hx hb hd (lv_at g9 k q1) hn
      · exact lv_aload_n hx hb hd hk' (lv_at g9 k q1) hn
  next => cases h
-- stores
def x_st (k i len nL : Nat) (S : eS) : eR := match S.2.2.1 with
  | a :: r => bif Nat.beq a.1 k && Nat.blt i nL then eNx (S.1 + len, (i, a) :: eDrop1 S.2.1 i, r, S.2.2.2) else none
  | [] => none
theorem blt_lt {a b : Nat} (h : Nat.blt a b = true) : a < b := Nat.le_of_ble_eq_true h
theorem k_istore (K : eK p m c s args cc own nL Ts D cl cA A) {S : eS} {i len : Nat} {ins : Instr} (hd : decode cc S.1 = .ok (ins, len)) (hi : (ins = .istore i ∧ len = 2) ∨ ∃ k : Fin 4, ins = .istore_n k ∧ (k : Nat) = i ∧ len = 1) {rs : List (Nat × eS)} (h : x_st 0 i len nL S = some rs) (hr : ∀ r ∈ rs, eLf p l e R s m args below meth c Q D cl cA A sb ρ ad0 h0 nL r) : eW p l e R s m args below meth c Q D cl cA A sb ρ ad0 h0 nL S := by
  obtain ⟨hx, hb, -⟩ := K
  obtain ⟨pc, lo, st, T⟩ := S
  unfold x_st at h
  split at h
  next a r hst =>
    dsimp only at hst
    subst hst
    cases hb9 : (Nat.beq a.1 0 && Nat.blt i nL) with
    | false => rw [hb9] at h; cases h
    | true =>
      rw [hb9] at h
      rw [Bool.and_eq_true] at hb9
      have hn := eNx_ok (S := (pc, lo, a :: r, T)) h hr
      intro ad ls lc vs ws H locs g1 g2 g3 g4 g5 g6 g7 g8 g9
      cases vs with
      | nil => exact g4.elim
      | cons v vs =>
        obtain ⟨a0, a1, a2, a3⟩ := a
        have e0 := Nat.eq_of_beq_eq_true hb9.1
        dsimp only at e0
        subst e0
        obtain ⟨⟨x, rfl, hx9⟩, g4⟩ := g4
        have hn := fun (ls' : Array Slot) (hl : lv_has ls' nL _) => hn ad ls' ((i, .int x) :: lc.filter (fun q => !(q.1 == i) && !(q.1 + 1 == i && q.2.category == 2))) vs ws H locs g1 g2 ⟨⟨rfl, ⟨x, rfl, hx9⟩⟩, gL_drop1 i g3⟩ g4 g5 g6 g7 g8 hl
        rcases hi with ⟨rfl, rfl⟩ | ⟨k', rfl, hk', rfl⟩
        · exact lv_istore hx hb hd g9 (blt_lt hb9.2) rfl hn
        · exact lv_istore_n hx hb hd hk' g9 (blt_lt hb9.2) rfl hn
  next => cases h
def x_ast (i len nL : Nat) (S : eS) : eR := match S.2.2.1 with
  | a :: r => bif eIsR a && Nat.blt i nL then eNx (S.1 + len, (i, a) :: eDrop1 S.2.1 i, r, S.2.2.2) else none
  | [] => none
theorem k_astore (K : eK p m c s args cc own nL Ts D cl cA A) {S : eS} {i len : Nat} {ins : Instr} (hd : decode cc S.1 = .ok (ins, len)) (hi : (ins = .astore i ∧ len = 2) ∨ ∃ k : Fin 4, ins = .astore_n k ∧ (k : Nat) = i ∧ len = 1) {rs : List (Nat × eS)} (h : x_ast i len nL S = some rs) (hr : ∀ r ∈ rs, eLf p l e R s m args below meth c Q D cl cA A sb ρ ad0 h0 nL r) : eW p l e R s m args below meth c Q D cl cA A sb ρ ad0 h0 nL S := by
  obtain ⟨hx, hb, -⟩ := K
  obtain ⟨pc, lo, st, T⟩ := S
  unfold x_ast at h
  split at h
  next a r hst =>
    dsimp only at hst
    subst hst
    cases hb9 : (eIsR a && Nat.blt i nL) with
    | false => rw [hb9] at h; cases h
    | true =>
      rw [hb9] at h
      rw [Bool.and_eq_true] at hb9
      have hn := eNx_ok (S := (pc, lo, a :: r, T)) h hr
      intro ad ls lc vs ws H locs g1 g2 g3 g4 g5 g6 g7 g8 g9
      cases vs with
      | nil => exact g4.elim
      | cons v vs =>
        obtain ⟨q2, g4⟩ := g4
        obtain ⟨x, rfl⟩ := eIsR_ok hb9.1 q2
        have hn := fun (ls' : Array Slot) (hl : lv_has ls' nL _) => hn ad ls' ((i, .ref x) :: lc.filter (fun q => !(q.1 == i) && !(q.1 + 1 == i && q.2.category == 2))) vs ws H locs g1 g2 ⟨⟨rfl, q2⟩, gL_drop1 i g3⟩ g4 g5 g6 g7 g8 hl
        rcases hi with ⟨rfl, rfl⟩ | ⟨k', rfl, hk', rfl⟩
        · exact lv_astore hx hb hd g9 (blt_lt hb9.2) rfl hn
        · exact lv_astore_n hx hb hd hk' g9 (blt_lt hb9.2) rfl hn
  next => cases h
def x_lst (i len nL : Nat) (S : eS) : eR := match S.2.2.1 with
  | a :: r => bif Nat.beq a.1 1 && Nat.blt (i + 1) nL then eNx (S.1 + len, (i, a) :: eDrop2 S.2.1 i, r, S.2.2.2) else none
  | [] => none
theorem k_lstore (K : eK p m c s args cc own nL Ts D cl cA A) {S : eS} {i len : Nat} {ins : Instr} (hd : decode cc S.1 = .ok (ins, len)) (hi : (ins = .lstore i ∧ len = 2) ∨ ∃ k : Fin 4, ins = .lstore_n k ∧ (k : Nat) = i ∧ len = 1) {rs : List (Nat × eS)} (h : x_lst i len nL S = some rs) (hr : ∀ r ∈ rs, eLf p l e R s m args below meth c Q D cl cA A sb ρ ad0 h0 nL r) : eW p l e R s m args below meth c Q D cl cA A sb ρ ad0 h0 nL S := by
  obtain ⟨hx, hb, -⟩ := K
  obtain ⟨pc, lo, st, T⟩ := S
  unfold x_lst at h
  split at h
  next a r hst =>
    dsimp only at hst
    subst hst
    cases hb9 : (Nat.beq a.1 1 && Nat.blt (i + 1) nL) with
    | false => rw [hb9] at h; cases h
    | true =>
      rw [hb9] at h
      rw [Bool.and_eq_true] at hb9
      have hn := eNx_ok (S := (pc, lo, a :: r, T)) h hr
      intro ad ls lc vs ws H locs g1 g2 g3 g4 g5 g6 g7 g8 g9
      cases vs with
      | nil => exact g4.elim
      | cons v vs =>
        obtain ⟨a0, a1, a2, a3⟩ := a
        have e0 := Nat.eq_of_beq_eq_true hb9.1
        dsimp only at e0
        subst e0
        obtain ⟨⟨x, rfl, hx9⟩, g4⟩ := g4
        have hn := fun (ls' : Array Slot) (hl : lv_has ls' nL _) => hn ad ls' ((i, .long x) :: lc.filter (fun q => !(q.1 == i) && (!(q.1 == i + 1) && !(q.1 + 1 == i && q.2.category == 2)))) vs ws H locs g1 g2 ⟨⟨rfl, ⟨x, rfl, hx9⟩⟩, gL_drop2 i g3⟩ g4 g5 g6 g7 g8 hl
        rcases hi with ⟨rfl, rfl⟩ | ⟨k', rfl, hk', rfl⟩
        · exact lv_lstore hx hb hd g9 (blt_lt hb9.2) rfl hn
        · exact lv_lstore_n hx hb hd hk' g9 (blt_lt hb9.2) rfl hn
  next => cases h
def x_inc (i : Nat) (n : Int) (nL : Nat) (S : eS) : eR := match eFind S.2.1 i with
  | some a => bif Nat.beq a.1 0 && Nat.blt i nL then eNx (S.1 + 3, (i, eBin (fun x y => x + y) 1 S.2.2.2.1 a (eI (Int32.ofInt n).toInt)) :: eDrop1 S.2.1 i, S.2.2) else none
  | none => none
theorem k_iinc (K : eK p m c s args cc own nL Ts D cl cA A) {S : eS} {i : Nat} {n : Int} (hd : decode cc S.1 = .ok (.iinc i n, 3)) {rs : List (Nat × eS)} (h : x_inc i n nL S = some rs) (hr : ∀ r ∈ rs, eLf p l e R s m args below meth c Q D cl cA A sb ρ ad0 h0 nL r) : eW p l e R s m args below meth c Q D cl cA A sb ρ ad0 h0 nL S := by
  obtain ⟨hx, hb, -⟩ := K
  unfold x_inc at h
  split at h
  next a hf =>
    cases hb9 : (Nat.beq a.1 0 && Nat.blt i nL) with
    | false => rw [hb9] at h; cases h
    | true =>
      rw [hb9] at h
      rw [Bool.and_eq_true] at hb9
      have hn := eNx_ok (S := S) h hr
      intro ad ls lc vs ws H locs g1 g2 g3 g4 g5 g6 g7 g8 g9
      obtain ⟨k, v, q1, q2⟩ := gL_find g3 hf
      obtain ⟨a0, a1, a2, a3⟩ := a
      have e0 := Nat.eq_of_beq_eq_true hb9.1
      dsimp only at e0
      subst e0
      obtain ⟨x, rfl, hx9⟩ := q2
      refine lv_iinc (v := x + Int32.ofInt n) hx hb hd g9 q1 rfl (blt_lt hb9.2) rfl (fun ls' hl => ?_)
      exact hn ad ls' ((i, .int (x + Int32.ofInt n)) :: lc.filter (fun q => !(q.1 == i) && !(q.1 + 1 == i && q.2.category == 2))) vs ws H locs g1 g2 ⟨⟨rfl, eBin_gV eApx1 g2 hx9 (gN_I _)⟩, gL_drop1 i g3⟩ g4 g5 g6 g7 g8 hl
  next => cases h
-- constants
def x_k (a : eV) (len : Nat) (S : eS) : eR := eNx (S.1 + len, S.2.1, a :: S.2.2.1, S.2.2.2)
theorem k_push {S : eS} {a : eV} {len : Nat} {v : Value} (hv : ∀ ad, gV ρ ad sb a v) (row : ∀ (H : Heap) (locs : List Loc) (ls : Array Slot) (vs : List Value), W p l e R s m args below meth c H locs S.2.2.2.2.2.1 S.2.2.2.2.2.2 Q (F0 m (S.1 + len) ls (v :: vs)) → W p l e R s m args below meth c H locs S.2.2.2.2.2.1 S.2.2.2.2.2.2 Q (F0 m S.1 ls vs)) {rs : List (Nat × eS)} (h : x_k a len S = some rs) (hr : ∀ r ∈ rs, eLf p l e R s m args below meth c Q D cl cA A sb ρ ad0 h0 nL r) : eW p l e R s m args below meth c Q D cl cA A sb ρ ad0 h0 nL S := by
  have hn := eNx_ok (S := S) h hr
  intro ad ls lc vs ws H locs g1 g2 g3 g4 g5 g6 g7 g8 g9
  exact row H locs ls vs (hn ad ls lc (v :: vs) ws H locs g1 g2 g3 ⟨hv ad, g4⟩ g5 g6 g7 g8 g9)
-- operations
def x_bin (f : Int32 → Int32 → Int32) (k : Nat) (S : eS) : eR := match S.2.2.1 with
  | b :: a :: r => bif Nat.beq b.1 0 && Nat.beq a.1 0 then eNx (S.1 + 1, S.2.1, eBinR f k S.2.2.2.1 a b :: r, S.2.2.2) else none
  | _ => none
theorem k_bin {S : eS} {f : Int32 → Int32 → Int32} {k : Nat} (hk : eApxOk f k) (hx : eExa f k) (row : ∀ (H : Heap) (locs : List Loc) (ls : Array Slot) (vs : List Value) (x y : Int32), W p l e R s m args below meth c H locs S.2.2.2.2.2.1 S.2.2.2.2.2.2 Q (F0 m (S.1 + 1) ls (.int (f x y) :: vs)) → W p l e R s m args below meth c H locs S.2.2.2.2.2.1 S.2.2.2.2.2.2 Q (F0 m S.1 ls (.int y :: .int x :: vs))) {rs : List (Nat × eS)} (h : x_bin f k S = some rs) (hr : ∀ r ∈ rs, eLf p l e R s m args below meth c Q D cl cA A sb ρ ad0 h0 nL r) : eW p l e R s m args below meth c Q D cl cA A sb ρ ad0 h0 nL S := by
  obtain ⟨pc, lo, st, T⟩ := S
  unfold x_bin at h
  split at h
  next b a r hst =>
    dsimp only at hst
    subst hst
    cases hb9 : (Nat.beq b.1 0 && Nat.beq a.1 0) with
    | false => rw [hb9] at h; cases h
    | true =>
      rw [hb9] at h
      rw [Bool.and_eq_true] at hb9
      have hn := eNx_ok (S := (pc, lo, b :: a :: r, T)) h hr
      obtain ⟨a0, a1, a2, a3⟩ := a
      obtain ⟨b0, b1, b2, b3⟩ := b
      have e0 := Nat.eq_of_beq_eq_true hb9.1
      have e1 := Nat.eq_of_beq_eq_true hb9.2
      dsimp only at e0 e1
      subst e0
      subst e1
      intro ad ls lc vs ws H locs g1 g2 g3 g4 g5 g6 g7 g8 g9
      match vs, g4 with
      | v :: w :: vs, g4 =>
        obtain ⟨⟨y, rfl, hy9⟩, ⟨x, rfl, hx9⟩, g4⟩ := g4
        exact row H locs ls vs x y (hn ad ls lc _ ws H locs g1 g2 g3 ⟨eBinR_gV hk hx g2 hx9 hy9, g4⟩ g5 g6 g7 g8 g9)
      | [_], g4 => exact g4.2.elim
      | [], g4 => exact g4.elim
  next => cases h
def x_div (f : Int32 → Int32 → Int32) (k : Nat) (S : eS) : eR := match S.2.2.1 with
  | b :: a :: r => bif Nat.beq b.1 0 && (Nat.beq a.1 0 && (decide (0 < eLo S.2.2.2.1 b) || decide (eHi S.2.2.2.1 b < 0))) then eNx (S.1 + 1, S.2.1, eBin f k S.2.2.2.1 a b :: r, S.2.2.2) else none
  | _ => none
theorem i32_ne0 {y : Int32} (h : y.toInt ≠ 0) : ¬ y = 0 := fun e => h (by rw [e]; rfl)
theorem k_div {S : eS} {f : Int32 → Int32 → Int32} {k : Nat} (hk : eApxOk f k) (row : ∀ (H : Heap) (locs : List Loc) (ls : Array Slot) (vs : List Value) (x y : Int32), ¬ y = 0 → W p l e R s m args below meth c H locs S.2.2.2.2.2.1 S.2.2.2.2.2.2 Q (F0 m (S.1 + 1) ls (.int (f x y) :: vs)) → W p l e R s m args below meth c H locs S.2.2.2.2.2.1 S.2.2.2.2.2.2 Q (F0 m S.1 ls (.int y :: .int x :: vs))) {rs : List (Nat × eS)} (h : x_div f k S = some rs) (hr : ∀ r ∈ rs, eLf p l e R s m args below meth c Q D cl cA A sb ρ ad0 h0 nL r) : eW p l e R s m args below meth c Q D cl cA A sb ρ ad0 h0 nL S := by
  obtain ⟨pc, lo, st, T⟩ := S
  unfold x_div at h
  split at h
  next b a r hst =>
    dsimp only at hst
    subst hst
    cases hb9 : (Nat.beq b.1 0 && (Nat.beq a.1 0 && (decide (0 < eLo T.1 b) || decide (eHi T.1 b < 0)))) with
    | false => rw [hb9] at h; cases h
    | true =>
      rw [hb9] at h
      rw [Bool.and_eq_true, Bool.and_eq_true, Bool.or_eq_true, decide_eq_true_eq, decide_eq_true_eq] at hb9
      have hn := eNx_ok (S := (pc, lo, b :: a :: r, T)) h hr
      obtain ⟨a0, a1, a2, a3⟩ := a
      obtain ⟨b0, b1, b2, b3⟩ := b
      have e0 := Nat.eq_of_beq_eq_true hb9.1
      have e1 := Nat.eq_of_beq_eq_true hb9.2.1
      have e2 := hb9.2.2
      dsimp only at e0 e1
      subst e0
      subst e1
      intro ad ls lc vs ws H locs g1 g2 g3 g4 g5 g6 g7 g8 g9
      match vs, g4 with
      | v :: w :: vs, g4 =>
        obtain ⟨⟨y, rfl, hy9⟩, ⟨x, rfl, hx9⟩, g4⟩ := g4
        have u1 := eLo_ok g2 hy9
        have u2 := eHi_ok g2 hy9
        dsimp only at u1 u2
        exact row H locs ls vs x y (i32_ne0 (by rcases e2 with e2 | e2 <;> omega)) (hn ad ls lc _ ws H locs g1 g2 g3 ⟨eBin_gV hk g2 hx9 hy9, g4⟩ g5 g6 g7 g8 g9)
      | [_], g4 => exact g4.2.elim
      | [], g4 => exact g4.elim
  next => cases h
def x_un (f : Int32 → Int32) (lo hi : Int) (S : eS) : eR := match S.2.2.1 with
  | a :: r => bif Nat.beq a.1 0 then eNx (S.1 + 1, S.2.1, eUn f S.2.2.2.1 a lo hi :: r, S.2.2.2) else none
  | _ => none
theorem k_un {S : eS} {f : Int32 → Int32} {lo hi : Int} (hf : ∀ x, lo ≤ (f x).toInt ∧ (f x).toInt ≤ hi) (row : ∀ (H : Heap) (locs : List Loc) (ls : Array Slot) (vs : List Value) (x : Int32), W p l e R s m args below meth c H locs S.2.2.2.2.2.1 S.2.2.2.2.2.2 Q (F0 m (S.1 + 1) ls (.int (f x) :: vs)) → W p l e R s m args below meth c H locs S.2.2.2.2.2.1 S.2.2.2.2.2.2 Q (F0 m S.1 ls (.int x :: vs))) {rs : List (Nat × eS)} (h : x_un f lo hi S = some rs) (hr : ∀ r ∈ rs, eLf p l e R s m args below meth c Q D cl cA A sb ρ ad0 h0 nL r) : eW p l e R s m args below meth c Q D cl cA A sb ρ ad0 h0 nL S := by
  obtain ⟨pc, lo9, st, T⟩ := S
  unfold x_un at h
  split at h
  next a r hst =>
    dsimp only at hst
    subst hst
    cases hb9 : Nat.beq a.1 0 with
    | false => rw [hb9] at h; cases h
    | true =>
      rw [hb9] at h
      have hn := eNx_ok (S := (pc, lo9, a :: r, T)) h hr
      obtain ⟨a0, a1, a2, a3⟩ := a
      have e0 := Nat.eq_of_beq_eq_true hb9
      dsimp only at e0
      subst e0
      intro ad ls lc vs ws H locs g1 g2 g3 g4 g5 g6 g7 g8 g9
      match vs, g4 with
      | v :: vs, g4 =>
        obtain ⟨⟨x, rfl, hx9⟩, g4⟩ := g4
        exact row H locs ls vs x (hn ad ls lc _ ws H locs g1 g2 g3 ⟨eUn_gV g2 hx9 (hf x).1 (hf x).2, g4⟩ g5 g6 g7 g8 g9)
      | [], g4 => exact g4.elim
  next => cases h
def x_i2b (S : eS) : eR := match S.2.2.1 with
  | a :: r => bif Nat.beq a.1 0 then eNx (S.1 + 1, S.2.1, eI2b S.2.2.2.1 a :: r, S.2.2.2) else none
  | _ => none
theorem k_i2b {S : eS} (row : ∀ (H : Heap) (locs : List Loc) (ls : Array Slot) (vs : List Value) (x : Int32), W p l e R s m args below meth c H locs S.2.2.2.2.2.1 S.2.2.2.2.2.2 Q (F0 m (S.1 + 1) ls (.int x.toInt8.toInt32 :: vs)) → W p l e R s m args below meth c H locs S.2.2.2.2.2.1 S.2.2.2.2.2.2 Q (F0 m S.1 ls (.int x :: vs))) {rs : List (Nat × eS)} (h : x_i2b S = some rs) (hr : ∀ r ∈ rs, eLf p l e R s m args below meth c Q D cl cA A sb ρ ad0 h0 nL r) : eW p l e R s m args below meth c Q D cl cA A sb ρ ad0 h0 nL S := by
  obtain ⟨pc, lo9, st, T⟩ := S
  unfold x_i2b at h
  split at h
  next a r hst =>
    dsimp only at hst
    subst hst
    cases hb9 : Nat.beq a.1 0 with
    | false => rw [hb9] at h; cases h
    | true =>
      rw [hb9] at h
      have hn := eNx_ok (S := (pc, lo9, a :: r, T)) h hr
      obtain ⟨a0, a1, a2, a3⟩ := a
      have e0 := Nat.eq_of_beq_eq_true hb9
      dsimp only at e0
      subst e0
      intro ad ls lc vs ws H locs g1 g2 g3 g4 g5 g6 g7 g8 g9
      match vs, g4 with
      | v :: vs, g4 =>
        obtain ⟨⟨x, rfl, hx9⟩, g4⟩ := g4
        exact row H locs ls vs x (hn ad ls lc _ ws H locs g1 g2 g3 ⟨eI2b_gV g2 hx9, g4⟩ g5 g6 g7 g8 g9)
      | [], g4 => exact g4.elim
  next => cases h
/-- a char made of an int: one that is a char already stays as it is -/
def x_i2c (S : eS) : eR := match S.2.2.1 with
  | a :: r => bif Nat.beq a.1 0 then eNx (S.1 + 1, S.2.1, (bif decide (0 ≤ eLo S.2.2.2.1 a) && decide (eHi S.2.2.2.1 a ≤ 65535) then a else eUn (fun x => (x.toUInt32 % 65536).toInt32) S.2.2.2.1 a 0 65535) :: r, S.2.2.2) else none
  | _ => none
theorem i2c_id {x : Int32} (h1 : 0 ≤ x.toInt) (h2 : x.toInt ≤ 65535) : (x.toUInt32 % 65536).toInt32 = x := by
  apply Int32.toBitVec_inj.mp
  show (x.toUInt32 % 65536).toBitVec = x.toBitVec
  apply BitVec.eq_of_toNat_eq
  have e1 : (x.toUInt32 % 65536).toBitVec.toNat = x.toBitVec.toNat % 65536 := by
    show (x.toUInt32 % 65536).toNat = _
    rw [UInt32.toNat_mod]
    rfl
  rw [e1]
  obtain ⟨x1, x2⟩ := i32_nat_of (x := x) h1
  exact Nat.mod_eq_of_lt (by omega)
theorem k_i2c (hf : ∀ x : Int32, 0 ≤ ((x.toUInt32 % 65536).toInt32).toInt ∧ ((x.toUInt32 % 65536).toInt32).toInt ≤ 65535) {S : eS} (row : ∀ (H : Heap) (locs : List Loc) (ls : Array Slot) (vs : List Value) (x : Int32), W p l e R s m args below meth c H locs S.2.2.2.2.2.1 S.2.2.2.2.2.2 Q (F0 m (S.1 + 1) ls (.int (x.toUInt32 % 65536).toInt32 :: vs)) → W p l e R s m args below meth c H locs S.2.2.2.2.2.1 S.2.2.2.2.2.2 Q (F0 m S.1 ls (.int x :: vs))) {rs : List (Nat × eS)} (h : x_i2c S = some rs) (hr : ∀ r ∈ rs, eLf p l e R s m args below meth c Q D cl cA A sb ρ ad0 h0 nL r) : eW p l e R s m args below meth c Q D cl cA A sb ρ ad0 h0 nL S := by
  obtain ⟨pc, lo9, st, T⟩ := S
  unfold x_i2c at h
  split at h
  next a r hst =>
    dsimp only at hst
    subst hst
    cases hb9 : Nat.beq a.1 0 with
    | false => rw [hb9] at h; cases h
    | true =>
      rw [hb9] at h
      have hn := eNx_ok (S := (pc, lo9, a :: r, T)) h hr
      obtain ⟨a0, a1, a2, a3⟩ := a
      have e0 := Nat.eq_of_beq_eq_true hb9
      dsimp only at e0
      subst e0
      intro ad ls lc vs ws H locs g1 g2 g3 g4 g5 g6 g7 g8 g9
      match vs, g4 with
      | v :: vs, g4 =>
        obtain ⟨⟨x, rfl, hx9⟩, g4⟩ := g4
        have hv : gV ρ ad sb (bif decide (0 ≤ eLo T.1 (0, a1, a2, a3)) && decide (eHi T.1 (0, a1, a2, a3) ≤ 65535) then (0, a1, a2, a3) else eUn (fun x => (x.toUInt32 % 65536).toInt32) T.1 (0, a1, a2, a3) 0 65535) (.int (x.toUInt32 % 65536).toInt32) := by
          cases hd : (decide (0 ≤ eLo T.1 (0, a1, a2, a3)) && decide (eHi T.1 (0, a1, a2, a3) ≤ 65535)) with
          | true =>
            rw [cond_true]
            simp only [Bool.and_eq_true, decide_eq_true_eq] at hd
            have u1 := eLo_ok g2 hx9
            have u2 := eHi_ok g2 hx9
            dsimp only at u1 u2
            rw [i2c_id (by omega) (by omega)]
            exact ⟨x, rfl, hx9⟩
          | false =>
            rw [cond_false]
            exact eUn_gV g2 hx9 (hf x).1 (hf x).2
        exact row H locs ls vs x (hn ad ls lc _ ws H locs g1 g2 g3 ⟨hv, g4⟩ g5 g6 g7 g8 g9)
      | [], g4 => exact g4.elim
  next => cases h
def x_i2l (S : eS) : eR := match S.2.2.1 with
  | a :: r => bif Nat.beq a.1 0 then eNx (S.1 + 1, S.2.1, (1, a.2) :: r, S.2.2.2) else none
  | _ => none
theorem k_i2l (K : eK p m c s args cc own nL Ts D cl cA A) {S : eS} (hd : decode cc S.1 = .ok (.i2l, 1)) {rs : List (Nat × eS)} (h : x_i2l S = some rs) (hr : ∀ r ∈ rs, eLf p l e R s m args below meth c Q D cl cA A sb ρ ad0 h0 nL r) : eW p l e R s m args below meth c Q D cl cA A sb ρ ad0 h0 nL S := by
  obtain ⟨hx, hb, -⟩ := K
  obtain ⟨pc, lo9, st, T⟩ := S
  unfold x_i2l at h
  split at h
  next a r hst =>
    dsimp only at hst
    subst hst
    cases hb9 : Nat.beq a.1 0 with
    | false => rw [hb9] at h; cases h
    | true =>
      rw [hb9] at h
      have hn := eNx_ok (S := (pc, lo9, a :: r, T)) h hr
      obtain ⟨a0, a1, a2, a3⟩ := a
      have e0 := Nat.eq_of_beq_eq_true hb9
      dsimp only at e0
      subst e0
      intro ad ls lc vs ws H locs g1 g2 g3 g4 g5 g6 g7 g8 g9
      match vs, g4 with
      | v :: vs, g4 =>
        obtain ⟨⟨x, rfl, hx9⟩, g4⟩ := g4
        refine lv_i2l (v := x.toInt64) hx hb hd rfl ?_
        exact hn ad ls lc _ ws H locs g1 g2 g3 ⟨gV_long (by rw [Int32.toInt_toInt64]; exact hx9), g4⟩ g5 g6 g7 g8 g9
      | [], g4 => exact g4.elim
  next => cases h
def x_l2i (S : eS) : eR := match S.2.2.1 with
  | a :: r => bif Nat.beq a.1 1 then eNx (S.1 + 1, S.2.1, (bif decide (-2147483648 ≤ eLo S.2.2.2.1 a) && decide (eHi S.2.2.2.1 a ≤ 2147483647) then (0, a.2) else eTop) :: r, S.2.2.2) else none
  | _ => none
theorem l2i_val {x : Int64} (h1 : -2147483648 ≤ x.toInt) (h2 : x.toInt ≤ 2147483647) : x.toInt32.toInt = x.toInt := by
  rw [Int64.toInt_toInt32]
  exact Int.bmod_eq_of_le (by omega) (by omega)
theorem k_l2i (K : eK p m c s args cc own nL Ts D cl cA A) {S : eS} (hd : decode cc S.1 = .ok (.l2i, 1)) {rs : List (Nat × eS)} (h : x_l2i S = some rs) (hr : ∀ r ∈ rs, eLf p l e R s m args below meth c Q D cl cA A sb ρ ad0 h0 nL r) : eW p l e R s m args below meth c Q D cl cA A sb ρ ad0 h0 nL S := by
  obtain ⟨hx, hb, -⟩ := K
  obtain ⟨pc, lo9, st, B, T⟩ := S
  unfold x_l2i at h
  split at h
  next a r hst =>
    dsimp only at hst
    subst hst
    dsimp only at h
    cases hb9 : Nat.beq a.1 1 with
    | false => rw [hb9] at h; cases h
    | true =>
      rw [hb9] at h
      have hn := eNx_ok (S := (pc, lo9, a :: r, B, T)) h hr
      obtain ⟨a0, a1, a2, a3⟩ := a
      have e0 := Nat.eq_of_beq_eq_true hb9
      dsimp only at e0
      subst e0
      intro ad ls lc vs ws H locs g1 g2 g3 g4 g5 g6 g7 g8 g9
      match vs, g4 with
      | v :: vs, g4 =>
        obtain ⟨⟨x, rfl, hx9⟩, g4⟩ := g4
        have u1 := eLo_ok g2 hx9
        have u2 := eHi_ok g2 hx9
        dsimp only at u1 u2
        refine lv_l2i (v := x.toInt32) hx hb hd rfl ?_
        refine hn ad ls lc _ ws H locs g1 g2 g3 ⟨?_, g4⟩ g5 g6 g7 g8 g9
        cases hb8 : (decide (-2147483648 ≤ eLo B (1, a1, a2, a3)) && decide (eHi B (1, a1, a2, a3) ≤ 2147483647)) with
        | true =>
          rw [Bool.and_eq_true, decide_eq_true_eq, decide_eq_true_eq] at hb8
          rw [cond_true]
          exact gV_int (by rw [l2i_val (by omega) (by omega)]; exact hx9)
        | false =>
          rw [cond_false]
          exact gV_int (eTop_ok _)
      | [], g4 => exact g4.elim
  next => cases h
def x_binL (f : Int64 → Int64 → Int64) (S : eS) : eR := match S.2.2.1 with
  | b :: a :: r => bif Nat.beq b.1 1 && Nat.beq a.1 1 then eNx (S.1 + 1, S.2.1, eBinL f S.2.2.2.1 a b :: r, S.2.2.2) else none
  | _ => none
theorem k_binL {S : eS} {f : Int64 → Int64 → Int64} (row : ∀ (H : Heap) (locs : List Loc) (ls : Array Slot) (vs : List Value) (x y : Int64), W p l e R s m args below meth c H locs S.2.2.2.2.2.1 S.2.2.2.2.2.2 Q (F0 m (S.1 + 1) ls (.long (f x y) :: vs)) → W p l e R s m args below meth c H locs S.2.2.2.2.2.1 S.2.2.2.2.2.2 Q (F0 m S.1 ls (.long y :: .long x :: vs))) {rs : List (Nat × eS)} (h : x_binL f S = some rs) (hr : ∀ r ∈ rs, eLf p l e R s m args below meth c Q D cl cA A sb ρ ad0 h0 nL r) : eW p l e R s m args below meth c Q D cl cA A sb ρ ad0 h0 nL S := by
  obtain ⟨pc, lo, st, T⟩ := S
  unfold x_binL at h
  split at h
  next b a r hst =>
    dsimp only at hst
    subst hst
    cases hb9 : (Nat.beq b.1 1 && Nat.beq a.1 1) with
    | false => rw [hb9] at h; cases h
    | true =>
      rw [hb9] at h
      rw [Bool.and_eq_true] at hb9
      have hn := eNx_ok (S := (pc, lo, b :: a :: r, T)) h hr
      obtain ⟨a0, a1, a2, a3⟩ := a
      obtain ⟨b0, b1, b2, b3⟩ := b
      have e0 := Nat.eq_of_beq_eq_true hb9.1
      have e1 := Nat.eq_of_beq_eq_true hb9.2
      dsimp only at e0 e1
      subst e0
      subst e1
      intro ad ls lc vs ws H locs g1 g2 g3 g4 g5 g6 g7 g8 g9
      match vs, g4 with
      | v :: w :: vs, g4 =>
        obtain ⟨⟨y, rfl, hy9⟩, ⟨x, rfl, hx9⟩, g4⟩ := g4
        exact row H locs ls vs x y (hn ad ls lc _ ws H locs g1 g2 g3 ⟨eBinL_gV g2 hx9 hy9, g4⟩ g5 g6 g7 g8 g9)
      | [_], g4 => exact g4.2.elim
      | [], g4 => exact g4.elim
  next => cases h
def x_shL (f : Int64 → Int32 → Int64) (S : eS) : eR := match S.2.2.1 with
  | b :: a :: r => bif Nat.beq b.1 0 && Nat.beq a.1 1 then eNx (S.1 + 1, S.2.1, eShL f S.2.2.2.1 a b :: r, S.2.2.2) else none
  | _ => none
theorem k_shL {S : eS} {f : Int64 → Int32 → Int64} (row : ∀ (H : Heap) (locs : List Loc) (ls : Array Slot) (vs : List Value) (x : Int64) (y : Int32), W p l e R s m args below meth c H locs S.2.2.2.2.2.1 S.2.2.2.2.2.2 Q (F0 m (S.1 + 1) ls (.long (f x y) :: vs)) → W p l e R s m args below meth c H locs S.2.2.2.2.2.1 S.2.2.2.2.2.2 Q (F0 m S.1 ls (.int y :: .long x :: vs))) {rs : List (Nat × eS)} (h : x_shL f S = some rs) (hr : ∀ r ∈ rs, eLf p l e R s m args below meth c Q D cl cA A sb ρ ad0 h0 nL r) : eW p l e R s m args below meth c Q D cl cA A sb ρ ad0 h0 nL S := by
  obtain ⟨pc, lo, st, T⟩ := S
  unfold x_shL at h
  split at h
  next b a r hst =>
    dsimp only at hst
    subst hst
    cases hb9 : (Nat.beq b.1 0 && Nat.beq a.1 1) with
    | false => rw [hb9] at h; cases h
    | true =>
      rw [hb9] at h
      rw [Bool.and_eq_true] at hb9
      have hn := eNx_ok (S := (pc, lo, b :: a :: r, T)) h hr
      obtain ⟨a0, a1, a2, a3⟩ := a
      obtain ⟨b0, b1, b2, b3⟩ := b
      have e0 := Nat.eq_of_beq_eq_true hb9.1
      have e1 := Nat.eq_of_beq_eq_true hb9.2
      dsimp only at e0 e1
      subst e0
      subst e1
      intro ad ls lc vs ws H locs g1 g2 g3 g4 g5 g6 g7 g8 g9
      match vs, g4 with
      | v :: w :: vs, g4 =>
        obtain ⟨⟨y, rfl, hy9⟩, ⟨x, rfl, hx9⟩, g4⟩ := g4
        exact row H locs ls vs x y (hn ad ls lc _ ws H locs g1 g2 g3 ⟨eShL_gV g2 hx9 hy9, g4⟩ g5 g6 g7 g8 g9)
      | [_], g4 => exact g4.2.elim
      | [], g4 => exact g4.elim
  next => cases h
-- the stack
def x_dup (S : eS) : eR := match S.2.2.1 with
  | a :: r => bif Nat.beq a.1 1 then none else eNx (S.1 + 1, S.2.1, a :: a :: r, S.2.2.2)
  | _ => none
theorem beq_ne {a b : Nat} (h : Nat.beq a b = false) : a ≠ b := fun e => by rw [e, show Nat.beq b b = true from Nat.beq_refl b] at h; cases h
theorem k_dup (K : eK p m c s args cc own nL Ts D cl cA A) {S : eS} (hd : decode cc S.1 = .ok (.dup, 1)) {rs : List (Nat × eS)} (h : x_dup S = some rs) (hr : ∀ r ∈ rs, eLf p l e R s m args below meth c Q D cl cA A sb ρ ad0 h0 nL r) : eW p l e R s m args below meth c Q D cl cA A sb ρ ad0 h0 nL S := by
  obtain ⟨hx, hb, -⟩ := K
  obtain ⟨pc, lo9, st, T⟩ := S
  unfold x_dup at h
  split at h
  next a r hst =>
    dsimp only at hst
    subst hst
    cases hb9 : Nat.beq a.1 1 with
    | true => rw [hb9] at h; cases h
    | false =>
      rw [hb9] at h
      have hn := eNx_ok (S := (pc, lo9, a :: r, T)) h hr
      intro ad ls lc vs ws H locs g1 g2 g3 g4 g5 g6 g7 g8 g9
      match vs, g4 with
      | v :: vs, g4 =>
        exact lv_dup hx hb hd (gV_cat1 g4.1 (beq_ne hb9)) (hn ad ls lc _ ws H locs g1 g2 g3 ⟨g4.1, g4.1, g4.2⟩ g5 g6 g7 g8 g9)
      | [], g4 => exact g4.elim
  next => cases h
def x_pop (S : eS) : eR := match S.2.2.1 with
  | a :: r => bif Nat.beq a.1 1 then none else eNx (S.1 + 1, S.2.1, r, S.2.2.2)
  | _ => none
theorem k_pop (K : eK p m c s args cc own nL Ts D cl cA A) {S : eS} (hd : decode cc S.1 = .ok (.pop, 1)) {rs : List (Nat × eS)} (h : x_pop S = some rs) (hr : ∀ r ∈ rs, eLf p l e R s m args below meth c Q D cl cA A sb ρ ad0 h0 nL r) : eW p l e R s m args below meth c Q D cl cA A sb ρ ad0 h0 nL S := by
  obtain ⟨hx, hb, -⟩ := K
  obtain ⟨pc, lo9, st, T⟩ := S
  unfold x_pop at h
  split at h
  next a r hst =>
    dsimp only at hst
    subst hst
    cases hb9 : Nat.beq a.1 1 with
    | true => rw [hb9] at h; cases h
    | false =>
      rw [hb9] at h
      have hn := eNx_ok (S := (pc, lo9, a :: r, T)) h hr
      intro ad ls lc vs ws H locs g1 g2 g3 g4 g5 g6 g7 g8 g9
      match vs, g4 with
      | v :: vs, g4 =>
        exact lv_pop hx hb hd (gV_cat1 g4.1 (beq_ne hb9)) (hn ad ls lc _ ws H locs g1 g2 g3 g4.2 g5 g6 g7 g8 g9)
      | [], g4 => exact g4.elim
  next => cases h
def x_dup2 (S : eS) : eR := match S.2.2.1 with
  | a :: b :: r => bif Nat.beq a.1 1 || Nat.beq b.1 1 then none else eNx (S.1 + 1, S.2.1, a :: b :: a :: b :: r, S.2.2.2)
  | _ => none
theorem k_dup2 (K : eK p m c s args cc own nL Ts D cl cA A) {S : eS} (hd : decode cc S.1 = .ok (.dup2, 1)) {rs : List (Nat × eS)} (h : x_dup2 S = some rs) (hr : ∀ r ∈ rs, eLf p l e R s m args below meth c Q D cl cA A sb ρ ad0 h0 nL r) : eW p l e R s m args below meth c Q D cl cA A sb ρ ad0 h0 nL S := by
  obtain ⟨hx, hb, -⟩ := K
  obtain ⟨pc, lo9, st, T⟩ := S
  unfold x_dup2 at h
  split at h
  next a b r hst =>
    dsimp only at hst
    subst hst
    cases hb9 : (Nat.beq a.1 1 || Nat.beq b.1 1) with
    | true => rw [hb9] at h; cases h
    | false =>
      rw [hb9] at h
      rw [Bool.or_eq_false_iff] at hb9
      have hn := eNx_ok (S := (pc, lo9, a :: b :: r, T)) h hr
      intro ad ls lc vs ws H locs g1 g2 g3 g4 g5 g6 g7 g8 g9
      match vs, g4 with
      | v :: w :: vs, g4 =>
        exact lv_dup2_11 hx hb hd (gV_cat1 g4.1 (beq_ne hb9.1)) (gV_cat1 g4.2.1 (beq_ne hb9.2)) (hn ad ls lc _ ws H locs g1 g2 g3 ⟨g4.1, g4.2.1, g4.1, g4.2.1, g4.2.2⟩ g5 g6 g7 g8 g9)
      | [_], g4 => exact g4.2.elim
      | [], g4 => exact g4.elim
  next => cases h
end E3
