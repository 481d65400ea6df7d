/-! ===== THE LAW, 6: its loop ===== -/
section LP
variable {p : Program} {l : Launch} {e : Env} {R : Room} {s : State} {m : MethodId} {args : Array Value} {below : List Frame} {meth : Method} {c : Code} {Q : State → Prop}
variable {D : va_G} {cA : Nat → ClassId} {A : Nat → Prop} {sb : eSB} {ad0 : Nat → Nat} {h0 : Nat}
/-- what holds of the law's rows -/
def lRows (meth : Method) : Prop := ∀ (pc : Nat) (q : eQ), ft_L pc = some q → decode code pc = .ok (q.1, q.2.1) ∧ lenB q.1 q.2.1 = true ∧ (stp q = false → okE GT eCls RL meth mtF npF ciF dfF q)
theorem usL_ch (htr : l.stackTraces = false) (hvs : sb.1 60 = 1) {pc : Nat} {q : eQ} (hq : ft_L pc = some q) : ∀ cs, chF usL pc = some cs → ∀ c9 ∈ cs, ∀ (FR : Nat → va_E) (ρ' : Nat → Int), cM l GT strs (sb.1, FR) D eCls cA hLev (mtF q.2.2.1) ρ' c9.1 c9.2.1 c9.2.2.1 c9.2.1.1.length c9.2.2.2.2.1 := fun cs hcs c9 hc9 FR ρ' => by
  obtain ⟨u, hu, e1, e2⟩ := chF_in hcs
  have hb := List.all_eq_true.mp usL_b u hu
  rw [e1, hq] at hb
  have e3 := Nat.eq_of_beq_eq_true hb
  rw [← e2] at hc9
  have := usL_ok htr hvs (D := D) (cA := cA) u hu c9 hc9 FR hLev (Nat.le_refl _) ρ'
  rw [← e3] at this
  exact this
/-- a step of the law -/
theorem lw_hX (htr : l.stackTraces = false) (hvs : sb.1 60 = 1) (K : eK p m c s args code RL 7 GT D eCls cA A) (hZ : eZ strs sb A s s.heap) {L : Nat} {xs : Nat → Int32} (hX : va_X (sb.1 0) L xs s s.heap) (hbl : sb.1 0 < s.heap.size) (hbA : ¬ A (sb.1 0)) (hrw : lRows meth) (hfr : hLev + 9 ≤ R.frames) (hlo : 64 * hLev + 1064 ≤ R.locals) {u v N0 : Nat} {bd : Bool} (hcm : nC + u ≤ R.cells) (hsm : nZ + v ≤ R.slots) {ρ : Nat → Int} (hN : ∀ ρ1 : Nat → Int, (∀ i, i < N0 → ρ1 i = ρ i) → scrN ρ1 L xs bd)
    (S : eS) (q : eQ) (rs : List (Nat × eS)) (hq : ft_L S.1 = some q) (hs : stp q = false) (h : exLw (chF usL) nC nZ N0 bd q S = some rs) (hr : ∀ r ∈ rs, ∀ ρ1 : Nat → Int, (∀ i, i < N0 → ρ1 i = ρ i) → eLf p l e R s m args below meth c Q D eCls cA A sb ρ1 ad0 h0 7 (shR u v r)) :
    ∀ ρ1 : Nat → Int, (∀ i, i < N0 → ρ1 i = ρ i) → eW p l e R s m args below meth c Q D eCls cA A sb ρ1 ad0 h0 7 (shZ u v S) := fun ρ1 hag1 => by
  obtain ⟨h1, h2, h3⟩ := hrw S.1 q hq
  refine exLw_ok (d := hLev) (ρ := ρ1) K hZ hX hbl hbA (hN ρ1 hag1) hcm hsm hfr hlo (usL_ch htr hvs hq) h1 (h3 hs) ?_ h (fun r hr9 ρ2 hag2 => hr r hr9 ρ2 (fun i hi => (hag2 i hi).trans (hag1 i hi)))
  rcases lenB_ok h2 with q9 | q9
  · exact q9
  · exfalso
    unfold stp at hs
    rcases q9 with q9 | q9 | q9 <;> rw [q9] at hs <;> cases hs
theorem eLf_sh0 {ρ : Nat → Int} {u v : Nat} (S : eS) : eLf p l e R s m args below meth c Q D eCls cA A sb ρ ad0 h0 7 (shR u v (0, S)) ↔ eW p l e R s m args below meth c Q D eCls cA A sb ρ ad0 h0 7 (shZ u v S) := Iff.rfl
/-- a part of the way -/
theorem seg_ok (htr : l.stackTraces = false) (hvs : sb.1 60 = 1) (K : eK p m c s args code RL 7 GT D eCls cA A) (hZ : eZ strs sb A s s.heap) {L : Nat} {xs : Nat → Int32} (hX : va_X (sb.1 0) L xs s s.heap) (hbl : sb.1 0 < s.heap.size) (hbA : ¬ A (sb.1 0)) (hrw : lRows meth) (hfr : hLev + 9 ≤ R.frames) (hlo : 64 * hLev + 1064 ≤ R.locals) {u v N0 : Nat} {bd : Bool} (hcm : nC + u ≤ R.cells) (hsm : nZ + v ≤ R.slots) {ρ : Nat → Int} (hN : ∀ ρ1 : Nat → Int, (∀ i, i < N0 → ρ1 i = ρ i) → scrN ρ1 L xs bd)
    {isC : Nat → Bool} {S : eS} {Ts : List eS} (h : segB (chF usL) N0 bd isC S Ts = true) (ho : ∀ T ∈ Ts, ∀ ρ1 : Nat → Int, (∀ i, i < N0 → ρ1 i = ρ i) → eW p l e R s m args below meth c Q D eCls cA A sb ρ1 ad0 h0 7 (shZ u v T)) : eW p l e R s m args below meth c Q D eCls cA A sb ρ ad0 h0 7 (shZ u v S) := by
  unfold segB at h
  split at h
  next os hos =>
    refine run1_ok (PW := fun S => ∀ ρ1 : Nat → Int, (∀ i, i < N0 → ρ1 i = ρ i) → eW p l e R s m args below meth c Q D eCls cA A sb ρ1 ad0 h0 7 (shZ u v S)) (PL := fun o => ∀ ρ1 : Nat → Int, (∀ i, i < N0 → ρ1 i = ρ i) → eLf p l e R s m args below meth c Q D eCls cA A sb ρ1 ad0 h0 7 (shR u v o)) (fun S => Iff.rfl) (fun S q rs hq hs h9 hr => lw_hX htr hvs K hZ hX hbl hbA hrw hfr hlo hcm hsm hN S q rs hq hs h9 hr) hos (fun o hin => ?_) ρ (fun _ _ => rfl)
    have h9 := List.all_eq_true.mp h o hin
    rw [Bool.and_eq_true] at h9
    obtain ⟨k, T9⟩ := o
    have e0 := Nat.eq_of_beq_eq_true h9.1
    dsimp only at e0
    subst e0
    obtain ⟨T, hT, hE⟩ := List.any_eq_true.mp h9.2
    have := eEqS_eq hE
    dsimp only at this
    subst this
    exact ho _ hT
  next => cases h
/-- more made before is no less good -/
theorem eW_wid {ρ : Nat → Int} {S : eS} {c1 z1 c2 z2 : Nat} (h1 : c1 ≤ c2) (h2 : z1 ≤ z2) (h : eW p l e R s m args below meth c Q D eCls cA A sb ρ ad0 h0 7 (setZ S c2 z2)) : eW p l e R s m args below meth c Q D eCls cA A sb ρ ad0 h0 7 (setZ S c1 z1) := fun ad ls lc vs ws H locs g1 g2 g3 g4 g5 g6 g7 g8 g9 => W.widen h1 h2 (h ad ls lc vs ws H locs g1 g2 g3 g4 g5 g6 g7 g8 g9)
/-- a state within another, whatever was made -/
theorem subS_any {ρ : Nat → Int} {nP C Z : Nat} {th : List (Option eP)} {S T : eS} {me me' : eMe} (h : subS nP th (setZ S 0 0) (setZ T 0 0) = true) (hme : meOk T.2.2.2.1 me' = true) (hl : meL S.2.2.2.1 S.2.1 S.2.2.2.2.1 th me' me = true) (hw : ∀ ρ' : Nat → Int, (∀ i, i < nP → ρ' i = ρ i) → mea ρ' me' < mea ρ me → eW p l e R s m args below meth c Q D eCls cA A sb ρ' ad0 h0 7 (setZ T C Z)) : eW p l e R s m args below meth c Q D eCls cA A sb ρ ad0 h0 7 (setZ S C Z) := by
  refine subS_ok (S := setZ S C Z) (T := setZ T C Z) (me := me) (me' := me') ?_ hme hl hw
  unfold subS at h ⊢
  simp only [Bool.and_eq_true] at h ⊢
  obtain ⟨a1, a2, a3, a4, a5, a6, a7, a8, a9⟩ := h
  exact ⟨a1, a2, a3, a4, a5, a6, a7, Nat.beq_refl _, Nat.beq_refl _⟩
theorem turn_ok (htr : l.stackTraces = false) (hvs : sb.1 60 = 1) (K : eK p m c s args code RL 7 GT D eCls cA A) (hZ : eZ strs sb A s s.heap) {L : Nat} {xs : Nat → Int32} (hX : va_X (sb.1 0) L xs s s.heap) (hbl : sb.1 0 < s.heap.size) (hbA : ¬ A (sb.1 0)) (hrw : lRows meth) (hfr : hLev + 9 ≤ R.frames) (hlo : 64 * hLev + 1064 ≤ R.locals) {u v : Nat} (hcm : nC + u ≤ R.cells) (hsm : nZ + v ≤ R.slots) {ρ : Nat → Int} (hN : ∀ ρ1 : Nat → Int, (∀ i, i < 38 → ρ1 i = ρ i) → scrN ρ1 L xs true)
    (hQ : ∀ (o : Nat × eS) (ρ1 : Nat → Int) (C Z : Nat), retB o = true → C ≤ R.cells → Z ≤ R.slots → eW p l e R s m args below meth c Q D eCls cA A sb ρ1 ad0 h0 7 (setZ o.2 C Z))
    (hw : ∀ ρ' : Nat → Int, ρ' 0 = ρ 0 → mea ρ' hMe < mea ρ hMe → eW p l e R s m args below meth c Q D eCls cA A sb ρ' ad0 h0 7 (setZ hHead (u + nC) (v + nZ)))
    {S : eS} (h : turnB2 S = true) : eW p l e R s m args below meth c Q D eCls cA A sb ρ ad0 h0 7 (shZ u v S) := by
  unfold turnB2 at h
  split at h
  next os hos =>
    refine run1_ok (PW := fun S => ∀ ρ1 : Nat → Int, (∀ i, i < 38 → ρ1 i = ρ i) → eW p l e R s m args below meth c Q D eCls cA A sb ρ1 ad0 h0 7 (shZ u v S)) (PL := fun o => ∀ ρ1 : Nat → Int, (∀ i, i < 38 → ρ1 i = ρ i) → eLf p l e R s m args below meth c Q D eCls cA A sb ρ1 ad0 h0 7 (shR u v o)) (fun S => Iff.rfl) (fun S q rs hq hs h9 hr => lw_hX htr hvs K hZ hX hbl hbA hrw hfr hlo hcm hsm hN S q rs hq hs h9 hr) hos (fun o hin ρ1 hag => ?_) ρ (fun _ _ => rfl)
    have h9 := List.all_eq_true.mp h o hin
    unfold turnE2 at h9
    rw [Bool.and_eq_true, Bool.and_eq_true, Bool.and_eq_true, Bool.or_eq_true, Bool.or_eq_true] at h9
    obtain ⟨c1, ⟨c2, c3⟩, c4⟩ := h9
    obtain ⟨k, T⟩ := o
    have e0 := Nat.eq_of_beq_eq_true c1
    dsimp only at e0 c2 c3 c4
    subst e0
    have c2 := Nat.le_of_ble_eq_true c2
    have c3 := Nat.le_of_ble_eq_true c3
    show eW p l e R s m args below meth c Q D eCls cA A sb ρ1 ad0 h0 7 (setZ T (T.2.2.2.2.2.1 + u) (T.2.2.2.2.2.2 + v))
    rcases c4 with (c4 | c4) | c4
    · intro ad ls lc vs ws H locs g1 g2
      exact (ctrB_no c4 g2).elim
    · intro ad ls lc vs ws H locs g1 g2
      exact (ctrR_no c4 g2).elim
    · cases hp : Nat.beq T.1 23 with
      | true =>
        rw [hp, cond_true] at c4
        suffices hs : ∀ T' : eS, T'.2.2.2.2.2 = T.2.2.2.2.2 → hHd T' = true → eW p l e R s m args below meth c Q D eCls cA A sb ρ1 ad0 h0 7 (setZ T' (T.2.2.2.2.2.1 + u) (T.2.2.2.2.2.2 + v)) by
          rw [Bool.or_eq_true] at c4
          rcases c4 with c4 | c4
          · exact hs T rfl c4
          · obtain ⟨q, hq, c4⟩ := List.any_eq_true.mp c4
            exact eW_u (q := q) (S := setZ T (T.2.2.2.2.2.1 + u) (T.2.2.2.2.2.2 + v)) hq (hs (uS q.1 q.2 T) rfl c4)
        intro T' _ c4
        unfold hHd at c4
        obtain ⟨th9, hth9, c4⟩ := List.any_eq_true.mp c4
        rw [Bool.and_eq_true] at c4
        refine eW_wid (c2 := u + nC) (z2 := v + nZ) (by omega) (by omega) (subS_any (T := hHead) (me := hMe) (me' := hMe) c4.1 hMe_ok c4.2 (fun ρ' h1 h2 => ?_))
        refine hw ρ' ((h1 0 (by omega)).trans (hag 0 (by omega))) ?_
        rw [show mea ρ hMe = mea ρ1 hMe by
          show (meV ρ (5000, -1, 1)).toNat * _ + _ = (meV ρ1 (5000, -1, 1)).toNat * _ + _
          unfold meV
          dsimp only
          rw [hag 1 (by omega)]
          rfl]
        exact h2
      | false =>
        rw [hp, cond_false] at c4
        exact hQ (0, T) ρ1 _ _ c4 (by omega) (by omega)
  next => cases h
theorem sh_head {u v : Nat} : shZ u v hHead = setZ hHead u v := by
  show (23, hLo, ([] : List eV), (hB, hF), hP, 0 + u, 0 + v) = (23, hLo, ([] : List eV), (hB, hF), hP, u, v)
  rw [Nat.zero_add, Nat.zero_add]
theorem h33_len : hB33.1.length = 26 := by decide +kernel
set_option maxRecDepth 100000 in
theorem h33_tg : (tgF 26 hB33.2 && (tgL 26 hLo && hP.all (tgC 26))) = true := by decide +kernel
theorem mea_ag {ρ ρ1 : Nat → Int} (h : ρ1 1 = ρ 1) : mea ρ1 hMe = mea ρ hMe := by
  show (meV ρ1 (5000, -1, 1)).toNat * _ + _ = (meV ρ (5000, -1, 1)).toNat * _ + _
  unfold meV
  dsimp only
  rw [h]
  rfl
/-- the script's names put to the others; the codes of what is fed and read -/
def scr3 (ρ : Nat → Int) (xs : Nat → Int32) (i : Nat) : Int := if i < 26 then ρ i else match i - 26 with
  | 0 => (xs ((ρ 1).toNat + 0)).toInt
  | 1 => (xs ((ρ 1).toNat + 1)).toInt
  | 2 => (xs ((ρ 1).toNat + 2)).toInt
  | 3 => (xs ((ρ 1).toNat + 3)).toInt
  | 4 => (xs ((ρ 1).toNat + 4)).toInt
  | 5 => (xs ((ρ 1).toNat + 5)).toInt
  | 6 => FK 203 (ρ 24) (xs ((ρ 1).toNat + 1)).toInt 0
  | 7 => FK 203 (FK 203 (ρ 24) (xs ((ρ 1).toNat + 1)).toInt 0) (xs ((ρ 1).toNat + 2)).toInt 0
  | 8 => FK 203 (FK 203 (FK 203 (ρ 24) (xs ((ρ 1).toNat + 1)).toInt 0) (xs ((ρ 1).toNat + 2)).toInt 0) (xs ((ρ 1).toNat + 3)).toInt 0
  | 9 => FK 203 (FK 203 (FK 203 (FK 203 (ρ 24) (xs ((ρ 1).toNat + 1)).toInt 0) (xs ((ρ 1).toNat + 2)).toInt 0) (xs ((ρ 1).toNat + 3)).toInt 0) (xs ((ρ 1).toNat + 4)).toInt 0
  | 10 => FK 203 (FK 203 (FK 203 (FK 203 (FK 203 (ρ 24) (xs ((ρ 1).toNat + 1)).toInt 0) (xs ((ρ 1).toNat + 2)).toInt 0) (xs ((ρ 1).toNat + 3)).toInt 0) (xs ((ρ 1).toNat + 4)).toInt 0) (xs ((ρ 1).toNat + 5)).toInt 0
  | _ => FK 205 (ρ 24) (xs ((ρ 1).toNat + 1)).toInt 0
theorem scr3_lt {ρ : Nat → Int} {xs : Nat → Int32} {i : Nat} (h : i < 26) : scr3 ρ xs i = ρ i := if_pos h
theorem scr3_at {ρ : Nat → Int} {xs : Nat → Int32} {k : Nat} (h : k < 6) : scr3 ρ xs (26 + k) = (xs ((ρ 1).toNat + k)).toInt := by
  match k, h with
  | 0, _ => rfl
  | 1, _ => rfl
  | 2, _ => rfl
  | 3, _ => rfl
  | 4, _ => rfl
  | 5, _ => rfl
  | k + 6, h => omega
/-- a code of a text of at most 700 bytes -/
theorem ap1_b (a b : Int) : 0 ≤ ap1 a b ∧ ap1 a b ≤ cmx := enc_b1 (by
  rw [List.length_append]
  have := dc_len a
  show _ + 1 ≤ 701
  omega) (ap_by a b)
theorem FK_203b (a b : Int) : 0 ≤ FK 203 a b 0 ∧ FK 203 a b 0 ≤ cmx := ap1_b _ _
theorem FK_205b (a b : Int) : 0 ≤ FK 205 a b 0 ∧ FK 205 a b 0 ≤ cmx := enc_b (tk_len _ _) (tk_by _ _)
theorem aR_i {ρ : Nat → Int} {i : Nat} (h : Nat.blt (i * 8192 + 4097) cB = true) : aR ρ (i * 8192 + 4097) = ρ i := by
  unfold aR
  rw [h, cond_true, show i * 8192 + 4097 - 1 = i * 8192 + 4096 by omega, nB_at, nO_at, Int.add_zero]
theorem fsc_H {s : Nat → Int} {k i j m : Nat} (hk : k < 1000) (hi : Nat.blt (i * 8192 + 4097) cB = true) (hj : Nat.blt (j * 8192 + 4097) cB = true) (hm : Nat.blt (m * 8192 + 4097) cB = true) (e : s m = FK k (s i) (s j) 0) : RK k (aR s (i * 8192 + 4097)) (aR s (j * 8192 + 4097)) (aR s (aI 0)) (aR s (m * 8192 + 4097)) := by
  rw [aR_i hi, aR_i hj, aR_i hm, aI_ok (by decide)]
  exact (RK_f hk).mpr e
theorem gB_scr {ρ : Nat → Int} {xs : Nat → Int32} (g : gB ρ hB33) : gB (scr3 ρ xs) hBb := by
  have ht := h33_tg
  rw [Bool.and_eq_true] at ht
  refine ⟨fun i q hq => ?_, fun f hf => ?_⟩
  · have hq : (hB33.1 ++ hNew)[i]? = some q := hq
    by_cases hi : i < 26
    · rw [List.getElem?_append_left (by rw [h33_len]; exact hi)] at hq
      rw [scr3_lt hi]
      exact g.1 i q hq
    · rw [List.getElem?_append_right (by rw [h33_len]; omega), h33_len] at hq
      obtain ⟨k, rfl⟩ : ∃ k, i = 26 + k := ⟨i - 26, by omega⟩
      rw [show 26 + k - 26 = k by omega] at hq
      have hk : k < 12 := (List.getElem?_eq_some_iff.mp hq).1
      match k, hk, hq with
      | 0, _, hq =>
        obtain rfl := Option.some.inj (show some ((-2147483648 : Int), (2147483647 : Int)) = some q from hq)
        exact ⟨i32_lo (xs ((ρ 1).toNat + 0)), i32_hi (xs ((ρ 1).toNat + 0))⟩
      | 1, _, hq =>
        obtain rfl := Option.some.inj (show some ((-2147483648 : Int), (2147483647 : Int)) = some q from hq)
        exact ⟨i32_lo (xs ((ρ 1).toNat + 1)), i32_hi (xs ((ρ 1).toNat + 1))⟩
      | 2, _, hq =>
        obtain rfl := Option.some.inj (show some ((-2147483648 : Int), (2147483647 : Int)) = some q from hq)
        exact ⟨i32_lo (xs ((ρ 1).toNat + 2)), i32_hi (xs ((ρ 1).toNat + 2))⟩
      | 3, _, hq =>
        obtain rfl := Option.some.inj (show some ((-2147483648 : Int), (2147483647 : Int)) = some q from hq)
        exact ⟨i32_lo (xs ((ρ 1).toNat + 3)), i32_hi (xs ((ρ 1).toNat + 3))⟩
      | 4, _, hq =>
        obtain rfl := Option.some.inj (show some ((-2147483648 : Int), (2147483647 : Int)) = some q from hq)
        exact ⟨i32_lo (xs ((ρ 1).toNat + 4)), i32_hi (xs ((ρ 1).toNat + 4))⟩
      | 5, _, hq =>
        obtain rfl := Option.some.inj (show some ((-2147483648 : Int), (2147483647 : Int)) = some q from hq)
        exact ⟨i32_lo (xs ((ρ 1).toNat + 5)), i32_hi (xs ((ρ 1).toNat + 5))⟩
      | 6, _, hq =>
        obtain rfl := Option.some.inj (show some ((0 : Int), cmx) = some q from hq)
        exact FK_203b _ _
      | 7, _, hq =>
        obtain rfl := Option.some.inj (show some ((0 : Int), cmx) = some q from hq)
        exact FK_203b _ _
      | 8, _, hq =>
        obtain rfl := Option.some.inj (show some ((0 : Int), cmx) = some q from hq)
        exact FK_203b _ _
      | 9, _, hq =>
        obtain rfl := Option.some.inj (show some ((0 : Int), cmx) = some q from hq)
        exact FK_203b _ _
      | 10, _, hq =>
        obtain rfl := Option.some.inj (show some ((0 : Int), cmx) = some q from hq)
        exact FK_203b _ _
      | 11, _, hq =>
        obtain rfl := Option.some.inj (show some ((0 : Int), cmx) = some q from hq)
        exact FK_205b _ _
      | k + 12, hk, _ => omega
  · rcases List.mem_append.mp (show f ∈ hFsc ++ hB33.2 from hf) with hf | hf
    · simp only [hFsc, List.mem_cons, List.not_mem_nil, or_false] at hf
      rcases hf with rfl | rfl | rfl | rfl | rfl | rfl
      · exact fsc_H (s := scr3 ρ xs) (k := 203) (i := 24) (j := 27) (m := 32) (by decide) (by decide) (by decide) (by decide) rfl
      · exact fsc_H (s := scr3 ρ xs) (k := 203) (i := 32) (j := 28) (m := 33) (by decide) (by decide) (by decide) (by decide) rfl
      · exact fsc_H (s := scr3 ρ xs) (k := 203) (i := 33) (j := 29) (m := 34) (by decide) (by decide) (by decide) (by decide) rfl
      · exact fsc_H (s := scr3 ρ xs) (k := 203) (i := 34) (j := 30) (m := 35) (by decide) (by decide) (by decide) (by decide) rfl
      · exact fsc_H (s := scr3 ρ xs) (k := 203) (i := 35) (j := 31) (m := 36) (by decide) (by decide) (by decide) (by decide) rfl
      · exact fsc_H (s := scr3 ρ xs) (k := 205) (i := 24) (j := 27) (m := 37) (by decide) (by decide) (by decide) (by decide) rfl
    · exact gF_ag ht.1 (fun i hi => scr3_lt hi) hf (g.2 f hf)
set_option maxRecDepth 100000 in
theorem law_loop (htr : l.stackTraces = false) (hvs : sb.1 60 = 1) (K : eK p m c s args code RL 7 GT D eCls cA A) (hZ : eZ strs sb A s s.heap) {L : Nat} {xs : Nat → Int32} (hX : va_X (sb.1 0) L xs s s.heap) (hbl : sb.1 0 < s.heap.size) (hbA : ¬ A (sb.1 0)) (hrw : lRows meth) (hfr : hLev + 9 ≤ R.frames) (hlo : 64 * hLev + 1064 ≤ R.locals) (hL : L ≤ 3072)
    (hQ : ∀ (o : Nat × eS) (ρ1 : Nat → Int) (C Z : Nat), retB o = true → C ≤ R.cells → Z ≤ R.slots → eW p l e R s m args below meth c Q D eCls cA A sb ρ1 ad0 h0 7 (setZ o.2 C Z)) :
    ∀ (n u v : Nat) (ρ : Nat → Int), mea ρ hMe < n → ρ 0 = (L : Int) → u + nC * (n + 1) ≤ R.cells → v + nZ * (n + 1) ≤ R.slots → eW p l e R s m args below meth c Q D eCls cA A sb ρ ad0 h0 7 (setZ hHead u v) := by
  intro n
  induction n with
  | zero => intro u v ρ hm; omega
  | succ n ih =>
    intro u v ρ hm hr0 hu hv
    have hu : u + 5 * (n + 1 + 1) ≤ R.cells := hu
    have hv : v + 30 * (n + 1 + 1) ≤ R.slots := hv
    have hcm : nC + u ≤ R.cells := by show 5 + u ≤ R.cells; omega
    have hsm : nZ + v ≤ R.slots := by show 30 + v ≤ R.slots; omega
    rw [← sh_head]
    refine seg_ok htr hvs K hZ hX hbl hbA hrw hfr hlo (N0 := 26) (bd := false) (L := L) (xs := xs) hcm hsm (fun ρ1 hag => ⟨(hag 0 (by omega)).trans hr0, hL, fun h => by cases h⟩) seg_23 (fun T hT ρ1 hag => ?_)
    rcases List.mem_cons.mp hT with q | q
    · subst q
      intro ad ls lc vs ws H locs g1 g2 g3 g4 g5 g6 g7 g8 g9
      have ht := h33_tg
      rw [Bool.and_eq_true, Bool.and_eq_true] at ht
      have f1 : ρ1 1 + 6 ≤ ρ1 0 := g2.2 (1, 1, 6, 0, 0) List.mem_cons_self
      have b1 : 0 ≤ ρ1 1 := (g2.1 1 (0, 3066) rfl).1
      have e0 : ρ1 0 = (L : Int) := (hag 0 (by omega)).trans hr0
      have hN3 : ∀ ρ4 : Nat → Int, (∀ i, i < 38 → ρ4 i = scr3 ρ1 xs i) → scrN ρ4 L xs true := fun ρ4 hag4 => by
        have k0 : ρ4 0 = ρ1 0 := (hag4 0 (by omega)).trans (scr3_lt (by omega))
        have k1 : ρ4 1 = ρ1 1 := (hag4 1 (by omega)).trans (scr3_lt (by omega))
        refine ⟨k0.trans e0, hL, fun _ => ⟨by omega, by omega, fun k hk => ?_⟩⟩
        rw [hag4 (26 + k) (by omega), scr3_at hk, k1]
      have hb : eW p l e R s m args below meth c Q D eCls cA A sb (scr3 ρ1 xs) ad0 h0 7 (shZ u v (hSb 33)) := by
        refine seg_ok htr hvs K hZ hX hbl hbA hrw hfr hlo (N0 := 38) (bd := true) (L := L) (xs := xs) hcm hsm hN3 seg_33 (fun T hT ρ4 hag4 => ?_)
        obtain ⟨t, ht9, e9⟩ := List.mem_map.mp hT
        subst e9
        have k0 : ρ4 0 = ρ1 0 := (hag4 0 (by omega)).trans (scr3_lt (by omega))
        have k1 : ρ4 1 = ρ1 1 := (hag4 1 (by omega)).trans (scr3_lt (by omega))
        refine turn_ok htr hvs K hZ hX hbl hbA hrw hfr hlo hcm hsm (fun ρ5 hag5 => hN3 ρ5 (fun i hi => (hag5 i hi).trans (hag4 i hi))) hQ (fun ρ' r1 r2 => ?_) (tn_all t ht9)
        refine ih _ _ ρ' ?_ (r1.trans (k0.trans e0)) (by show u + 5 + 5 * (n + 1) ≤ R.cells; omega) (by show v + 30 + 30 * (n + 1) ≤ R.slots; omega)
        have r3 : mea ρ4 hMe = mea ρ hMe := mea_ag (k1.trans (hag 1 (by omega)))
        omega
      refine hb ad ls lc vs ws H locs g1 (gB_scr g2) (gL_ag (N := 26) (fun i hi => scr3_lt hi) ht.2.1 g3) (gS_ag (as := []) (N := 26) (ρ := ρ1) (fun i hi => scr3_lt hi) rfl g4) ⟨g5.1, fun k c9 hk => ?_⟩ g6 g7 g8 g9
      obtain ⟨x9, q1, q2⟩ := g5.2 k c9 hk
      exact ⟨x9, q1, gC_ag (N := 26) (ρ := ρ1) (fun i hi => scr3_lt hi) (List.all_eq_true.mp ht.2.2 c9 (List.mem_of_getElem? hk)) q2⟩
    · rw [List.mem_singleton.mp q]
      refine seg_ok htr hvs K hZ hX hbl hbA hrw hfr hlo (N0 := 26) (bd := false) (L := L) (xs := xs) hcm hsm (fun ρ2 hag2 => ⟨(hag2 0 (by omega)).trans ((hag 0 (by omega)).trans hr0), hL, fun h => by cases h⟩) seg_14 (fun T hT ρ2 _ => ?_)
      rw [List.mem_singleton.mp hT]
      exact hQ (0, hS15) ρ2 _ _ ret_15 (by show 0 + u ≤ R.cells; omega) (by show 0 + v ≤ R.slots; omega)
end LP
