/-! ===== BY HAND: loops that copy, entry by entry ===== -/
def noC : eCal := fun _ _ _ _ => none
def xH (M : Nat) : eQ → eS → eR := ex noC mtF npF ciF dfF (mtF M).2.2.2.1 (mtF M).2.2.2.2.2.1 (mtF M).2.2.2.2.2.2 none (fun _ _ => none)
def sgB (M : Nat) (isC : Nat → Bool) (S : eS) (Ts : List eS) : Bool := match run1 (ftF M) isC (xH M) 100 S with
  | some os => os.all (fun o => Nat.beq o.1 0 && Ts.any (fun T => eEqS o.2 T))
  | none => false
def hSh (li L : Nat) (rl : eL) (hp3 : eH) : eS := (2, (li, ((0, 4097, 0, (L : Int)) : eV)) :: rl, [], ([(0, (L : Int))], []), hp3, 0, 0)
def hSA (pcA li c1 L : Nat) (rl : eL) (hp3 : eH) (va : eV) : eS := (pcA, (li, ((0, 4097, 0, (L : Int)) : eV)) :: rl, [va, (2, c1, 0, 0), (0, 4097, 0, (L : Int)), (2, 0, 0, 0)], ([(0, (L : Int) - 1)], []), hp3, 0, 0)
def hSB (pcR li L : Nat) (rl : eL) (hp3 : eH) : eS := (pcR, (li, ((0, 4097, 0, (L : Int)) : eV)) :: rl, [], ([((L : Int), (L : Int))], []), hp3, 0, 0)
def hSN (pcA li L : Nat) (rl : eL) (hp3 : eH) : eS := (pcA + 2, (li, ((0, 4097, 0, (L : Int)) : eV)) :: rl, [], ([(0, (L : Int) - 1)], []), hp3, 0, 0)
def hS2 (li L : Nat) (rl : eL) (hp3 : eH) : eS := (2, (li, ((0, 4098, 1, (L : Int)) : eV)) :: rl, [], ([(0, (L : Int) - 1)], []), hp3, 0, 0)
def hSE (li : Nat) (rl : eL) (hp3 : eH) : eS := (2, (li, eI 0) :: rl, [], ([], []), hp3, 0, 0)
def hS0 (rl : eL) (hp3 : eH) : eS := (0, rl, [], ([], []), hp3, 0, 0)
def frB : Nat → eH → Nat → Bool
  | _, [], _ => true
  | k, c :: r, n => eqC c (.inr (3, k, (9, 0, (n : Int), 0), [])) && frB (k + 1) r n
theorem frB_at : ∀ {h : eH} (k n : Nat), frB k h n = true → ∀ (i : Nat) (c : eC), h[i]? = some c → c = .inr (3, k + i, (9, 0, (n : Int), 0), [])
  | [], _, _, _, i, c, hi => by simp at hi
  | c :: r, k, n, h, i, c9, hi => by
    unfold frB at h
    rw [Bool.and_eq_true] at h
    cases i with
    | zero =>
      have : c = c9 := Option.some.inj hi
      subst this
      exact eqC_eq h.1
    | succ i =>
      rw [List.getElem?_cons_succ] at hi
      have := frB_at (k + 1) n h.2 i c9 hi
      rw [show k + (i + 1) = k + 1 + i by omega]
      exact this
section HA
variable {p : Program} {l : Launch} {e : Env} {R : Room} {s : State} {m : MethodId} {args : Array Value} {below : List Frame} {meth : Method} {c : Code} {Q : State → Prop}
variable {D : va_G} {cl : List vw_C} {cA : Nat → ClassId} {A : Nat → Prop} {sb : eSB} {ρ : Nat → Int} {ad0 : Nat → Nat} {h0 nL : Nat} {cc : ByteArray} {own : String} {Ts : List Cond}
theorem sg_ok {M : Nat} (hX : ∀ (S : eS) (q : eQ) (rs : List (Nat × eS)), ftF M S.1 = some q → stp q = false → xH M q S = some rs → (∀ r ∈ rs, eLf p l e R s m args below meth c Q D cl cA A sb ρ ad0 h0 nL r) → eW p l e R s m args below meth c Q D cl cA A sb ρ ad0 h0 nL S) {isC : Nat → Bool} {S : eS} {Ts : List eS} (h : sgB M isC S Ts = true) (ho : ∀ T ∈ Ts, eW p l e R s m args below meth c Q D cl cA A sb ρ ad0 h0 nL T) : eW p l e R s m args below meth c Q D cl cA A sb ρ ad0 h0 nL S := by
  unfold sgB at h
  split at h
  next os hos =>
    refine run1_ok (PW := fun S => eW p l e R s m args below meth c Q D cl cA A sb ρ ad0 h0 nL S) (PL := fun o => eLf p l e R s m args below meth c Q D cl cA A sb ρ ad0 h0 nL o) (fun S => Iff.rfl) hX hos (fun o hin => ?_)
    have h9 := List.all_eq_true.mp h o hin
    rw [Bool.and_eq_true] at h9
    obtain ⟨k, T9⟩ := o
    have e0 := Nat.eq_of_beq_eq_true h9.1
    dsimp only at e0
    subst e0
    obtain ⟨T, hT, hE⟩ := List.any_eq_true.mp h9.2
    have := eEqS_eq hE
    dsimp only at this
    subst this
    exact ho _ hT
  next => cases h
theorem gRd_any {ρ2 : Nat → Int} {ad2 : Nat → Nat} {sb2 : eSB} {k n : Nat} {f : Nat → Int32} : gRd ρ2 ad2 sb2 cA (3, k, (9, 0, (n : Int), 0), []) (.inl (cA 0, n, .inl f)) := by
  intro _
  refine ⟨f, ?_, fun j _ => ⟨f j, rfl, fun t ht => (by cases ht), Int32.le_toInt _, Int.le_of_lt_add_one (Int32.toInt_lt _)⟩⟩
  show _ = Sum.inl (cA 0, ((n : Int)).toNat, Sum.inl f)
  rw [Int.toNat_natCast]
theorem gL_sb {sb' : eSB} {ad : Nat → Nat} (hs : sb'.1 = sb.1) : ∀ {as : eL} {lc : List (Nat × Value)}, gL ρ ad sb as lc → gL ρ ad sb' as lc
  | [], [], _ => trivial
  | a :: as, v :: vs, g => ⟨⟨g.1.1, gV_sb hs g.1.2⟩, gL_sb hs g.2⟩
  | [], _ :: _, g => g.elim
  | _ :: _, [], g => g.elim
/-- the loop -/
theorem hl_ok {M : Nat} (K : eK p m c s args cc own nL Ts D cl cA A) (hX : ∀ (FR : Nat → va_E) (ρ2 : Nat → Int) (S : eS) (q : eQ) (rs : List (Nat × eS)), ftF M S.1 = some q → stp q = false → xH M q S = some rs → (∀ r ∈ rs, eLf p l e R s m args below meth c Q D cl cA A (sb.1, FR) ρ2 ad0 h0 nL r) → eW p l e R s m args below meth c Q D cl cA A (sb.1, FR) ρ2 ad0 h0 nL S)
    {pcA pcR li o c1 L n : Nat} {rl : eL} {hp3 : eH} {va : eV} (htl : tgL 0 rl = true) (hva : va.1 = 0) (hvt : va.2.1 = 4097 + o) (ho : o < 4000) (hn : L + o ≤ n) (hn31 : n < 2000000) (hfr : frB 0 hp3 n = true) (hc0 : 0 < hp3.length) (hc1 : c1 < hp3.length)
    (dA : decode cc pcA = .ok (.iaload, 1)) (dB : decode cc (pcA + 1) = .ok (.iastore, 1))
    (s1 : sgB M (fun pc => Nat.beq pc pcA) (hSh li L rl hp3) [hSA pcA li c1 L rl hp3 va, hSB pcR li L rl hp3] = true) (s2 : sgB M (fun pc => Nat.beq pc 2) (hSN pcA li L rl hp3) [hS2 li L rl hp3] = true)
    {Inv : Nat → (Nat → va_E) → Prop} (hI : ∀ k FR, Inv k FR → k < L → ∃ f g : Nat → Int32, FR 0 = .inl (cA 0, n, .inl f) ∧ FR c1 = .inl (cA 0, n, .inl g) ∧ Inv (k + 1) (fun j => if j = 0 then .inl (cA 0, n, .inl (upd f k (g (o + k)))) else FR j))
    (hEnd : ∀ (FR : Nat → va_E) (ρ2 : Nat → Int), Inv L FR → eW p l e R s m args below meth c Q D cl cA A (sb.1, FR) ρ2 ad0 h0 nL (hSB pcR li L rl hp3)) :
    ∀ (z k : Nat) (FR : Nat → va_E) (ρ2 : Nat → Int), z + k = L → ρ2 0 = (k : Int) → Inv k FR → eW p l e R s m args below meth c Q D cl cA A (sb.1, FR) ρ2 ad0 h0 nL (hSh li L rl hp3) := by
  obtain ⟨hx, hb, hml, hown, hts, hK, hA⟩ := K
  intro z
  induction z with
  | zero =>
    intro k FR ρ2 hz hk hi
    have e : k = L := by omega
    subst e
    refine sg_ok (hX FR ρ2) s1 (fun T hT => ?_)
    rcases List.mem_cons.mp hT with q | q
    · subst q
      intro ad ls lc vs ws H locs g1 g2 g3 g4 g5 g6 g7 g8 g9
      have := (g2.1 0 (0, (k : Int) - 1) rfl).2
      dsimp only at this
      omega
    · rw [List.mem_singleton.mp q]
      exact hEnd FR ρ2 hi
  | succ z ih =>
    intro k FR ρ2 hz hk hi
    refine sg_ok (hX FR ρ2) s1 (fun T hT => ?_)
    rcases List.mem_cons.mp hT with q | q
    · subst q
      obtain ⟨f, g, e0, e1, hi2⟩ := hI k FR hi (by omega)
      intro ad ls lc vs ws H locs g1 g2 g3 g4 g5 g6 g7 g8 g9
      obtain ⟨va0, va1, va2, va3⟩ := va
      dsimp only at hva hvt
      subst hva
      subst hvt
      match vs, g4 with
      | [u1, w1, u2, w2], g4 =>
        obtain ⟨⟨x, rfl, hx9⟩, hw1, ⟨y, rfl, hy9⟩, hw2, -⟩ := g4
        have hw1 : w1 = .ref (ad c1) := hw1
        have hw2 : w2 = .ref (ad 0) := hw2
        subst hw1
        subst hw2
        have t1 := hx9.1 (4096 + o) (by dsimp only; omega)
        have t2 := hy9.1 4096 rfl
        rw [show nB (4096 + o) = 0 by unfold nB; omega, show nO (4096 + o) = (o : Int) by unfold nO; omega] at t1
        rw [show nB 4096 = 0 by unfold nB; omega, show nO 4096 = (0 : Int) by unfold nO; omega] at t2
        obtain ⟨x1, x2, x3⟩ := vp_in_int (x := x) (n := n) (by omega) (by omega)
        obtain ⟨y1, y2, y3⟩ := vp_in_int (x := y) (n := n) (by omega) (by omega)
        have ex : x.toNatClampNeg = o + k := by omega
        have ey : y.toNatClampNeg = k := by omega
        dsimp only [hSA] at g1 g2 g3 g5
        have cell : ∀ i, i < hp3.length → ws[i]? = some (ad i, FR i) := fun i hi9 => by
          obtain ⟨x9, q1, q2⟩ := g5.2 i hp3[i] (List.getElem?_eq_getElem hi9)
          have q3 := frB_at 0 n hfr i hp3[i] (List.getElem?_eq_getElem hi9)
          rw [q3, Nat.zero_add] at q2
          have q4 : x9 = FR i := q2.1
          rw [q1, q4]
        have hwc := cell c1 hc1
        have hw0 := cell 0 hc0
        rw [e1] at hwc
        rw [e0] at hw0
        refine va_iald hx hb hK g6 c1 0 hwc rfl x1 dA ?_
        refine va_iast hx hb hK g6 g7 g8 0 0 hw0 rfl y1 dB (fun H1 locs1 q1 q2 q3 => ?_)
        rw [ex, ey] at q1 q2
        have hnext : eW p l e R s m args below meth c Q D cl cA A (sb.1, fun j => if j = 0 then .inl (cA 0, n, .inl (upd f k (g (o + k)))) else FR j) ρ2 ad0 h0 nL (hSN pcA li L rl hp3) := by
          refine sg_ok (hX _ ρ2) s2 (fun T hT => ?_)
          rw [List.mem_singleton.mp hT]
          have h9 := ih (k + 1) _ (upN ρ2 0 ((k : Int) + 1)) (by omega) (by rw [upN_at]; omega) hi2
          intro ad ls lc vs ws H locs g1 g2 g3 g4 g5 g6 g7 g8 g9
          have b1 := g2.1 0 (0, (L : Int) - 1) rfl
          dsimp only at b1
          refine h9 ad ls lc vs ws H locs g1 ⟨fun i q hq => ?_, fun f hf => by cases hf⟩ ?_ (gS_ag (as := []) (N := 0) (ρ := ρ2) (fun i hi => absurd hi (Nat.not_lt_zero i)) rfl g4) ⟨g5.1, fun i c9 hc9 => ?_⟩ g6 g7 g8 g9
          · cases i with
            | zero =>
              have : (0, (L : Int)) = q := Option.some.inj hq
              subst this
              rw [upN_at]
              dsimp only
              omega
            | succ i => simp [hSh] at hq
          · match lc, g3 with
            | v9 :: lc, g3 =>
              obtain ⟨⟨d1, ⟨y9, d2, d3⟩⟩, d4⟩ := g3
              refine ⟨⟨d1, ⟨y9, d2, fun t ht => ?_, ?_, ?_⟩⟩, gL_ag (N := 0) (fun i hi => by omega) htl d4⟩
              · have ht : 4097 = t + 1 := ht
                have et : t = 4096 := by omega
                have u1 := d3.1 4097 rfl
                rw [show nB 4097 = 0 by unfold nB; omega, show nO 4097 = (1 : Int) by unfold nO; omega] at u1
                rw [et, show nB 4096 = 0 by unfold nB; omega, show nO 4096 = (0 : Int) by unfold nO; omega, upN_at]
                omega
              · have := d3.2.1
                dsimp only at this ⊢
                omega
              · exact d3.2.2
            | [], g3 => exact g3.elim
          · obtain ⟨x9, q1, q2⟩ := g5.2 i c9 hc9
            have q3 := frB_at 0 n hfr i c9 hc9
            exact ⟨x9, q1, gC_ag (N := 0) (ρ := ρ2) (fun i hi => by omega) (by rw [q3]; rfl) q2⟩
        refine hnext ad ls lc [] (ws.set 0 (ad 0, .inl (cA 0, n, .inl (upd f k (g (o + k)))))) H1 locs1 g1 g2 (gL_sb (sb := (sb.1, FR)) (sb' := (sb.1, fun j => if j = 0 then .inl (cA 0, n, .inl (upd f k (g (o + k)))) else FR j)) rfl g3) trivial ⟨?_, fun i c9 hc9 => ?_⟩ q1 q2 q3 g9
        · rw [List.length_set]
          exact g5.1
        · have q3 := frB_at 0 n hfr i c9 hc9
          rw [Nat.zero_add] at q3
          have hil : i < hp3.length := (List.getElem?_eq_some_iff.mp hc9).1
          by_cases hi0 : i = 0
          · subst hi0
            refine ⟨.inl (cA 0, n, .inl (upd f k (g (o + k)))), by rw [List.getElem?_set_self (by rw [g5.1]; exact hc0)], ?_⟩
            rw [q3]
            exact ⟨rfl, gRd_any⟩
          · refine ⟨FR i, by rw [List.getElem?_set_ne (by omega)]; exact cell i hil, ?_⟩
            obtain ⟨x9, m1, m2⟩ := g5.2 i c9 hc9
            rw [cell i hil] at m1
            have m3 := Option.some.inj m1
            have m4 : FR i = x9 := (Prod.mk.inj m3).2
            subst m4
            rw [q3] at m2 ⊢
            refine ⟨?_, fun h => ?_⟩
            · show FR i = (if i = 0 then _ else FR i)
              rw [if_neg hi0]
            · obtain ⟨f9, n1, n2⟩ := m2.2 h
              exact ⟨f9, n1, fun j hj => gV_sb (sb := (sb.1, FR)) rfl (n2 j hj)⟩
      | [_, _, _], g4 => exact g4.2.2.2.elim
      | [_, _], g4 => exact g4.2.2.elim
      | [_], g4 => exact g4.2.elim
      | [], g4 => exact g4.elim
      | _ :: _ :: _ :: _ :: _ :: _, g4 => exact g4.2.2.2.2.elim
    · rw [List.mem_singleton.mp q]
      intro ad ls lc vs ws H locs g1 g2 g3 g4 g5 g6 g7 g8 g9
      have := (g2.1 0 ((L : Int), (L : Int)) rfl).1
      dsimp only at this
      omega
end HA
section HB
variable {l : Launch} {D : va_G} {cA : Nat → ClassId} {sb : eSB} {d : Nat}
theorem noC_ok {ρ : Nat → Int} {sb2 : eSB} : ∀ M as B hp outs, noC M as B hp = some outs → eCM l GT strs ρ sb2 D eCls cA d (mtF M) as B hp outs := fun _ _ _ _ _ h => by cases h
set_option maxRecDepth 20000 in
theorem hand_ok (htr : l.stackTraces = false) {M : Nat} (hM : Nat.blt M 294 = true) {as : List eV} {B : eB} {hp hpO hp3 : eH} (hw : Nat.ble (eWords as) (mtF M).2.2.2.1 = true) (hl3 : hp3.length = hp.length) (hlO : hpO.length = hp.length)
    {pcA pcR li o c1 L n : Nat} {va : eV} (htl : tgL 0 (eArgs 0 as) = true) (hva : va.1 = 0) (hvt : va.2.1 = 4097 + o) (ho : o < 4000) (hn : L + o ≤ n) (hn31 : n < 2000000) (hfr : frB 0 hp3 n = true) (hc0 : 0 < hp3.length) (hc1 : c1 < hp3.length)
    (dA : ftF M pcA = some (.iaload, 1, 0, 0, 0)) (dB : ftF M (pcA + 1) = some (.iastore, 1, 0, 0, 0))
    (s0 : sgB M (fun pc => Nat.beq pc 2) (hS0 (eArgs 0 as) hp3) [hSE li (eArgs 0 as) hp3] = true)
    (s1 : sgB M (fun pc => Nat.beq pc pcA) (hSh li L (eArgs 0 as) hp3) [hSA pcA li c1 L (eArgs 0 as) hp3 va, hSB pcR li L (eArgs 0 as) hp3] = true) (s2 : sgB M (fun pc => Nat.beq pc 2) (hSN pcA li L (eArgs 0 as) hp3) [hS2 li L (eArgs 0 as) hp3] = true)
    (s3 : eEnd (ftF M) (mtF M).2.2.2.2.1 (mtF M).2.2.2.2.2.1 (mtF M).2.2.2.2.2.2 (0, hSB pcR li L (eArgs 0 as) hp3) = some (0, none, ([((L : Int), (L : Int))], []), hp3))
    (hst : ∀ (ρ : Nat → Int) (ad : Nat → Nat) (ws : va_W), gB ρ B → gH ρ ad sb cA hp ws → ∃ (Inv : Nat → (Nat → va_E) → Prop) (FR : Nat → va_E), Inv 0 FR ∧ gH ρ ad (sb.1, FR) cA hp3 ws ∧ (∀ k FR, Inv k FR → k < L → ∃ f g : Nat → Int32, FR 0 = .inl (cA 0, n, .inl f) ∧ FR c1 = .inl (cA 0, n, .inl g) ∧ Inv (k + 1) (fun j => if j = 0 then .inl (cA 0, n, .inl (upd f k (g (o + k)))) else FR j)) ∧ (∀ (FR : Nat → va_E) (ρ2 : Nat → Int) (ad2 : Nat → Nat) (ws' : va_W), Inv L FR → gH ρ2 ad2 (sb.1, FR) cA hp3 ws' → gH ρ ad2 sb cA hpO ws')) :
    ∀ ρ : Nat → Int, cM l GT strs sb D eCls cA (d + 1) (mtF M) ρ as B hp B.1.length [(0, none, B, hpO)] := by
  intro ρ ad vs ws sz g2 ga g5
  have hM := blt_lt hM
  have hm := mOk_of (M := M) (by omega) (rows_all M (by omega))
  have hy := (mt_facts (M := M) (by omega)).2.2.2.2.2.2.2.1 hM
  obtain ⟨Inv, FR0, hi0, g53, hI, hF9⟩ := hst ρ ad ws g2 g5
  refine vx_ofW (cc := (mtF M).2.2.1) (maxL := (mtF M).2.2.2.1) (ret := (mtF M).2.2.2.2.1) hm.1 (by rw [hy]) ?_
  intro p e s m args below meth c s₁ Bd hml hnoex hv
  obtain ⟨rfl, hsz, hP, hK, hD0, hZ⟩ := hv
  subst hsz
  have hD := hD0.self (sz := s.heap.size)
  have hts := atoms_spec (ws := (mtF M).2.1 :: GT) Bd.pre
  have hown : s.vm.findClass (mtF M).1.cls = some m.cls := findClass_of_methodNamed Bd.named
  have hname : meth.name = (mtF M).1.name := (name_of_methodNamed Bd.named Bd.method).1
  have hA : ∀ q, s.heap.size ≤ q → va_A ws s.heap.size q := fun q h => Or.inr h
  have hts' : ∀ w ∈ GT, w.before vs.toArray s = true := fun w hw => hts w (List.mem_cons_of_mem _ hw)
  have K0 : eK p m c s vs.toArray (mtF M).2.2.1 (mtF M).1.cls (mtF M).2.2.2.1 GT D eCls cA (va_A ws s.heap.size) := ⟨Bd.exec, Bd.bytes, hml, hown, hts', hK, hA⟩
  have hRf : (headSpec ((mtF M).2.1 :: GT) (rmD (d + 1) (mtF M).2.2.2.2.2.1 (mtF M).2.2.2.2.2.2)).room.frames = d + 9 := by show d + 1 + 8 = d + 9; omega
  have hRl : (headSpec ((mtF M).2.1 :: GT) (rmD (d + 1) (mtF M).2.2.2.2.2.1 (mtF M).2.2.2.2.2.2)).room.locals = 64 * d + 1064 := by show 64 * (d + 1) + 1000 = 64 * d + 1064; omega
  have hnat := natW
  have hZ2 : ∀ FR : Nat → va_E, eZ strs (sb.1, FR) (va_A ws s.heap.size) s s.heap := fun FR => hZ
  have hX : ∀ (FR : Nat → va_E) (ρ2 : Nat → Int) (S : eS) (q : eQ) (rs : List (Nat × eS)), ftF M S.1 = some q → stp q = false → xH M q S = some rs → (∀ r ∈ rs, eLf p l e (headSpec ((mtF M).2.1 :: GT) (rmD (d + 1) (mtF M).2.2.2.2.2.1 (mtF M).2.2.2.2.2.2)).room s m vs.toArray below meth c (vx_MQ below (cQ ρ sb D eCls cA ad B.1.length (va_A ws s.heap.size) [(0, none, B, hpO)]) (cX ρ sb D eCls cA ad B.1.length (va_A ws s.heap.size) [(0, none, B, hpO)]) vs.toArray s (mtF M).2.2.2.2.2.1 (mtF M).2.2.2.2.2.2 (va_A ws s.heap.size)) D eCls cA (va_A ws s.heap.size) (sb.1, FR) ρ2 ad hp.length (mtF M).2.2.2.1 r) → eW p l e (headSpec ((mtF M).2.1 :: GT) (rmD (d + 1) (mtF M).2.2.2.2.2.1 (mtF M).2.2.2.2.2.2)).room s m vs.toArray below meth c (vx_MQ below (cQ ρ sb D eCls cA ad B.1.length (va_A ws s.heap.size) [(0, none, B, hpO)]) (cX ρ sb D eCls cA ad B.1.length (va_A ws s.heap.size) [(0, none, B, hpO)]) vs.toArray s (mtF M).2.2.2.2.2.1 (mtF M).2.2.2.2.2.2 (va_A ws s.heap.size)) D eCls cA (va_A ws s.heap.size) (sb.1, FR) ρ2 ad hp.length (mtF M).2.2.2.1 S := fun FR ρ2 S q rs hq hs hX hr => by
    obtain ⟨h1, h2, h3, h4⟩ := hm.2 S.1 q hq
    refine ex_ok (d := d) (sc := none) K0 (hZ2 FR) trivial GT_good (Nat.le_refl _) (Nat.le_refl _) (by rw [hRf]; exact Nat.le_refl _) (by rw [hRl]; exact Nat.le_refl _) (by rw [hRl]; omega) noC_ok h1 (h3 hs meth hname) (fun _ _ q => by cases q) ?_ hX hr
    rcases lenB_ok h2 with q9 | q9
    · exact q9
    · exfalso
      unfold stp at hs
      rcases q9 with q9 | q9 | q9 <;> rw [q9] at hs <;> cases hs
  have hEnd : ∀ (FR : Nat → va_E) (ρ2 : Nat → Int), Inv L FR → eLf p l e (headSpec ((mtF M).2.1 :: GT) (rmD (d + 1) (mtF M).2.2.2.2.2.1 (mtF M).2.2.2.2.2.2)).room s m vs.toArray below meth c (vx_MQ below (cQ ρ sb D eCls cA ad B.1.length (va_A ws s.heap.size) [(0, none, B, hpO)]) (cX ρ sb D eCls cA ad B.1.length (va_A ws s.heap.size) [(0, none, B, hpO)]) vs.toArray s (mtF M).2.2.2.2.2.1 (mtF M).2.2.2.2.2.2 (va_A ws s.heap.size)) D eCls cA (va_A ws s.heap.size) (sb.1, FR) ρ2 ad hp.length (mtF M).2.2.2.1 (0, hSB pcR li L (eArgs 0 as) hp3) := fun FR ρ2 hi => by
    refine eLf_mono (fun t ht => ?_) (leaf_ok (own := (mtF M).1.cls) (outs := [(0, none, ([((L : Int), (L : Int))], []), hp3)]) (ρ := ρ2) (sb := (sb.1, FR)) (ad1 := ad) (n1 := hp.length) Bd.exec Bd.bytes hml hown hts' hK (hZ2 FR) htr Bd.notSynchronized hnoex hA Bd.returns (Nat.le_refl _) (Nat.le_refl _) (by rw [hRf]; omega) (by rw [hRl]; omega) (fun pc q hq => by
      obtain ⟨h1, h2, h3, h4⟩ := hm.2 pc q hq
      exact ⟨h1, fun hi => lenB_ret h2 hi, h4⟩) (List.mem_singleton.mpr rfl) s3)
    obtain ⟨oc, b1, b2, b3⟩ := ht
    refine ⟨oc, b1, b2, ?_⟩
    rcases b3 with ⟨⟨⟨v, o9, hv, hin, h00, hT⟩, hF⟩, hL⟩ | ⟨q, hq, E, ce, L9, ⟨⟨k, o9, hin, h00, hE, hn9, hT⟩, hF⟩, hrest⟩
    · have e9 := List.mem_singleton.mp hin
      subst e9
      obtain ⟨ad', ws', j1, j2, j3, j4, j5, j6, j7⟩ := hT
      have ea : ad' = ad := j1.2.2 hl3
      subst ea
      refine Or.inl ⟨⟨⟨v, (0, none, B, hpO), hv, List.mem_singleton.mpr rfl, rfl, ρ, ws', fun _ _ => rfl, ?_, g2, hF9 FR ρ2 _ ws' hi j4, j5, j6, j7⟩, hF⟩, hL⟩
      cases v with
      | none => trivial
      | some v => exact j2.elim
    · have e9 := List.mem_singleton.mp hin
      subst e9
      cases h00
  have hloop := hl_ok (Q := vx_MQ below (cQ ρ sb D eCls cA ad B.1.length (va_A ws s.heap.size) [(0, none, B, hpO)]) (cX ρ sb D eCls cA ad B.1.length (va_A ws s.heap.size) [(0, none, B, hpO)]) vs.toArray s (mtF M).2.2.2.2.2.1 (mtF M).2.2.2.2.2.2 (va_A ws s.heap.size)) (ad0 := ad) (h0 := hp.length) (sb := sb) K0 hX htl hva hvt ho hn hn31 hfr hc0 hc1 (hm.2 pcA _ dA).1 (hm.2 (pcA + 1) _ dB).1 s1 s2 hI hEnd L 0 FR0 (upN ρ 0 0) (by omega) upN_at hi0
  have hent := sg_ok (hX FR0 ρ) s0 (fun T hT => by
    rw [List.mem_singleton.mp hT]
    intro ad ls lc vs ws H locs g1 g2 g3 g4 g5 g6 g7 g8 g9
    refine hloop ad ls lc vs ws H locs g1 ⟨fun i q hq => ?_, fun f hf => by cases hf⟩ ?_ (gS_ag (as := []) (N := 0) (ρ := ρ) (fun i hi => absurd hi (Nat.not_lt_zero i)) rfl g4) ⟨g5.1, fun i c9 hc9 => ?_⟩ g6 g7 g8 g9
    · cases i with
      | zero =>
        have : (0, (L : Int)) = q := Option.some.inj hq
        subst this
        rw [upN_at]
        dsimp only
        omega
      | succ i => simp [hSh] at hq
    · match lc, g3 with
      | v9 :: lc, g3 =>
        obtain ⟨⟨d1, ⟨y9, d2, d3⟩⟩, d4⟩ := g3
        have d5 : y9.toInt = 0 := by
          have q1 := d3.2.1
          have q2 := d3.2.2
          dsimp only at q1 q2
          omega
        refine ⟨⟨d1, ⟨y9, d2, fun t ht => ?_, ?_, ?_⟩⟩, gL_ag (N := 0) (fun i hi => by omega) htl d4⟩
        · have ht : 4097 = t + 1 := ht
          have et : t = 4096 := by omega
          rw [et, show nB 4096 = 0 by unfold nB; omega, show nO 4096 = (0 : Int) by unfold nO; omega, upN_at]
          omega
        · dsimp only
          omega
        · dsimp only
          omega
      | [], g3 => exact g3.elim
    · obtain ⟨x9, q1, q2⟩ := g5.2 i c9 hc9
      have q3 := frB_at 0 n hfr i c9 hc9
      exact ⟨x9, q1, gC_ag (N := 0) (ρ := ρ) (fun i hi => by omega) (by rw [q3]; rfl) q2⟩)
  rw [lg_entry_eq]
  exact hent ad _ (lv_args 0 vs) [] ws s.heap [] ⟨Nat.le_of_eq hl3.symm, fun _ _ => rfl, fun _ => rfl⟩ ⟨fun i q hq => by simp [hS0] at hq, fun f hf => by cases hf⟩ (gL_args 0 (gS_sb (sb := sb) (sb' := (sb.1, FR0)) rfl ga)) trivial g53 hP hD va_S.rf (lv_entry vs (by rw [sl_len, gS_words ga]; exact Nat.le_of_ble_eq_true hw))
def hpC : eH := [.inr (3, 0, (9, 0, 2640, 0), []), .inr (3, 1, (9, 0, 2640, 0), [])]
def hpH : eH := [.inr (3, 0, (9, 0, 1400, 0), [])]
theorem gH_nil {ρ : Nat → Int} {ad : Nat → Nat} {sb9 : eSB} {n : Nat} {f : Nat → Int32} {k : Nat} (h : sb9.2 k = .inl (cA 0, n, .inl f)) : gC ρ ad sb9 cA (.inr (3, k, (9, 0, (n : Int), 0), [])) (.inl (cA 0, n, .inl f)) := ⟨h.symm, gRd_any⟩
set_option maxRecDepth 100000 in
theorem sp_copy (htr : l.stackTraces = false) (_hvs : sb.1 60 = 1) : ctH l sb D cA 179 6 [(2, 0, 0, 0), (2, 1, 0, 0)] ([], []) [.inr (5, 2640, eI 0, []), .inr (5, 2640, eI 0, [])] [(0, none, ([], []), [.inr (5, 2640, eI 0, []), .inr (5, 2640, eI 0, [])])] := by
  intro d hd
  obtain ⟨d', rfl⟩ : ∃ d', d = d' + 1 := ⟨d - 1, by omega⟩
  refine hand_ok htr (M := 179) (by decide) (hp3 := hpC) (pcA := 12) (pcR := 20) (li := 2) (o := 0) (c1 := 1) (L := 2640) (n := 2640) (va := (0, 4097, 0, 2640)) (by decide +kernel) rfl rfl (by decide) rfl rfl (by decide) (by decide) (by decide) (by decide +kernel) (by decide) (by decide) (by decide +kernel) (by decide +kernel) (by decide +kernel) (by decide +kernel) (by decide +kernel) (by rfl) (fun ρ ad ws hB hH => ?_)
  obtain ⟨x0, a1, f0, z0, a2, a3, a4⟩ := hH.2 0 _ rfl
  obtain ⟨x1, b1, f1, z1, b2, b3, b4⟩ := hH.2 1 _ rfl
  subst a2
  subst b2
  have hl : ws.length = 2 := hH.1
  refine ⟨fun k FR => ∃ f : Nat → Int32, FR 0 = .inl (cA 0, 2640, .inl f) ∧ FR 1 = .inl (cA 0, 2640, .inl f1) ∧ ∀ j, j < k → f j = f1 j, fun k => if k = 0 then .inl (cA 0, 2640, .inl f0) else .inl (cA 0, 2640, .inl f1), ⟨f0, rfl, rfl, fun j hj => by omega⟩, ⟨hl, fun k c hk => ?_⟩, fun k FR hi hk => ?_, fun FR ρ2 ad2 ws' hi g => ?_⟩
  · match k, hk with
    | 0, hk =>
      have := Option.some.inj hk
      subst this
      exact ⟨_, a1, gH_nil (n := 2640) rfl⟩
    | 1, hk =>
      have := Option.some.inj hk
      subst this
      exact ⟨_, b1, gH_nil (n := 2640) rfl⟩
    | k + 2, hk => simp [hpC] at hk
  · obtain ⟨f, e0, e1, e2⟩ := hi
    refine ⟨f, f1, e0, e1, upd f k (f1 (0 + k)), rfl, e1, fun j hj => ?_⟩
    unfold upd
    by_cases hjk : j = k
    · rw [if_pos hjk, hjk, Nat.zero_add]
    · rw [if_neg hjk]
      exact e2 j (by omega)
  · obtain ⟨f, e0, e1, e2⟩ := hi
    obtain ⟨y0, c1, c2⟩ := g.2 0 _ rfl
    obtain ⟨y1, d1, d2⟩ := g.2 1 _ rfl
    have c3 : y0 = FR 0 := c2.1
    have d3 : y1 = FR 1 := d2.1
    rw [e0] at c3
    rw [e1] at d3
    subst c3
    subst d3
    cases z1 with
    | cons _ _ => exact b3.elim
    | nil =>
      refine ⟨g.1, fun k c hk => ?_⟩
      match k, hk with
      | 0, hk =>
        have := Option.some.inj hk
        subst this
        exact ⟨_, c1, f, [], rfl, trivial, PRD_congr (k := 1) (by omega) e2 b4⟩
      | 1, hk =>
        have := Option.some.inj hk
        subst this
        exact ⟨_, d1, f1, [], rfl, trivial, b4⟩
      | k + 2, hk => simp at hk
/-- the second half of a row of 1400 taken over -/
theorem half_ok (htr : l.stackTraces = false) {d : Nat} {B : eB} {cI cO : eC} (hst : ∀ (ρ : Nat → Int) (ad : Nat → Nat) (x : va_E), gB ρ B → gC ρ ad sb cA cI x → ∃ f0 : Nat → Int32, x = .inl (cA 0, 1400, .inl f0) ∧ ∀ (f : Nat → Int32) (ad2 : Nat → Nat), (∀ j, j < 700 → f j = f0 (700 + j)) → gC ρ ad2 sb cA cO (.inl (cA 0, 1400, .inl f))) : ∀ ρ : Nat → Int, cM l GT strs sb D eCls cA (d + 1) (mtF 255) ρ [(2, 0, 0, 0)] B [cI] B.1.length [(0, none, B, [cO])] := by
  refine hand_ok htr (M := 255) (by decide) (hp3 := hpH) (pcA := 19) (pcR := 27) (li := 1) (o := 700) (c1 := 0) (L := 700) (n := 1400) (va := (0, 4797, 700, 1399)) (by decide +kernel) rfl rfl (by decide) rfl rfl (by decide) (by decide) (by decide) (by decide +kernel) (by decide) (by decide) (by decide +kernel) (by decide +kernel) (by decide +kernel) (by decide +kernel) (by decide +kernel) (by rfl) (fun ρ ad ws hB hH => ?_)
  obtain ⟨x0, a1, a2⟩ := hH.2 0 _ rfl
  obtain ⟨f0, a3, a4⟩ := hst ρ ad x0 hB a2
  subst a3
  have hl : ws.length = 1 := hH.1
  refine ⟨fun k FR => ∃ f : Nat → Int32, FR 0 = .inl (cA 0, 1400, .inl f) ∧ (∀ j, j < k → f j = f0 (700 + j)) ∧ ∀ j, 700 ≤ j → f j = f0 j, fun _ => .inl (cA 0, 1400, .inl f0), ⟨f0, rfl, fun j hj => by omega, fun _ _ => rfl⟩, ⟨hl, fun k c hk => ?_⟩, fun k FR hi hk => ?_, fun FR ρ2 ad2 ws' hi g => ?_⟩
  · match k, hk with
    | 0, hk =>
      have := Option.some.inj hk
      subst this
      exact ⟨_, a1, gH_nil (n := 1400) rfl⟩
    | k + 1, hk => simp [hpH] at hk
  · obtain ⟨f, e0, e1, e2⟩ := hi
    refine ⟨f, f, e0, e0, upd f k (f (700 + k)), rfl, fun j hj => ?_, fun j hj => ?_⟩
    · unfold upd
      by_cases hjk : j = k
      · rw [if_pos hjk, hjk, e2 _ (by omega)]
      · rw [if_neg hjk]
        exact e1 j (by omega)
    · unfold upd
      rw [if_neg (by omega)]
      exact e2 j hj
  · obtain ⟨f, e0, e1, e2⟩ := hi
    obtain ⟨y0, c1, c2⟩ := g.2 0 _ rfl
    have c3 : y0 = FR 0 := c2.1
    rw [e0] at c3
    subst c3
    refine ⟨g.1, fun k c hk => ?_⟩
    match k, hk with
    | 0, hk =>
      have := Option.some.inj hk
      subst this
      exact ⟨_, c1, a4 f ad2 e1⟩
    | k + 1, hk => simp at hk
theorem sp_half6 (htr : l.stackTraces = false) (_hvs : sb.1 60 = 1) : ctH l sb D cA 255 6 [(2, 0, 0, 0)] ([(0, 700), (0, 700), (-2147483648, 2147483647), (0, 700)], []) [.inr (6, 1400, eI 0, [(0, (0, 4097, 0, 700)), (1, (0, 12289, 0, 700)), (2, eI 1), (3, (0, 20481, -2147483648, 2147483647)), (4, (0, 28673, 0, 700))])] [(0, none, ([(0, 700), (0, 700), (-2147483648, 2147483647), (0, 700)], []), [.inr (7, 1400, eI 0, [(0, (0, 12289, 0, 700))])])] := by
  intro d hd
  obtain ⟨d', rfl⟩ : ∃ d', d = d' + 1 := ⟨d - 1, by omega⟩
  refine half_ok htr (fun ρ ad x hB g => ?_)
  obtain ⟨f0, zs, k1, k2, k3⟩ := g
  refine ⟨f0, k1, fun f ad2 hf => ?_⟩
  match zs, k2, k3 with
  | [z0, z1, z2, z3, z4], k2, k3 =>
    obtain ⟨g0, g1, g2, g3, g4, -⟩ := k2
    have e2 : z2 = 1 := by
      have q1 := g2.2.1
      have q2 := g2.2.2
      dsimp only at q1 q2
      omega
    subst e2
    exact ⟨f, [z1], rfl, ⟨g1, trivial⟩, sg_half k3 g1.2.2 hf⟩
  | [], k2, _ => exact k2.elim
  | [_], k2, _ => exact k2.2.elim
  | [_, _], k2, _ => exact k2.2.2.elim
  | [_, _, _], k2, _ => exact k2.2.2.2.elim
  | [_, _, _, _], k2, _ => exact k2.2.2.2.2.elim
  | _ :: _ :: _ :: _ :: _ :: _ :: _, k2, _ => exact k2.2.2.2.2.2.elim
theorem sp_half7 (htr : l.stackTraces = false) (_hvs : sb.1 60 = 1) : ctH l sb D cA 255 6 [(2, 0, 0, 0)] ([(0, 700)], []) [.inr (7, 1400, eI 0, [(0, (0, 4097, 0, 700))])] [(0, none, ([(0, 700)], []), [.inr (7, 1400, eI 0, [(0, eI 0)])])] := by
  intro d hd
  obtain ⟨d', rfl⟩ : ∃ d', d = d' + 1 := ⟨d - 1, by omega⟩
  refine half_ok htr (fun ρ ad x hB g => ?_)
  obtain ⟨f0, zs, k1, k2, k3⟩ := g
  refine ⟨f0, k1, fun f ad2 hf => ?_⟩
  match zs, k2, k3 with
  | [z0], k2, k3 => exact ⟨f, [0], rfl, ⟨gN_I 0, trivial⟩, sg_none k3⟩
  | [], k2, _ => exact k2.elim
  | _ :: _ :: _, k2, _ => exact k2.2.elim
end HB
