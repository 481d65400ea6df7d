/-! ===== THE ENGINE, 14: cuts: states at certain places, and turns from one to another that come to an end ===== -/
def thP : Nat → List (Option eP) → Bool
  | 0, _ => true
  | _ + 1, [] => true
  | n + 1, o :: r => (match o with
    | none => true
    | some _ => false) && thP n r
theorem thP_ok : ∀ {n : Nat} {th : List (Option eP)}, thP n th = true → ∀ i, i < n → thG th i = none
  | 0, _, _, i, hi => by omega
  | n + 1, [], _, i, _ => thG_nil i
  | n + 1, o :: r, h, i, hi => by
    unfold thP at h
    rw [Bool.and_eq_true] at h
    cases i with
    | zero =>
      cases o with
      | none => exact thG_zero _ _
      | some p => cases h.1
    | succ i => rw [thG_succ]; exact thP_ok (th := r) h.2 i (by omega)
/-- S lies within T -/
def subS (nP : Nat) (th : List (Option eP)) (S T : eS) : Bool :=
  Nat.beq S.1 T.1 && (mL (fun k => k) S.2.2.2.1 S.2.1 S.2.2.2.2.1 th T.2.1 && (thP nP th && (thOk S.2.1 S.2.2.2.2.1 th && (mS (fun k => k) S.2.2.2.1 S.2.1 S.2.2.2.2.1 th S.2.2.1 T.2.2.1 && (mB S.2.2.2.1 S.2.1 S.2.2.2.2.1 th T.2.2.2.1 && (mH false (fun k => k) S.2.2.2.1 S.2.1 S.2.2.2.2.1 th 0 S.2.2.2.2.1 T.2.2.2.2.1 && (Nat.beq S.2.2.2.2.2.1 T.2.2.2.2.2.1 && Nat.beq S.2.2.2.2.2.2 T.2.2.2.2.2.2)))))))
-- measures: k and s times a name, s one of 0, 1, -1
abbrev eMe : Type := List (Int × Int × Nat)
def meV (ρ : Nat → Int) (c : Int × Int × Nat) : Int := c.1 + c.2.1 * ρ c.2.2
def mea (ρ : Nat → Int) : eMe → Nat
  | [] => 0
  | c :: r => (meV ρ c).toNat * 1000000 ^ r.length + mea ρ r
/-- the least and the most of a part -/
def meR (s lo hi : Int) : Int × Int := bif decide (s = 0) then (0, 0) else bif decide (s = 1) then (lo, hi) else (-hi, -lo)
def meG (c : Int × Int × Nat) : Bool := decide (c.2.1 = 0) || (decide (c.2.1 = 1) || decide (c.2.1 = -1))
theorem meR_ok {c : Int × Int × Nat} (h : meG c = true) {lo hi z : Int} (h1 : lo ≤ z) (h2 : z ≤ hi) : (meR c.2.1 lo hi).1 ≤ c.2.1 * z ∧ c.2.1 * z ≤ (meR c.2.1 lo hi).2 := by
  obtain ⟨k, s, n⟩ := c
  unfold meG at h
  simp only [Bool.or_eq_true, decide_eq_true_eq] at h
  rcases h with h | h | h
  · subst h
    show (0 : Int) ≤ 0 * z ∧ 0 * z ≤ (0 : Int)
    omega
  · subst h
    show lo ≤ 1 * z ∧ 1 * z ≤ hi
    omega
  · subst h
    show -hi ≤ -1 * z ∧ -1 * z ≤ -lo
    omega
def meOk (B : eB) : eMe → Bool
  | [] => true
  | c :: r => (meG c && (bif decide (c.2.1 = 0) then decide (0 ≤ c.1) && decide (c.1 < 1000000) else (match eGet B.1 c.2.2 with
      | some p => decide (0 ≤ c.1 + (meR c.2.1 p.1 p.2).1) && decide (c.1 + (meR c.2.1 p.1 p.2).2 < 1000000)
      | none => false))) && meOk B r
theorem meOk_ok {ρ : Nat → Int} {B : eB} (hB : gB ρ B) : ∀ {m : eMe}, meOk B m = true → ∀ c ∈ m, 0 ≤ meV ρ c ∧ meV ρ c < 1000000
  | [], _, c, hc => by cases hc
  | c :: r, h, c9, hc => by
    unfold meOk at h
    rw [Bool.and_eq_true, Bool.and_eq_true] at h
    rcases List.mem_cons.mp hc with e | e
    · subst e
      obtain ⟨⟨h0, h1⟩, -⟩ := h
      unfold meV
      cases hd : decide (c9.2.1 = 0) with
      | true =>
        rw [hd, cond_true] at h1
        rw [decide_eq_true_eq] at hd
        simp only [Bool.and_eq_true, decide_eq_true_eq] at h1
        rw [hd]
        omega
      | false =>
        rw [hd, cond_false] at h1
        split at h1
        next p hp =>
          simp only [Bool.and_eq_true, decide_eq_true_eq] at h1
          have hb := hB.1 c9.2.2 p (by rw [← eGet_eq]; exact hp)
          have := meR_ok h0 hb.1 hb.2
          omega
        next => cases h1
    · exact meOk_ok hB h.2 c9 e
theorem mea_lt {ρ : Nat → Int} : ∀ {m : eMe}, (∀ c ∈ m, 0 ≤ meV ρ c ∧ meV ρ c < 1000000) → mea ρ m < 1000000 ^ m.length
  | [], _ => by show 0 < 1; omega
  | c :: r, h => by
    have h1 := h c List.mem_cons_self
    have h2 := mea_lt (fun z hz => h z (List.mem_cons_of_mem _ hz))
    show (meV ρ c).toNat * 1000000 ^ r.length + mea ρ r < 1000000 ^ (r.length + 1)
    have h3 : (meV ρ c).toNat + 1 ≤ 1000000 := by omega
    have h4 := Nat.mul_le_mul_right (1000000 ^ r.length) h3
    rw [Nat.pow_succ, Nat.mul_comm (1000000 ^ r.length)]
    rw [Nat.add_mul, Nat.one_mul] at h4
    omega
/-- the new part and v more is no more than the old one -/
def meD (B : eB) (l : eL) (hp : eH) (th : List (Option eP)) (v : Int) (c' c : Int × Int × Nat) : Bool :=
  meG c' && (meG c && (match (bif decide (c'.2.1 = 0) then some (eI 0) else vN B l hp th c'.2.2), (bif decide (c.2.1 = 0) then some (eI 0) else (match eGet B.1 c.2.2 with
    | some p => some ((0, c.2.2 * 8192 + 4097, p.1, p.2) : eV)
    | none => none)) with
  | some a, some o => decide (c'.1 + (meR c'.2.1 (eLo B a) (eHi B a)).2 + v ≤ c.1 + (meR c.2.1 (eLo B o) (eHi B o)).1) || ((decide (c'.2.1 = -1) && (decide (c.2.1 = -1) && dLe B o a (c'.1 - c.1 + v))) || (decide (c'.2.1 = 1) && (decide (c.2.1 = 1) && dLe B a o (c'.1 - c.1 + v))))
  | _, _ => false))
def meL (B : eB) (l : eL) (hp : eH) (th : List (Option eP)) : eMe → eMe → Bool
  | c' :: r', c :: r => Nat.beq r'.length r.length && (meD B l hp th 1 c' c || (meD B l hp th 0 c' c && meL B l hp th r' r))
  | _, _ => false
section E14
variable {ρ ρ' : Nat → Int} {ad : Nat → Nat} {sb : eSB} {cA : Nat → ClassId}
variable {B : eB} {l : eL} {hp : eH} {lc : List (Nat × Value)} {ws : va_W} {th : List (Option eP)}
theorem gN_at (hB : gB ρ B) {i : Nat} {p : Int × Int} (h : eGet B.1 i = some p) : gN ρ (0, i * 8192 + 4097, p.1, p.2) (ρ i) := by
  have hb := hB.1 i p (by rw [← eGet_eq]; exact h)
  refine ⟨fun t ht => ?_, hb.1, hb.2⟩
  dsimp only at ht
  have e1 : t = i * 8192 + 4096 := by omega
  rw [e1, nB_at, nO_at]
  omega
theorem meD_ok (hB : gB ρ B) (h1 : gL ρ ad sb l lc) (h2 : gHx ρ ad ad sb cA hp ws) (hR : Ren ρ ρ' lc ws th) {v : Int} {c' c : Int × Int × Nat} (h : meD B l hp th v c' c = true) : meV ρ' c' + v ≤ meV ρ c := by
  unfold meD at h
  rw [Bool.and_eq_true, Bool.and_eq_true] at h
  obtain ⟨g1, g2, h⟩ := h
  split at h
  next a o ha ho =>
    -- what the two stand for
    have ea : ∃ z, gN ρ a z ∧ c'.2.1 * z = c'.2.1 * ρ' c'.2.2 ∧ (c'.2.1 ≠ 0 → z = ρ' c'.2.2) := by
      cases hd : decide (c'.2.1 = 0) with
      | true =>
        rw [hd, cond_true] at ha
        rw [decide_eq_true_eq] at hd
        cases ha
        exact ⟨0, gN_I 0, by rw [hd]; omega, fun q => (q hd).elim⟩
      | false =>
        rw [hd, cond_false] at ha
        exact ⟨_, vN_ok hB h1 h2 hR ha, rfl, fun _ => rfl⟩
    have eo : ∃ z, gN ρ o z ∧ c.2.1 * z = c.2.1 * ρ c.2.2 ∧ (c.2.1 ≠ 0 → z = ρ c.2.2) := by
      cases hd : decide (c.2.1 = 0) with
      | true =>
        rw [hd, cond_true] at ho
        rw [decide_eq_true_eq] at hd
        cases ho
        exact ⟨0, gN_I 0, by rw [hd]; omega, fun q => (q hd).elim⟩
      | false =>
        rw [hd, cond_false] at ho
        split at ho
        next p hp9 =>
          cases ho
          exact ⟨_, gN_at hB hp9, rfl, fun _ => rfl⟩
        next => cases ho
    obtain ⟨z, ga, e1, e1'⟩ := ea
    obtain ⟨w, go, e2, e2'⟩ := eo
    unfold meV
    rw [← e1, ← e2]
    rw [Bool.or_eq_true, Bool.or_eq_true, Bool.and_eq_true, Bool.and_eq_true, Bool.and_eq_true, Bool.and_eq_true] at h
    simp only [decide_eq_true_eq] at h
    rcases h with h | ⟨s1, s2, h⟩ | ⟨s1, s2, h⟩
    · have r1 := meR_ok g1 (eLo_ok hB ga) (eHi_ok hB ga)
      have r2 := meR_ok g2 (eLo_ok hB go) (eHi_ok hB go)
      omega
    · have := dLe_ok hB go ga h
      rw [s1, s2]
      omega
    · have := dLe_ok hB ga go h
      rw [s1, s2]
      omega
  next => cases h
theorem meL_ok (hB : gB ρ B) (h1 : gL ρ ad sb l lc) (h2 : gHx ρ ad ad sb cA hp ws) (hR : Ren ρ ρ' lc ws th) : ∀ {m' m : eMe}, meL B l hp th m' m = true → (∀ c ∈ m', 0 ≤ meV ρ' c ∧ meV ρ' c < 1000000) → mea ρ' m' < mea ρ m
  | c' :: r', c :: r, h, hb => by
    unfold meL at h
    rw [Bool.and_eq_true, Bool.or_eq_true, Bool.and_eq_true] at h
    have e0 := Nat.eq_of_beq_eq_true h.1
    have b1 := hb c' List.mem_cons_self
    have b2 := mea_lt (fun z hz => hb z (List.mem_cons_of_mem _ hz))
    show (meV ρ' c').toNat * 1000000 ^ r'.length + mea ρ' r' < (meV ρ c).toNat * 1000000 ^ r.length + mea ρ r
    rw [e0] at b2 ⊢
    rcases h.2 with h3 | ⟨h3, h4⟩
    · have h5 := meD_ok hB h1 h2 hR h3
      have h6 : (meV ρ' c').toNat + 1 ≤ (meV ρ c).toNat := by omega
      have h7 := Nat.mul_le_mul_right (1000000 ^ r.length) h6
      rw [Nat.add_mul, Nat.one_mul] at h7
      omega
    · have h5 := meD_ok hB h1 h2 hR h3
      have h6 : (meV ρ' c').toNat ≤ (meV ρ c).toNat := by omega
      have h7 := Nat.mul_le_mul_right (1000000 ^ r.length) h6
      have h8 := meL_ok hB h1 h2 hR h4 (fun z hz => hb z (List.mem_cons_of_mem _ hz))
      omega
  | [], _, h, _ => by cases h
  | _ :: _, [], h, _ => by cases h
theorem gHx_of {h : eH} (g : gH ρ ad sb cA h ws) : gHx ρ ad ad sb cA h ws := g
theorem mea_agree {n : Nat} (hag : ∀ i, i < n → ρ' i = ρ i) : ∀ {m : eMe}, (∀ c ∈ m, c.2.1 ≠ 0 → c.2.2 < n) → mea ρ' m = mea ρ m
  | [], _ => rfl
  | c :: r, h => by
    show (meV ρ' c).toNat * 1000000 ^ r.length + mea ρ' r = (meV ρ c).toNat * 1000000 ^ r.length + mea ρ r
    rw [mea_agree hag (fun z hz => h z (List.mem_cons_of_mem _ hz))]
    have : meV ρ' c = meV ρ c := by
      unfold meV
      by_cases hc : c.2.1 = 0
      · rw [hc]; omega
      · rw [hag _ (h c List.mem_cons_self hc)]
    rw [this]
theorem meOk_in {B : eB} : ∀ {m : eMe}, meOk B m = true → ∀ c ∈ m, c.2.1 ≠ 0 → c.2.2 < B.1.length
  | [], _, c, hc, _ => by cases hc
  | c :: r, h, c9, hc, hi => by
    unfold meOk at h
    rw [Bool.and_eq_true, Bool.and_eq_true] at h
    rcases List.mem_cons.mp hc with e | e
    · subst e
      have h := h.1.2
      rw [decide_eq_false hi, cond_false] at h
      split at h
      next p hp =>
        rw [eGet_eq] at hp
        exact (List.getElem?_eq_some_iff.mp hp).1
      next => cases h
    · exact meOk_in h.2 c9 e hi
end E14
/-- a cut: a state, the places of its names, its measure -/
abbrev eCut : Type := eS × List (Option eP) × eMe
/-- the states at which a run ends -/
def runG (ft : Nat → Option eQ) (cut : Nat → Bool) (X : eQ → eS → eR) : Nat → List eS → List (Nat × eS) → Option (List (Nat × eS))
  | 0, _, _ => none
  | n + 1, wl, acc => match wl with
    | [] => some acc
    | S :: wl => bif cut S.1 then runG ft cut X n wl ((0, S) :: acc) else (match ft S.1 with
      | none => none
      | some q => bif stp q then runG ft cut X n wl ((0, S) :: acc) else (match X q S with
        | none => none
        | some rs => runG ft cut X n (nrm rs wl) (exc rs acc)))
theorem runG_ok {PW : eS → Prop} {PL : Nat × eS → Prop} (h0 : ∀ S, PL (0, S) ↔ PW S) {ft : Nat → Option eQ} {cut : Nat → Bool} {X : eQ → eS → eR} (hX : ∀ (S : eS) (q : eQ) (rs : List (Nat × eS)), ft S.1 = some q → stp q = false → X q S = some rs → (∀ r ∈ rs, PL r) → PW S) : ∀ (n : Nat) (wl : List eS) (acc outs : List (Nat × eS)), runG ft cut X n wl acc = some outs → (∀ o ∈ outs, PL o) → (∀ S ∈ wl, PW S) ∧ (∀ o ∈ acc, PL o)
  | 0, _, _, _, h, _ => by cases h
  | n + 1, wl, acc, outs, h, ho => by
    unfold runG at h
    split at h
    next =>
      cases h
      exact ⟨fun S hS => (by cases hS), ho⟩
    next S wl =>
      have stop : runG ft cut X n wl ((0, S) :: acc) = some outs → (∀ T ∈ S :: wl, PW T) ∧ (∀ o ∈ acc, PL o) := fun h => by
        obtain ⟨h1, h2⟩ := runG_ok h0 hX n wl _ outs h ho
        refine ⟨fun T hT => ?_, fun o hO => h2 o (List.mem_cons_of_mem _ hO)⟩
        rcases List.mem_cons.mp hT with q | q
        · rw [q]
          exact (h0 S).mp (h2 (0, S) List.mem_cons_self)
        · exact h1 T q
      cases hc : cut S.1 with
      | true => rw [hc, cond_true] at h; exact stop h
      | false =>
        rw [hc, cond_false] at h
        split at h
        next => cases h
        next q hq =>
          cases hs : stp q with
          | true => rw [hs, cond_true] at h; exact stop h
          | false =>
            rw [hs, cond_false] at h
            split at h
            next => cases h
            next rs hrs =>
              obtain ⟨h1, h2⟩ := runG_ok h0 hX n _ _ outs h ho
              obtain ⟨h3, h4⟩ := nrm_in h1
              obtain ⟨h5, h6⟩ := exc_in h2
              refine ⟨fun T hT => ?_, h5⟩
              rcases List.mem_cons.mp hT with q9 | q9
              · rw [q9]
                refine hX S q rs hq hs hrs (fun r hr => ?_)
                obtain ⟨k, T9⟩ := r
                cases k with
                | zero => exact (h0 T9).mpr (h4 T9 hr)
                | succ k => exact h6 k T9 hr
              · exact h3 T q9
/-- from a cut one step, and on to the next ones -/
def run1 (ft : Nat → Option eQ) (cut : Nat → Bool) (X : eQ → eS → eR) (n : Nat) (S : eS) : Option (List (Nat × eS)) := match ft S.1 with
  | none => none
  | some q => bif stp q then some [(0, S)] else (match X q S with
    | none => none
    | some rs => runG ft cut X n (nrm rs []) (exc rs []))
theorem run1_ok {PW : eS → Prop} {PL : Nat × eS → Prop} (h0 : ∀ S, PL (0, S) ↔ PW S) {ft : Nat → Option eQ} {cut : Nat → Bool} {X : eQ → eS → eR} (hX : ∀ (S : eS) (q : eQ) (rs : List (Nat × eS)), ft S.1 = some q → stp q = false → X q S = some rs → (∀ r ∈ rs, PL r) → PW S) {n : Nat} {S : eS} {outs : List (Nat × eS)} (h : run1 ft cut X n S = some outs) (ho : ∀ o ∈ outs, PL o) : PW S := by
  unfold run1 at h
  split at h
  next => cases h
  next q hq =>
    cases hs : stp q with
    | true =>
      rw [hs, cond_true] at h
      cases h
      exact (h0 S).mp (ho (0, S) (List.mem_singleton.mpr rfl))
    | false =>
      rw [hs, cond_false] at h
      split at h
      next => cases h
      next rs hrs =>
        obtain ⟨h1, h2⟩ := runG_ok h0 hX n _ _ outs h ho
        obtain ⟨h3, h4⟩ := nrm_in h1
        obtain ⟨h5, h6⟩ := exc_in h2
        refine hX S q rs hq hs hrs (fun r hr => ?_)
        obtain ⟨k, T9⟩ := r
        cases k with
        | zero => exact (h0 T9).mpr (h4 T9 hr)
        | succ k => exact h6 k T9 hr
/-- an end is at a cut, and less -/
def edg (nP : Nat) (me : eMe) (o : Nat × eS) (c : eCut) : Bool := Nat.beq o.1 0 && (subS nP c.2.1 o.2 c.1 && meL o.2.2.2.2.1 o.2.2.1 o.2.2.2.2.2.1 c.2.1 c.2.2 me)
section E15
variable {p : Program} {l : Launch} {e : Env} {R : Room} {s : State} {m : MethodId} {args : Array Value} {below : List Frame} {meth : Method} {c : Code} {Q : State → Prop}
variable {D : va_G} {cl : List vw_C} {cA : Nat → ClassId} {A : Nat → Prop} {sb : eSB} {ρ : Nat → Int} {ad0 : Nat → Nat} {h0 nL : Nat}
/-- S stands in T, with the names there: whatever holds of T under these names -/
theorem subS_ok {nP : Nat} {th : List (Option eP)} {S T : eS} {me me' : eMe} (h : subS nP th S T = true) (hme : meOk T.2.2.2.1 me' = true) (hl : meL S.2.2.2.1 S.2.1 S.2.2.2.2.1 th me' me = true) (hw : ∀ ρ' : Nat → Int, (∀ i, i < nP → ρ' i = ρ i) → mea ρ' me' < mea ρ me → eW p l e R s m args below meth c Q D cl cA A sb ρ' ad0 h0 nL T) : eW p l e R s m args below meth c Q D cl cA A sb ρ ad0 h0 nL S := by
  unfold subS at h
  simp only [Bool.and_eq_true] at h
  obtain ⟨a1, a4, a2, a3, a5, a6, a7, a8, a9⟩ := h
  have a1 := Nat.eq_of_beq_eq_true a1
  have a8 := Nat.eq_of_beq_eq_true a8
  have a9 := Nat.eq_of_beq_eq_true a9
  intro ad ls lc vs ws H locs g1 g2 g3 g4 g5 g6 g7 g8 g9
  obtain ⟨ρ', hR⟩ := ren_ex g3 (gHx_of g5) a3
  have k1 := mB_ok g2 g3 (gHx_of g5) hR a6
  obtain ⟨lc2, k2, k3⟩ := mL_ok g2 g3 (gHx_of g5) hR a4
  have k4 := mS_ok g2 g3 (gHx_of g5) hR a5 g4
  have k5 := mH_ok g2 g3 (gHx_of g5) hR rfl (fun q => by cases q) (fun _ => rfl) a7
  have hag : ∀ i, i < nP → ρ' i = ρ i := fun i hi => by
    have := hR i
    rw [thP_ok a2 i hi] at this
    exact this
  have hlt := meL_ok g2 g3 (gHx_of g5) hR hl (meOk_ok k1 hme)
  have hlen : T.2.2.2.2.1.length = S.2.2.2.2.1.length := (mH_get 0 a7).1
  have := hw ρ' hag hlt ad ls lc2 vs ws H locs (by rw [hlen]; exact g1) k1 k2 k4 k5 g6 g7 g8 ⟨g9.1, g9.2.1, fun q hq => g9.2.2 q (k3 q hq)⟩
  rw [a1, a8, a9]
  exact this
/-- all cuts stand, if each one's run ends well or at a cut that is less -/
theorem cuts_ok {K : List eCut} {nP : Nat} {ρ0 : Nat → Int} (hseg : ∀ c9 ∈ K, meOk c9.1.2.2.2.1 c9.2.2 = true ∧ nP ≤ c9.1.2.2.2.1.1.length ∧ ∃ os : List (Nat × eS), (∀ ρ : Nat → Int, (∀ i, i < nP → ρ i = ρ0 i) → (∀ o ∈ os, ∀ ρ1 : Nat → Int, (∀ i, i < c9.1.2.2.2.1.1.length → ρ1 i = ρ i) → eLf p l e R s m args below meth c Q D cl cA A sb ρ1 ad0 h0 nL o) → eW p l e R s m args below meth c Q D cl cA A sb ρ ad0 h0 nL c9.1) ∧
    ∀ o ∈ os, (∀ ρ : Nat → Int, (∀ i, i < nP → ρ i = ρ0 i) → eLf p l e R s m args below meth c Q D cl cA A sb ρ ad0 h0 nL o) ∨ ∃ c' ∈ K, edg nP c9.2.2 o c' = true) :
    ∀ (n : Nat) (c9 : eCut) (ρ : Nat → Int), c9 ∈ K → mea ρ c9.2.2 < n → (∀ i, i < nP → ρ i = ρ0 i) → eW p l e R s m args below meth c Q D cl cA A sb ρ ad0 h0 nL c9.1
  | 0, _, _, _, hn, _ => by omega
  | n + 1, c9, ρ, hc, hn, hag => by
    obtain ⟨h1, h2, os, h3, h4⟩ := hseg c9 hc
    refine h3 ρ hag (fun o ho ρ1 h5 => ?_)
    have hag1 : ∀ i, i < nP → ρ1 i = ρ0 i := fun i hi => (h5 i (Nat.lt_of_lt_of_le hi h2)).trans (hag i hi)
    rcases h4 o ho with h6 | ⟨c', h6, h7⟩
    · exact h6 ρ1 hag1
    · unfold edg at h7
      rw [Bool.and_eq_true, Bool.and_eq_true] at h7
      obtain ⟨e1, e2, e3⟩ := h7
      obtain ⟨k, S⟩ := o
      have e1 := Nat.eq_of_beq_eq_true e1
      dsimp only at e1
      subst e1
      refine subS_ok e2 (hseg c' h6).1 e3 (fun ρ' h8 h9 => ?_)
      rw [mea_agree h5 (meOk_in h1)] at h9
      exact cuts_ok hseg n c' ρ' h6 (by omega) (fun i hi => (h8 i hi).trans (hag1 i hi))
end E15
