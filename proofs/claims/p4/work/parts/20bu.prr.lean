/-! ===== THE ENGINE, 12t: relations out of relations, by rules ===== -/
/-- an argument of another state's, here -/
def argT (B : eB) (l : eL) (hp : eH) (th : List (Option eP)) (n : Nat) : Option eV := bif Nat.blt n cB then (match vN B l hp th (nB (n - 1)) with
    | some c => some (shV c (nO (n - 1)))
    | none => none) else some (eI (((n - cB : Nat) : Int) - 4294967296))
def bdA (B : eB) (env : List (Nat × eV)) (p : Nat × Int) (a : eV) : Option (List (Nat × eV)) := match env.find? (fun q => Nat.beq q.1 p.1) with
  | some q => bif isOff B a q.2 p.2 then some env else none
  | none => some ((p.1, shV a (-p.2)) :: env)
def bdL (B : eB) : List (Nat × eV) → List (Nat × Int) → List eV → Option (List (Nat × eV))
  | env, [], [] => some env
  | env, p :: ps, a :: as => (match bdA B env p a with
    | some env' => bdL B env' ps as
    | none => none)
  | _, _, _ => none
def argL (B : eB) (f : eF) : Option (List eV) := match argV B f.2.1, argV B f.2.2.2.1, argV B f.2.2.1.toNat, argV B f.2.2.2.2.toNat with
  | some a, some b, some c, some d => some [a, b, c, d]
  | _, _, _, _ => none
def cdE (B : eB) (env : List (Nat × eV)) (r : eRu) : Bool := r.2.2.1.all (fun c => match env.find? (fun q => Nat.beq q.1 c.1) with
    | some q => inbV B q.2 c.2.1 c.2.2
    | none => false) && (r.2.2.2.1.all (fun c => match env.find? (fun q => Nat.beq q.1 c.1) with
    | some q => c.2.all (fun z => decide (z < eLo B q.2) || decide (eHi B q.2 < z))
    | none => false) && r.2.2.2.2.all (fun c => match env.find? (fun q => Nat.beq q.1 c.1), env.find? (fun q => Nat.beq q.1 c.2.1) with
    | some q, some q2 => dLe B q.2 q2.2 c.2.2
    | _, _ => false))
/-- what the facts tell, each with its four values -/
abbrev eTl : Type := List (Nat × List eV)
def ctx0 (B : eB) : eTl := B.2.filterMap (fun f => bif Nat.blt f.1 3 then none else match argL B f with
  | some as => some (f.1 - 3, as)
  | none => none)
/-- the facts of one sort: which sorts there are is told once for all facts -/
def mkX : eTl → Nat
  | [] => 0
  | e :: r => Nat.lor (Nat.shiftLeft 1 e.1) (mkX r)
def filK : eTl → Nat → eTl
  | [], _ => []
  | e :: r, k => bif Nat.beq e.1 k then e :: filK r k else filK r k
def selK (X : eTl) (k : Nat) : eTl := bif Nat.beq (Nat.land (Nat.shiftRight (mkX X) k) 1) 0 then [] else filK X k
theorem filK_in : ∀ {X : eTl} {k : Nat} {e : Nat × List eV}, e ∈ filK X k → e ∈ X ∧ e.1 = k
  | [], _, _, h => absurd h List.not_mem_nil
  | a :: r, k, e, h => by
    unfold filK at h
    cases hb : Nat.beq a.1 k with
    | true =>
      rw [hb, cond_true] at h
      rcases List.mem_cons.mp h with q | q
      · subst q
        exact ⟨List.mem_cons_self, Nat.eq_of_beq_eq_true hb⟩
      · exact ⟨List.mem_cons_of_mem _ (filK_in q).1, (filK_in q).2⟩
    | false =>
      rw [hb, cond_false] at h
      exact ⟨List.mem_cons_of_mem _ (filK_in h).1, (filK_in h).2⟩
theorem selK_in {X : eTl} {k : Nat} {e : Nat × List eV} (h : e ∈ selK X k) : e ∈ X ∧ e.1 = k := by
  unfold selK at h
  cases hb : Nat.beq (Nat.land (Nat.shiftRight (mkX X) k) 1) 0 with
  | true => rw [hb, cond_true] at h; exact absurd h List.not_mem_nil
  | false => rw [hb, cond_false] at h; exact filK_in h
/-- all ways to find a rule's premises -/
def srA (B : eB) (X : eTl) (r : eRu) : List eRl → List (Nat × eV) → List (List (Nat × eV))
  | [], env => bif cdE B env r then [env] else []
  | p :: ps, env => (selK X p.1).flatMap (fun e => match bdL B env p.2 e.2 with
    | some env' => srA B X r ps env'
    | none => [])
/-- a rule's end, from its variables' values -/
def endV (env : List (Nat × eV)) : List (Nat × Int) → Option (List eV)
  | [] => some []
  | p :: ps => match env.find? (fun q => Nat.beq q.1 p.1), endV env ps with
    | some q, some as => some (shV q.2 p.2 :: as)
    | _, _ => none
def fwR (B : eB) (X : eTl) (r : eRu) : eTl := (srA B X r r.2.1 []).filterMap (fun env => match endV env r.1.2 with
  | some as => some (r.1.1, as)
  | none => none)
def satX (B : eB) : List eRu → eTl → eTl
  | [], X => X
  | r :: rs, X => match fwR B X r with
    | [] => satX B rs X
    | a :: l => satX B rs (a :: (l ++ X))
def ruB (B : eB) (X : eTl) (k : Nat) (as : List eV) (r : eRu) : Bool := Nat.beq r.1.1 k && (match bdL B [] r.1.2 as with
  | some env => !(srA B X r r.2.1 env).isEmpty
  | none => false)
def drB (B : eB) (X : eTl) (k : Nat) (as : List eV) : Bool := (selK X k).any (fun e => Nat.beq e.2.length 4 && (List.zip as e.2).all (fun q => isOff B q.1 q.2 0))
/-- the rules that tell of a sort -/
def rlK (k : Nat) : List eRu := (ruIx k).filter (fun r => Nat.beq r.1.1 k)
def prX (B : eB) (X : eTl) (k : Nat) (as : List eV) : Bool := drB B X k as || (rlK k).any (ruB B X k as)
/-- faults of the sort 0 are none -/
def cvT (B : eB) (X : eTl) : eTl := X.filterMap (fun e => match e.2 with
  | [a, b, c, d] => bif Nat.ble 2000 e.1 && (Nat.blt e.1 3000 && inbV B c 0 0) then some (e.1 - 2000, [a, b, c, d]) else none
  | _ => none)
def prY (B : eB) (X : eTl) (k : Nat) (a b c d : eV) : Bool := prX B X k [a, b, c, d] || (Nat.ble 2000 k && (Nat.blt k 3000 && (inbV B c 0 0 && prX B X (k - 2000) [a, b, c, d])))
def prR (B : eB) (k : Nat) (a b c d : eV) : Bool := prY B (satX B fwTab2 (cvT B (ctx0 B) ++ ctx0 B)) k a b c d
section E12T
variable {ρ : Nat → Int} {B : eB}
/-- variables' values -/
def lkX (env : List (Nat × eV)) (xs : List Int) : Nat → Int := match env, xs with
  | [], _ => fun _ => 0
  | _ :: _, [] => fun _ => 0
  | q :: env, z :: xs => fun v => if q.1 = v then z else lkX env xs v
theorem lkX_at : ∀ {env : List (Nat × eV)} {xs : List Int} {v : Nat} {q : Nat × eV}, gNs ρ env xs → env.find? (fun q => Nat.beq q.1 v) = some q → gN ρ q.2 (lkX env xs v)
  | [], _, _, _, _, h => by cases h
  | p :: env, z :: xs, v, q, g, h => by
    rw [List.find?_cons] at h
    cases hb : Nat.beq p.1 v with
    | true =>
      rw [hb] at h
      have e := Option.some.inj h
      subst e
      show gN ρ p.2 (if p.1 = v then z else lkX env xs v)
      rw [if_pos (Nat.eq_of_beq_eq_true hb)]
      exact g.1
    | false =>
      rw [hb] at h
      show gN ρ q.2 (if p.1 = v then z else lkX env xs v)
      rw [if_neg (Nat.ne_of_beq_eq_false hb)]
      exact lkX_at g.2 h
  | _ :: _, [], _, _, g, _ => g.elim
/-- one set of variables' values goes on with another -/
def extX (env env' : List (Nat × eV)) (xs xs' : List Int) : Prop := ∀ v q, env.find? (fun q => Nat.beq q.1 v) = some q → env'.find? (fun q => Nat.beq q.1 v) = some q ∧ lkX env' xs' v = lkX env xs v
theorem bdA_ok (hB : gB ρ B) {env env' : List (Nat × eV)} {xs : List Int} {p : Nat × Int} {a : eV} {z : Int} (g : gNs ρ env xs) (ga : gN ρ a z) (h : bdA B env p a = some env') : ∃ xs', gNs ρ env' xs' ∧ extX env env' xs xs' ∧ lkX env' xs' p.1 + p.2 = z ∧ ∃ q, env'.find? (fun q => Nat.beq q.1 p.1) = some q := by
  unfold bdA at h
  split at h
  next q hq =>
    cases hb : isOff B a q.2 p.2 with
    | false => rw [hb] at h; cases h
    | true =>
      rw [hb] at h
      cases h
      have e := isOff_ok hB ga (lkX_at g hq) hb
      exact ⟨xs, g, fun v q9 h9 => ⟨h9, rfl⟩, by omega, q, hq⟩
  next hq =>
    cases h
    refine ⟨(z - p.2) :: xs, ⟨?_, g⟩, fun v q9 h9 => ?_, ?_, ?_⟩
    · have := shV_ok (c := -p.2) ga
      rw [show z - p.2 = z + -p.2 by omega]
      exact this
    · have hne : p.1 ≠ v := fun e => by
        subst e
        rw [hq] at h9
        cases h9
      have hb : Nat.beq p.1 v = false := by
        cases hb : Nat.beq p.1 v with
        | false => rfl
        | true => exact absurd (Nat.eq_of_beq_eq_true hb) hne
      refine ⟨by rw [List.find?_cons]; show (match Nat.beq p.1 v with | true => some (p.1, shV a (-p.2)) | false => env.find? (fun q => Nat.beq q.1 v)) = some q9; rw [hb]; exact h9, ?_⟩
      show (if p.1 = v then z - p.2 else lkX env xs v) = lkX env xs v
      rw [if_neg hne]
    · show (if p.1 = p.1 then z - p.2 else lkX env xs p.1) + p.2 = z
      rw [if_pos rfl]
      omega
    · refine ⟨(p.1, shV a (-p.2)), ?_⟩
      rw [List.find?_cons]
      show (match Nat.beq p.1 p.1 with | true => some (p.1, shV a (-p.2)) | false => env.find? (fun q => Nat.beq q.1 p.1)) = some (p.1, shV a (-p.2))
      rw [show Nat.beq p.1 p.1 = true from Nat.beq_refl _]
theorem extX_trans {e1 e2 e3 : List (Nat × eV)} {x1 x2 x3 : List Int} (h1 : extX e1 e2 x1 x2) (h2 : extX e2 e3 x2 x3) : extX e1 e3 x1 x3 := fun v q h => by
  obtain ⟨a1, a2⟩ := h1 v q h
  obtain ⟨b1, b2⟩ := h2 v q a1
  exact ⟨b1, b2.trans a2⟩
/-- numbers of a list of values -/
def gNl (ρ : Nat → Int) : List eV → List Int → Prop
  | [], [] => True
  | a :: as, z :: zs => gN ρ a z ∧ gNl ρ as zs
  | _, _ => False
theorem bdL_ok (hB : gB ρ B) : ∀ {ps : List (Nat × Int)} {as : List eV} {zs : List Int} {env env' : List (Nat × eV)} {xs : List Int}, gNs ρ env xs → gNl ρ as zs → bdL B env ps as = some env' → ∃ xs', gNs ρ env' xs' ∧ extX env env' xs xs' ∧ ps.length = zs.length ∧ ∀ (k : Nat) (p : Nat × Int) (z : Int), ps[k]? = some p → zs[k]? = some z → lkX env' xs' p.1 + p.2 = z ∧ ∃ q, env'.find? (fun q => Nat.beq q.1 p.1) = some q
  | [], [], [], env, env', xs, g, _, h => by
    cases h
    exact ⟨xs, g, fun v q h9 => ⟨h9, rfl⟩, rfl, fun k p z hk _ => by simp at hk⟩
  | p :: ps, a :: as, z :: zs, env, env', xs, g, ga, h => by
    unfold bdL at h
    split at h
    next env1 h1 =>
      obtain ⟨x1, g1, e1, v1, q1, hq1⟩ := bdA_ok hB g ga.1 h1
      obtain ⟨x2, g2, e2, hl, v2⟩ := bdL_ok hB g1 ga.2 h
      refine ⟨x2, g2, extX_trans e1 e2, by rw [List.length_cons, List.length_cons, hl], fun k p9 z9 hk hz => ?_⟩
      cases k with
      | zero =>
        have e3 := Option.some.inj hk
        have e4 := Option.some.inj hz
        subst e3
        subst e4
        obtain ⟨b1, b2⟩ := e2 p.1 q1 hq1
        exact ⟨by rw [b2]; exact v1, q1, b1⟩
      | succ k =>
        rw [List.getElem?_cons_succ] at hk hz
        exact v2 k p9 z9 hk hz
    next => cases h
  | [], [], _ :: _, _, _, _, _, ga, _ => ga.elim
  | [], _ :: _, _, _, _, _, _, _, h => by cases h
  | _ :: _, [], _, _, _, _, _, _, h => by cases h
  | _ :: _, _ :: _, [], _, _, _, _, ga, _ => ga.elim
theorem argL_ok (hB : gB ρ B) {f : eF} {as : List eV} (h : argL B f = some as) : gNl ρ as [aR ρ f.2.1, aR ρ f.2.2.2.1, aR ρ f.2.2.1.toNat, aR ρ f.2.2.2.2.toNat] := by
  unfold argL at h
  split at h
  next a b c d ha hb hc hd =>
    cases h
    exact ⟨argV_ok hB ha, argV_ok hB hb, argV_ok hB hc, argV_ok hB hd, trivial⟩
  next => cases h
/-- what stands at the four places -/
theorem vx_of {x : Nat → Int} {ps : List (Nat × Int)} {zs : List Int} (hl : ps.length = zs.length) (h : ∀ (k : Nat) (p : Nat × Int) (z : Int), ps[k]? = some p → zs[k]? = some z → x p.1 + p.2 = z) {k : Nat} {z : Int} (hz : zs[k]? = some z) : vx x ps k = z := by
  have hk : k < ps.length := by rw [hl]; exact (List.getElem?_eq_some_iff.mp hz).1
  have hp := List.getElem?_eq_getElem hk
  unfold vx
  rw [hp]
  exact h k _ z hp hz
theorem cdE_ok (hB : gB ρ B) {env : List (Nat × eV)} {xs : List Int} {r : eRu} (g : gNs ρ env xs) (h : cdE B env r = true) : (∀ c ∈ r.2.2.1, c.2.1 ≤ lkX env xs c.1 ∧ lkX env xs c.1 ≤ c.2.2) ∧ (∀ c ∈ r.2.2.2.1, lkX env xs c.1 ∉ c.2) ∧ ∀ c ∈ r.2.2.2.2, lkX env xs c.1 + c.2.2 ≤ lkX env xs c.2.1 := by
  unfold cdE at h
  rw [Bool.and_eq_true, Bool.and_eq_true] at h
  refine ⟨fun c hc => ?_, fun c hc hin => ?_, fun c hc => ?_⟩
  · have h1 := List.all_eq_true.mp h.1 c hc
    split at h1
    next q hq => exact inbV_ok hB (lkX_at g hq) h1
    next => cases h1
  · have h1 := List.all_eq_true.mp h.2.1 c hc
    split at h1
    next q hq =>
      have h2 := List.all_eq_true.mp h1 _ hin
      have gq := lkX_at g hq
      have a1 := eLo_ok hB gq
      have a2 := eHi_ok hB gq
      rw [Bool.or_eq_true, decide_eq_true_eq, decide_eq_true_eq] at h2
      omega
    next => cases h1
  · have h1 := List.all_eq_true.mp h.2.2 c hc
    split at h1
    next q q2 hq hq2 => exact dLe_ok hB (lkX_at g hq) (lkX_at g hq2) h1
    next => cases h1
/-- what such an entry says -/
def gX1 (ρ : Nat → Int) (e : Nat × List eV) : Prop := ∃ x y z w : Int, gNl ρ e.2 [x, y, z, w] ∧ RK e.1 x y z w
theorem ctx0_ok (hB : gB ρ B) : ∀ e ∈ ctx0 B, gX1 ρ e := fun e he => by
  unfold ctx0 at he
  obtain ⟨f, hf, h⟩ := List.mem_filterMap.mp he
  cases hb : Nat.blt f.1 3 with
  | true => rw [hb] at h; cases h
  | false =>
    rw [hb, cond_false] at h
    split at h
    next as has =>
      cases h
      have hg := hB.2 f hf
      have gl := argL_ok hB has
      obtain ⟨f0, f1, f2, f3, f4⟩ := f
      have h3 : ∃ k, f0 = k + 3 := by
        have : ¬ f0 < 3 := fun hlt => by
          have : Nat.blt f0 3 = true := Nat.ble_eq_true_of_le hlt
          rw [hb] at this
          cases this
        exact ⟨f0 - 3, by omega⟩
      obtain ⟨k, rfl⟩ := h3
      have hg : RK k (aR ρ f1) (aR ρ f3) (aR ρ f2.toNat) (aR ρ f4.toNat) := hg
      exact ⟨_, _, _, _, gl, hg⟩
    next => cases h
theorem srA_ok (hB : gB ρ B) {X : eTl} (hX : ∀ e ∈ X, gX1 ρ e) {r : eRu} : ∀ {ps : List eRl} {env : List (Nat × eV)} {xs : List Int} {env' : List (Nat × eV)}, gNs ρ env xs → env' ∈ srA B X r ps env → ∃ xs' : List Int, gNs ρ env' xs' ∧ extX env env' xs xs' ∧ (∀ p ∈ ps, rlH (lkX env' xs') p) ∧ (∀ c ∈ r.2.2.1, c.2.1 ≤ lkX env' xs' c.1 ∧ lkX env' xs' c.1 ≤ c.2.2) ∧ (∀ c ∈ r.2.2.2.1, lkX env' xs' c.1 ∉ c.2) ∧ ∀ c ∈ r.2.2.2.2, lkX env' xs' c.1 + c.2.2 ≤ lkX env' xs' c.2.1
  | [], env, xs, env', g, h => by
    unfold srA at h
    cases hb : cdE B env r with
    | false => rw [hb] at h; cases h
    | true =>
      rw [hb, cond_true] at h
      have e := List.mem_singleton.mp h
      subst e
      exact ⟨xs, g, (fun v q h9 => ⟨h9, rfl⟩), (fun p hp => absurd hp List.not_mem_nil), (cdE_ok hB g hb).1, (cdE_ok hB g hb).2.1, (cdE_ok hB g hb).2.2⟩
  | p :: ps, env, xs, env', g, h => by
    unfold srA at h
    obtain ⟨e, he, h1⟩ := List.mem_flatMap.mp h
    obtain ⟨he, hk⟩ := selK_in he
    split at h1
    next env1 hb =>
      obtain ⟨y0, y1, y2, y3, gl, hg⟩ := hX e he
      obtain ⟨x1, g1, e1, hl, v1⟩ := bdL_ok hB g gl hb
      obtain ⟨x2, g2, e2, hps, hc1, hc2, hc3⟩ := srA_ok hB hX g1 h1
      refine ⟨x2, g2, extX_trans e1 e2, fun p9 hp9 => ?_, hc1, hc2, hc3⟩
      rcases List.mem_cons.mp hp9 with q | q
      · subst q
        have hv : ∀ (k : Nat) (pp : Nat × Int) (z : Int), p9.2[k]? = some pp → [y0, y1, y2, y3][k]? = some z → lkX env' x2 pp.1 + pp.2 = z := fun k pp z a b => by
          obtain ⟨c1, q9, c2⟩ := v1 k pp z a b
          obtain ⟨d1, d2⟩ := e2 pp.1 q9 c2
          rw [d2]
          exact c1
        rw [hk] at hg
        unfold rlH
        rw [vx_of hl hv (k := 0) rfl, vx_of hl hv (k := 1) rfl, vx_of hl hv (k := 2) rfl, vx_of hl hv (k := 3) rfl]
        exact hg
      · exact hps p9 q
    next => cases h1
theorem endV_ok {env : List (Nat × eV)} {xs : List Int} (g : gNs ρ env xs) : ∀ {ps : List (Nat × Int)} {as : List eV}, endV env ps = some as → gNl ρ as (ps.map (fun p => lkX env xs p.1 + p.2))
  | [], as, h => by
    cases h
    trivial
  | p :: ps, as, h => by
    unfold endV at h
    split at h
    next q as1 hq has =>
      cases h
      exact ⟨shV_ok (lkX_at g hq), endV_ok g has⟩
    next => cases h
theorem gNl_len : ∀ {as : List eV} {zs : List Int}, gNl ρ as zs → as.length = zs.length
  | [], [], _ => rfl
  | _ :: _, _ :: _, h => by rw [List.length_cons, List.length_cons, gNl_len h.2]
  | [], _ :: _, h => h.elim
  | _ :: _, [], h => h.elim
/-- rules whose end names four values -/
def four (r : eRu) : Prop := r.1.2.length = 4
theorem fwR_ok (hB : gB ρ B) {X : eTl} (hX : ∀ e ∈ X, gX1 ρ e) {r : eRu} (hr : ruH r) (h4 : four r) : ∀ e ∈ fwR B X r, gX1 ρ e := fun e he => by
  unfold fwR at he
  obtain ⟨env, henv, h⟩ := List.mem_filterMap.mp he
  split at h
  next as has =>
    cases h
    obtain ⟨xs, g, -, hps, hc1, hc2, hc3⟩ := srA_ok (xs := []) hB hX (env := []) (show gNs ρ [] [] from trivial) henv
    have hR := hr (lkX env xs) hps hc1 hc2 hc3
    have ge := endV_ok g has
    obtain ⟨⟨k, ps⟩, r2⟩ := r
    match ps, h4, ge, hR with
    | [p0, p1, p2, p3], _, ge, hR => exact ⟨_, _, _, _, ge, hR⟩
    | [], h4, _, _ => exact absurd (show 0 = 4 from h4) (by decide)
    | [_], h4, _, _ => exact absurd (show 1 = 4 from h4) (by decide)
    | [_, _], h4, _, _ => exact absurd (show 2 = 4 from h4) (by decide)
    | [_, _, _], h4, _, _ => exact absurd (show 3 = 4 from h4) (by decide)
    | _ :: _ :: _ :: _ :: _ :: l, h4, _, _ => exact absurd (show l.length + 5 = 4 from h4) (by omega)
  next => cases h
theorem satX_ok (hB : gB ρ B) : ∀ {rs : List eRu} {X : eTl}, (∀ r ∈ rs, ruH r ∧ four r) → (∀ e ∈ X, gX1 ρ e) → ∀ e ∈ satX B rs X, gX1 ρ e
  | [], _, _, hX => hX
  | r :: rs, X, hr, hX => by
    unfold satX
    cases hf : fwR B X r with
    | nil => exact satX_ok hB (fun r9 h9 => hr r9 (List.mem_cons_of_mem _ h9)) hX
    | cons a l =>
      refine satX_ok hB (fun r9 h9 => hr r9 (List.mem_cons_of_mem _ h9)) (fun e he => ?_)
      rcases List.mem_append.mp (show e ∈ (a :: l) ++ X from he) with he | he
      · exact fwR_ok hB hX (hr r List.mem_cons_self).1 (hr r List.mem_cons_self).2 e (hf ▸ he)
      · exact hX e he
theorem fw4 : ∀ r ∈ fwTab2, four r := fun r hr => by
  simp only [fwTab2, fwTab, List.cons_append, List.nil_append, List.mem_cons, List.not_mem_nil, or_false] at hr
  rcases hr with rfl | rfl | rfl | rfl | rfl | rfl | rfl | rfl | rfl | rfl | rfl | rfl | rfl <;> rfl
theorem zip_off (hB : gB ρ B) : ∀ {as bs : List eV} {xs ys : List Int}, gNl ρ as xs → gNl ρ bs ys → as.length = bs.length → (List.zip as bs).all (fun q => isOff B q.1 q.2 0) = true → xs = ys
  | [], [], [], [], _, _, _, _ => rfl
  | a :: as, b :: bs, x :: xs, y :: ys, ga, gb, hl, h => by
    rw [List.zip_cons_cons, List.all_cons, Bool.and_eq_true] at h
    have e := isOff_ok hB ga.1 gb.1 h.1
    rw [zip_off hB ga.2 gb.2 (by rw [List.length_cons, List.length_cons] at hl; omega) h.2, show x = y by omega]
  | [], _ :: _, _, _, _, _, hl, _ => by cases hl
  | _ :: _, [], _, _, _, _, hl, _ => by cases hl
  | [], [], _ :: _, _, ga, _, _, _ => ga.elim
  | [], [], [], _ :: _, _, gb, _, _ => gb.elim
  | _ :: _, _ :: _, [], _, ga, _, _, _ => ga.elim
  | _ :: _, _ :: _, _ :: _, [], _, gb, _, _ => gb.elim
theorem prX_ok (hB : gB ρ B) {X : eTl} (hX : ∀ e ∈ X, gX1 ρ e) {k : Nat} {as : List eV} {x y z w : Int} (h : prX B X k as = true) (ga : gNl ρ as [x, y, z, w]) : RK k x y z w := by
  unfold prX at h
  rw [Bool.or_eq_true] at h
  rcases h with h | h
  · unfold drB at h
    obtain ⟨e, he, h1⟩ := List.any_eq_true.mp h
    obtain ⟨he, hk⟩ := selK_in he
    rw [Bool.and_eq_true] at h1
    obtain ⟨h4, h1⟩ := h1
    obtain ⟨y0, y1, y2, y3, gl, hg⟩ := hX e he
    have hl := gNl_len ga
    have h4 := Nat.eq_of_beq_eq_true h4
    have e9 := zip_off hB ga gl (hl.trans h4.symm) h1
    cases e9
    rw [← hk]
    exact hg
  · obtain ⟨r, hr, h1⟩ := List.any_eq_true.mp h
    have hr := (List.mem_filter.mp hr).1
    unfold ruB at h1
    rw [Bool.and_eq_true] at h1
    obtain ⟨hk, h1⟩ := h1
    have hk := Nat.eq_of_beq_eq_true hk
    split at h1
    next env hb =>
      obtain ⟨x1, g1, -, hl, v1⟩ := bdL_ok (xs := []) (zs := [x, y, z, w]) hB (show gNs ρ [] [] from trivial) ga hb
      have hne : srA B X r r.2.1 env ≠ [] := fun e => by rw [e] at h1; cases h1
      obtain ⟨env2, henv⟩ := List.exists_mem_of_ne_nil _ hne
      obtain ⟨x2, g2, e2, hps, hc1, hc2, hc3⟩ := srA_ok hB hX g1 henv
      have hR := ruIx_ok k r hr (lkX env2 x2) hps hc1 hc2 hc3
      have hv : ∀ (k : Nat) (pp : Nat × Int) (z9 : Int), r.1.2[k]? = some pp → [x, y, z, w][k]? = some z9 → lkX env2 x2 pp.1 + pp.2 = z9 := fun k pp z9 a b => by
        obtain ⟨c1, q9, c2⟩ := v1 k pp z9 a b
        obtain ⟨d1, d2⟩ := e2 pp.1 q9 c2
        rw [d2]
        exact c1
      unfold rlH at hR
      rw [vx_of hl hv (k := 0) rfl, vx_of hl hv (k := 1) rfl, vx_of hl hv (k := 2) rfl, vx_of hl hv (k := 3) rfl, hk] at hR
      exact hR
    next => cases h1
theorem cvT_ok (hB : gB ρ B) {X : eTl} (hX : ∀ e ∈ X, gX1 ρ e) : ∀ e ∈ cvT B X, gX1 ρ e := fun e he => by
  unfold cvT at he
  obtain ⟨e0, h0, h⟩ := List.mem_filterMap.mp he
  obtain ⟨k, as⟩ := e0
  split at h
  next a b c d has =>
    have has : as = [a, b, c, d] := has
    subst has
    cases hb : (Nat.ble 2000 k && (Nat.blt k 3000 && inbV B c 0 0)) with
    | false =>
      have h : (bif (Nat.ble 2000 k && (Nat.blt k 3000 && inbV B c 0 0)) then some (k - 2000, [a, b, c, d]) else none) = some e := h
      rw [hb, cond_false] at h
      exact absurd h.symm (Option.some_ne_none e)
    | true =>
      have h : (bif (Nat.ble 2000 k && (Nat.blt k 3000 && inbV B c 0 0)) then some (k - 2000, [a, b, c, d]) else none) = some e := h
      rw [hb, cond_true] at h
      have e9 := Option.some.inj h
      subst e9
      simp only [Bool.and_eq_true] at hb
      obtain ⟨b1, b2, b3⟩ := hb
      have b1 := Nat.le_of_ble_eq_true b1
      have b2 : k + 1 ≤ 3000 := Nat.le_of_ble_eq_true b2
      obtain ⟨x, y, z, w, gl, hg⟩ := hX _ h0
      have hz := inbV_ok hB gl.2.2.1 b3
      have hz : z = 0 := by omega
      subst hz
      refine ⟨x, y, 0, w, gl, ?_⟩
      have hg : RK k x y 0 w := hg
      rw [show k = 2000 + (k - 2000) by omega] at hg
      exact (RK_t0 (by omega)).mp hg
  next => cases h
theorem prR_ok (hB : gB ρ B) {k : Nat} {a b c d : eV} {x y z w : Int} (h : prR B k a b c d = true) (ga : gN ρ a x) (gb : gN ρ b y) (gc : gN ρ c z) (gd : gN ρ d w) : RK k x y z w := by
  have h0 := ctx0_ok hB
  have hX := satX_ok hB (X := cvT B (ctx0 B) ++ ctx0 B) (fun r hr => ⟨fwTab2_ok r hr, fw4 r hr⟩) (fun e he => (List.mem_append.mp he).elim (cvT_ok hB h0 e) (h0 e))
  unfold prR prY at h
  rw [Bool.or_eq_true] at h
  rcases h with h | h
  · exact prX_ok hB hX h ⟨ga, gb, gc, gd, trivial⟩
  · simp only [Bool.and_eq_true] at h
    obtain ⟨b1, b2, b3, h⟩ := h
    have b1 := Nat.le_of_ble_eq_true b1
    have b2 : k + 1 ≤ 3000 := Nat.le_of_ble_eq_true b2
    have hz := inbV_ok hB gc b3
    have hz : z = 0 := by omega
    subst hz
    have hg := prX_ok hB hX h (x := x) (y := y) (z := 0) (w := w) ⟨ga, gb, gc, gd, trivial⟩
    rw [show k = 2000 + (k - 2000) by omega]
    exact (RK_t0 (by omega)).mpr hg
end E12T
