/-! ===== CONTRACTS, 1: what is told of a method at any depth; how it is shown ===== -/
def inl (k : Nat) : eCal := callD mUF mtF npF ciF dfF ftF (fun _ => some ([], [])) (fun _ => none) 4000 k
section C1
variable {l : Launch} {D : va_G} {cA : Nat → ClassId} {sb : eSB}
theorem inl_ok (htr : l.stackTraces = false) {ρ : Nat → Int} : ∀ (k d : Nat), k ≤ d → ∀ (M : Nat) (as : List eV) (B : eB) (hp : eH) (outs : List eO), inl k M as B hp = some outs → eCM l GT strs ρ sb D eCls cA d (mtF M) as B hp outs
  | 0, _, _, _, _, _, _, _, h => by cases h
  | k + 1, 0, hkd, _, _, _, _, _, _ => absurd hkd (by omega)
  | k + 1, d + 1, hkd, M, as, B, hp, outs, h => by
    unfold inl callD at h
    cases hb : (mUF M && Nat.ble (eWords as) (mtF M).2.2.2.1) with
    | false => rw [hb] at h; cases h
    | true =>
      rw [hb, cond_true] at h
      rw [Bool.and_eq_true] at hb
      have hM : M < 294 := blt_lt hb.1
      split at h
      next => cases h
      next os hos =>
        split at h
        next => cases h
        next outs1 hends =>
          have h1 := eCM_of (ρ := ρ) (sb := sb) (D := D) (cA := cA) htr GT_good ((mt_facts (M := M) (by omega)).2.2.2.2.2.2.2.1 hM) (mOk_of (by omega) (rows_all M (by omega))) (fun M as B hp outs ho => inl_ok htr k d (by omega) M as B hp outs ho) hb.2 hos hends
          have h : mg1 ([], []) outs1 = some outs := h
          refine eCM_mono h1 (fun o ho => ?_)
          obtain ⟨x, hx1, hx2⟩ := mg1_in h o ho
          have hw := fun (ad : Nat → Nat) (A' : Nat → Prop) => wkO_ok (ρ := ρ) (sb := sb) (D := D) (cl := eCls) (cA := cA) (ad := ad) (n := hp.length) (A' := A') hx2
          exact ⟨x, hx1, (hw (fun _ => 0) (fun _ => True)).1, (hw (fun _ => 0) (fun _ => True)).2.1, fun ad A' => (hw ad A').2.2⟩
/-- the method M, called with as over hp, comes to one of outs, at any depth from lev on -/
def ctH (l : Launch) (sb : eSB) (D : va_G) (cA : Nat → ClassId) (M lev : Nat) (as : List eV) (B : eB) (hp : eH) (outs : List eO) : Prop := ∀ d, lev ≤ d → ∀ ρ : Nat → Int, cM l GT strs sb D eCls cA d (mtF M) ρ as B hp B.1.length outs
theorem ctH_mono {M lev lev' : Nat} {as : List eV} {B : eB} {hp : eH} {outs : List eO} (hl : lev ≤ lev') (h : ctH l sb D cA M lev as B hp outs) : ctH l sb D cA M lev' as B hp outs := fun d hd ρ => h d (by omega) ρ
/-- the contracts that are used: at which pc, of which method, which -/
abbrev eUs : Type := List (Nat × Nat × List eCd)
def chF : eUs → Nat → Option (List eCd)
  | [], _ => none
  | u :: r, pc => bif Nat.beq u.1 pc then some u.2.2 else chF r pc
def chB (M : Nat) (L : eUs) : Bool := L.all (fun u => match ftF M u.1 with
  | some q => Nat.beq q.2.2.1 u.2.1
  | none => false)
theorem chF_in : ∀ {L : eUs} {pc : Nat} {cs : List eCd}, chF L pc = some cs → ∃ u ∈ L, u.1 = pc ∧ u.2.2 = cs
  | [], _, _, h => by cases h
  | u :: r, pc, cs, h => by
    unfold chF at h
    cases hb : Nat.beq u.1 pc with
    | true =>
      rw [hb, cond_true] at h
      exact ⟨u, List.mem_cons_self, Nat.eq_of_beq_eq_true hb, Option.some.inj h⟩
    | false =>
      rw [hb, cond_false] at h
      obtain ⟨v, h1, h2⟩ := chF_in h
      exact ⟨v, List.mem_cons_of_mem _ h1, h2⟩
def cdH (l : Launch) (sb : eSB) (D : va_G) (cA : Nat → ClassId) (lev M : Nat) (c : eCd) : Prop := ∀ FR : Nat → va_E, ctH l (sb.1, FR) D cA M lev c.1 c.2.1 c.2.2.1 c.2.2.2.2.1
/-- how far the inlined calls go -/
abbrev kIn : Nat := 5
def ckM (M : Nat) (sp : List (Nat × Nat)) (L : eUs) (isC : Nat → Bool) (n nP nH : Nat) (outs : List (eO × List (Option eP))) (K : List eCut) (c : eCut) : Bool := chk1 sp (ftF M) isC (chF L) (inl kIn) mtF npF ciF dfF (mtF M) n nP nH outs K c
theorem ctH_of (htr : l.stackTraces = false) (hvs : sb.1 60 = 1) {M : Nat} (hM : Nat.blt M 294 = true) {lev : Nat} (hlev : kIn ≤ lev) {L : eUs} (hL : chB M L = true) (hU : ∀ u ∈ L, ∀ c ∈ u.2.2, cdH l sb D cA lev u.2.1 c) {as : List eV} {B : eB} {hp : eH} {n : Nat} {sp : List (Nat × Nat)} {isC : Nat → Bool} {outs : List (eO × List (Option eP))} {c0 : eCut} {K : List eCut}
    (hw : Nat.ble (eWords as) (mtF M).2.2.2.1 = true) (h0 : c0.1 = (0, eArgs 0 as, [], B, hp, 0, 0)) (hK : ∀ c ∈ c0 :: K, ckM M sp L isC n B.1.length hp.length outs (c0 :: K) c = true) : ctH l sb D cA M (lev + 1) as B hp (outs.map (fun w => w.1)) := by
  intro d hd
  obtain ⟨d', rfl⟩ : ∃ d', d = d' + 1 := ⟨d - 1, by omega⟩
  have hM := blt_lt hM
  intro ρ
  refine cM_of (ch := chF L) (cal := inl kIn) htr hvs GT_good ((mt_facts (M := M) (by omega)).2.2.2.2.2.2.2.1 hM) (mOk_of (by omega) (rows_all M (by omega))) (fun ρ M as B hp outs ho => inl_ok htr kIn d' (by omega) M as B hp outs ho) (fun z _ pc q cs hq hcs c9 hc9 => ?_) hw h0 hK
  obtain ⟨u, hu, e1, e2⟩ := chF_in hcs
  have hb := List.all_eq_true.mp hL u hu
  rw [e1, hq] at hb
  have e3 := Nat.eq_of_beq_eq_true hb
  rw [← e2] at hc9
  have := fun (FR : Nat → va_E) (ρ' : Nat → Int) (_ : gdH z c9.2.2.2.1 ρ') => hU u hu c9 hc9 FR d' (by omega) ρ'
  rw [← e3] at this
  exact this
/-- the same where the first name is t -/
def ctG (l : Launch) (sb : eSB) (D : va_G) (cA : Nat → ClassId) (t : Int) (M lev : Nat) (as : List eV) (B : eB) (hp : eH) (outs : List eO) : Prop := ∀ d, lev ≤ d → ∀ ρ : Nat → Int, ρ 0 = t → cM l GT strs sb D eCls cA d (mtF M) ρ as B hp B.1.length outs
theorem ctG_mono {t : Int} {M lev lev' : Nat} {as : List eV} {B : eB} {hp : eH} {outs : List eO} (hl : lev ≤ lev') (h : ctG l sb D cA t M lev as B hp outs) : ctG l sb D cA t M lev' as B hp outs := fun d hd ρ => h d (by omega) ρ
def cdG (l : Launch) (sb : eSB) (D : va_G) (cA : Nat → ClassId) (t : Int) (lev M : Nat) (c : eCd) : Prop := ∀ FR : Nat → va_E, ∀ d, lev ≤ d → ∀ ρ : Nat → Int, gdH t c.2.2.2.1 ρ → cM l GT strs (sb.1, FR) D eCls cA d (mtF M) ρ c.1 c.2.1 c.2.2.1 c.2.1.1.length c.2.2.2.2.1
theorem cdG_of {t : Int} {lev M : Nat} {c : eCd} (h : ∀ FR : Nat → va_E, ctH l (sb.1, FR) D cA M lev c.1 c.2.1 c.2.2.1 c.2.2.2.2.1) : cdG l sb D cA t lev M c := fun FR d hd ρ _ => h FR d hd ρ
theorem cdG_0 {t : Int} {lev M i : Nat} {as : List eV} {B : eB} {hp : eH} {th : List (Option eP)} {outs : List eO} {φ : List Nat} (h : ∀ FR : Nat → va_E, ctG l (sb.1, FR) D cA t M lev as B hp outs) : cdG l sb D cA t lev M (as, B, hp, some (3, 4096, i) :: th, outs, φ) := fun FR d hd ρ hg => h FR d hd ρ (hg.1 i th rfl)
theorem cdG_1 {t : Int} {lev M i : Nat} {as : List eV} {B : eB} {hp : eH} {th : List (Option eP)} {outs : List eO} {φ : List Nat} (h : ∀ FR : Nat → va_E, ctG l (sb.1, FR) D cA (t + 1) M lev as B hp outs) : cdG l sb D cA t lev M (as, B, hp, some (3, 4097, i) :: th, outs, φ) := fun FR d hd ρ hg => h FR d hd ρ (hg.2 i th rfl)
theorem ctG_of (htr : l.stackTraces = false) (hvs : sb.1 60 = 1) {M : Nat} (hM : Nat.blt M 294 = true) {t : Int} {lev : Nat} (hlev : kIn ≤ lev) {L : eUs} (hL : chB M L = true) (hU : ∀ u ∈ L, ∀ c ∈ u.2.2, cdG l sb D cA t lev u.2.1 c) {as : List eV} {B : eB} {hp : eH} {n : Nat} {sp : List (Nat × Nat)} {isC : Nat → Bool} {outs : List (eO × List (Option eP))} {c0 : eCut} {K : List eCut}
    (hB : B.1.isEmpty = false) (hw : Nat.ble (eWords as) (mtF M).2.2.2.1 = true) (h0 : c0.1 = (0, eArgs 0 as, [], B, hp, 0, 0)) (hK : ∀ c ∈ c0 :: K, ckM M sp L isC n B.1.length hp.length outs (c0 :: K) c = true) : ctG l sb D cA t M (lev + 1) as B hp (outs.map (fun w => w.1)) := by
  intro d hd ρ hρ
  obtain ⟨d', rfl⟩ : ∃ d', d = d' + 1 := ⟨d - 1, by omega⟩
  have hM := blt_lt hM
  refine cM_of (ch := chF L) (cal := inl kIn) htr hvs GT_good ((mt_facts (M := M) (by omega)).2.2.2.2.2.2.2.1 hM) (mOk_of (by omega) (rows_all M (by omega))) (fun ρ M as B hp outs ho => inl_ok htr kIn d' (by omega) M as B hp outs ho) (fun z hz pc q cs hq hcs c9 hc9 => ?_) hw h0 hK
  have hzt : z = t := by
    obtain ⟨b0, bs⟩ := B
    cases b0 with
    | nil => cases hB
    | cons p r => exact (hz p rfl).trans hρ
  subst hzt
  obtain ⟨u, hu, e1, e2⟩ := chF_in hcs
  have hb := List.all_eq_true.mp hL u hu
  rw [e1, hq] at hb
  have e3 := Nat.eq_of_beq_eq_true hb
  rw [← e2] at hc9
  have := fun FR => hU u hu c9 hc9 FR d' (by omega)
  rw [← e3] at this
  exact this
/-- a reader that calls itself one level further in, for each level, for all -/
theorem ctG_all {M lev : Nat} {as : List eV} {B : eB} {hp : eH} {outs : List eO} {lo hi : Int} {r : List (Int × Int)} (hB : B.1 = (lo, hi) :: r) (h : ∀ t : Int, lo ≤ t → t ≤ hi → ctG l sb D cA t M lev as B hp outs) : ctH l sb D cA M lev as B hp outs := fun d hd ρ ad vs ws sz g2 => by
  have h0 := g2.1 0 (lo, hi) (by rw [hB]; rfl)
  exact h (ρ 0) h0.1 h0.2 d hd ρ rfl ad vs ws sz g2
theorem ctG_no {t : Int} {M lev : Nat} {as : List eV} {B : eB} {hp : eH} {outs : List eO} {lo hi : Int} {r : List (Int × Int)} (hB : B.1 = (lo, hi) :: r) (ht : hi < t) : ctG l sb D cA t M lev as B hp outs := fun d hd ρ hρ ad vs ws sz g2 => by
  have h0 := g2.1 0 (lo, hi) (by rw [hB]; rfl)
  have h1 : ρ 0 ≤ hi := h0.2
  omega
end C1
