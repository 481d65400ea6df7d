/-! ===== THE LAW, 6: runs (printed by wip/engine/gen5.py) ===== -/
section E25
variable {l : Launch} {D : va_G} {cA : Nat → ClassId} {sb : Nat} {ρ : Nat → Int} {d : Nat}
theorem cp_ok (htr : l.stackTraces = false) : eCM l GT strs ρ sb D eCls cA (d + 1) (mtF 118) asI B0 hpI [(0, none, B0, hpI)] := by
  refine eCM_ofR (cal := noC) htr (by decide) (fun M as B hp outs h => by cases h) (by decide +kernel) ?_
  have hz : Rc (ftF 118) xCP (fun o => ∃ x, x ∈ [((0, none, B0, hpI) : eO)] ∧ eEnd (ftF 118) (mtF 118).2.2.2.2.1 (mtF 118).2.2.2.2.2.1 (mtF 118).2.2.2.2.2.2 o = some x) (SC 2640) := by
    have h := cp_z
    unfold cpZ at h
    split at h
    next os hos =>
      refine Rc_run hos (fun o ho => ?_)
      have h1 := List.all_eq_true.mp h o ho
      split at h1
      next x hx => exact ⟨x, List.mem_singleton.mpr (eEqO_eq h1), hx⟩
      next => cases h1
    next => cases h
  exact Rc_stage cp_a (Rc_stage cp_0 (Rc_stage cp_1 (Rc_stage cp_2 (Rc_stage cp_3 (Rc_stage cp_4 (Rc_stage cp_5 (Rc_stage cp_6 (Rc_stage cp_7 hz))))))))
def mem37 : eCal := fun M as B hp => bif Nat.beq M 118 && (eqVs as asI && (eqB B B0 && sbH hp hpI)) then some [(0, none, B0, hpI)] else none
def in37 : eCal := fun M as B hp => match mem37 M as B hp with
  | some o => some o
  | none => callD mUF mtF npF ciF dfF ftF (fun _ => none) (fun _ => none) 40000 10 M as B hp
def cal37 : eCal := fun M as B hp => bif Nat.beq M 135 then frm in37 40000 M as B hp else callL (fun _ => none) (fun _ => none) 40000 10 M as B hp
theorem in37_ok (htr : l.stackTraces = false) (M : Nat) (as : List eV) (B : eB) (hp : eH) (outs : List eO) (h : in37 M as B hp = some outs) : eCM l GT strs ρ sb D eCls cA 10 (mtF M) as B hp outs := by
  unfold in37 at h
  split at h
  next o ho =>
    cases h
    unfold mem37 at ho
    cases hb : (Nat.beq M 118 && (eqVs as asI && (eqB B B0 && sbH hp hpI))) with
    | false => rw [hb] at ho; cases ho
    | true =>
      rw [hb, cond_true] at ho
      cases ho
      simp only [Bool.and_eq_true] at hb
      obtain ⟨b1, b2, b3, b4⟩ := hb
      rw [Nat.eq_of_beq_eq_true b1, eqVs_eq b2, eqB_eq b3]
      exact eCM_sub b4 (cp_ok (d := 9) htr)
  next =>
    exact callD_ok htr GT_good (fun M hM => ⟨(eMt_of (blt_lt hM)).1, mOk_of (Nat.lt_trans (blt_lt hM) (by decide)) (rows_all M (Nat.lt_trans (blt_lt hM) (by decide)))⟩) 10 M as B hp outs h
theorem cal37_ok (htr : l.stackTraces = false) (M : Nat) (as : List eV) (B : eB) (hp : eH) (outs : List eO) (h : cal37 M as B hp = some outs) : eCM l GT strs ρ sb D eCls cA 11 (mtF M) as B hp outs := by
  unfold cal37 at h
  cases hb : Nat.beq M 135 with
  | true =>
    rw [hb, cond_true] at h
    exact frm_ok htr (in37_ok htr) h
  | false =>
    rw [hb, cond_false] at h
    exact callL_ok htr M as B hp outs h
end E25
set_option maxRecDepth 1000000 in
theorem case_37 : lawRunC cal37 (SL 2173 []) = true := by decide +kernel
