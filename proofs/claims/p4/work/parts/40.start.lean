/-! ===== THE LAW, 8: what holds at its entry ===== -/
def memT (w : Cond) : Bool := lw_tbl.any (fun v => condEq v w)
theorem memT_in {w : Cond} (h : memT w = true) : w ∈ lw_tbl := by
  obtain ⟨v, h1, h2⟩ := List.any_eq_true.mp h
  have := condEq_eq h2
  subst this
  exact h1
def memG (w : Cond) : Bool := (flatC (Jvm.Cond.and given_1 narrow_1)).any (fun v => condEq v w)
theorem memG_in {w : Cond} (h : memG w = true) : w ∈ flatC (Jvm.Cond.and given_1 narrow_1) := by
  obtain ⟨v, h1, h2⟩ := List.any_eq_true.mp h
  have := condEq_eq h2
  subst this
  exact h1
abbrev sVl (q : String × Nat × String) : Term := .field (.string q.1 q.2.1) "java/lang/String" "value" "[B"
/-- what the start tells of a text, in its order -/
def strE (i : Nat) (q : String × Nat × String) : List Cond := .exactly (.string q.1 q.2.1) "java/lang/String" :: .eq (.field (.string q.1 q.2.1) "java/lang/String" "coder" "B") (.int 0) :: .arrayOf (sVl q) .byte :: .eq (.length (sVl q)) (.int (Int32.ofNat (sB i).length)) :: (List.range (sB i).length).map (fun j => .eq (.elem (sVl q) (.int (Int32.ofNat j))) (.int (Int32.ofInt ((sB i).getD j 0))))
def preC : List Cond → List Cond → Bool
  | [], _ => true
  | _ :: _, [] => false
  | a :: as, b :: bs => condEq b a && preC as bs
theorem preC_in : ∀ {as bs : List Cond}, preC as bs = true → ∀ w ∈ as, w ∈ bs
  | [], _, _, w, hw => by cases hw
  | a :: as, [], h, _, _ => by cases h
  | a :: as, b :: bs, h, w, hw => by
    unfold preC at h
    rw [Bool.and_eq_true] at h
    have e := condEq_eq h.1
    rcases List.mem_cons.mp hw with q | q
    · rw [q, ← e]; exact List.mem_cons_self
    · exact List.mem_cons_of_mem _ (preC_in h.2 w q)
def gFlat : List Cond := flatC (Jvm.Cond.and given_1 narrow_1)
def strB (fl : List Cond) (i : Nat) (q : String × Nat × String) (k : Nat) : Bool := memT (.stringRef q.1 q.2.1 q.2.2) && preC (strE i q) (fl.drop k)
def strA (fl : List Cond) : Nat → List (String × Nat × String) → List Nat → Bool
  | _, [], _ => true
  | i, q :: r, k :: ks => strB fl i q k && strA fl (i + 1) r ks
  | _, _ :: _, [] => false
theorem strA_at {fl : List Cond} (l : List (String × Nat × String)) : ∀ (ks : List Nat) (k : Nat), strA fl k l ks = true → ∀ (i : Nat) (q : String × Nat × String), l[i]? = some q → ∃ k9, strB fl (k + i) q k9 = true := by
  induction l with
  | nil =>
    intro ks k _ i q h
    exact absurd (List.mem_of_getElem? h) List.not_mem_nil
  | cons q0 r ih =>
    intro ks k h i q hi
    cases ks with
    | nil =>
      unfold strA at h
      cases h
    | cons k0 ks =>
      unfold strA at h
      rw [Bool.and_eq_true] at h
      cases i with
      | zero =>
        have : q0 = q := Option.some.inj hi
        subst this
        exact ⟨k0, h.1⟩
      | succ i =>
        rw [List.getElem?_cons_succ] at hi
        rw [show k + (i + 1) = k + 1 + i by omega]
        exact ih ks (k + 1) h.2 i q hi
def strK : List Nat := [69, 82, 93, 101, 109, 118, 126, 133, 141, 149, 157, 167, 175, 182, 189, 423, 433, 442, 451, 460, 471, 480, 488, 497, 506, 514, 522, 529, 541]
set_option maxRecDepth 100000 in
theorem strs_all : strA gFlat 0 sIDs strK = true := by decide +kernel
def strP (s : State) (A : Nat → Prop) (i : Nat) (a t : Nat) : Prop := ∀ q : String × Nat × String, sIDs[i]? = some q → vk_R q.1 q.2.1 q.2.2 a s ∧ va_O "java/lang/String" a A s s.heap ∧ va_OF "java/lang/String" "coder" "B" (.int 0) a A s s.heap ∧ va_OF "java/lang/String" "value" "[B" (.ref t) a A s s.heap ∧ va_T .byte t (sB i).length (fun j => .int (Int32.ofInt ((sB i).getD j 0))) A s s.heap
theorem strP_ex {s : State} {b : Nat} (hts : ∀ w ∈ lw_tbl, w.before #[Value.ref b] s = true) (hgv : (Jvm.Cond.and given_1 narrow_1).before #[Value.ref b] s = true) (i : Nat) : ∃ a t : Nat, strP s (fun q : Nat => s.heap.size ≤ q) i a t := by
  have hg := flat_of_before _ hgv
  have hnA : ∀ a : Nat, a < s.heap.size → ¬ (fun q : Nat => s.heap.size ≤ q) a := fun a h => Nat.not_le.mpr h
  cases hq : sIDs[i]? with
  | none => exact ⟨0, 0, fun q h => by rw [hq] at h; cases h⟩
  | some q =>
    obtain ⟨k9, h⟩ := strA_at sIDs strK 0 strs_all i q hq
    rw [Nat.zero_add] at h
    unfold strB at h
    rw [Bool.and_eq_true] at h
    obtain ⟨h1, h9⟩ := h
    have hin : ∀ w ∈ strE i q, w ∈ flatC (Jvm.Cond.and given_1 narrow_1) := fun w hw => List.mem_of_mem_drop (preC_in h9 w hw)
    have h2 := hin (.exactly (.string q.1 q.2.1) "java/lang/String") List.mem_cons_self
    have h3 := hin (.eq (.field (.string q.1 q.2.1) "java/lang/String" "coder" "B") (.int 0)) (List.mem_cons_of_mem _ List.mem_cons_self)
    have h4 := hin (.arrayOf (sVl q) .byte) (List.mem_cons_of_mem _ (List.mem_cons_of_mem _ List.mem_cons_self))
    have h5 := hin (.eq (.length (sVl q)) (.int (Int32.ofNat (sB i).length))) (List.mem_cons_of_mem _ (List.mem_cons_of_mem _ (List.mem_cons_of_mem _ List.mem_cons_self)))
    have h6 : ∀ j, j < (sB i).length → (Jvm.Cond.eq (.elem (sVl q) (.int (Int32.ofNat j))) (.int (Int32.ofInt ((sB i).getD j 0)))) ∈ flatC (Jvm.Cond.and given_1 narrow_1) := fun j hj => hin _ (List.mem_cons_of_mem _ (List.mem_cons_of_mem _ (List.mem_cons_of_mem _ (List.mem_cons_of_mem _ (List.mem_map.mpr ⟨j, List.mem_range.mpr hj, rfl⟩)))))
    have hi : i < nSt := by rw [← sIDs_len]; exact (List.getElem?_eq_some_iff.mp hq).1
    have hlen : (sB i).length ≤ 16 := (sB_all ⟨i, hi⟩).1
    obtain ⟨a, cQ, cell, kQ, ha, -⟩ := Cond.exactly_spec (hg _ h2)
    obtain ⟨t, t1, t2⟩ := va_Tof (N := (sB i).length) (f := fun j => .int (Int32.ofInt ((sB i).getD j 0))) (A := fun q : Nat => s.heap.size ≤ q) (by omega) (hg _ h4) (va_eqt (hg _ h5)) (fun j hj => va_eqt (hg _ (h6 j hj))) hnA
    refine ⟨a, t, fun q' hq' => ?_⟩
    rw [hq] at hq'
    have := Option.some.inj hq'
    subst this
    exact ⟨vk_R.of (hts _ (memT_in h1)) ha, va_Oof (hg _ h2) ha hnA, vk_OFof ha (va_eqt (hg _ h3)) hnA, vk_OFof ha t1 hnA, t2⟩
set_option maxRecDepth 100000 in
theorem zs_all : (memT (.laysStatic "java/lang/String" "COMPACT_STRINGS" "Z") && (memT (.initialized "java/lang/String") && (memG (.eq (.static "java/lang/String" "COMPACT_STRINGS" "Z") (.int 1)) && (memT (.laysStatic "jdk/internal/util/Preconditions" "SIOOBE_FORMATTER" "Ljava/util/function/BiFunction;") && (memT (.initialized "jdk/internal/util/Preconditions") && memG (.isRef (.static "jdk/internal/util/Preconditions" "SIOOBE_FORMATTER" "Ljava/util/function/BiFunction;"))))))) = true := by decide +kernel
/-- where the texts stand, and the script; no row of texts yet -/
theorem eZs_start {s : State} {b : Nat} (hts : ∀ w ∈ lw_tbl, w.before #[Value.ref b] s = true) (hgv : (Jvm.Cond.and given_1 narrow_1).before #[Value.ref b] s = true) : ∃ fb : Nat → Nat, fb 0 = b ∧ fb 60 = 0 ∧ ∀ sb : eSB, sb.1 = fb → eZs sb (fun q : Nat => s.heap.size ≤ q) s s.heap := by
  have hg := flat_of_before _ hgv
  have hnA : ∀ a : Nat, a < s.heap.size → ¬ (fun q : Nat => s.heap.size ≤ q) a := fun a h => Nat.not_le.mpr h
  have hex := strP_ex hts hgv
  refine ⟨fun n => if n = 0 then b else if n = 60 then 0 else if n % 2 = 1 then Classical.choose (hex (n / 2)) else Classical.choose (Classical.choose_spec (hex (n / 2 - 1))), rfl, rfl, fun sb hsb => ?_⟩
  have hz := zs_all
  simp only [Bool.and_eq_true] at hz
  obtain ⟨z1, z2, z3, z4, z5, z6⟩ := hz
  refine ⟨fun i q hq => ?_, va_Zof (hts _ (memT_in z1)) (hts _ (memT_in z2)) (va_eqi (hg _ (memG_in z3))) hnA, va_Zqof (hts _ (memT_in z4)) (hts _ (memT_in z5)) (hg _ (memG_in z6)) hnA, fun h => ?_⟩
  · have hi : i < 29 := by
      have h9 : i < sIDs.length := (List.getElem?_eq_some_iff.mp hq).1
      rw [sIDs_len] at h9
      exact h9
    have e1 : sb.1 (2 * i + 1) = Classical.choose (hex i) := by
      rw [hsb]
      dsimp only
      rw [if_neg (by omega), if_neg (by omega), if_pos (by omega)]
      have e4 : (2 * i + 1) / 2 = i := by omega
      generalize (2 * i + 1) / 2 = j at e4
      subst e4
      rfl
    have e2 : sb.1 (2 * i + 2) = Classical.choose (Classical.choose_spec (hex i)) := by
      rw [hsb]
      dsimp only
      rw [if_neg (by omega), if_neg (by omega), if_neg (by omega)]
      have e3 : (2 * i + 2) / 2 - 1 = i := by omega
      generalize (2 * i + 2) / 2 - 1 = j at e3
      subst e3
      rfl
    rw [e1, e2]
    exact Classical.choose_spec (Classical.choose_spec (hex i)) q hq
  · rw [hsb] at h
    cases h
set_option maxRecDepth 100000 in
theorem str_all : strs.all (fun q => memT (.stringRef q.1 q.2.1 q.2.2) && memG (.exactly (.string q.1 q.2.1) "java/lang/String")) = true := by decide +kernel
set_option maxRecDepth 100000 in
theorem z_all : (memT (.laysStatic Bundle.tN "UNASSIGNED_STACK" Bundle.steD) && (memT (.laysStatic Bundle.tN "SUPPRESSED_SENTINEL" Bundle.listD) && (memT (.initialized Bundle.tN) && (memG (.isRef (.static Bundle.tN "UNASSIGNED_STACK" Bundle.steD)) && memG (.isRef (.static Bundle.tN "SUPPRESSED_SENTINEL" Bundle.listD)))))) = true := by decide +kernel
set_option maxRecDepth 100000 in
theorem y_all : (eNest.all (fun q => memT (.methodLinkNest q.1 q.2.1 q.2.2.1 q.2.2.2)) && (memT (.castable (exN 1) (exN 1)) && (memT (.castable (exN 2) (exN 2)) && (memG (.not (.castable (exN 1) (exN 2))) && (memG (.not (.castable (exN 2) (exN 1))) && (eDecl.all (fun y => memT (.declares y)) && memT (.arrayOver (.object "java/lang/String")))))))) = true := by decide +kernel
theorem eZ_start {s : State} {b : Nat} (hts : ∀ w ∈ lw_tbl, w.before #[Value.ref b] s = true) (hgv : (Jvm.Cond.and given_1 narrow_1).before #[Value.ref b] s = true) : ∃ fb : Nat → Nat, fb 0 = b ∧ fb 60 = 0 ∧ ∀ sb : eSB, sb.1 = fb → eZ strs sb (fun q : Nat => s.heap.size ≤ q) s s.heap := by
  obtain ⟨fb, f0, f60, fZ⟩ := eZs_start hts hgv
  refine ⟨fb, f0, f60, fun sb hsb => ?_⟩
  have hg := flat_of_before _ hgv
  have hnA : ∀ a : Nat, a < s.heap.size → ¬ (fun q : Nat => s.heap.size ≤ q) a := fun a h => Nat.not_le.mpr h
  have hz := z_all
  have hy := y_all
  rw [Bool.and_eq_true, Bool.and_eq_true, Bool.and_eq_true, Bool.and_eq_true] at hz
  rw [Bool.and_eq_true, Bool.and_eq_true, Bool.and_eq_true, Bool.and_eq_true, Bool.and_eq_true, Bool.and_eq_true] at hy
  obtain ⟨z1, z2, z3, z4, z5⟩ := hz
  obtain ⟨y1, y2, y3, y4, y5, y6, y7⟩ := hy
  refine ⟨vx_Zqof (hts _ (memT_in z1)) (hts _ (memT_in z3)) (hg _ (memG_in z4)) hnA, vx_Zqof (hts _ (memT_in z2)) (hts _ (memT_in z3)) (hg _ (memG_in z5)) hnA, ⟨fun q hq => ?_, fZ sb hsb⟩, fun q hq => va_Nw.of rfl (hts _ (memT_in (List.all_eq_true.mp y1 q hq))), fun k => ?_, va_Nc.of (hg _ (memG_in y4)), va_Nc.of (hg _ (memG_in y5)), fun y hy => va_Nw.of rfl (hts _ (memT_in (List.all_eq_true.mp y6 y hy))), va_AO.of (hts _ (memT_in y7))⟩
  · have h := List.all_eq_true.mp str_all q hq
    rw [Bool.and_eq_true] at h
    obtain ⟨a, cQ, cell, kQ, ha, hQ, hcell, hkQ, hstat, hcls, -⟩ := Cond.exactly_spec (hg _ (memG_in h.2))
    exact ⟨a, vk_R.of (hts _ (memT_in h.1)) ha, hnA a (Array.getElem?_eq_some_iff.mp hcell).1, cell, hcell, hstat, by rw [hcls]; exact hQ⟩
  · have c2 : va_Nw (.castable (exN 2) (exN 2)) s := va_Nw.of rfl (hts _ (memT_in y3))
    match k with
    | 0 => exact c2
    | 1 => exact va_Nw.of rfl (hts _ (memT_in y2))
    | k + 2 => exact c2
