/-! ===== THE LAW, 7: to begin anew in the midst ===== -/
/-- the law's end, from s on, no more made than so much -/
def lwZ (below : List Frame) (s : State) (C Z : Nat) : State → Prop := fun t => t.status = .running ∧ Ended t below (.returned (some (.int 1))) ∧ Framed s (.returned (some (.int 1))) t [] C Z
/-- the same, from a later start: cells from N on may be written -/
def lwY (below : List Frame) (s : State) (N C Z : Nat) : State → Prop := fun t => t.status = .running ∧ Ended t below (.returned (some (.int 1))) ∧ ∃ L : List Loc, (∀ q ∈ L, N ≤ q.base) ∧ Framed s (.returned (some (.int 1))) t L C Z
theorem stand_rebase {p : Program} {l : Launch} {e : Env} {R : Room} {s : State} {m : MethodId} {args : Array Value} {below : List Frame} {meth : Method} {c : Code} {T : State} {locs : List Loc} {cells slots : Nat} (X : Stand p l e R s m args below meth c T locs cells slots) (hC : cells ≤ R.cells) (hZ : slots ≤ R.slots) :
    Stand p l e { R with cells := R.cells - cells, slots := R.slots - slots } (T.setFrames (.invoking m args :: below)) m args below meth c T [] 0 0 := by
  obtain ⟨g₀, hg⟩ := Option.isSome_iff_exists.mp X.here.top
  obtain ⟨r, hr⟩ := State.topJava?_eq_some.mp hg
  obtain ⟨x, hx, -⟩ := State.frames_cons hr
  have hcur : T.cur < T.threads.size := State.cur_lt_of_frames hr
  have hf : (T.setFrames (.invoking m args :: below)).frames = .invoking m args :: below := State.frames_setFrames _ hcur
  have hm : (T.setFrames (.invoking m args :: below)).vm.method? m = some meth := X.method'
  have hloc : (T.setFrames (.invoking m args :: below)).localsInUse = s.localsInUse := by
    rw [State.localsInUse_invoking hf hm X.code, State.localsInUse_invoking X.frames X.method X.code]
  refine ⟨X.admits, X.cas, X.clock, hf, ?_, ?_, hm, X.code, X.here, X.tail, State.WarmedH.refl _, (State.stackLimits_setFrames _ _ _).symm, (State.stackBytes_setFrames _ _).symm, ?_⟩
  · have hroom := X.room
    have h1 := X.heapSize
    have h2 := X.used
    have h3 := X.book
    simp only [State.hasRoom, Bool.and_eq_true, decide_eq_true_eq] at hroom ⊢
    rw [hloc, hf, State.stackLimits_setFrames, State.stackBytes_setFrames, X.limits, X.bytes]
    rw [X.frames] at hroom
    obtain ⟨⟨⟨⟨r1, r2, r3, r4, r5, r6⟩, r7⟩, r8⟩, r9⟩ := hroom
    refine ⟨⟨⟨⟨r1, r2, r3, r4, r5, r6⟩, ?_⟩, ?_⟩, h3⟩
    · show T.heap.size + (R.cells - cells) ≤ _
      omega
    · show T.slotsUsed + (R.slots - slots) ≤ _
      omega
  · have hh := X.hears
    unfold State.hears at hh ⊢
    split at hh
    · rename_i g r9
      have : (T.setFrames (.invoking m args :: .java g :: r9)).code? g.method = s.code? g.method := by
        rw [State.code?_eq, State.code?_eq]
        show ((T.vm.method? g.method).bind fun x => x.code) = _
        rw [X.warmed.alike.method?]
      rw [this]
      exact hh
    · rfl
    · rfl
    · rw [hm]
      rw [X.method] at hh
      exact hh
  · have h := (State.sameButNew.refl (T.setFrames (.invoking m args :: below)) (x := { x with frames := .invoking m args :: below }) (by
      show (T.threads.modify T.cur _)[T.cur]? = _
      rw [Array.getElem?_modify, if_pos rfl, hx]
      rfl)).setFrames T.frames (by rw [show (T.setFrames (.invoking m args :: below)).threads.size = T.threads.size by unfold State.setFrames; simp]; exact hcur)
    rw [State.setFrames_setFrames] at h
    have e1 : T.setFrames T.frames = T := (State.sameButNew.refl T hx).1.symm
    rw [e1] at h
    exact h
theorem lw_rebase {p : Program} {l : Launch} {e : Env} {R : Room} {s : State} {m : MethodId} {args : Array Value} {below : List Frame} {meth : Method} {c : Code} {H : Heap} {locs : List Loc} {cells slots : Nat} {g : JFrame} (hloc : ∀ q ∈ locs, s.heap.size ≤ q.base) (hC : cells ≤ R.cells) (hZ : slots ≤ R.slots)
    (hk : ∀ s2 : State, s2.heap = H → s.WarmedH s2.vm → W p l e { R with cells := R.cells - cells, slots := R.slots - slots } s2 m args below meth c H [] 0 0 (lwY below s2 s.heap.size (R.cells - cells) (R.slots - slots)) g) : W p l e R s m args below meth c H locs cells slots (lwZ below s R.cells R.slots) g := by
  intro T hT X
  obtain ⟨t, a1, b1, b2, L9, hL9, ⟨v, b3⟩, b4, b5⟩ := hk (T.setFrames (.invoking m args :: below)) hT X.warmed T hT (stand_rebase X hC hZ)
  refine ⟨t, a1, b1, b2, ⟨v, b3⟩, State.WarmedH.trans (t := T.setFrames (.invoking m args :: below)) X.warmed b4, ?_⟩
  obtain ⟨g₀, hg⟩ := Option.isSome_iff_exists.mp X.here.top
  obtain ⟨r, hr⟩ := State.topJava?_eq_some.mp hg
  obtain ⟨x, hx, -⟩ := State.frames_cons hr
  have hcur : T.cur < T.threads.size := State.cur_lt_of_frames hr
  have h1 : (T.setVm s.vm).sameButNew ((T.setVm s.vm).setFrames (.invoking m args :: below)) [] 0 0 := (State.sameButNew.refl (T.setVm s.vm) (x := x) hx).setFrames _ hcur
  have h2 : ((T.setVm s.vm).setFrames (.invoking m args :: below)).sameButNew { t with vm := s.vm } L9 (R.cells - cells) (R.slots - slots) := b5.setVm s.vm
  have h3 := (X.same.trans (h1.trans h2))
  have h4 := State.sameButNew.drop_fresh (L := []) (J := locs ++ L9) (s := s) (by simpa using h3) (fun q hq => (List.mem_append.mp hq).elim (hloc q) (hL9 q))
  exact h4.mono (by omega) (by omega)
