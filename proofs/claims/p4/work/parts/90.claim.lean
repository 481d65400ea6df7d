/-! THE CLAIM OUT OF ONE WALK OF THE LAW'S BODY. Your part is whole_start (and what it stands on); all else here is the same for every law, but numbers. -/
def R_law : String := "BalconyPortLaw"
def lw_P (b : Addr) (xs : List Int32) (args : Array Value) (s : State) : Prop := args = #[.ref b] ∧ s.IntsAt b xs ∧ xs.length ≤ 3072 ∧ (Jvm.Cond.and given_1 narrow_1).before args s = true
def lw_Q (_ : Array Value) (s : State) (o : Outcome) (t : State) : Prop := o = .returned (some (.int 1)) ∧ Framed s o t [] 601024 7293034
def lw_Z (below : List Frame) (a : Array Value) (s : State) : State → Prop := fun t => ∃ o, t.status = .running ∧ Ended t below o ∧ lw_Q a s o t
/-- what holds at the law's entry: the machine, the code, the tables' words (any of lw_tbl by 'hts w (by decide +kernel)'), the script of L ints xs at the cell b, what the Statement gives of the start (any of its parts by flat_of_before) -/
def lw_At (p : Program) (s : State) (m : MethodId) (meth : Method) (c : Code) (b L : Nat) (xs : Nat → Int32) : Prop :=
  p.tables.exec = Jvm.exec ∧ c.code = code ∧ meth.sig.returnType = ret ∧ c.maxLocals = 7 ∧ s.vm.findClass R_law = some m.cls ∧ (∀ w ∈ lw_tbl, w.before #[Value.ref b] s = true) ∧ va_X b L xs s s.heap ∧ b < s.heap.size ∧ meth.locks = false ∧ (Jvm.Cond.and given_1 narrow_1).before #[Value.ref b] s = true
theorem W_mono {p : Program} {l : Launch} {e : Env} {R : Room} {s : State} {m : MethodId} {args : Array Value} {below : List Frame} {meth : Method} {c : Code} {H : Heap} {locs : List Loc} {k z : Nat} {Q Q' : State → Prop} {g : JFrame} (hQ : ∀ t, Q t → Q' t) (h : W p l e R s m args below meth c H locs k z Q g) : W p l e R s m args below meth c H locs k z Q' g := fun T hT X => by
  obtain ⟨t, a1, b1⟩ := h T hT X
  exact ⟨t, a1, hQ t b1⟩
set_option maxRecDepth 100000 in
theorem whole_start {p : Program} {e : Env} {s : State} {m : MethodId} {below : List Frame} {meth : Method} {c : Code} (l : Launch) (hflags : l.flags = flags0) {b L : Nat} {xs : Nat → Int32} (hL : L ≤ 3072) (C0 : lw_At p s m meth c b L xs) : W p l e room_1 s m #[Value.ref b] below meth c s.heap [] 0 0 (lw_Z below #[Value.ref b] s) (entryFrame m ([Value.ref b] : List Value).toArray 7) := by
  obtain ⟨D, cA, hK⟩ := K_start C0.2.2.2.2.2.1
  obtain ⟨hx, hb, hret, hml, hown, hts, hX0, hbl, hlocks, hgv⟩ := C0
  have htr : l.stackTraces = false := by
    unfold Launch.stackTraces
    rw [hflags]
    decide
  have htG : ∀ w ∈ GT, w.before #[Value.ref b] s = true := fun w hw => hts w (GT_tbl w hw)
  obtain ⟨fb, f0, f60, hZ0⟩ := eZ_start hts hgv
  have hZ : eZ strs ((fb, fun _ => .inr (0, [])) : eSB) (fun q : Nat => s.heap.size ≤ q) s s.heap := hZ0 _ rfl
  have K : eK p m c s #[Value.ref b] code RL 7 GT D eCls cA (fun q : Nat => s.heap.size ≤ q) := ⟨hx, hb, hml, hown, htG, hK, fun _ h => h⟩
  have hpre := lawPre_ok
  unfold lawPre at hpre
  split at hpre
  next S12 h12 =>
    split at hpre
    next S15 h15 =>
      split at hpre
      next S23 h23 =>
        rw [Bool.and_eq_true, Bool.and_eq_true] at hpre
        obtain ⟨ha, hc, hz⟩ := hpre
        have hc := Nat.le_of_ble_eq_true hc
        have hz := Nat.le_of_ble_eq_true hz
        have hstep : ∀ (sb2 : eSB), eZ strs sb2 (fun q : Nat => s.heap.size ≤ q) s s.heap → ∀ (S : eS) (q : eQ) (rs : List (Nat × eS)), ft_L S.1 = some q → stp q = false → lX q S = some rs → (∀ r ∈ rs, eLf p l e room_1 s m #[Value.ref b] below meth c (lwZ below s 601024 7293034) D eCls cA (fun q : Nat => s.heap.size ≤ q) sb2 (fun _ => (L : Int)) (fun _ => 0) 0 7 r) → eW p l e room_1 s m #[Value.ref b] below meth c (lwZ below s 601024 7293034) D eCls cA (fun q : Nat => s.heap.size ≤ q) sb2 (fun _ => (L : Int)) (fun _ => 0) 0 7 S := fun sb2 hZ2 S q rs hq hs hX hr => by
          obtain ⟨h1, h2, h3⟩ := rowL_at hq
          have hnat := natW
          refine ex_ok (d := 11) (sc := none) (own := RL) (cc := code) K hZ2 trivial GT_good (Nat.le_refl _) (Nat.le_refl _) (Nat.le_of_ble_eq_true rfl) (Nat.le_of_ble_eq_true rfl) (Nat.le_trans hnat (Nat.le_of_ble_eq_true rfl)) (fun M as B hp outs ho => inl_ok htr kLw 11 (by decide) M as B hp outs ho) h1 (h3 hs meth) (fun _ _ q => by cases q) ?_ hX hr
          rcases lenB_ok h2 with q9 | q9
          · exact q9
          · exfalso
            unfold stp at hs
            rcases q9 with q9 | q9 | q9 <;> rw [q9] at hs <;> cases hs
        unfold pre12 at h12
        split at h12
        next S1 hrun1 =>
          cases h12
          unfold pre15 at h15
          cases hp12 : Nat.beq S12.1 12 with
          | false => rw [hp12] at h15; cases h15
          | true =>
            rw [hp12, cond_true] at h15
            have hp12 := Nat.eq_of_beq_eq_true hp12
            split at h15
            next S2 hcall =>
              cases h15
              unfold pre23 at h23
              split at h23
              next S3 hrun2 =>
                cases h23
                have hq12 : ft_L 12 = some (.invokespecial 105, 3, 165, 0, 0) := rfl
                obtain ⟨d1, -, d3⟩ := rowL_at hq12
                obtain ⟨w1, w2, w3, w4, w5⟩ := d3 rfl meth
                have w3 : Jvm.Cond.methodLink RL 105 (mtF 165).1 ∈ GT := by
                  rcases w3 with w3 | ⟨host, w3⟩
                  · exact w3
                  · exfalso
                    simp [eNest, RL] at w3
                have h12W : eW p l e room_1 s m #[Value.ref b] below meth c (lwZ below s 601024 7293034) D eCls cA (fun q : Nat => s.heap.size ≤ q) ((fb, fun _ => .inr (0, [])) : eSB) (fun _ => (L : Int)) (fun _ => 0) 0 7 S12 := by
                  refine k_mdlC (d := 11) htr K hZ (ix := 105) w1 w2 w3 w4 w5 (by decide) (Nat.le_of_ble_eq_true rfl) (Nat.le_of_ble_eq_true rfl) (Nat.le_refl _) (Nat.le_refl _) (by rw [hp12]; exact d1) hcall (fun cQ FR hFR hcQ => ?_)
                  have h23W : eW p l e room_1 s m #[Value.ref b] below meth c (lwZ below s 601024 7293034) D eCls cA (fun q : Nat => s.heap.size ≤ q) (fb, FR) (fun _ => (L : Int)) (fun _ => 0) 0 7 S23 :=
                    law_first (R := room_1) (sb := (fb, fun _ => .inr (0, []))) htr ha K hZ hFR hcQ (L := L) (xs := xs) (show va_X (fb 0) L xs s s.heap by rw [f0]; exact hX0) (show fb 0 < s.heap.size by rw [f0]; exact hbl) hret hlocks hL rfl (Nat.le_of_ble_eq_true rfl) (Nat.le_of_ble_eq_true rfl) hc hz
                  exact (run_ok (cut := 23) (hstep (fb, FR) (hZ0 _ rfl)) 400 _ _ _ hrun2 (fun o ho => by
                    rw [List.mem_singleton.mp ho]
                    exact h23W)).1 _ List.mem_cons_self
                have h0W := (run_ok (cut := 12) (hstep _ hZ) 400 _ _ _ hrun1 (fun o ho => by
                  rw [List.mem_singleton.mp ho]
                  exact h12W)).1 S0L List.mem_cons_self
                have hl := lv_entry ([.ref b]) (n := 7) (Nat.le_of_ble_eq_true rfl)
                rw [lg_entry_eq]
                refine W_mono (fun t ht => ?_) (h0W (fun _ => 0) _ (lv_args 0 [.ref b]) [] [] s.heap [] ⟨Nat.le_refl _, fun _ _ => rfl, fun _ => rfl⟩ ⟨fun i q hi => ?_, fun f hf => by cases hf⟩ ⟨⟨rfl, by show Value.ref b = .ref (fb 0); rw [f0]⟩, trivial⟩ trivial ⟨rfl, fun k c hk => by simp [S0L] at hk⟩ (fun k q hk => by simp at hk) ⟨fun i j p q hi => by simp at hi, fun k q hk => by simp at hk⟩ va_S.rf hl)
                · exact ⟨_, ht.1, ht.2.1, rfl, ht.2.2⟩
                · match i, hi with
                  | 0, hi =>
                    have e := Option.some.inj hi
                    subst e
                    exact ⟨Int.natCast_nonneg L, by show (L : Int) ≤ 3072; omega⟩
                  | i + 1, hi => simp [S0L] at hi
              next => cases h23
            next => cases h15
        next => cases h12
      next => cases hpre
    next => cases hpre
  next => cases hpre
-- ===== YOUR PART ENDS =====
set_option maxHeartbeats 4000000 in
theorem lw_walk (l : Launch) (hflags : l.flags = flags0) (b : Addr) (xs : List Int32) : MetFree l x (headSpec (Jvm.Cond.code x code maxLocals ret :: tables_1) room_1) (lw_P b xs) (fun _ _ _ _ _ => True) lw_Q := by
  refine MetFree.of_bodyS (code := code) (maxLocals := maxLocals) (ret := ret) (by decide) ?_ ?_
  · intro args s m h hn
    obtain ⟨meth, c, h1, h2, h3, h4, h5, h6, -, -⟩ := Cond.code_spec hn (atoms_spec (ws := Jvm.Cond.code x code maxLocals ret :: tables_1) h _ List.mem_cons_self)
    exact ⟨meth, c, h1, h2, h3, h4, h5, h6⟩
  · intro p e s m args below meth c s₁ B hml0 hP _
    obtain ⟨rfl, hx, hbd, hgv⟩ := hP
    obtain ⟨scr, harrAt, hlist, hof, hsmall⟩ := hx
    obtain ⟨hcb, hkn, -, -⟩ := State.arrayAt?_spec harrAt
    have hown : s.vm.findClass R_law = some m.cls := findClass_of_methodNamed B.named
    have hts0 : ∀ c ∈ (Jvm.Cond.code x code maxLocals ret :: tables_1), c.before #[Value.ref b] s = true := atoms_spec (ws := Jvm.Cond.code x code maxLocals ret :: tables_1) B.pre
    have hts : ∀ w ∈ lw_tbl, w.before #[Value.ref b] s = true := k2_hts_sels lw_privs (fun w hw => hts0 w (List.mem_cons_of_mem _ hw)) lw_privs_ok
    have hml : c.maxLocals = 7 := B.maxLocals_eq (hts0 _ List.mem_cons_self)
    have X₀ : Stand p l e room_1 s m #[Value.ref b] below meth c s₁ [] 0 0 := Stand.of_body B
    have hh0 : s₁.heap = s.heap := by rw [B.state]; rfl
    have hsz : scr.slots.size = xs.length := by rw [← Array.length_toList, hlist, List.length_map]
    have hval : ∀ j : Nat, j < xs.length → scr.slots[j]? = some (.int (xs.getD j 0)) := fun j hj => by
      rw [← Array.getElem?_toList, hlist]
      simp [hj]
    have hbl : b < s.heap.size := (Array.getElem?_eq_some_iff.mp hcb).1
    have hX : va_X b xs.length (fun j => xs.getD j 0) s s.heap := ⟨scr, hcb, hof, hkn, hsz, hval⟩
    have K : W p l e room_1 s m #[Value.ref b] below meth c s₁.heap [] 0 0 (lw_Z below #[Value.ref b] s) (entryFrame m ([Value.ref b] : List Value).toArray 7) := by
      rw [hh0]
      exact whole_start l hflags hbd ⟨B.exec, B.bytes, B.returns, hml, hown, hts, hX, hbl, B.notSynchronized, hgv⟩
    obtain ⟨t, a1, o, b1, b2, b3⟩ := K s₁ rfl X₀
    exact ⟨t, o, a1, b1, b2, b3⟩
theorem lw_pre_spec {args : Array Value} {s : State} (h : (Jvm.Cond.and given_1 narrow_1).before args s = true) (hr : rest_1_c.before args s = true) : ∃ (b : Addr) (xs : List Int32), lw_P b xs args s := by
  have hs := flat_of_before _ h
  have hq := flat_of_before _ hr
  have hc : (Cond.count 1).before args s = true := hs _ (by decide +kernel)
  have harr : (Cond.arrayOf (.arg 0) .int).before args s = true := hs _ (by decide +kernel)
  have hle : (Cond.le (.length (.arg 0)) (.int 3072)).before args s = true := hs _ (by decide +kernel)
  have hlen : (Cond.isInt (.length (.arg 0))).before args s = true := hq _ (by decide +kernel)
  have hall : (Cond.all (.arg 0) (.isInt (.elem (.arg 0) (.index 0)))).before args s = true := hq _ (by decide +kernel)
  obtain ⟨b, xs, hb, hx⟩ := State.ints_of_pre rfl harr hlen hall
  have hsm : xs.length < 2 ^ 31 := hx.choose_spec.2.2.2
  have hev : (Term.length (.arg 0)).eval args s none [] s = some (.int xs.length.toInt32) := hx.length_eval hb
  have hv := Cond.le_ints hev (show (Term.int 3072).eval args s none [] s = some (.int 3072) from rfl)
  have hd : xs.length.toInt32 ≤ 3072 := by
    simpa [Cond.before, Cond.holds, hv] using hle
  have hN : xs.length ≤ 3072 := (Int32.ofNat_le_ofNat hsm (by decide)).mp (show Int32.ofNat xs.length ≤ Int32.ofNat 3072 from hd)
  exact ⟨b, xs, Cond.one_arg hc (show args[0]? = some (.ref b) from hb), hx, hN, h⟩
theorem lw_comes (l : Launch) (hflags : l.flags = flags0) : Comes l x (Jvm.Cond.code x code maxLocals ret :: tables_1) room_1 (fun tb e args s => Calls_1 tb e args s ∧ rest_1 tb e args s ∧ Pre_1 tb e args s)
    (fun _ _ args s o t => lw_Q args s o t) := by
  intro p e ha hc hk s m args below hf hfit hheap happ hpre
  obtain ⟨b, xs, hP⟩ := lw_pre_spec hpre.2.2 hpre.2.1
  obtain ⟨k, o, h1, h2, h3, hQ⟩ := lw_walk l hflags b xs p e ha hc hk s m args below hf ((Spec.applies_iff_loose hf).mp happ).1 hP trivial
  exact ⟨k, o, h1, h2, h3, hQ⟩
theorem lw_frame {s t : State} {o : Outcome} {args : Array Value} (h : Framed s o t [] 601024 7293034) :
    Framed s o t (fieldLocs frame_1_writes args s ++ arrayLocs frame_1_arrays args s ++ staticLocs frame_1_statics s) 601024 7293034 := h
theorem lw_limb (L : Cond) (hL : ∀ (args : Array Value) (s t : State), L.after args s (.returned (some (.int 1))) t = true) :
    ArmFor flags0 classFile x code maxLocals ret World_1 tables_1 room_1 Calls_1 rest_1 Pre_1
      (fun tb e a s o t => postC L tb e a s o t ∧ Framed s o t (fieldLocs frame_1_writes a s ++ arrayLocs frame_1_arrays a s ++ staticLocs frame_1_statics s) 601024 7293034) := by
  intro l hflags _ _ p e ha hc hk s m args below hf hfit hheap happ hpre
  obtain ⟨k, o, h1, h2, h3, rfl, hF⟩ := lw_comes l hflags p e ha hc hk s m args below hf hfit hheap happ hpre
  exact ⟨k, _, h1, h2, h3, hL args s _, lw_frame hF⟩
theorem i_vc : Claimed_1_1 ∧ Claimed_1_2 := ⟨lw_limb limb_1_1 (fun args s t => by simp [limb_1_1, Cond.after, Cond.holds, Cond.value]), lw_limb limb_1_2 (fun args s t => Cond.after_iff.mpr (by
  first | (rw [show limb_1_2 = Cond.eq .result (.int 1) from rfl, Cond.eq_ints (x := 1) (y := 1) rfl rfl]; simp; done) | (simp [limb_1_2, Cond.value, Term.eval]; done)))⟩
