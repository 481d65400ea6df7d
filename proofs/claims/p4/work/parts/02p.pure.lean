/-! ===== THE TEXT'S GRAMMAR, over a row of bytes: what both readers reckon ===== -/
def bt (L : List Int) (p : Nat) : Int := L.getD p (-1)
/-- the first place from p on that isn't of P -/
def fwN (P : Int → Bool) (L : List Int) : Nat → Nat → Nat
  | 0, p => p
  | k + 1, p => if P (bt L p) then fwN P L k (p + 1) else p
def fw (P : Int → Bool) (L : List Int) (p : Nat) : Nat := fwN P L (L.length + 1 - p) p
theorem bt_lt {L : List Int} {p : Nat} (h : bt L p ≠ -1) : p < L.length := by
  by_cases hp : p < L.length
  · exact hp
  · exfalso
    apply h
    unfold bt
    rw [List.getD_eq_getElem?_getD, List.getElem?_eq_none (Nat.not_lt.mp hp)]
    rfl
theorem fw_at {P : Int → Bool} (hP : P (-1) = false) (L : List Int) (p : Nat) : fw P L p = if P (bt L p) then fw P L (p + 1) else p := by
  unfold fw
  by_cases hb : P (bt L p) = true
  · have hp : p < L.length := bt_lt (fun e => by rw [e, hP] at hb; cases hb)
    rw [if_pos hb, show L.length + 1 - p = (L.length + 1 - (p + 1)) + 1 by omega]
    show (if P (bt L p) then fwN P L (L.length + 1 - (p + 1)) (p + 1) else p) = _
    rw [if_pos hb]
  · rw [if_neg hb]
    cases hk : L.length + 1 - p with
    | zero => rfl
    | succ k =>
      show (if P (bt L p) then fwN P L k (p + 1) else p) = p
      rw [if_neg hb]
theorem fwN_le {P : Int → Bool} {L : List Int} : ∀ (k p : Nat), p ≤ fwN P L k p
  | 0, p => Nat.le_refl p
  | k + 1, p => by
    show p ≤ if P (bt L p) then fwN P L k (p + 1) else p
    split
    · exact Nat.le_trans (Nat.le_succ p) (fwN_le k (p + 1))
    · exact Nat.le_refl p
theorem fw_le {P : Int → Bool} {L : List Int} (p : Nat) : p ≤ fw P L p := fwN_le _ p
def isBl (c : Int) : Bool := decide (c = 32) || decide (c = 10)
def isLt (c : Int) : Bool := decide (97 ≤ c) && decide (c ≤ 122)
def isDg (c : Int) : Bool := decide (48 ≤ c) && decide (c ≤ 57)
def isMk (c : Int) : Bool := [59, 40, 41, 43, 45, 42, 47, 60, 61].any (fun x => decide (c = x))
/-- a token's kind at its first byte: 0 the end, 1 a word, 2 a number, a sign by its byte, 3 none -/
def kd (L : List Int) (p : Nat) : Int := if bt L p = -1 then 0 else if isLt (bt L p) then 1 else if isDg (bt L p) then 2 else if isMk (bt L p) then bt L p else 3
/-- its end -/
def te (L : List Int) (p : Nat) : Nat := if bt L p = -1 then p else if isLt (bt L p) then fw isLt L p else if isDg (bt L p) then fw isDg L p else p + 1
/-- where the next one begins -/
def nx (L : List Int) (p : Nat) : Nat := fw isBl L (te L p)
def nvN (L : List Int) : Nat → Nat → Int
  | 0, _ => 0
  | k + 1, p => nvN L k p * 10 + bt L (p + k) - 48
/-- a number; one of five digits or more is -1 -/
def nm (L : List Int) (p : Nat) : Int := if te L p - p ≤ 4 then nvN L (te L p - p) p else -1
def isWd (L : List Int) (w : List Int) (p : Nat) : Bool := decide (kd L p = 1) && (decide (te L p - p = w.length) && (List.range w.length).all (fun j => decide (bt L (p + j) = w.getD j 0)))
def flt (k : Int) (p : Nat) : Int := -(1 + k + 8 * (p : Int))
def rEnd (L : List Int) (c : Int) (p : Nat) : Int := if kd L p = c then nx L p else flt 1 p
def rNum (L : List Int) (lo hi : Int) (p : Nat) : Int := if kd L p ≠ 2 then flt 1 p else if nm L p < lo ∨ hi < nm L p then flt 2 p else nx L p
/-- one behind the other -/
def thn (r : Int) (f : Nat → Int) : Int := if r < 0 then r else f r.toNat
/-- as long as a sign parts them -/
def rsN (sep : Nat → Bool) (n : Nat → Nat) (F : Nat → Int) : Nat → Nat → Int
  | 0, p => p
  | k + 1, p => if sep p then thn (F (n p)) (fun q => rsN sep n F k q) else p
def rst (L : List Int) (sep : Nat → Bool) (F : Nat → Int) (p : Nat) : Int := rsN sep (nx L) F (L.length + 1 - p) p
def wTimes : List Int := [116, 105, 109, 101, 115]
def wVals : List (List Int) := [wTimes, [112, 111, 116, 115], [105, 114, 111, 110], [103, 111, 110, 101], [98, 101, 115, 105, 100, 101], [102, 114, 101, 101], [100, 97, 121]]
def isVl (L : List Int) (p : Nat) : Bool := wVals.any (fun w => isWd L w p)
def mayB (L : List Int) (p : Nat) : Bool := decide (kd L p = 1) || (decide (kd L p = 2) || decide (kd L p = 40))
def rPart (L : List Int) (E : Nat → Int) (p : Nat) : Int := if kd L p = 40 then thn (E (nx L p)) (rEnd L 41) else if kd L p = 2 then (if nm L p = -1 then flt 2 p else nx L p) else if kd L p = 1 then (if isVl L p then nx L p else flt 3 p) else flt 1 p
def spM (L : List Int) (p : Nat) : Bool := decide (kd L p = 42) || decide (kd L p = 47)
def spAd (L : List Int) (p : Nat) : Bool := decide (kd L p = 43) || decide (kd L p = 45)
def spC (L : List Int) (p : Nat) : Bool := decide (kd L p = 60) || decide (kd L p = 61)
def rProd (L : List Int) (E : Nat → Int) (p : Nat) : Int := thn (rPart L E p) (rst L (spM L) (rPart L E))
def rSum (L : List Int) (E : Nat → Int) (p : Nat) : Int := thn (rProd L E p) (rst L (spAd L) (rProd L E))
def rTest (L : List Int) (E : Nat → Int) (p : Nat) : Int := thn (rSum L E p) (fun q => if spC L q then rSum L E (nx L q) else q)
def wNot : List Int := [110, 111, 116]
def wAnd : List Int := [97, 110, 100]
def wOr : List Int := [111, 114]
def rNotN (L : List Int) (E : Nat → Int) : Nat → Nat → Int
  | 0, p => if isWd L wNot p then flt 2 p else rTest L E p
  | j + 1, p => if isWd L wNot p then rNotN L E j (nx L p) else rTest L E p
def rAnd (L : List Int) (E : Nat → Int) (p : Nat) : Int := thn (rNotN L E 6 p) (rst L (isWd L wAnd) (rNotN L E 6))
/-- a whole EXPR, so many more levels being allowed -/
def rOr (L : List Int) : Nat → Nat → Int
  | 0, p => if mayB L p then flt 2 p else flt 1 p
  | m + 1, p => thn (rAnd L (rOr L m) p) (rst L (isWd L wOr) (rAnd L (rOr L m)))
-- what moves on
def mvs (F : Nat → Int) : Prop := ∀ p, 0 ≤ F p → (p : Int) ≤ F p
theorem flt_neg {k : Int} (hk : 0 ≤ k) (p : Nat) : flt k p < 0 := by unfold flt; omega
theorem te_le (L : List Int) (p : Nat) : p ≤ te L p := by
  unfold te
  split
  · exact Nat.le_refl p
  · split
    · exact fw_le p
    · split
      · exact fw_le p
      · exact Nat.le_succ p
theorem te_lt {L : List Int} {p : Nat} (h : bt L p ≠ -1) : p < te L p := by
  unfold te
  rw [if_neg h]
  split
  next h1 => rw [fw_at rfl, if_pos h1]; exact fw_le (p + 1)
  next =>
    split
    next h1 => rw [fw_at rfl, if_pos h1]; exact fw_le (p + 1)
    next => exact Nat.lt_succ_self p
theorem nx_le (L : List Int) (p : Nat) : p ≤ nx L p := Nat.le_trans (te_le L p) (fw_le _)
theorem nx_lt {L : List Int} {p : Nat} (h : kd L p ≠ 0) : p < nx L p := by
  have h1 : bt L p ≠ -1 := fun e => h (by unfold kd; rw [if_pos e])
  exact Nat.lt_of_lt_of_le (te_lt h1) (fw_le _)
theorem kd_lt {L : List Int} {p : Nat} (h : kd L p ≠ 0) : p < L.length := bt_lt (fun e => h (by unfold kd; rw [if_pos e]))
theorem thn_mv {F : Nat → Int} {G : Nat → Int} (hF : mvs F) (hG : mvs G) : mvs (fun p => thn (F p) G) := fun p h => by
  dsimp only at h ⊢
  unfold thn at h ⊢
  split at h
  next h1 => omega
  next h1 =>
    rw [if_neg h1]
    have a := hF p (by omega)
    have b := hG _ h
    omega
theorem rsN_mv {sep : Nat → Bool} {n : Nat → Nat} (hn : ∀ p, p ≤ n p) {F : Nat → Int} (hF : mvs F) : ∀ k, mvs (rsN sep n F k)
  | 0 => fun p _ => Int.le_refl _
  | k + 1 => fun p h => by
    have ih := rsN_mv (sep := sep) hn hF k
    have h : 0 ≤ (if sep p then thn (F (n p)) (rsN sep n F k) else (p : Int)) := h
    show (p : Int) ≤ (if sep p then thn (F (n p)) (rsN sep n F k) else (p : Int))
    split at h
    next hs =>
      rw [if_pos hs]
      have a : ((n p : Nat) : Int) ≤ thn (F (n p)) (rsN sep n F k) := thn_mv hF ih (n p) h
      have b := hn p
      omega
    next hs => rw [if_neg hs]; exact Int.le_refl _
theorem rEnd_mv (L : List Int) (c : Int) : mvs (rEnd L c) := fun p h => by
  unfold rEnd at h ⊢
  split at h
  next h1 => rw [if_pos h1]; have := nx_le L p; omega
  next h1 => have := flt_neg (k := 1) (by decide) p; omega
theorem rNum_mv (L : List Int) (lo hi : Int) : mvs (rNum L lo hi) := fun p h => by
  unfold rNum at h ⊢
  split at h
  next h1 => have := flt_neg (k := 1) (by decide) p; omega
  next h1 =>
    rw [if_neg h1]
    split at h
    next h2 => have := flt_neg (k := 2) (by decide) p; omega
    next h2 => rw [if_neg h2]; have := nx_le L p; omega
/-- behind one turn of such a row -/
theorem rsN_more {sep : Nat → Bool} {L : List Int} (hs : ∀ p, sep p = true → kd L p ≠ 0) {F : Nat → Int} (hF : mvs F) : ∀ (k j p : Nat), L.length + 1 - p ≤ k → L.length + 1 - p ≤ j → rsN sep (nx L) F k p = rsN sep (nx L) F j p
  | 0, 0, p, _, _ => rfl
  | 0, j + 1, p, hk, _ => by
    show (p : Int) = if sep p then thn (F (nx L p)) (fun q => rsN sep (nx L) F j q) else (p : Int)
    cases hb : sep p with
    | false => rfl
    | true =>
      have := kd_lt (hs p hb)
      omega
  | k + 1, 0, p, _, hj => by
    show (if sep p then thn (F (nx L p)) (fun q => rsN sep (nx L) F k q) else (p : Int)) = (p : Int)
    cases hb : sep p with
    | false => rfl
    | true =>
      have := kd_lt (hs p hb)
      omega
  | k + 1, j + 1, p, hk, hj => by
    show (if sep p then thn (F (nx L p)) (fun q => rsN sep (nx L) F k q) else (p : Int)) = if sep p then thn (F (nx L p)) (fun q => rsN sep (nx L) F j q) else (p : Int)
    cases hb : sep p with
    | false => rfl
    | true =>
      rw [if_pos rfl, if_pos rfl]
      unfold thn
      split
      next => rfl
      next h1 =>
        have a := hF (nx L p) (by omega)
        have b := nx_lt (hs p hb)
        exact rsN_more hs hF k j _ (by omega) (by omega)
theorem rst_at {sep : Nat → Bool} {L : List Int} (hs : ∀ p, sep p = true → kd L p ≠ 0) {F : Nat → Int} (hF : mvs F) (p : Nat) : rst L sep F p = if sep p then thn (F (nx L p)) (rst L sep F) else (p : Int) := by
  unfold rst
  cases hk : L.length + 1 - p with
  | zero =>
    show (p : Int) = _
    cases hb : sep p with
    | false => rfl
    | true =>
      have := kd_lt (hs p hb)
      omega
  | succ k =>
    show (if sep p then thn (F (nx L p)) (fun q => rsN sep (nx L) F k q) else (p : Int)) = _
    cases hb : sep p with
    | false => rfl
    | true =>
      rw [if_pos rfl, if_pos rfl]
      unfold thn
      split
      next => rfl
      next h1 =>
        have a := hF (nx L p) (by omega)
        have b := nx_lt (hs p hb)
        exact rsN_more hs hF _ _ _ (by omega) (Nat.le_refl _)
theorem rst_mv {sep : Nat → Bool} {L : List Int} {F : Nat → Int} (hF : mvs F) : mvs (rst L sep F) := fun p h => rsN_mv (nx_le L) hF _ p h
theorem rPart_mv {L : List Int} {E : Nat → Int} (hE : mvs E) : mvs (rPart L E) := fun p h => by
  have f1 := flt_neg (k := 1) (by decide) p
  have f2 := flt_neg (k := 2) (by decide) p
  have f3 := flt_neg (k := 3) (by decide) p
  have n1 := nx_le L p
  unfold rPart at h ⊢
  split at h
  next h1 =>
    rw [if_pos h1]
    have a := thn_mv hE (rEnd_mv L 41) (nx L p) h
    dsimp only at a
    omega
  next h1 =>
    rw [if_neg h1]
    split at h
    next h2 =>
      rw [if_pos h2]
      split at h
      next h3 => omega
      next h3 => rw [if_neg h3]; omega
    next h2 =>
      rw [if_neg h2]
      split at h
      next h3 =>
        rw [if_pos h3]
        split at h
        next h4 => rw [if_pos h4]; omega
        next h4 => omega
      next h3 => omega
theorem rProd_mv {L : List Int} {E : Nat → Int} (hE : mvs E) : mvs (rProd L E) := thn_mv (rPart_mv hE) (rst_mv (rPart_mv hE))
theorem rSum_mv {L : List Int} {E : Nat → Int} (hE : mvs E) : mvs (rSum L E) := thn_mv (rProd_mv hE) (rst_mv (rProd_mv hE))
theorem rTest_mv {L : List Int} {E : Nat → Int} (hE : mvs E) : mvs (rTest L E) := thn_mv (rSum_mv hE) (fun q h => by
  have h : 0 ≤ (if spC L q then rSum L E (nx L q) else (q : Int)) := h
  show (q : Int) ≤ if spC L q then rSum L E (nx L q) else (q : Int)
  have n1 := nx_le L q
  split at h
  next h1 =>
    rw [if_pos h1]
    have := rSum_mv hE _ h
    omega
  next h1 => rw [if_neg h1]; exact Int.le_refl _)
theorem rNotN_mv {L : List Int} {E : Nat → Int} (hE : mvs E) : ∀ j, mvs (rNotN L E j)
  | 0 => fun p h => by
    have f2 := flt_neg (k := 2) (by decide) p
    have h : 0 ≤ (if isWd L wNot p then flt 2 p else rTest L E p) := h
    show (p : Int) ≤ if isWd L wNot p then flt 2 p else rTest L E p
    split at h
    next h1 => omega
    next h1 => rw [if_neg h1]; exact rTest_mv hE p h
  | j + 1 => fun p h => by
    have n1 := nx_le L p
    have h : 0 ≤ (if isWd L wNot p then rNotN L E j (nx L p) else rTest L E p) := h
    show (p : Int) ≤ if isWd L wNot p then rNotN L E j (nx L p) else rTest L E p
    split at h
    next h1 =>
      rw [if_pos h1]
      have := rNotN_mv hE j _ h
      omega
    next h1 => rw [if_neg h1]; exact rTest_mv hE p h
theorem rAnd_mv {L : List Int} {E : Nat → Int} (hE : mvs E) : mvs (rAnd L E) := thn_mv (rNotN_mv hE 6) (rst_mv (rNotN_mv hE 6))
theorem rOr_mv (L : List Int) : ∀ m, mvs (rOr L m)
  | 0 => fun p h => by
    have f1 := flt_neg (k := 1) (by decide) p
    have f2 := flt_neg (k := 2) (by decide) p
    have h : 0 ≤ (if mayB L p then flt 2 p else flt 1 p) := h
    split at h <;> omega
  | m + 1 => thn_mv (rAnd_mv (rOr_mv L m)) (rst_mv (rAnd_mv (rOr_mv L m)))
theorem wd_kd {L w : List Int} {p : Nat} (h : isWd L w p = true) : kd L p ≠ 0 := by
  unfold isWd at h
  rw [Bool.and_eq_true, decide_eq_true_eq] at h
  rw [h.1]
  decide
theorem spM_kd {L : List Int} {p : Nat} (h : spM L p = true) : kd L p ≠ 0 := by
  unfold spM at h
  rw [Bool.or_eq_true, decide_eq_true_eq, decide_eq_true_eq] at h
  omega
theorem spAd_kd {L : List Int} {p : Nat} (h : spAd L p = true) : kd L p ≠ 0 := by
  unfold spAd at h
  rw [Bool.or_eq_true, decide_eq_true_eq, decide_eq_true_eq] at h
  omega
/-- where no EXPR can begin, its first PART tells it -/
theorem rAnd_may {L : List Int} {E : Nat → Int} {p : Nat} (h : mayB L p = false) : rAnd L E p = flt 1 p := by
  have f1 := flt_neg (k := 1) (by decide) p
  unfold mayB at h
  simp only [Bool.or_eq_false_iff, decide_eq_false_iff_not] at h
  obtain ⟨h1, h2, h3⟩ := h
  have hp : rPart L E p = flt 1 p := by
    unfold rPart
    rw [if_neg h3, if_neg h2, if_neg h1]
  have hq : rProd L E p = flt 1 p := by
    unfold rProd thn
    rw [hp, if_pos f1]
  have hs : rSum L E p = flt 1 p := by
    unfold rSum thn
    rw [hq, if_pos f1]
  have ht : rTest L E p = flt 1 p := by
    unfold rTest thn
    rw [hs, if_pos f1]
  have hw : isWd L wNot p = false := by
    unfold isWd
    rw [show decide (kd L p = 1) = false from decide_eq_false h1, Bool.false_and]
  have hn : rNotN L E 6 p = flt 1 p := by
    show (if isWd L wNot p then rNotN L E 5 (nx L p) else rTest L E p) = flt 1 p
    rw [hw, ht]
    rfl
  unfold rAnd thn
  rw [hn, if_pos f1]
theorem getD_in {α : Type} {l : List α} {d : α} {n : Nat} (h : n < l.length) : l.getD n d = l[n] := by
  rw [List.getD_eq_getElem?_getD, List.getElem?_eq_getElem h]
  rfl
/-! lines -/
def wBalc : List Int := [98, 97, 108, 99, 111, 110, 121]
def wWall : List Int := [119, 97, 108, 108]
def wShip : List Int := [115, 104, 105, 112]
def wGoes : List Int := [103, 111, 101, 115]
def rNs (L : List Int) : List (Int × Int) → Nat → Int
  | [], p => rEnd L 59 p
  | q :: r, p => thn (rNum L q.1 q.2 p) (rNs L r)
def rTm (L : List Int) : Nat → Nat → Int
  | 0, p => if kd L p = 2 then flt 2 p else rEnd L 59 p
  | j + 1, p => if kd L p = 2 then thn (rNum L 0 9 p) (rTm L j) else rEnd L 59 p
def rLine (L : List Int) (nb nw : Nat) (fs ft fg : Bool) (p : Nat) : Int := if isWd L wBalc p then (if 10 ≤ nb then flt 2 p else rNs L [(1, 20), (1, 9), (0, 9), (0, 3)] (nx L p)) else if isWd L wWall p then (if 10 ≤ nw then flt 2 p else rNs L [(1, 9), (0, 20)] (nx L p)) else if isWd L wShip p then (if fs then flt 5 p else rNs L [(1, 99), (1, 9), (1, 9)] (nx L p)) else if isWd L wTimes p then (if ft then flt 5 p else thn (rNum L 0 9 (nx L p)) (rTm L 9)) else if isWd L wGoes p then (if fg then flt 5 p else thn (rOr L 6 (nx L p)) (rEnd L 59)) else flt 1 p
def b2n (b : Bool) : Nat := if b then 1 else 0
def rLns (L : List Int) : Nat → Nat → Nat → Bool → Bool → Bool → Nat → Int
  | 0, _, _, _, _, _, p => p
  | k + 1, nb, nw, fs, ft, fg, p => if kd L p = 0 then p else thn (rLine L nb nw fs ft fg p) (rLns L k (nb + b2n (isWd L wBalc p)) (nw + b2n (isWd L wWall p)) (fs || isWd L wShip p) (ft || isWd L wTimes p) (fg || isWd L wGoes p))
/-- a whole text: where it ends, or its fault -/
def rPort (L : List Int) : Int := rLns L (L.length + 2) 0 0 false false false (fw isBl L 0)
theorem rNs_mv (L : List Int) : ∀ l, mvs (rNs L l)
  | [] => rEnd_mv L 59
  | q :: r => thn_mv (rNum_mv L q.1 q.2) (rNs_mv L r)
theorem rTm_mv (L : List Int) : ∀ j, mvs (rTm L j)
  | 0 => fun p h => by
    have f2 := flt_neg (k := 2) (by decide) p
    have h : 0 ≤ (if kd L p = 2 then flt 2 p else rEnd L 59 p) := h
    show (p : Int) ≤ if kd L p = 2 then flt 2 p else rEnd L 59 p
    split at h
    next h1 => omega
    next h1 => rw [if_neg h1]; exact rEnd_mv L 59 p h
  | j + 1 => fun p h => by
    have h : 0 ≤ (if kd L p = 2 then thn (rNum L 0 9 p) (rTm L j) else rEnd L 59 p) := h
    show (p : Int) ≤ if kd L p = 2 then thn (rNum L 0 9 p) (rTm L j) else rEnd L 59 p
    split at h
    next h1 => rw [if_pos h1]; exact thn_mv (rNum_mv L 0 9) (rTm_mv L j) p h
    next h1 => rw [if_neg h1]; exact rEnd_mv L 59 p h
theorem nx_wd {L w : List Int} {p : Nat} (h : isWd L w p = true) : p < nx L p := nx_lt (wd_kd h)
theorem mv_lt {F : Nat → Int} (hF : mvs F) {p q : Nat} (hpq : p < q) (h : 0 ≤ F q) : (p : Int) < F q := by
  have := hF q h
  omega
theorem rLine_lt {L : List Int} {nb nw : Nat} {fs ft fg : Bool} {p : Nat} (h : 0 ≤ rLine L nb nw fs ft fg p) : (p : Int) < rLine L nb nw fs ft fg p := by
  have f1 := flt_neg (k := 1) (by decide) p
  have f2 := flt_neg (k := 2) (by decide) p
  have f5 := flt_neg (k := 5) (by decide) p
  unfold rLine at h ⊢
  split at h
  next h1 =>
    rw [if_pos h1]
    split at h
    next h2 => omega
    next h2 => rw [if_neg h2]; exact mv_lt (rNs_mv L _) (nx_wd h1) h
  next h1 =>
    rw [if_neg h1]
    split at h
    next h2 =>
      rw [if_pos h2]
      split at h
      next h3 => omega
      next h3 => rw [if_neg h3]; exact mv_lt (rNs_mv L _) (nx_wd h2) h
    next h2 =>
      rw [if_neg h2]
      split at h
      next h3 =>
        rw [if_pos h3]
        split at h
        next h4 => omega
        next h4 => rw [if_neg h4]; exact mv_lt (rNs_mv L _) (nx_wd h3) h
      next h3 =>
        rw [if_neg h3]
        split at h
        next h4 =>
          rw [if_pos h4]
          split at h
          next h5 => omega
          next h5 => rw [if_neg h5]; exact mv_lt (thn_mv (rNum_mv L 0 9) (rTm_mv L 9)) (nx_wd h4) h
        next h4 =>
          rw [if_neg h4]
          split at h
          next h5 =>
            rw [if_pos h5]
            split at h
            next h6 => omega
            next h6 => rw [if_neg h6]; exact mv_lt (thn_mv (rOr_mv L 6) (rEnd_mv L 59)) (nx_wd h5) h
          next h5 => omega
theorem rLns_more {L : List Int} : ∀ (k j nb nw : Nat) (fs ft fg : Bool) (p : Nat), L.length + 1 - p ≤ k → L.length + 1 - p ≤ j → rLns L k nb nw fs ft fg p = rLns L j nb nw fs ft fg p
  | 0, 0, _, _, _, _, _, _, _, _ => rfl
  | 0, j + 1, nb, nw, fs, ft, fg, p, hk, _ => by
    have h0 : kd L p = 0 := by
      by_cases h : kd L p = 0
      · exact h
      · have := kd_lt h
        omega
    show (p : Int) = if kd L p = 0 then (p : Int) else _
    rw [if_pos h0]
  | k + 1, 0, nb, nw, fs, ft, fg, p, _, hj => by
    have h0 : kd L p = 0 := by
      by_cases h : kd L p = 0
      · exact h
      · have := kd_lt h
        omega
    show (if kd L p = 0 then (p : Int) else _) = (p : Int)
    rw [if_pos h0]
  | k + 1, j + 1, nb, nw, fs, ft, fg, p, hk, hj => by
    show (if kd L p = 0 then (p : Int) else thn (rLine L nb nw fs ft fg p) (rLns L k (nb + b2n (isWd L wBalc p)) (nw + b2n (isWd L wWall p)) (fs || isWd L wShip p) (ft || isWd L wTimes p) (fg || isWd L wGoes p))) = if kd L p = 0 then (p : Int) else thn (rLine L nb nw fs ft fg p) (rLns L j (nb + b2n (isWd L wBalc p)) (nw + b2n (isWd L wWall p)) (fs || isWd L wShip p) (ft || isWd L wTimes p) (fg || isWd L wGoes p))
    by_cases h0 : kd L p = 0
    · rw [if_pos h0, if_pos h0]
    · rw [if_neg h0, if_neg h0]
      unfold thn
      split
      next => rfl
      next h1 =>
        have := rLine_lt (L := L) (nb := nb) (nw := nw) (fs := fs) (ft := ft) (fg := fg) (p := p) (by omega)
        exact rLns_more k j _ _ _ _ _ _ (by omega) (by omega)
/-- the rest of the lines -/
def rRest (L : List Int) (nb nw : Nat) (fs ft fg : Bool) (p : Nat) : Int := rLns L (L.length + 1 - p) nb nw fs ft fg p
theorem rRest_at (L : List Int) (nb nw : Nat) (fs ft fg : Bool) (p : Nat) : rRest L nb nw fs ft fg p = if kd L p = 0 then (p : Int) else thn (rLine L nb nw fs ft fg p) (rRest L (nb + b2n (isWd L wBalc p)) (nw + b2n (isWd L wWall p)) (fs || isWd L wShip p) (ft || isWd L wTimes p) (fg || isWd L wGoes p)) := by
  unfold rRest
  rw [rLns_more (L.length + 1 - p) (L.length + 1 - p + 1) nb nw fs ft fg p (Nat.le_refl _) (Nat.le_succ _)]
  show (if kd L p = 0 then (p : Int) else thn (rLine L nb nw fs ft fg p) (rLns L (L.length + 1 - p) (nb + b2n (isWd L wBalc p)) (nw + b2n (isWd L wWall p)) (fs || isWd L wShip p) (ft || isWd L wTimes p) (fg || isWd L wGoes p))) = _
  by_cases h0 : kd L p = 0
  · rw [if_pos h0, if_pos h0]
  · rw [if_neg h0, if_neg h0]
    unfold thn
    split
    next => rfl
    next h1 =>
      have := rLine_lt (L := L) (nb := nb) (nw := nw) (fs := fs) (ft := ft) (fg := fg) (p := p) (by omega)
      exact rLns_more _ _ _ _ _ _ _ _ (by omega) (Nat.le_refl _)
theorem rPort_rest (L : List Int) : rPort L = rRest L 0 0 false false false (fw isBl L 0) := rLns_more _ _ _ _ _ _ _ _ (by omega) (Nat.le_refl _)
