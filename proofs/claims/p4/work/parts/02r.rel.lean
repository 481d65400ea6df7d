/-! ===== RELATIONS of numbers: rows of ints as one number; functions of them ===== -/
/-- a row of at most 700 bytes as one number, and back -/
def enN : List Int → Nat
  | [] => 0
  | b :: l => (b + 1).toNat + 257 * enN l
def dcN : Nat → Nat → List Int
  | 0, _ => []
  | k + 1, g => if g % 257 = 0 then [] else (((g % 257 : Nat) : Int) - 1) :: dcN k (g / 257)
/-- the last four bits of a code say how deep a reader is -/
def enc (l : List Int) : Int := ((16 * enN l : Nat) : Int)
def dc (z : Int) : List Int := dcN 700 (z.toNat / 16)
theorem dcN_en : ∀ (l : List Int) (k : Nat), l.length ≤ k → (∀ b ∈ l, 0 ≤ b ∧ b ≤ 255) → dcN k (enN l) = l
  | [], 0, _, _ => rfl
  | [], k + 1, _, _ => rfl
  | b :: l, 0, h, _ => by rw [List.length_cons] at h; omega
  | b :: l, k + 1, h, hb => by
    rw [List.length_cons] at h
    have h0 := hb b List.mem_cons_self
    have h1 : enN (b :: l) % 257 = (b + 1).toNat := by
      show ((b + 1).toNat + 257 * enN l) % 257 = _
      rw [Nat.add_mul_mod_self_left, Nat.mod_eq_of_lt (by omega)]
    have h2 : enN (b :: l) / 257 = enN l := by
      show ((b + 1).toNat + 257 * enN l) / 257 = _
      rw [Nat.add_mul_div_left _ _ (by decide), Nat.div_eq_of_lt (by omega), Nat.zero_add]
    show (if enN (b :: l) % 257 = 0 then [] else (((enN (b :: l) % 257 : Nat) : Int) - 1) :: dcN k (enN (b :: l) / 257)) = _
    rw [h1, h2, if_neg (by omega), dcN_en l k (by omega) (fun c hc => hb c (List.mem_cons_of_mem _ hc))]
    congr 1
    omega
theorem dc_enc {l : List Int} (h : l.length ≤ 700) (hb : ∀ b ∈ l, 0 ≤ b ∧ b ≤ 255) : dc (enc l) = l := by
  unfold dc enc
  rw [Int.toNat_natCast, Nat.mul_div_cancel_left _ (by decide)]
  exact dcN_en l 700 h hb
theorem enN_lt : ∀ (l : List Int), (∀ b ∈ l, 0 ≤ b ∧ b ≤ 255) → enN l < 257 ^ l.length
  | [], _ => by decide
  | b :: l, hb => by
    have h0 := hb b List.mem_cons_self
    have ih := enN_lt l (fun c hc => hb c (List.mem_cons_of_mem _ hc))
    show (b + 1).toNat + 257 * enN l < 257 ^ (l.length + 1)
    rw [Nat.pow_succ]
    omega
def wdL : List (List Int) := [wBalc, wWall, wShip, wTimes, wGoes, wNot, wAnd, wOr, [112, 111, 116, 115], [105, 114, 111, 110], [103, 111, 110, 101], [98, 101, 115, 105, 100, 101], [102, 114, 101, 101], [100, 97, 121]]
def bI (b : Bool) : Int := if b then 1 else 0
/-- a token's sort as the other reader tells it -/
def tk (L : List Int) (p : Nat) : Int := if kd L p = 3 then 4 else if kd L p ≤ 2 then kd L p else 3
/-- bounds of numbers, rows of them in a line -/
def nbL : List (Int × Int) := [(1, 20), (1, 9), (0, 9), (0, 3), (0, 20), (1, 99), (0, 9999)]
def nsL : List (List (Int × Int)) := [[(1, 20), (1, 9), (0, 9), (0, 3)], [(1, 9), (0, 20)], [(1, 99), (1, 9), (1, 9)], []]
/-- numbers behind each other, without the line's end -/
def nsN (L : List Int) : List (Int × Int) → Nat → Int
  | [], p => p
  | q :: r, p => thn (rNum L q.1 q.2 p) (nsN L r)
/-- a text and one byte more -/
def ap1 (a b : Int) : Int := enc (dc a ++ [b % 256])
/-- the functions: of a text a, a place b, a third number c -/
def FK (k : Nat) (a b c : Int) : Int := match k / 10 with
  | 0 => (match k with
    | 0 => bt (dc a) b.toNat
    | 1 => fw isBl (dc a) b.toNat
    | 2 => fw isLt (dc a) b.toNat
    | 3 => fw isDg (dc a) b.toNat
    | 4 => kd (dc a) b.toNat
    | 5 => te (dc a) b.toNat
    | 6 => nm (dc a) b.toNat
    | 7 => if c - b ≤ 4 then nvN (dc a) (c - b).toNat b.toNat else -1
    | 8 => nx (dc a) b.toNat
    | _ => bI (isVl (dc a) b.toNat))
  | 1 => bI (isWd (dc a) (wdL.getD (k % 10) []) b.toNat)
  | 2 => bI (isWd (dc a) (wdL.getD (10 + k % 10) []) b.toNat)
  | 3 => (match k with
    | 30 => -(1 + a + 8 * b)
    | 31 => a % 256
    | 32 => 10 * a
    | 33 => a + b
    | 35 => if a ≤ 100000 then a else 100000
    | 36 => tk (dc a) b.toNat
    | 37 => a / 2 ^ b.toNat
    | 38 => (a + 128) % 256 - 128
    | _ => a - b)
  | 4 => rOr (dc a) (k % 10) b.toNat
  | 5 => rAnd (dc a) (rOr (dc a) (k % 10)) b.toNat
  | 6 => rNotN (dc a) (rOr (dc a) (k % 10)) 6 b.toNat
  | 7 => rTest (dc a) (rOr (dc a) (k % 10)) b.toNat
  | 8 => rSum (dc a) (rOr (dc a) (k % 10)) b.toNat
  | 9 => rProd (dc a) (rOr (dc a) (k % 10)) b.toNat
  | 10 => rPart (dc a) (rOr (dc a) (k % 10)) b.toNat
  | 11 => rst (dc a) (spM (dc a)) (rPart (dc a) (rOr (dc a) (k % 10))) b.toNat
  | 12 => rst (dc a) (spAd (dc a)) (rProd (dc a) (rOr (dc a) (k % 10))) b.toNat
  | 13 => rst (dc a) (isWd (dc a) wAnd) (rNotN (dc a) (rOr (dc a) (k % 10)) 6) b.toNat
  | 14 => rst (dc a) (isWd (dc a) wOr) (rAnd (dc a) (rOr (dc a) (k % 10))) b.toNat
  | 15 => rNotN (dc a) (rOr (dc a) (k % 10)) c.toNat b.toNat
  | 16 => rNum (dc a) (nbL.getD (k % 10) (0, 0)).1 (nbL.getD (k % 10) (0, 0)).2 b.toNat
  | 17 => rNs (dc a) (nsL.getD (k % 10) []) b.toNat
  | 18 => rTm (dc a) 9 b.toNat
  | 19 => rPort (dc a)
  | 20 => (match k with
    | 201 => ap1 a b
    | 203 => ap1 (ap1 (ap1 (ap1 a (b / 2 ^ 24)) (b / 2 ^ 16)) (b / 2 ^ 8)) b
    | 205 => enc ((dc a).take b.toNat)
    | 206 => rNs (dc a) (nsL.getD 0 []) (nx (dc a) b.toNat)
    | 207 => rNs (dc a) (nsL.getD 1 []) (nx (dc a) b.toNat)
    | 208 => rNs (dc a) (nsL.getD 2 []) (nx (dc a) b.toNat)
    | 209 => thn (rNum (dc a) 0 9 (nx (dc a) b.toNat)) (rTm (dc a) 9)
    | _ => 0)
  | 21 => (match k with
    | 210 => thn (rOr (dc a) 6 (nx (dc a) b.toNat)) (rEnd (dc a) 59)
    | 211 => nsN (dc a) (nsL.getD 0 []) (nx (dc a) b.toNat)
    | 212 => nsN (dc a) (nsL.getD 1 []) (nx (dc a) b.toNat)
    | _ => 0)
  | 34 => rOr (dc a) (6 - (a % 16).toNat) b.toNat
  | 35 => rAnd (dc a) (rOr (dc a) (5 - (a % 16).toNat)) b.toNat
  | 36 => rNotN (dc a) (rOr (dc a) (5 - (a % 16).toNat)) 6 b.toNat
  | 37 => rTest (dc a) (rOr (dc a) (5 - (a % 16).toNat)) b.toNat
  | 38 => rSum (dc a) (rOr (dc a) (5 - (a % 16).toNat)) b.toNat
  | 39 => rProd (dc a) (rOr (dc a) (5 - (a % 16).toNat)) b.toNat
  | 40 => rPart (dc a) (rOr (dc a) (5 - (a % 16).toNat)) b.toNat
  | 41 => rst (dc a) (spM (dc a)) (rPart (dc a) (rOr (dc a) (5 - (a % 16).toNat))) b.toNat
  | 42 => rst (dc a) (spAd (dc a)) (rProd (dc a) (rOr (dc a) (5 - (a % 16).toNat))) b.toNat
  | 43 => rst (dc a) (isWd (dc a) wAnd) (rNotN (dc a) (rOr (dc a) (5 - (a % 16).toNat)) 6) b.toNat
  | 44 => rst (dc a) (isWd (dc a) wOr) (rAnd (dc a) (rOr (dc a) (5 - (a % 16).toNat))) b.toNat
  | 45 => rNotN (dc a) (rOr (dc a) (5 - (a % 16).toNat)) c.toNat b.toNat
  | _ => 0
/-- the same of a level that the code tells of -/
def eqE (q : Nat) : (Nat × Int) × (Nat × Int) := match q with
  | 0 => ((390, 0), (410, 0))
  | 1 => ((380, 0), (420, 0))
  | 2 => ((350, 0), (430, 0))
  | 3 => ((340, 0), (440, 0))
  | q => ((360, 0), (450, ((q - 5 : Nat) : Int)))
/-- two functions of one text, at two places, that are alike -/
def eqT (i : Nat) : (Nat × Int) × (Nat × Int) := match i / 10 with
  | 0 => ((90 + i % 10, 0), (110 + i % 10, 0))
  | 1 => ((80 + i % 10, 0), (120 + i % 10, 0))
  | 2 => ((50 + i % 10, 0), (130 + i % 10, 0))
  | 3 => ((41 + i % 10, 0), (140 + i % 10, 0))
  | 4 => ((1 + i % 10, 0), (1 + i % 10, 0))
  | j + 5 => if 25 ≤ j then eqE (j - 25) else ((60 + i % 10, 0), (150 + i % 10, (j : Int)))
/-- the relation k of four numbers: below 1000 the fourth is the function of the others; from 2000 on a function is a place or, the third not being 0, a fault of that kind at a place; from 3000 on two functions are alike -/
def RK (k : Nat) (a b c d : Int) : Prop := match k / 1000 with
  | 0 => d = FK k a b c
  | 1 => (match k with
    | 1000 => bt (dc a) b.toNat ≠ -1 → bt (dc a) b.toNat = d % 256
    | 1002 => 0 ≤ d ↔ isMk a = true
    | 1003 => c - b ≤ 4 → d = nvN (dc a) (c - b).toNat b.toNat ∧ 0 ≤ d ∧ d < 10 ^ (c - b).toNat
    | 1009 => rTm (dc a) 9 b.toNat = rTm (dc a) (10 - d).toNat c.toNat
    | 1005 => d = c ↔ isVl (dc a) b.toNat = false
    | 1010 => c = 2 → d = FK 6 a b 0
    | 1011 => c = 2 → FK 5 a b 0 - b ≤ 4 → d = nvN (dc a) (FK 5 a b 0 - b).toNat b.toNat ∧ 0 ≤ d ∧ d < 10 ^ (FK 5 a b 0 - b).toNat
    | 1012 => c + b ≤ d + a
    | 1014 => FK 4 a b 0 ≠ c
    | 1013 => FK 209 a b 0 = rTm (dc a) (10 - d).toNat c.toNat
    | 1030 => dc a = dc b ∧ a % 16 = c
    | 1031 => a ≤ 5 * b + c
    | 1032 => a ≤ 12 * b + c
    | _ => ∀ p : Int, 0 ≤ p → (p < d ↔ bt (dc a) p.toNat ≠ -1))
  | 2 => (c = 0 → FK (k - 2000) a b 0 = d) ∧ (c ≠ 0 → FK (k - 2000) a b 0 = -(1 + c + 8 * d))
  | 4 => rPort (dc a) = rRest (dc a) c.toNat d.toNat (decide (k % 2 = 1)) (decide (k / 2 % 2 = 1)) (decide (k / 4 % 2 = 1)) b.toNat
  | _ => FK (eqT (k - 3000)).1.1 a b (eqT (k - 3000)).1.2 = FK (eqT (k - 3000)).2.1 a c (eqT (k - 3000)).2.2
theorem FK_l {k m : Nat} (hm : m < 10) (j : Nat) (hk : k = 10 * j + m) : k / 10 = j ∧ k % 10 = m := by omega
/-! texts as codes -/
def cmx : Int := 16 * 257 ^ 701
/-- and a code that bears a depth -/
def cmz : Int := cmx + 40
theorem dcN_len : ∀ (k g : Nat), (dcN k g).length ≤ k
  | 0, _ => Nat.le_refl 0
  | k + 1, g => by
    unfold dcN
    split
    · exact Nat.zero_le _
    · rw [List.length_cons]
      have := dcN_len k (g / 257)
      omega
theorem dcN_by : ∀ (k g : Nat), ∀ b ∈ dcN k g, (0 : Int) ≤ b ∧ b ≤ 255
  | 0, _, b, hb => by cases hb
  | k + 1, g, b, hb => by
    unfold dcN at hb
    split at hb
    · cases hb
    next h0 =>
      rcases List.mem_cons.mp hb with e | hb
      · subst e
        have : g % 257 < 257 := Nat.mod_lt _ (by decide)
        omega
      · exact dcN_by k _ b hb
theorem dc_len (z : Int) : (dc z).length ≤ 700 := dcN_len _ _
theorem dc_by (z : Int) : ∀ b ∈ dc z, (0 : Int) ≤ b ∧ b ≤ 255 := dcN_by _ _
theorem enc_b1 {l : List Int} (h : l.length ≤ 701) (hb : ∀ b ∈ l, (0 : Int) ≤ b ∧ b ≤ 255) : 0 ≤ enc l ∧ enc l ≤ cmx := by
  have h1 := enN_lt l hb
  have h2 : 257 ^ l.length ≤ 257 ^ 701 := Nat.pow_le_pow_right (by decide) h
  unfold enc cmx
  have e : ((16 * 257 ^ 701 : Nat) : Int) = 16 * 257 ^ 701 := by rw [Int.natCast_mul, Int.natCast_pow]; rfl
  rw [← e]
  refine ⟨Int.natCast_nonneg _, Int.ofNat_le.mpr ?_⟩
  omega
theorem enc_b {l : List Int} (h : l.length ≤ 700) (hb : ∀ b ∈ l, (0 : Int) ≤ b ∧ b ≤ 255) : 0 ≤ enc l ∧ enc l ≤ cmx := enc_b1 (Nat.le_succ_of_le h) hb
theorem tk_by (z : Int) (n : Nat) : ∀ b ∈ (dc z).take n, (0 : Int) ≤ b ∧ b ≤ 255 := fun b hb => dc_by z b (List.mem_of_mem_take hb)
theorem tk_len (z : Int) (n : Nat) : ((dc z).take n).length ≤ 700 := by
  rw [List.length_take]
  have := dc_len z
  omega
theorem dc_take (z : Int) (n : Nat) : dc (enc ((dc z).take n)) = (dc z).take n := dc_enc (tk_len z n) (tk_by z n)
theorem ap_by (z v : Int) : ∀ b ∈ dc z ++ [v % 256], (0 : Int) ≤ b ∧ b ≤ 255 := fun b hb => by
  rcases List.mem_append.mp hb with h | h
  · exact dc_by z b h
  · rw [List.mem_singleton.mp h]
    omega
theorem dc_ap1 {z v : Int} (h : (dc z).length ≤ 699) : dc (ap1 z v) = dc z ++ [v % 256] := dc_enc (by rw [List.length_append]; show _ + 1 ≤ 700; omega) (ap_by z v)
theorem bt_in {L : List Int} {j : Nat} (h : j < L.length) : bt L j = L[j] := getD_in h
theorem bt_out {L : List Int} {j : Nat} (h : L.length ≤ j) : bt L j = -1 := by
  unfold bt
  rw [List.getD_eq_getElem?_getD, List.getElem?_eq_none h]
  rfl
theorem bt_by {z : Int} {j : Nat} (h : j < (dc z).length) : 0 ≤ bt (dc z) j ∧ bt (dc z) j ≤ 255 := by
  rw [bt_in h]
  exact dc_by z _ (List.getElem_mem h)
/-- the length that the relation 1001 tells -/
theorem ln_of {a b c d : Int} (h : RK 1001 a b c d) (hd : 0 ≤ d) : ((dc a).length : Int) = d := by
  have h : ∀ p : Int, 0 ≤ p → (p < d ↔ bt (dc a) p.toNat ≠ -1) := h
  have hl := dc_len a
  by_cases h1 : ((dc a).length : Int) < d
  · exfalso
    exact (h ((dc a).length : Int) (Int.natCast_nonneg _)).mp h1 (bt_out (by omega))
  · by_cases h2 : d < ((dc a).length : Int)
    · exfalso
      have hb := bt_by (z := a) (j := d.toNat) (by omega)
      have := (h d hd).mpr (by omega)
      omega
    · omega
theorem ln_is {a b c d : Int} (h : ((dc a).length : Int) = d) : RK 1001 a b c d := by
  show ∀ p : Int, 0 ≤ p → (p < d ↔ bt (dc a) p.toNat ≠ -1)
  intro p hp
  constructor
  · intro hlt
    have hb := bt_by (z := a) (j := p.toNat) (by omega)
    omega
  · intro hne
    by_cases hlt : p < d
    · exact hlt
    · exact absurd (bt_out (by omega)) hne
