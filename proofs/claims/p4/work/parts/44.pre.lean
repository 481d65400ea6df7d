/-! ===== THE LAW, 12: the run up to its loop ===== -/
/-! the run up to there -/
def lX : eQ → eS → eR := ex (inl kLw) mtF npF ciF dfF 7 601024 7293034 none (fun _ _ => none)
def S0L : eS := (0, [(0, (5, 0, 0, 0))], [], ([(0, 3072)], []), [], 0, 0)
def pre12 : Option eS := match run ft_L 12 lX 400 [S0L] [] with
  | some [(0, S)] => some S
  | _ => none
def pre15 (S : eS) : Option eS := bif Nat.beq S.1 12 then (match x_call (mdlR 4000) 1 (mtF 165).2.2.2.2.2.1 (mtF 165).2.2.2.2.2.2 601024 7293034 (fun _ _ => none) okI9 S with
  | some [(0, S')] => some S'
  | _ => none) else none
def pre23 (S : eS) : Option eS := match run ft_L 23 lX 400 [S] [] with
  | some [(0, S')] => some S'
  | _ => none
def is9 : List Nat := [0, 1, 2, 3, 4, 5, 6, 7, 8, 9, 10, 11, 12, 13, 14, 15, 16, 17, 18, 19, 20, 21, 22, 23, 24, 25, 26, 27, 34, 35, 36, 28, 29, 30, 31, 32, 33, 37, 44, 45, 46, 38, 39, 40, 41, 42, 43, 47, 48, 49, 50, 51, 52, 53, 54, 55, 56, 57, 58, 59, 61, 62, 63, 64, 65, 66, 67, 68, 69, 70, 71, 72, 73, 74, 75, 76, 77, 78, 79, 80, 81, 82, 83, 84, 85, 86, 87, 88, 89, 90, 91, 92, 93, 94, 95, 96]
def inv9 : List Nat := [0, 1, 2, 3, 4, 5, 6, 7, 8, 9, 10, 11, 12, 13, 14, 15, 16, 17, 18, 19, 20, 21, 22, 23, 24, 25, 26, 27, 31, 32, 33, 34, 35, 36, 28, 29, 30, 37, 41, 42, 43, 44, 45, 46, 38, 39, 40, 47, 48, 49, 50, 51, 52, 53, 54, 55, 56, 57, 58, 59, 999, 60, 61, 62, 63, 64, 65, 66, 67, 68, 69, 70, 71, 72, 73, 74, 75, 76, 77, 78, 79, 80, 81, 82, 83, 84, 85, 86, 87, 88, 89, 90, 91, 92, 93, 94, 95]
def lawPre : Bool := match pre12 with
  | some S => (match pre15 S with
    | some T => (match pre23 T with
      | some U => at23 S.2.2.2.2.1.length is9 inv9 U && (Nat.ble (U.2.2.2.2.2.1 + 25015) 601024 && Nat.ble (U.2.2.2.2.2.2 + 150090) 7293034)
      | none => false)
    | none => false)
  | none => false
set_option maxRecDepth 1000000 in
theorem lawPre_ok : lawPre = true := by decide +kernel
