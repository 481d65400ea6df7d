/-! ===== SHORT FORMS of states: what differs from the contract's beginning ===== -/
def hS : eH → List (Nat × eC) → eH
  | h, [] => h
  | h, p :: r => hS (eSet h p.1 p.2) r
def fS : List eV → List (Nat × eV) → List eV
  | l, [] => l
  | l, p :: r => fS (eSet l p.1 p.2) r
def oS (h : eH) (k : Nat) (fs : List (Nat × eV)) : eC := match eGet h k with
  | some (.inl o) => .inl (o.1, fS o.2 fs)
  | _ => .inl (0, [])
def bS : List (Int × Int) → List (Nat × Int × Int) → List (Int × Int)
  | l, [] => l
  | l, p :: r => bS (eSet l p.1 p.2) r
def nTh (n : Nat) (l : List eP) : List (Option eP) := List.replicate n none ++ l.map some
abbrev fr9 (k : Nat) : eC := .inr (3, k, eI 0, [])
