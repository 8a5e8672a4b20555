/-! ===== pairs: the ways to deal, in their order ===== -/
def y_pv (l : List Nat) : Nat → Option Nat
  | 0 => none
  | p + 1 => if l.getD p 0 ≤ l.getD (p + 1) 0 then some p else y_pv l p
def y_sw (l : List Nat) (i j : Nat) : List Nat := (l.set i (l.getD j 0)).set j (l.getD i 0)
def y_fq (l : List Nat) (p : Nat) : Nat → Nat
  | 0 => 0
  | q + 1 => if l.getD p 0 ≤ l.getD (q + 1) 0 then q + 1 else y_fq l p q
def y_rv : Nat → List Nat → Nat → Nat → List Nat
  | 0, l, _, _ => l
  | f + 1, l, i, j => if j ≤ i then l else y_rv f (y_sw l i j) (i + 1) (j - 1)
def y_np (M : Nat) (l : List Nat) : Option (List Nat) := match y_pv l (M - 1) with
  | none => none
  | some p => some (y_rv 6 (y_sw l p (y_fq l p (M - 1))) (p + 1) (M - 1))
def y_vl (M : Nat) (l : List Nat) : Bool := decide (l.length = 6) && (l.all (fun x => decide (x < 6)) && (l.take M).all (fun x => decide (x < M)))
def y_ok (M : Nat) : Nat → List Nat → Bool
  | 0, _ => false
  | k + 1, l => y_vl M l && (match y_np M l with
    | none => true
    | some l2 => y_ok M k l2)
def y_sq (M : Nat) : Nat → List Nat → List (List Nat)
  | 0, _ => []
  | k + 1, l => l.take M :: (match y_np M l with
    | none => []
    | some l2 => y_sq M k l2)
def y_rw (f : Nat → List (List Nat)) : Nat → Nat → List (List Nat)
  | 0, _ => []
  | m + 1, x => f x ++ y_rw f m (x + 1)
def y_pl (M : Nat) : Nat → Nat → List Nat → List (List Nat)
  | 0, _, pre => [pre]
  | r + 1, t, pre => y_rw (fun x => if m_ti t x = true then [] else y_pl M r (t + 2 ^ x) (pre ++ [x])) M 0
def y_id : List Nat := [0, 1, 2, 3, 4, 5]
set_option maxRecDepth 100000 in
theorem y_all_ok : ∀ M, M < 7 → y_ok M 721 y_id = true := by decide +kernel
set_option maxRecDepth 100000 in
theorem y_all_eq : ∀ M, M < 7 → 1 ≤ M → (y_sq M 721 y_id == y_pl M M 0 []) = true := by decide +kernel
