/-! the next order: what nextOrder does, and that the orders come as a search comes upon them -/
def kPv (f : Nat → Nat) : Nat → Nat
  | 0 => 0
  | a + 1 => if f (a + 1) < f a then kPv f a else a + 1
def kJs (f : Nat → Nat) (x : Nat) : Nat → Nat
  | 0 => 0
  | a + 1 => if f (a + 1) < x then kJs f x a else a + 1
def kRv : Nat → (Nat → Nat) → Nat → Nat → Nat → Nat
  | 0, f, _, _ => f
  | d + 1, f, lo, hi => if lo < hi then kRv d (kSw f lo hi) (lo + 1) (hi - 1) else f
def kNO (n : Nat) (f : Nat → Nat) : Nat → Nat := kRv n (kSw f (kPv f (n - 1) - 1) (kJs f (f (kPv f (n - 1) - 1)) (n - 1))) (kPv f (n - 1)) (n - 1)
def kPm (n : Nat) : Nat → List Nat → List (List Nat)
  | 0, q => [q]
  | r + 1, q => (List.range n).flatMap (fun a => if q.contains a then [] else kPm n r (q ++ [a]))
def kFn1 (q : List Nat) : Nat → Nat := fun i => q.getD i 0
def kChk (n : Nat) : List (List Nat) → Bool
  | [] => true
  | q :: t => (match t with
    | [] => kPv (kFn1 q) (n - 1) == 0
    | q2 :: _ => (kPv (kFn1 q) (n - 1) != 0) && ((List.range n).map (kNO n (kFn1 q)) == q2)) && kChk n t
theorem kChk_1 : kChk 1 (kPm 1 1 []) = true := by decide +kernel
theorem kChk_2 : kChk 2 (kPm 2 2 []) = true := by decide +kernel
theorem kChk_3 : kChk 3 (kPm 3 3 []) = true := by decide +kernel
theorem kChk_4 : kChk 4 (kPm 4 4 []) = true := by decide +kernel
theorem kChk_5 : kChk 5 (kPm 5 5 []) = true := by decide +kernel
theorem kChk_6 : kChk 6 (kPm 6 6 []) = true := by decide +kernel
