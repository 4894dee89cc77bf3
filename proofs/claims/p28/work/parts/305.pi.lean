theorem zpiup {a p : Nat → Nat} {k x : Nat} : va_up (fun j => some (a (40 + 18 * p j))) k (some (a (40 + 18 * x))) = fun j => some (a (40 + 18 * (if j = k then x else p j))) := by
  funext j
  unfold va_up
  by_cases h : j = k
  · rw [if_pos h, if_pos h]
  · rw [if_neg h, if_neg h]
