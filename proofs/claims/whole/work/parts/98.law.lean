/-! The law, over the small machine. -/
def h0 : Hp := (fun _ => 0, fun _ => 0, fun _ _ => 0, fun _ _ => none, 0, 0)
theorem law_ok (L : Nat) (xs : Nat → Int32) (hL : L ≤ 2048) : ∃ h' : Hp, Ev (L, xs) 133 0 (ent 4 [vR (some (98, 0))]) [] h0 (some (vI 1)) h' ∧ hpN h' ≤ 60000 ∧ hpS h' ≤ 8922250 := by
  sorry
