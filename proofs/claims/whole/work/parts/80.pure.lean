/-- THE PURE CLAIM: on every script the law's weakest condition holds -/
theorem pure_law (sc : List Int32) (hL : sc.length ≤ 2563) : ∃ kc ks : Nat, kc ≤ 600000 ∧ ks ≤ 7302250 ∧ w_L_law sc (fun v _ => v = some (.int 1)) (0, fun _ => none) kc ks := by
  sorry
