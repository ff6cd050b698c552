/-! the calls that change the state, one by one -/
section PM
variable {T : Int} {f ss bb pp g : Nat → Int32} {v1 v2 v5 : Int32} {wo : Nat → Int64} {L : Nat} {xs : Nat → Int32} {x5 : Int32} {N : Nat}
theorem one_x : ¬ (1 : Int32) ≤ 0 := by decide
theorem two_x : ¬ (2 : Int32) ≤ 0 := by decide
theorem thr_x : ¬ (3 : Int32) ≤ 0 := by decide
end PM
