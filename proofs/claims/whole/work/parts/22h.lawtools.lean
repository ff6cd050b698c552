/-! the law's own body: what holds all along -/
theorem room_c {ce k C M : Nat} (h : ce + C ≤ M) (hk : k ≤ C) : ce + k ≤ M := Nat.le_trans (Nat.add_le_add_left hk ce) h
theorem iT_X5 : ∀ w ∈ wsX50, w ∈ lw_tbl := by decide +kernel
theorem iT_X6 : ∀ w ∈ wsX60, w ∈ lw_tbl := by decide +kernel
def lawC (p : Program) (l : Launch) (s : State) (m : MethodId) (args : Array Value) (c : Code) (A : Nat → Prop) (D : va_G) (cA : Nat → ClassId) (G : eG) (b L : Nat) (xs : Nat → Int32) : Prop :=
  l.stackTraces = false ∧ p.tables.exec = Jvm.exec ∧ c.code = cL_law ∧ c.maxLocals = 10 ∧ s.vm.findClass RL = some m.cls ∧ (∀ w ∈ wsL_law, w.before args s = true) ∧ va_K D vwCl (atys cA) s ∧ (∀ q : Nat, s.heap.size ≤ q → A q) ∧ eX G A s s.heap ∧ lX s ∧ va_X b L xs s s.heap ∧ b < s.heap.size ∧ ¬ A b
