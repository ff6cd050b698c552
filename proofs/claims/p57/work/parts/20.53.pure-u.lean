/-! undo, save, restore -/
section PU
variable {T : Int} {f ss bb pp g sn sv : Nat → Int32} {v1 v2 v3 v5 u7 : Int32} {wo : Nat → Int64} {L : Nat} {xs : Nat → Int32} {x5 : Int32} {N : Nat}
def SN (T : Int) (u7 v3 : Int32) (sn sv : Nat → Int32) : Prop := u7 = v3 ∧ (u7 = 0 ∨ u7 = 1 ∧ Rel sn sv ∧ Good T sn)
theorem SN.mono {T' : Int} (h : SN T u7 v3 sn sv) (hT : T ≤ T') : SN T' u7 v3 sn sv := by
  obtain ⟨h1, h2⟩ := h
  refine ⟨h1, ?_⟩
  rcases h2 with h | ⟨h, a, b⟩
  · exact Or.inl h
  · exact Or.inr ⟨h, a, b.mono hT⟩
theorem copy61 (hN : 2100 ≤ N) (f g : Nat → Int32) : SX2_copy N 61 f 61 g 0 0 61 = some (va_cpy g f 0 0 61) := copy_c (n := 61) (k := 61) (a := 0) (b := 0) (c := 61) (by omega) (by omega) g f (by omega) (by omega) (by omega)
theorem cpy61 (f g : Nat → Int32) {i : Nat} (hi : i < 61) : va_cpy g f 0 0 61 i = g i := by
  rw [cpy_in (by omega)]
  congr 1; omega
theorem cpy60 (f g : Nat → Int32) {i : Nat} (hi : i < 60) : va_cpy g f 0 0 60 i = g i := by
  rw [cpy_in (by omega)]
  congr 1; omega
end PU
