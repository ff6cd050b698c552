/-! typing; and one command -/
section PI
variable {T : Int} {f s : Nat → Int32} {wo : Nat → Int64} {L : Nat} {xs : Nat → Int32} {x5 : Int32} {N : Nat}
def TT (n : Nat) (tf : Nat → Int32) (c v : Int32) (tx : Nat → Int32) : Prop := ∃ q, c = nI q ∧ v = nI q ∧ LR 60 q n tf tx
theorem in_lo {x lo hi : Int32} (h : x < lo) : SX6_in x lo hi = 0 := if_pos h
theorem in_hi {x lo hi : Int32} (h : hi < x) : SX6_in x lo hi = 0 := by
  unfold SX6_in
  by_cases c : x < lo
  · exact if_pos c
  · rw [if_neg c, if_pos h]
/-! one command of a text -/
def nums (w : Nat) : Nat := if w ≤ 2 then 3 else if w = 7 then 0 else if w = 8 then 2 else 1
/-- what a command asks of both sides -/
def CO (N : Nat) (T : Int) (f s : Nat → Int32) (A : Option Int32) (B : Option (Nat → Int32)) (M : Option (Int32 × (Nat → Int32))) : Prop := (A = some 0 ∧ ∃ k s', M = some (k, s') ∧ ¬ k ≤ 0) ∨ (A = some 1 ∧ ∃ f' s', B = some f' ∧ M = some (0, s') ∧ Rel f' s' ∧ Good (T + 60) f')
theorem does_w {N : Nat} {s cd : Nat → Int32} {j w : Nat} (hj : j < 15) (hw : cd (4 * j) = nI w) : (4 : Int32) * nI j = nI (4 * j) ∧ nI (4 * j) + 1 = nI (4 * j + 1) ∧ nI (4 * j) + 2 = nI (4 * j + 2) ∧ nI (4 * j) + 3 = nI (4 * j + 3) := by
  refine ⟨nI_mul 4 j, nI_add _ 1, nI_add _ 2, nI_add _ 3⟩
theorem does_0 {N : Nat} {s cd : Nat → Int32} {j : Nat} (hj : j < 15) : ∃ X, SX6_does N 0 s cd (nI j) = X (cd (4 * j)) (cd (4 * j + 1)) (cd (4 * j + 2)) (cd (4 * j + 3)) ∧ X = fun w a b c => if w = 0 then (bnd (SX6_doAdd 0 s w a b c) (fun o9 : Int32 × (Nat → Int32) × Int32 => some ((o9.2.2, o9.2.1)))) else (if w = 1 then (bnd (SX6_doAdd 0 s w a b c) (fun o14 : Int32 × (Nat → Int32) × Int32 => some ((o14.2.2, o14.2.1)))) else (if w = 2 then (bnd (SX6_doAdd 0 s w a b c) (fun o19 : Int32 × (Nat → Int32) × Int32 => some ((o19.2.2, o19.2.1)))) else (if w = 3 then (bnd (SX6_doRemoveMoon 0 s a) (fun o22 : Int32 × (Nat → Int32) × Int32 => some ((o22.2.2, o22.2.1)))) else (if w = 4 then (bnd (SX6_doPlaceToe N 0 s a) (fun o25 : Int32 × (Nat → Int32) × Int32 => some ((o25.2.2, o25.2.1)))) else (if w = 5 then (bnd (SX6_doRemoveToe N 0 s a) (fun o28 : Int32 × (Nat → Int32) × Int32 => some ((o28.2.2, o28.2.1)))) else (if w = 6 then (bnd (SX6_doInsertPlug 0 s a) (fun o31 : Int32 × (Nat → Int32) × Int32 => some ((o31.2.2, o31.2.1)))) else (if w = 7 then (some ((SX6_doPullPlug 0 s).2.2, (SX6_doPullPlug 0 s).2.1)) else (if w = 8 then (bnd (SX6_doLayTowel N 0 s a b) (fun o37 : Int32 × (Nat → Int32) × Int32 => some ((o37.2.2, o37.2.1)))) else (if w = 9 then (bnd (SX6_doWringTowel 0 s a) (fun o40 : Int32 × (Nat → Int32) × Int32 => some ((o40.2.2, o40.2.1)))) else (if w = 10 then (some ((SX6_doSetFlow 0 s a).2.2, (SX6_doSetFlow 0 s a).2.1)) else (bnd (SX6_doAdvance N 0 s a) (fun o45 : Int32 × (Nat → Int32) × Int32 => some ((o45.2.2, o45.2.1)))))))))))))) := by
  have e0 : (4 : Int32) * nI j = nI (4 * j) := nI_mul 4 j
  have e1 : nI (4 * j) + 1 = nI (4 * j + 1) := nI_add _ 1
  have e2 : nI (4 * j) + 2 = nI (4 * j + 2) := nI_add _ 2
  have e3 : nI (4 * j) + 3 = nI (4 * j + 3) := nI_add _ 3
  have g : ∀ k, k < 4 → vp_in (nI (4 * j + k)) 240 := fun k hk => vp_in_nI (by omega) (by omega)
  have c : ∀ k, k < 4 → (nI (4 * j + k)).toNatClampNeg = 4 * j + k := fun k hk => nI_clamp (by omega)
  have g0 : vp_in (nI (4 * j)) 240 := g 0 (by omega)
  have c0 : (nI (4 * j)).toNatClampNeg = 4 * j := c 0 (by omega)
  refine ⟨_, ?_, rfl⟩
  unfold SX6_does
  rw [e0, e1, e2, e3, gd_p (g 1 (by omega)), lt_v, gd_p (g 2 (by omega)), lt_v, gd_p g0, c0, c 1 (by omega), c 2 (by omega), c 3 (by omega)]
  simp only [gd_p (g 3 (by omega)), gd_p g0, lt_v]
end PI
