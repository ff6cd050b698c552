/-! a text is carried out -/
section PE
variable {N : Nat}
theorem exe_l (hN : 2100 ≤ N) {k : Nat} (hk : k ≤ 13) {g1 cd b pp g tf B : Nat → Int32} {n : Nat} {p' u3' v1 v2 v5 u8 u9 v13 v14 ml' : Int32} (hce : ∀ j, j < k → CE g1 cd j) : ∀ (d x : Nat) (T : Int) (f s : Nat → Int32), x + d = k → T + 60 * d ≤ 900000 → Rel f s → Good T f → (∃ f' s', Rel f' s' ∧ Good (T + 60 * d) f' ∧ (∀ fu, d + 1 ≤ fu → LX5_execute_61 N (1, nI k, p', u3', g1) v1 v2 g B u8 u9 (ml', 0, tf, n) fu f (nI x) = bnd (SX1_keep N v1 v2 g B) (fun o10 : (Nat → Int32) × Int32 × Int32 => some ((0, nI k, u8, u9, f', o10.2.1, o10.2.2, o10.1, nI k, p', u3', ml', 0, tf, n, g1, B)))) ∧ (∀ fu, d + 1 ≤ fu → LX6_execute_126 N (p', 0, nI k, cd) v5 (b, 0) pp 0 v13 v14 fu s 0 (nI x) = bnd (SX6_ends v5 0 s' b pp (nI k)) (fun o20 : Int32 × (Nat → Int32) × (Nat → Int32) × Int32 => some ((o20.1, o20.2.2.2, 0, 0, p', 0, v13, v14, nI k, o20.2.1, b, o20.2.2.1, cd))))) ∨ (∃ j F s', j < k ∧ (∀ fu, d + 1 ≤ fu → LX5_execute_61 N (1, nI k, p', u3', g1) v1 v2 g B u8 u9 (ml', 0, tf, n) fu f (nI x) = some ((2, 0, u8, nI j, va_cpy B F 0 0 61, v1, v2, g, nI k, p', u3', ml', 0, tf, n, g1, B))) ∧ (∀ fu, d + 1 ≤ fu → LX6_execute_126 N (p', 0, nI k, cd) v5 (b, 0) pp 0 v13 v14 fu s 0 (nI x) = some ((0, v5, 2, 0, p', 0, v13, nI j, nI k, va_cpy b s' 0 0 60, b, pp, cd)))) := by
  intro d
  induction d with
  | zero =>
    intro x T f s hx hT hR hG
    refine Or.inl ⟨f, s, hR, hG.mono (by omega), fun fu hf => ?_, fun fu hf => ?_⟩
    · obtain ⟨fu, rfl⟩ : ∃ k, fu = k + 1 := ⟨fu - 1, by omega⟩
      rw [LX5_execute_61]
      exact if_pos (show nI k ≤ nI x from nI_le (by omega) (by omega))
    · obtain ⟨fu, rfl⟩ : ∃ k, fu = k + 1 := ⟨fu - 1, by omega⟩
      rw [LX6_execute_126]
      exact if_pos (show nI k ≤ nI x from nI_le (by omega) (by omega))
  | succ d ih =>
    intro x T f s hx hT hR hG
    obtain ⟨w, hw, c1, c2, c3⟩ := hce x (by omega)
    have hn := (nums_3 w hw).1
    have a0 : SX3_commandAt g1 (nI x) = nI w := by
      unfold SX3_commandAt
      rw [show nI x * 4 = nI (x * 4) from nI_mul x 4, Nat.mul_comm, at_n g1 (by omega) (by omega), c1]
    have ai : ∀ i, i < 3 → SX3_numberAt g1 (nI x) (nI i) = g1 (4 * x + 1 + i) := fun i hi => by
      unfold SX3_numberAt
      rw [show nI x * 4 = nI (x * 4) from nI_mul x 4, show nI (x * 4) + 1 = nI (x * 4 + 1) from nI_1 _, nI_add, Nat.mul_comm x 4, at_n g1 (by omega) (by omega)]
    have a1 : SX3_numberAt g1 (nI x) 0 = g1 (4 * x + 1) := ai 0 (by omega)
    have a2 : SX3_numberAt g1 (nI x) 1 = g1 (4 * x + 2) := ai 1 (by omega)
    have a3 : SX3_numberAt g1 (nI x) 2 = g1 (4 * x + 3) := ai 2 (by omega)
    have co := co_all (T := T) (a := g1 (4 * x + 1)) (b := g1 (4 * x + 2)) (c := g1 (4 * x + 3)) hN hR hG (by omega) (j := x) (cd := cd) (by omega) hw c2 (fun h => (c3 0 (by omega)).symm) (fun h => (c3 1 (by omega)).symm) (fun h => (c3 2 (by omega)).symm)
    have hnk : ¬ nI k ≤ nI x := nI_ge (by omega) (by omega)
    have hL : ∀ fu, LX5_execute_61 N (1, nI k, p', u3', g1) v1 v2 g B u8 u9 (ml', 0, tf, n) (fu + 1) f (nI x) = bnd (SX4_allows N f (nI w) (g1 (4 * x + 1)) (g1 (4 * x + 2)) (g1 (4 * x + 3))) (fun o21 : Int32 => if o21 = 0 then (bnd (SX2_copy N 61 f 61 B 0 0 61) (fun o26 : Nat → Int32 => some ((2, 0, u8, nI x, o26, v1, v2, g, nI k, p', u3', ml', 0, tf, n, g1, B)))) else (bnd (SX4_obey N f (nI w) (g1 (4 * x + 1)) (g1 (4 * x + 2)) (g1 (4 * x + 3))) (fun o24 : Nat → Int32 => LX5_execute_61 N (1, nI k, p', u3', g1) v1 v2 g B u8 u9 (ml', 0, tf, n) fu o24 (nI (x + 1))))) := fun fu => by
      rw [LX5_execute_61]
      refine (if_neg (show ¬ SX3_commands (nI k) ≤ nI x from hnk)).trans ?_
      dsimp only
      rw [a0, a1, a2, a3, lt_v, lt_v, lt_v, lt_v, nI_1]
    have hM : ∀ fu, LX6_execute_126 N (p', 0, nI k, cd) v5 (b, 0) pp 0 v13 v14 (fu + 1) s 0 (nI x) = bnd (SX6_does N 0 s cd (nI x)) (fun o22 : Int32 × (Nat → Int32) => if o22.1 ≤ 0 then (LX6_execute_126 N (p', 0, nI k, cd) v5 (b, 0) pp 0 v13 v14 fu o22.2 o22.1 (nI (x + 1))) else (lt_ (SX6_fails 2) (fun o25 : Int32 × Int32 => bnd (SX6_ends v5 o25.2 o22.2 b pp o25.1) (fun o27 : Int32 × (Nat → Int32) × (Nat → Int32) × Int32 => some ((o27.1, o27.2.2.2, o25.2, 0, p', 0, v13, nI x, nI k, o27.2.1, b, o27.2.2.1, cd)))))) := fun fu => by
      rw [LX6_execute_126]
      refine (if_neg hnk).trans ?_
      dsimp only
      rw [nI_1]
    rcases co with ⟨k1, kk, s', k2, k3⟩ | ⟨k1, f', s', k2, k3, k4, k5⟩
    · refine Or.inr ⟨x, f, s', by omega, fun fu hf => ?_, fun fu hf => ?_⟩
      · obtain ⟨fu, rfl⟩ : ∃ k, fu = k + 1 := ⟨fu - 1, by omega⟩
        rw [hL, k1, bnd_v, if_pos rfl, copy61 hN, bnd_v]
      · obtain ⟨fu, rfl⟩ : ∃ k, fu = k + 1 := ⟨fu - 1, by omega⟩
        rw [hM, k2, bnd_v, if_neg k3]
        rw [show SX6_fails 2 = (0, 2) from rfl, lt_v]
        dsimp only
        rw [ends_x two_x, bnd_v]
    · rcases ih (x + 1) (T + 60) f' s' (by omega) (by omega) k4 k5 with ⟨f2, s2, r1, r2, r3, r4⟩ | ⟨j, F, s2, r1, r2, r3⟩
      · refine Or.inl ⟨f2, s2, r1, r2.mono (by omega), fun fu hf => ?_, fun fu hf => ?_⟩
        · obtain ⟨fu, rfl⟩ : ∃ k, fu = k + 1 := ⟨fu - 1, by omega⟩
          rw [hL, k1, bnd_v, if_neg (by decide), k2, bnd_v]
          exact r3 fu (by omega)
        · obtain ⟨fu, rfl⟩ : ∃ k, fu = k + 1 := ⟨fu - 1, by omega⟩
          rw [hM, k3, bnd_v, if_pos (show (0 : Int32) ≤ 0 by decide)]
          exact r4 fu (by omega)
      · refine Or.inr ⟨j, F, s2, r1, fun fu hf => ?_, fun fu hf => ?_⟩
        · obtain ⟨fu, rfl⟩ : ∃ k, fu = k + 1 := ⟨fu - 1, by omega⟩
          rw [hL, k1, bnd_v, if_neg (by decide), k2, bnd_v]
          exact r2 fu (by omega)
        · obtain ⟨fu, rfl⟩ : ∃ k, fu = k + 1 := ⟨fu - 1, by omega⟩
          rw [hM, k3, bnd_v, if_pos (show (0 : Int32) ≤ 0 by decide)]
          exact r3 fu (by omega)
end PE
