/-! the rim -/
section PJ
variable {T : Int} {f s : Nat → Int32} {N : Nat}
theorem rim_l (hN : 2100 ≤ N) (hR : Rel f s) (hG : Good T f) (hT : T ≤ 1000000) : ∀ (d i q n : Nat) (lf ln : Nat → Int32), i + d = 12 → LR 90 q n lf ln → q ≤ 7 * i → ∃ q' n' lf' ln', LR 90 q' n' lf' ln' ∧ (∀ (o1 : Int32 × Int32 × (Nat → Int32) × Nat) (fu : Nat), d + 1 ≤ fu → LX5_writeRim_10 o1 f fu lf (nI q) (nI i) n = some (nI q', o1.1, nI q', lf', n')) ∧ (∀ fu : Nat, d + 1 ≤ fu → LX6_writeRim_12 N s fu ln (nI q) (nI i) = some (nI q', 0, nI q', ln')) := by
  intro d
  induction d with
  | zero =>
    intro i q n lf ln hi h hq
    refine ⟨q, n, lf, ln, h, fun o1 fu hf => ?_, fun fu hf => ?_⟩
    · obtain ⟨fu, rfl⟩ : ∃ k, fu = k + 1 := ⟨fu - 1, by omega⟩
      rw [LX5_writeRim_10, if_pos (show (12 : Int32) ≤ nI i from nI_le (a := 12) (by omega) (by omega))]
      rfl
    · obtain ⟨fu, rfl⟩ : ∃ k, fu = k + 1 := ⟨fu - 1, by omega⟩
      rw [LX6_writeRim_12, if_pos (show (12 : Int32) ≤ nI i from nI_le (a := 12) (by omega) (by omega))]
  | succ d ih =>
    intro i q n lf ln hi h hq
    by_cases c : i = 0
    · subst c
      obtain ⟨k, n', lf', ln', k1, k2, k3, k4⟩ := rim1 hN hR hG hT (i := 0) (by omega) h (by omega)
      obtain ⟨q', n2, lf2, ln2, g1, g2, g3⟩ := ih 1 (q + k) n' lf' ln' (by omega) k2 (by omega)
      refine ⟨q', n2, lf2, ln2, g1, fun o1 fu hf => ?_, fun fu hf => ?_⟩
      · obtain ⟨fu, rfl⟩ : ∃ k, fu = k + 1 := ⟨fu - 1, by omega⟩
        rw [LX5_writeRim_10, if_neg (show ¬ (12 : Int32) ≤ nI 0 by decide), if_pos (show nI 0 ≤ 0 by decide), k3 o1 fu]
        exact g2 o1 fu (by omega)
      · obtain ⟨fu, rfl⟩ : ∃ k, fu = k + 1 := ⟨fu - 1, by omega⟩
        rw [LX6_writeRim_12, if_neg (show ¬ (12 : Int32) ≤ nI 0 by decide), if_pos (show nI 0 ≤ 0 by decide), lt_v, show SX6_saysIf (nI q) ln 0 32 = some (ln, nI q) from if_pos rfl, bnd_v]
        exact (k4 fu).trans (g3 fu (by omega))
    · obtain ⟨n1, lf1, ln1, a1, b1, g1⟩ := jchar h (by omega) (by omega) (x := 32) (by omega)
      obtain ⟨k, n', lf', ln', k1, k2, k3, k4⟩ := rim1 hN hR hG hT (i := i) (by omega) g1 (by omega)
      obtain ⟨q', n2, lf2, ln2, g1, g2, g3⟩ := ih (i + 1) (q + 1 + k) n' lf' ln' (by omega) k2 (by omega)
      refine ⟨q', n2, lf2, ln2, g1, fun o1 fu hf => ?_, fun fu hf => ?_⟩
      · obtain ⟨fu, rfl⟩ : ∃ k, fu = k + 1 := ⟨fu - 1, by omega⟩
        rw [LX5_writeRim_10, if_neg (show ¬ (12 : Int32) ≤ nI i from nI_ge (b := 12) (by omega) (by omega)), if_neg (show ¬ nI i ≤ 0 from nI_ge (b := i) (a := 0) (by omega) (by omega)), show SJ4_append_cf468 n lf (nI q) 32 = _ from a1, bnd_v]
        exact (k3 o1 fu).trans (g2 o1 fu (by omega))
      · obtain ⟨fu, rfl⟩ : ∃ k, fu = k + 1 := ⟨fu - 1, by omega⟩
        have e : SX6_saysIf (nI q) ln 1 32 = some (ln1, nI (q + 1)) := by
          unfold SX6_saysIf
          rw [if_neg (by decide), show SX6_says (nI q) ln 32 = _ from b1, bnd_v]
        rw [LX6_writeRim_12, if_neg (show ¬ (12 : Int32) ≤ nI i from nI_ge (b := 12) (by omega) (by omega)), if_neg (show ¬ nI i ≤ 0 from nI_ge (b := i) (a := 0) (by omega) (by omega)), lt_v, e, bnd_v]
        exact (k4 fu).trans (g3 fu (by omega))
end PJ
