/-! the two fractions -/
section PF
variable {f s : Nat → Int32} {wd : Nat → UInt64} {N : Nat}
theorem mean_ok : ∀ k : Nat, k < 1561 → vf_n64 (FP.ddiv (FP.i2d (nI k)) 4622945017495814144) ∧ Op.cmpValue (FP.dcmp (FP.ddiv (FP.i2d (nI k)) 4622945017495814144) (FP.ddiv (FP.i2d (nI k)) 4622945017495814144)) .l = 0 := by
  unfold vf_n64
  decide +kernel
theorem share_ok : ∀ m : Nat, m < 6 → ∀ a : Nat, a < 6 → 1 ≤ m → vf_n32 (FP.fdiv (FP.i2f (nI a)) (FP.i2f (nI m))) ∧ vf_n64 (FP.f2d (FP.fdiv (FP.i2f (nI a)) (FP.i2f (nI m)))) ∧ Op.cmpValue (FP.dcmp (FP.f2d (FP.fdiv (FP.i2f (nI a)) (FP.i2f (nI m)))) (FP.f2d (FP.fdiv (FP.i2f (nI a)) (FP.i2f (nI m))))) .l = 0 := by
  unfold vf_n64 vf_n32
  decide +kernel
def lsum (f : Nat → Int32) : Nat → Nat → Nat
  | 0, _ => 0
  | d + 1, i => LV f i + lsum f d (i + 1)
theorem mean_lc (hG : TG f) (h1 : 0 ≤ q f 1 ∧ q f 1 ≤ 40) (hN : 6 ≤ N) : ∀ (d i fu acc : Nat), i + d = 12 → d + 1 ≤ fu → acc ≤ 130 * i → ∃ z, z ≤ 1560 ∧ LX5_meanLevel_4 N f fu (nI acc) (nI i) = some (FP.ddiv (FP.i2d (nI z)) 4622945017495814144) ∧ z = acc + lsum f d i := by
  intro d
  induction d with
  | zero =>
    intro i fu acc hi hf ha
    obtain ⟨fu, rfl⟩ : ∃ k, fu = k + 1 := ⟨fu - 1, by omega⟩
    refine ⟨acc, by omega, ?_, rfl⟩
    rw [LX5_meanLevel_4, if_pos (show (12 : Int32) ≤ nI i from nI_le (a := 12) (by omega) (by omega)), gd_p (mean_ok acc (by omega)).1]
  | succ d ih =>
    intro i fu acc hi hf ha
    obtain ⟨fu, rfl⟩ : ∃ k, fu = k + 1 := ⟨fu - 1, by omega⟩
    have hl := LV_b hG h1 (p := i) (by omega)
    obtain ⟨z, z1, z2, z3⟩ := ih (i + 1) fu (acc + LV f i) (by omega) (by omega) (by omega)
    refine ⟨z, z1, ?_, by simp only [lsum]; omega⟩
    rw [LX5_meanLevel_4, if_neg (show ¬ (12 : Int32) ≤ nI i from nI_ge (b := 12) (by omega) (by omega)), level_c hG h1 (by omega) hN, bnd_v, nI_add, nI_1, z2]
theorem mean_ls (hR : Rel f s) (hG : TG f) (h1 : 0 ≤ q f 1 ∧ q f 1 ≤ 40) (hN : 6 ≤ N) : ∀ (d i fu acc : Nat), i + d = 12 → d + 1 ≤ fu → acc ≤ 130 * i → LX6_meanLevel_9 N s fu (nI acc) (nI i) = some (FP.ddiv (FP.i2d (nI (acc + lsum f d i))) 4622945017495814144, 0) := by
  intro d
  induction d with
  | zero =>
    intro i fu acc hi hf ha
    obtain ⟨fu, rfl⟩ : ∃ k, fu = k + 1 := ⟨fu - 1, by omega⟩
    rw [LX6_meanLevel_9, if_pos (show (12 : Int32) ≤ nI i from nI_le (a := 12) (by omega) (by omega)), gd_p (mean_ok acc (by omega)).1]
    rfl
  | succ d ih =>
    intro i fu acc hi hf ha
    obtain ⟨fu, rfl⟩ : ∃ k, fu = k + 1 := ⟨fu - 1, by omega⟩
    have hl := LV_b hG h1 (p := i) (by omega)
    rw [LX6_meanLevel_9, if_neg (show ¬ (12 : Int32) ≤ nI i from nI_ge (b := 12) (by omega) (by omega)), level_s hR hG h1 (by omega) hN, bnd_v, nI_add, nI_1, ih (i + 1) fu _ (by omega) (by omega) (by omega)]
    simp only [lsum, Nat.add_assoc]
def shn (f : Nat → Int32) : Nat → Nat → Nat
  | 0, _ => 0
  | d + 1, i => (if sh f (pl f i 0) then 1 else 0) + shn f d (i + 1)
theorem share_lc (hG : TG f) (hm : 1 ≤ mo f) : ∀ (d i fu acc : Nat), i + d = mo f → d + 1 ≤ fu → acc ≤ i → ∃ z, z ≤ mo f ∧ LX5_eclipsedShare_27 f fu (nI acc) (nI i) = some (0, FP.fdiv (FP.i2f (nI z)) (FP.i2f (nI (mo f)))) ∧ z = acc + shn f d i := by
  have h5 := hG.mo5
  intro d
  induction d with
  | zero =>
    intro i fu acc hi hf ha
    obtain ⟨fu, rfl⟩ : ∃ k, fu = k + 1 := ⟨fu - 1, by omega⟩
    refine ⟨acc, by omega, ?_, rfl⟩
    rw [LX5_eclipsedShare_27, moons_v, hG.f6, if_pos (nI_le (by omega) (by omega)), gd_p (share_ok (mo f) (by omega) acc (by omega) hm).1]
  | succ d ih =>
    intro i fu acc hi hf ha
    obtain ⟨fu, rfl⟩ : ∃ k, fu = k + 1 := ⟨fu - 1, by omega⟩
    have hp : SX4_placeAfter f (nI i) 0 = _ := pl_c hG.1 (Int.le_refl _) (hG.2.2.2 i (by omega)) (by omega) (m := 0) (by omega)
    obtain ⟨z, z1, z2, z3⟩ := ih (i + 1) fu (acc + if sh f (pl f i 0) then 1 else 0) (by omega) (by omega) (by split <;> omega)
    refine ⟨z, z1, ?_, by simp only [shn]; omega⟩
    rw [LX5_eclipsedShare_27, moons_v, hG.f6, if_neg (nI_ge (by omega) (by omega)), hp, ecl_c hG.2.1 (pl_lt f i 0), nI_1, lt_v]
    by_cases c : sh f (pl f i 0) = true
    · rw [if_pos c] at z2
      rw [if_pos c, if_neg (by decide), nI_1, z2]
    · rw [if_neg c] at z2
      rw [if_neg c, if_pos rfl, nI_1]
      exact z2
theorem share_ls (hR : Rel f s) (hG : TG f) (hm : 1 ≤ mo f) : ∀ (d i fu acc : Nat), i + d = mo f → d + 1 ≤ fu → acc ≤ i → LX6_eclipsedShare_24 s 0 fu (nI acc) (nI i) = some (FP.fdiv (FP.i2f (nI (acc + shn f d i))) (FP.i2f (nI (mo f))), 0) := by
  have h5 := hG.mo5
  intro d
  induction d with
  | zero =>
    intro i fu acc hi hf ha
    obtain ⟨fu, rfl⟩ : ∃ k, fu = k + 1 := ⟨fu - 1, by omega⟩
    rw [LX6_eclipsedShare_24, hR.r0, hG.f6, if_pos (nI_le (by omega) (by omega)), if_pos (by decide), gd_p (share_ok (mo f) (by omega) acc (by omega) hm).1]
    rfl
  | succ d ih =>
    intro i fu acc hi hf ha
    obtain ⟨fu, rfl⟩ : ∃ k, fu = k + 1 := ⟨fu - 1, by omega⟩
    have hp : SX6_isShaded s (nI i) 0 = _ := shade_s hR hG (j := i) (by omega) (m := 0) (by omega)
    rw [LX6_eclipsedShare_24, hR.r0, hG.f6, if_neg (nI_ge (by omega) (by omega)), hp, bnd_v, lt_v, nI_1]
    simp only [shn]
    by_cases c : sh f (pl f i 0) = true
    · rw [if_pos c, if_pos c, if_neg (by decide), nI_1, ih (i + 1) fu _ (by omega) (by omega) (by omega), Nat.add_assoc]
    · rw [if_neg c, if_neg c, if_pos rfl, add0, ih (i + 1) fu _ (by omega) (by omega) (by omega), Nat.zero_add]
end PF
