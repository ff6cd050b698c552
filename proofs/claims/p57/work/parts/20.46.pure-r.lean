section PR
variable {f s : Nat → Int32} {wo : Nat → Int64} {wd : Nat → UInt64} {L : Nat} {xs : Nat → Int32} {x5 : Int32} {N : Nat}
/-! the highest shore -/
def hs (f : Nat → Int32) : Nat → Nat → Nat → Nat
  | 0, _, b => b
  | d + 1, i, b => hs f d (i + 1) (if LV f i ≤ LV f b then b else i)
theorem hs_c (hG : TG f) (h1 : 0 ≤ q f 1 ∧ q f 1 ≤ 40) (hN : 6 ≤ N) : ∀ (d i fu b : Nat), i + d = 12 → d + 1 ≤ fu → b < 12 → LX5_highestShore_4 N f fu (nI b) (nI i) = some (nI (hs f d i b)) := by
  intro d
  induction d with
  | zero =>
    intro i fu b hi hf hb
    obtain ⟨fu, rfl⟩ : ∃ k, fu = k + 1 := ⟨fu - 1, by omega⟩
    rw [LX5_highestShore_4, if_pos (show (12 : Int32) ≤ nI i from nI_le (a := 12) (by omega) (by omega))]
    rfl
  | succ d ih =>
    intro i fu b hi hf hb
    obtain ⟨fu, rfl⟩ : ∃ k, fu = k + 1 := ⟨fu - 1, by omega⟩
    have l1 := LV_b hG h1 (p := i) (by omega)
    have l2 := LV_b hG h1 (p := b) hb
    have hz : nI (LV f i) ≤ nI (LV f b) ↔ LV f i ≤ LV f b := nI_leI (by omega) (by omega)
    rw [LX5_highestShore_4, if_neg (show ¬ (12 : Int32) ≤ nI i from nI_ge (b := 12) (by omega) (by omega)), level_c hG h1 (by omega) hN, bnd_v, level_c hG h1 hb hN, bnd_v, lt_v, nI_1]
    simp only [hs]
    by_cases c : LV f i ≤ LV f b
    · rw [if_pos (hz.mpr c), if_pos c]
      exact ih (i + 1) fu b (by omega) (by omega) hb
    · rw [if_neg (fun z => c (hz.mp z)), if_neg c]
      exact ih (i + 1) fu i (by omega) (by omega) (by omega)
theorem hs_s (hR : Rel f s) (hG : TG f) (h1 : 0 ≤ q f 1 ∧ q f 1 ≤ 40) (hN : 6 ≤ N) : ∀ (d i fu b : Nat), i + d = 12 → d + 1 ≤ fu → b < 12 → LX6_highestShore_9 N s fu (nI b) (nI i) = some (nI (hs f d i b), 0) := by
  intro d
  induction d with
  | zero =>
    intro i fu b hi hf hb
    obtain ⟨fu, rfl⟩ : ∃ k, fu = k + 1 := ⟨fu - 1, by omega⟩
    rw [LX6_highestShore_9, if_pos (show (12 : Int32) ≤ nI i from nI_le (a := 12) (by omega) (by omega))]
    rfl
  | succ d ih =>
    intro i fu b hi hf hb
    obtain ⟨fu, rfl⟩ : ∃ k, fu = k + 1 := ⟨fu - 1, by omega⟩
    have l1 := LV_b hG h1 (p := i) (by omega)
    have l2 := LV_b hG h1 (p := b) hb
    have hz : nI (LV f i) ≤ nI (LV f b) ↔ LV f i ≤ LV f b := nI_leI (by omega) (by omega)
    rw [LX6_highestShore_9, if_neg (show ¬ (12 : Int32) ≤ nI i from nI_ge (b := 12) (by omega) (by omega)), level_s hR hG h1 (by omega) hN, bnd_v, level_s hR hG h1 hb hN, bnd_v, lt_v, nI_1]
    simp only [hs]
    by_cases c : LV f i ≤ LV f b
    · rw [if_pos (hz.mpr c), if_pos c]
      exact ih (i + 1) fu b (by omega) (by omega) hb
    · rw [if_neg (fun z => c (hz.mp z)), if_neg c]
      exact ih (i + 1) fu i (by omega) (by omega) (by omega)
theorem high_v (hN : 2100 ≤ N) (hG : TG f) {p : Nat} (hp : p < 12) : SX0_highest N f (nI p) = some (nI (ex f p 1 144 1 0)) := by
  unfold SX0_highest
  rw [show SX4_tideAfter N f (nI p) 0 = _ from tide_c hG hp (m := 0) (by omega) (by omega), bnd_v]
  exact high_c hG hp (by omega) 144 1 N 0 (by omega) (by omega) (by omega)
theorem low_v (hN : 2100 ≤ N) (hG : TG f) {p : Nat} (hp : p < 12) : SX0_lowest N f (nI p) = some (nI (ex f p (-1) 144 1 0)) := by
  unfold SX0_lowest
  rw [show SX4_tideAfter N f (nI p) 0 = _ from tide_c hG hp (m := 0) (by omega) (by omega), bnd_v]
  exact low_c hG hp (by omega) 144 1 N 0 (by omega) (by omega) (by omega)
theorem ext_0 (hN : 2100 ≤ N) {a v6 x2 : Int32} (h2 : SX6_isPosition a = some 0) : SX6_extreme N v6 s a x2 = some (0, 1) := by
  unfold SX6_extreme
  obtain ⟨k, rfl⟩ : ∃ k, N = k + 1 := ⟨N - 1, by omega⟩
  rw [LX6_extreme_5, if_neg (by decide), h2, bnd_v, isThere_0, bnd_v, if_pos rfl]
theorem mt_end {a b : Nat} : (∃ k, mt f a b 2001 0 = some k ∧ k ≤ 2000) ∨ mt f a b 2001 0 = none := by
  cases h : mt f a b 2001 0 with
  | none => exact Or.inr rfl
  | some k => exact Or.inl ⟨k, rfl, by have := mt_le _ _ _ h; omega⟩
theorem found_k {k : Nat} (hk : k ≤ 2000) : SX5_found (nI k) = (0, nI k) := by
  unfold SX5_found
  rw [if_neg (fun e => by
    have h2 := congrArg Int32.toInt e
    rw [nI_toInt (by omega)] at h2
    have h3 : (-1 : Int32).toInt = -1 := by decide
    omega)]
theorem found_n : SX5_found (-1) = (4, 0) := if_pos rfl
/-! errors that were stored -/
/-! the water balances, the predictions agree -/
theorem keeps_l (h7 : 0 ≤ q f 7 ∧ q f 7 ≤ 4) {W : Int32} (hb : W + absS f (tw f) = 20 + f 4) : ∀ (d i fu : Nat), i + d = tw f → d + 1 ≤ fu → LX4_keepsWater_20 f fu (W + absS f i) (nI i) = some 1 := by
  have e6 : f 7 = nI (tw f) := q_n h7.1
  have h4 : tw f ≤ 4 := by unfold tw; omega
  intro d
  induction d with
  | zero =>
    intro i fu hi hf
    obtain ⟨fu, rfl⟩ : ∃ k, fu = k + 1 := ⟨fu - 1, by omega⟩
    have e : i = tw f := by omega
    rw [LX4_keepsWater_20, towels_v, e6, if_pos (nI_le (by omega) (by omega)), at_4, e, if_pos hb.symm]
  | succ d ih =>
    intro i fu hi hf
    obtain ⟨fu, rfl⟩ : ∃ k, fu = k + 1 := ⟨fu - 1, by omega⟩
    rw [LX4_keepsWater_20, towels_v, e6, if_neg (nI_ge (by omega) (by omega)), lt_v, show SX4_ofTowel f (nI i) 2 = _ from tow_v f (show i < 4 by omega) (k := 2) (by omega), nI_1, Int32.add_assoc]
    exact ih (i + 1) fu (by omega) (by omega)
theorem keeps_v (hN : 2100 ≤ N) (h7 : 0 ≤ q f 7 ∧ q f 7 ≤ 4) (hb : f 1 + f 3 + absS f (tw f) = 20 + f 4) : SX4_keepsWater N f = some 1 := by
  have h4 : tw f ≤ 4 := by unfold tw; omega
  have h := keeps_l h7 hb (tw f) 0 N (by omega) (by omega)
  unfold SX4_keepsWater
  rw [lt_v, at_1, at_3]
  have e : f 1 + f 3 + absS f 0 = f 1 + f 3 := Int32.add_zero _
  rw [e] at h
  exact h
theorem agrees_v (hN : 2100 ≤ N) (hG : TG f) {m : Nat} (hm : m ≤ 2000) : ∀ (d i fu : Nat) (A P M : Nat → Int32), i + d = 12 → d + 1 ≤ fu → ∃ A' P' M', LX0_agreesIn_2 N f (nI m) fu A P M (nI i) = some (1, A', P', M') := by
  intro d
  induction d with
  | zero =>
    intro i fu A P M hi hf
    obtain ⟨fu, rfl⟩ : ∃ k, fu = k + 1 := ⟨fu - 1, by omega⟩
    exact ⟨A, P, M, by rw [LX0_agreesIn_2, if_pos (show (12 : Int32) ≤ nI i from nI_le (a := 12) (by omega) (by omega))]⟩
  | succ d ih =>
    intro i fu A P M hi hf
    obtain ⟨fu, rfl⟩ : ∃ k, fu = k + 1 := ⟨fu - 1, by omega⟩
    obtain ⟨A1, P1, M1, e1⟩ := steps_c hG (p := i) (by omega) (m := m) hm (N := N) (by omega) A P M
    obtain ⟨A2, P2, M2, e2⟩ := ih (i + 1) fu A1 P1 M1 (by omega) (by omega)
    refine ⟨A2, P2, M2, ?_⟩
    rw [LX0_agreesIn_2, if_neg (show ¬ (12 : Int32) ≤ nI i from nI_ge (b := 12) (by omega) (by omega)), tide_c hG (by omega) (by omega) (by omega), bnd_v, e1, bnd_v, if_pos rfl, nI_1]
    exact e2
end PR
