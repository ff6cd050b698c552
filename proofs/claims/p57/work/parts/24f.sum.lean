/-! ===== the law's pure part: the sum; the states that were kept ===== -/
section LF
variable {T : Int} {f f' : Nat → Int32} {N : Nat}
theorem at_cg (h : ∀ i, i < 61 → f' i = f i) : SX2_at 61 f' = SX2_at 61 f := by
  funext x
  unfold SX2_at
  by_cases c : x < 0
  · rw [if_pos c, if_pos c]
  · obtain ⟨p, hp, rfl⟩ := nI_of c
    rw [if_neg c, if_neg c]
    by_cases d : p < 61
    · have hl : nI p < nI 61 := nI_lt (by omega) (by omega)
      rw [if_pos hl, if_pos hl, nI_clamp hp, h p d]
    · have hl : ¬ nI p < nI 61 := nI_nlt (by omega) (by omega)
      rw [if_neg hl, if_neg hl]
theorem sum_cg (h : ∀ i, i < 61 → f' i = f i) : SL_sum f' = SL_sum f := by
  have e := at_cg h
  have c0 : SX5_moonCount f' = SX5_moonCount f := by
    delta SX5_moonCount SX4_moons
    rw [e]
  have c00 : SX5_towelCount f' = SX5_towelCount f := by
    delta SX5_towelCount SX4_towels
    rw [e]
  have c1 : SX5_ageOf f' = SX5_ageOf f := by
    funext x
    delta SX5_ageOf SX5_requireMoon SX4_isMoon SX4_moons SX4_ageNow
    rw [e]
  have c2 : SX5_positionOf f' = SX5_positionOf f := by
    funext x
    delta SX5_positionOf SX5_requireMoon SX4_isMoon SX4_moons SX4_ageNow SX4_placeAfter SX4_periodOf
    rw [e]
  have c3 : SX5_massOf f' = SX5_massOf f := by
    funext x
    delta SX5_massOf SX5_requireMoon SX4_isMoon SX4_moons SX4_ageNow SX4_massAfter SX4_kindOf SX4_firstMassOf
    rw [e]
  have c4 : SX5_isHard f' = SX5_isHard f := by
    funext x
    delta SX5_isHard SX5_requireMoon SX4_isMoon SX4_moons SX4_kindOf
    rw [e]
  have c5 : SX5_isSoft f' = SX5_isSoft f := by
    funext x
    delta SX5_isSoft SX5_requireMoon SX4_isMoon SX4_moons SX4_kindOf
    rw [e]
  have c6 : SX5_shoreOf f' = SX5_shoreOf f := by
    funext x
    delta SX5_shoreOf SX5_requireTowel SX4_isTowel SX4_towels SX4_ofTowel
    rw [e]
  have c7 : SX5_heightOf f' = SX5_heightOf f := by
    funext x
    delta SX5_heightOf SX5_requireTowel SX4_isTowel SX4_towels SX4_ofTowel
    rw [e]
  have c8 : SX5_absorbedBy f' = SX5_absorbedBy f := by
    funext x
    delta SX5_absorbedBy SX5_requireTowel SX4_isTowel SX4_towels SX4_ofTowel
    rw [e]
  have c9 : SX5_floodsOf f' = SX5_floodsOf f := by
    funext x
    delta SX5_floodsOf SX5_requireTowel SX4_isTowel SX4_towels SX4_ofTowel
    rw [e]
  have c10 : SX5_hasToe f' = SX5_hasToe f := by
    funext x
    delta SX5_hasToe SX4_isToeAt
    rw [e]
  have l1 : ∀ (K : Int64 → Option Int64) (fu : Nat), LL_sum_60 K f' fu = LL_sum_60 K f fu := by
    intro K fu
    induction fu with
    | zero => funext x y; rw [LL_sum_60, LL_sum_60]
    | succ fu ih => funext x y; rw [LL_sum_60, LL_sum_60, c0, c1, c2, c3, c4, c5, ih]
  have l2 : ∀ (K : Int64 → Option Int64) (fu : Nat), LL_sum_142 K f' fu = LL_sum_142 K f fu := by
    intro K fu
    induction fu with
    | zero => funext x y; rw [LL_sum_142, LL_sum_142]
    | succ fu ih => funext x y; rw [LL_sum_142, LL_sum_142, c00, c6, c7, c8, c9, ih]
  have l3 : ∀ (K : Int64 → Option Int64) (fu : Nat), LL_sum_203 K f' fu = LL_sum_203 K f fu := by
    intro K fu
    induction fu with
    | zero => funext x y; rw [LL_sum_203, LL_sum_203]
    | succ fu ih => funext x y; rw [LL_sum_203, LL_sum_203, c10, ih]
  delta SL_sum SL_plugPosition SX5_plugPosition SX5_requirePlug SX4_isPlugged SX4_plug SX5_time SX5_baseLevel SX5_flow SX5_spilled
  rw [e, l1, l2, l3]
theorem isT (hG : Good T f) {k : Nat} (hk : k < tw f) : SX4_isTowel f (nI k) = 1 := by
  have h5 := hG.t4
  unfold SX4_isTowel
  rw [if_neg (nI_pos (by omega)), towels_v, hG.f7, if_neg (nI_ge hk (by omega))]
theorem sum_60 (hG : TG f) {K : Int64 → Option Int64} : ∀ (d i fu : Nat) (x : Int64), i + d = mo f → d + 1 ≤ fu → ∃ y, LL_sum_60 K f fu x (nI i) = K y := by
  have h5 := hG.mo5
  intro d
  induction d with
  | zero =>
    intro i fu x hi hf
    obtain ⟨fu, rfl⟩ : ∃ k, fu = k + 1 := ⟨fu - 1, by omega⟩
    exact ⟨x, by rw [LL_sum_60, mc hG, if_pos (nI_le (by omega) (by omega))]⟩
  | succ d ih =>
    intro i fu x hi hf
    obtain ⟨fu, rfl⟩ : ∃ k, fu = k + 1 := ⟨fu - 1, by omega⟩
    have hk : i < mo f := by omega
    have a1 : ∃ v, SX5_ageOf f (nI i) = (0, v) := ⟨_, by unfold SX5_ageOf; rw [rqM1 (isM hG hk)]; rfl⟩
    have a2 : ∃ v, SX5_positionOf f (nI i) = (0, v) := ⟨_, by unfold SX5_positionOf; rw [rqM1 (isM hG hk)]; rfl⟩
    have a3 : ∃ v, SX5_massOf f (nI i) = (0, v) := ⟨_, by unfold SX5_massOf; rw [rqM1 (isM hG hk)]; rfl⟩
    have a4 : ∃ v, SX5_isHard f (nI i) = (0, v) := by
      unfold SX5_isHard
      rw [rqM1 (isM hG hk), lt_v, if_pos rfl]
      by_cases c : SX4_kindOf f (nI i) = 0
      · exact ⟨1, if_pos c⟩
      · exact ⟨0, if_neg c⟩
    have a5 : ∃ v, SX5_isSoft f (nI i) = (0, v) := by
      unfold SX5_isSoft
      rw [rqM1 (isM hG hk), lt_v, if_pos rfl]
      by_cases c : SX4_kindOf f (nI i) = 1
      · exact ⟨1, if_pos c⟩
      · exact ⟨0, if_neg c⟩
    obtain ⟨v1, a1⟩ := a1
    obtain ⟨v2, a2⟩ := a2
    obtain ⟨v3, a3⟩ := a3
    obtain ⟨v4, a4⟩ := a4
    obtain ⟨v5, a5⟩ := a5
    obtain ⟨y, hy⟩ := ih (i + 1) fu (37 * x + (1000 * v1).toInt64 + (50 * v2).toInt64 + (4 * v3).toInt64 + (if v4 = 0 then (0 : Int32) else 2).toInt64 + (if v5 = 0 then (0 : Int32) else 1).toInt64) (by omega) (by omega)
    refine ⟨y, ?_⟩
    rw [LL_sum_60, mc hG, if_neg (nI_ge (by omega) (by omega)), a1, lt_v, if_pos rfl, a2, lt_v, if_pos rfl, a3, lt_v, if_pos rfl, a4, lt_v, if_pos rfl, lt_v, a5, lt_v, if_pos rfl, lt_v, nI_1]
    exact hy
theorem sum_142 (hG : Good T f) {K : Int64 → Option Int64} : ∀ (d i fu : Nat) (x : Int64), i + d = tw f → d + 1 ≤ fu → ∃ y, LL_sum_142 K f fu x (nI i) = K y := by
  have h5 := hG.t4
  have e7 : SX5_towelCount f = nI (tw f) := (towels_v f).trans hG.f7
  intro d
  induction d with
  | zero =>
    intro i fu x hi hf
    obtain ⟨fu, rfl⟩ : ∃ k, fu = k + 1 := ⟨fu - 1, by omega⟩
    exact ⟨x, by rw [LL_sum_142, e7, if_pos (nI_le (by omega) (by omega))]⟩
  | succ d ih =>
    intro i fu x hi hf
    obtain ⟨fu, rfl⟩ : ∃ k, fu = k + 1 := ⟨fu - 1, by omega⟩
    have hk : i < tw f := by omega
    have a1 : ∃ v, SX5_shoreOf f (nI i) = (0, v) := ⟨_, by unfold SX5_shoreOf; rw [rqT1 (isT hG hk)]; rfl⟩
    have a2 : ∃ v, SX5_heightOf f (nI i) = (0, v) := ⟨_, by unfold SX5_heightOf; rw [rqT1 (isT hG hk)]; rfl⟩
    have a3 : ∃ v, SX5_absorbedBy f (nI i) = (0, v) := ⟨_, by unfold SX5_absorbedBy; rw [rqT1 (isT hG hk)]; rfl⟩
    have a4 : ∃ v, SX5_floodsOf f (nI i) = (0, v) := ⟨_, by unfold SX5_floodsOf; rw [rqT1 (isT hG hk)]; rfl⟩
    obtain ⟨v1, a1⟩ := a1
    obtain ⟨v2, a2⟩ := a2
    obtain ⟨v3, a3⟩ := a3
    obtain ⟨v4, a4⟩ := a4
    obtain ⟨y, hy⟩ := ih (i + 1) fu (41 * x + (1000 * v1).toInt64 + (10 * v2).toInt64 + v3.toInt64 + (100000 * v4).toInt64) (by omega) (by omega)
    refine ⟨y, ?_⟩
    rw [LL_sum_142, e7, if_neg (nI_ge (by omega) (by omega)), a1, lt_v, if_pos rfl, a2, lt_v, if_pos rfl, a3, lt_v, if_pos rfl, a4, lt_v, if_pos rfl, nI_1]
    exact hy
theorem sum_203 {K : Int64 → Option Int64} : ∀ (d i fu : Nat) (x : Int64), i + d = 12 → d + 1 ≤ fu → ∃ y, LL_sum_203 K f fu x (nI i) = K y := by
  intro d
  induction d with
  | zero =>
    intro i fu x hi hf
    obtain ⟨fu, rfl⟩ : ∃ k, fu = k + 1 := ⟨fu - 1, by omega⟩
    exact ⟨x, by rw [LL_sum_203, if_pos (show (12 : Int32) ≤ nI i from nI_le (a := 12) (by omega) (by omega))]⟩
  | succ d ih =>
    intro i fu x hi hf
    obtain ⟨fu, rfl⟩ : ∃ k, fu = k + 1 := ⟨fu - 1, by omega⟩
    obtain ⟨v, hv⟩ : ∃ v, SX5_hasToe f (nI i) = some (0, v) := ⟨_, toe_h (by omega)⟩
    obtain ⟨y, hy⟩ := ih (i + 1) fu (43 * x + (if v = 0 then (0 : Int32) else 1).toInt64) (by omega) (by omega)
    refine ⟨y, ?_⟩
    rw [LL_sum_203, if_neg (show ¬ (12 : Int32) ≤ nI i from nI_ge (b := 12) (by omega) (by omega)), hv, bnd_v, if_pos rfl, lt_v, nI_1]
    exact hy
theorem sum_t (hG : Good T f) (hT : T ≤ 1000000) : ∃ x, SL_sum f = some x := by
  have hg := hG.tg hT
  have h5 := hg.mo5
  have h4 := hG.t4
  unfold SL_sum
  rw [plugP hg.2.1, bnd_v]
  obtain ⟨y1, e1⟩ := sum_60 hg (K := fun o7 : Int64 => LL_sum_142 (fun o29 : Int64 => LL_sum_203 (fun o44 : Int64 => some (o44)) f 14 o29 0) f 7 o7 0) (mo f) 0 7 ((31 * ((31 * ((31 * ((31 * (7 + ((SX5_time f).toInt64))) + ((SX5_baseLevel f).toInt64))) + ((SX5_flow f).toInt64))) + ((SX5_spilled f).toInt64))) + (if q f 5 < 0 then -13 else f 5).toInt64) (by omega) (by omega)
  obtain ⟨y2, e2⟩ := sum_142 hG (K := fun o29 : Int64 => LL_sum_203 (fun o44 : Int64 => some (o44)) f 14 o29 0) (tw f) 0 7 y1 (by omega) (by omega)
  obtain ⟨y3, e3⟩ := sum_203 (f := f) (K := fun o44 : Int64 => some (o44)) 12 0 14 y2 (by omega) (by omega)
  exact ⟨y3, e1.trans (e2.trans e3)⟩
/-- the last n states that were kept are S 0 to S (n - 1) -/
def HB (v1 v2 : Int32) (g : Nat → Int32) (n : Nat) (S : Nat → Nat → Int32) : Prop := ∃ p k : Nat, p < 8 ∧ k ≤ 8 ∧ v1 = nI p ∧ v2 = nI k ∧ n ≤ k ∧ ∀ j, j < n → ∀ i, i < 61 → g (61 * ((p + 8 - n + j) % 8) + i) = S j i
theorem HB.V {v1 v2 : Int32} {g : Nat → Int32} {n : Nat} {S : Nat → Nat → Int32} (h : HB v1 v2 g n S) : VR v1 v2 := by
  obtain ⟨p, k, h1, h2, h3, h4, -⟩ := h
  exact ⟨p, k, h1, h2, h3, h4⟩
theorem HB.nil {v1 v2 : Int32} {g : Nat → Int32} {S : Nat → Nat → Int32} (h : VR v1 v2) : HB v1 v2 g 0 S := by
  obtain ⟨p, k, h1, h2, h3, h4⟩ := h
  exact ⟨p, k, h1, h2, h3, h4, by omega, fun j hj => absurd hj (by omega)⟩
theorem HB.push {v1 v2 a c : Int32} {g g' B : Nat → Int32} {n : Nat} {S : Nat → Nat → Int32} (h : HB v1 v2 g n S) (hn : n ≤ 7) (hN : 2100 ≤ N) (hk : SX1_keep N v1 v2 g B = some (g', a, c)) : HB a c g' (n + 1) (fun j => if j = n then B else S j) := by
  obtain ⟨p, k, h1, h2, rfl, rfl, h5, h6⟩ := h
  rw [keep_c h1 h2 (by omega)] at hk
  cases hk
  refine ⟨(p + 1) % 8, if k = 8 then 8 else k + 1, by omega, by split <;> omega, rfl, rfl, by split <;> omega, fun j hj i hi => ?_⟩
  show _ = (if j = n then B else S j) i
  by_cases c : j = n
  · rw [show ((p + 1) % 8 + 8 - (n + 1) + j) % 8 = p by omega, cpy_in ⟨by omega, by omega⟩, if_pos c]
    congr 1
    omega
  · have hx := h6 j (by omega) i hi
    have e : ((p + 1) % 8 + 8 - (n + 1) + j) % 8 = (p + 8 - n + j) % 8 := by omega
    have e2 : (p + 8 - n + j) % 8 ≠ p := by omega
    rw [e, if_neg c]
    generalize (p + 8 - n + j) % 8 = t at hx e2 ⊢
    rw [cpy_out (by omega), hx]
theorem HB.pop {v1 v2 : Int32} {g f : Nat → Int32} {n : Nat} {S : Nat → Nat → Int32} (h : HB v1 v2 g (n + 1) S) (hN : 2100 ≤ N) : ∃ r f' a c, SL_undo N f v1 v2 g = some (r, f', a, c) ∧ ¬ r < 0 ∧ (∀ i, i < 61 → f' i = S n i) ∧ HB a c g n S := by
  obtain ⟨p, k, h1, h2, rfl, rfl, h5, h6⟩ := h
  have e0 : ¬ nI k = 0 := fun e => by have := (nI_0eq (by omega)).mp e; omega
  have e1 : irm ((nI p + 8) - 1) 8 = nI ((p + 7) % 8) := by
    rw [show (nI p + 8) - 1 = nI (p + 7) from by rw [show nI p + 8 = nI (p + 8) from nI_add p 8]; exact nI_sub (b := 1) (by omega)]
    exact nI_irm (b := 8) (by omega) (by omega) (by omega)
  have e2 : nI ((p + 7) % 8) * 61 = nI (61 * ((p + 7) % 8)) := by
    rw [show nI ((p + 7) % 8) * 61 = nI ((p + 7) % 8 * 61) from nI_mul _ 61, Nat.mul_comm]
  have e3 : nI k - 1 = nI (k - 1) := nI_sub (b := 1) (by omega)
  have ec : SX2_copy N 61 f 488 g (nI (61 * ((p + 7) % 8))) 0 61 = some (va_cpy g f (61 * ((p + 7) % 8)) 0 61) := copy_c (n := 61) (k := 488) (b := 0) (c := 61) (by omega) (by omega) g f (by omega) (by omega) (by omega)
  refine ⟨nI (k - 1), va_cpy g f (61 * ((p + 7) % 8)) 0 61, nI ((p + 7) % 8), nI (k - 1), ?_, nI_pos (by omega), fun i hi => ?_, (p + 7) % 8, k - 1, by omega, by omega, rfl, rfl, by omega, fun j hj i hi => ?_⟩
  · unfold SL_undo SX5_undo SX1_takeBack SX1_size
    rw [if_neg e0, if_neg (show ¬ nI k ≤ 0 from nI_ge (a := 0) (by omega) (by omega)), e1, e2, ec, bnd_v, bnd_v, bnd_v, if_pos rfl, e3]
  · rw [cpy_in ⟨by omega, by omega⟩, ← h6 n (by omega) i hi, show (p + 8 - (n + 1) + n) % 8 = (p + 7) % 8 by omega]
    congr 1
  · rw [← h6 j (by omega) i hi]
    congr 1
    omega
end LF
