/-! ===== the law's pure part: what each moon is ===== -/
section LC
variable {f : Nat → Int32} {N mn : Nat} {mv : Nat → Nat → Int32}
theorem share2 : ∀ m : Nat, m < 6 → ∀ a : Nat, a < 6 → 1 ≤ m → vf_n32 (FP.fdiv (FP.i2f (nI a)) (FP.i2f (nI m))) ∧ Op.cmpValue (FP.fcmp (FP.fdiv (FP.i2f (nI a)) (FP.i2f (nI m))) (FP.fdiv (FP.i2f (nI a)) (FP.i2f (nI m)))) .l = 0 := by
  unfold vf_n32
  decide +kernel
theorem mc (hG : TG f) : SX5_moonCount f = nI (mo f) := (moons_v f).trans hG.f6
theorem isM (hG : TG f) {k : Nat} (hk : k < mo f) : SX4_isMoon f (nI k) = 1 := by
  have h5 := hG.mo5
  unfold SX4_isMoon
  rw [if_neg (nI_pos (by omega)), moons_v, hG.f6, if_neg (nI_ge hk (by omega))]
theorem noM (hG : TG f) : SX4_isMoon f (nI (mo f)) = 0 := by
  have h5 := hG.mo5
  unfold SX4_isMoon
  rw [if_neg (nI_pos (by omega)), moons_v, hG.f6, if_pos (nI_le (by omega) (by omega))]
theorem noM1 : SX4_isMoon f (-1) = 0 := if_pos (by decide)
theorem lpos (hG : TG f) {k : Nat} (hk : k < mo f) : SL_positionOf f (nI k) = some (nI (pl f k 0)) := by
  have h5 := hG.mo5
  have e : SX4_placeAfter f (nI k) 0 = nI (pl f k 0) := pl_c hG.1 (Int.le_refl _) (hG.2.2.2 k hk) (by omega) (m := 0) (by omega)
  unfold SL_positionOf SX5_positionOf
  rw [rqM1 (isM hG hk), e]
  rfl
theorem lmass (hG : TG f) {k : Nat} (hk : k < mo f) : SL_massOf f (nI k) = some (nI (ma f k 0)) := by
  have h5 := hG.mo5
  have e : SX4_massAfter f (nI k) 0 = nI (ma f k 0) := ma_c hG.1 (Int.le_refl _) (hG.2.2.2 k hk) (by omega) (m := 0) (by omega)
  unfold SL_massOf SX5_massOf
  rw [rqM1 (isM hG hk), e]
  rfl
theorem lage (hG : TG f) {k : Nat} (hk : k < mo f) : SL_ageOf f (nI k) = some (f 0 - f (20 + 5 * k + 4)) := by
  have h5 := hG.mo5
  unfold SL_ageOf SX5_ageOf
  rw [rqM1 (isM hG hk), age_v f (by omega)]
  rfl
theorem lhard (hG : TG f) {k : Nat} (hk : k < mo f) : SL_isHard f (nI k) = some (if f (20 + 5 * k + 0) = 0 then 1 else 0) := by
  have h5 := hG.mo5
  unfold SL_isHard SX5_isHard
  rw [rqM1 (isM hG hk), kind_v f (by omega)]
  generalize f (20 + 5 * k + 0) = x
  by_cases c : x = 0 <;> simp [lt_v, c]
theorem lsoft (hG : TG f) {k : Nat} (hk : k < mo f) : SL_isSoft f (nI k) = some (if f (20 + 5 * k + 0) = 1 then 1 else 0) := by
  have h5 := hG.mo5
  unfold SL_isSoft SX5_isSoft
  rw [rqM1 (isM hG hk), kind_v f (by omega)]
  generalize f (20 + 5 * k + 0) = x
  by_cases c : x = 1 <;> simp [lt_v, c]
theorem lecl (hG : TG f) {k : Nat} (hk : k < mo f) : SL_isEclipsed f (nI k) = some (if sh f (pl f k 0) then 1 else 0) := by
  have h5 := hG.mo5
  have e : SX4_placeAfter f (nI k) 0 = nI (pl f k 0) := pl_c hG.1 (Int.le_refl _) (hG.2.2.2 k hk) (by omega) (m := 0) (by omega)
  unfold SL_isEclipsed SX5_isEclipsed
  rw [rqM1 (isM hG hk), e, ecl_c hG.2.1 (pl_lt f k 0), lt_v, if_pos rfl, gd_p nar_b, bnd_v, if_pos rfl]
  by_cases s : sh f (pl f k 0) = true
  · rw [if_pos s, if_neg (by decide)]
  · rw [if_neg s, if_pos rfl]
theorem moved_l (hG : TG f) (hmn : mn = mo f) (hr : ∀ k, k < mn → RW f k (mv k)) {K : Int32 → Option Unit} : ∀ (d i fu acc : Nat), i + d = mo f → d + 1 ≤ fu → acc ≤ i → LL_moved_10 K f mn mv fu (nI acc) (nI i) = K (nI (acc + shn f d i)) := by
  have h5 := hG.mo5
  intro d
  induction d with
  | zero =>
    intro i fu acc hi hf ha
    obtain ⟨fu, rfl⟩ : ∃ k, fu = k + 1 := ⟨fu - 1, by omega⟩
    rw [LL_moved_10, mc hG, if_pos (nI_le (by omega) (by omega))]
    rfl
  | succ d ih =>
    intro i fu acc hi hf ha
    obtain ⟨fu, rfl⟩ : ∃ k, fu = k + 1 := ⟨fu - 1, by omega⟩
    have hk : i < mo f := by omega
    have hc : (nI i).toNatClampNeg = i := nI_clamp (by omega)
    have hri := hr i (by omega)
    have d0 : SL_isDark f (mv i) 0 = some (if sh f (pl f i 0) then 1 else 0) := dark_l hG hk (m := 0) (by omega) hri
    have p0 : SL_placeIn f (mv i) 0 = some (nI (pl f i 0)) := place_l hG hk (m := 0) (by omega) hri
    have m0 : SL_massIn f (mv i) 0 = nI (ma f i 0) := mass_l hG hk (m := 0) (by omega) hri
    have r0 : mv i 0 = f (20 + 5 * i + 0) := hri 0 (by omega)
    have r4 : mv i 4 = f (20 + 5 * i + 4) := hri 4 (by omega)
    have t0 : SX5_time f = f 0 := at_0 f
    rw [LL_moved_10, mc hG, if_neg (nI_ge (by omega) (by omega)), gd_p (vp_in_nI (by omega) (by omega)), hc, gd_p (by omega), d0, bnd_v, lt_v, lpos hG hk, bnd_v, p0, bnd_v, if_pos rfl, lmass hG hk, bnd_v, m0, lt_v, if_pos rfl, lage hG hk, bnd_v, r4, t0, if_pos rfl, lhard hG hk, bnd_v, r0, lt_v, if_pos rfl, lsoft hG hk, bnd_v, lt_v, if_pos rfl, lecl hG hk, bnd_v]
    have e : ∀ c : Bool, (if (if (c : Prop) then (1 : Int32) else 0) = 0 then (0 : Int32) else 1) = if (c : Prop) then 1 else 0 := by decide
    rw [e, lt_v, if_pos rfl, bnd_v, if_neg (by decide)]
    have e2 : nI acc + (if (sh f (pl f i 0) : Prop) then (1 : Int32) else 0) = nI (acc + (if (sh f (pl f i 0) : Prop) then 1 else 0)) := by
      by_cases s : sh f (pl f i 0) = true
      · rw [if_pos s, if_pos s, nI_1]
      · rw [if_neg s, if_neg s]
        exact nI_add acc 0
    rw [e2, nI_1, ih (i + 1) fu _ (by omega) (by omega) (by split <;> omega)]
    show K (nI (acc + (if (sh f (pl f i 0) : Prop) then 1 else 0) + shn f d (i + 1))) = K (nI (acc + ((if (sh f (pl f i 0) : Prop) then 1 else 0) + shn f d (i + 1))))
    rw [Nat.add_assoc]
theorem moved_c (hG : TG f) (h0 : 1 ≤ mo f) (hN : 2100 ≤ N) (hmn : mn = mo f) (hr : ∀ k, k < mn → RW f k (mv k)) : SL_moved N f mn mv = some () := by
  have h5 := hG.mo5
  obtain ⟨z, hz, e1, e2⟩ := share_lc hG h0 (mo f) 0 N 0 (by omega) (by omega) (by omega)
  have hs : SX5_eclipsedShare N f = some (0, FP.fdiv (FP.i2f (nI z)) (FP.i2f (nI (mo f)))) := by
    unfold SX5_eclipsedShare
    rw [moons_v, hG.f6, if_neg (fun e => by have := (nI_0eq (by omega)).mp e; omega)]
    exact e1
  obtain ⟨k1, k2⟩ := share2 (mo f) (by omega) z (by omega) h0
  have n1 := noM hG
  unfold SL_moved
  refine (moved_l hG hmn hr (mo f) 0 7 0 (by omega) (by omega) (by omega)).trans ?_
  rw [← e2, hs, bnd_v, if_pos rfl, mc hG, gd_p k1, if_pos k2]
  simp [SL_positionOf, SX5_positionOf, SL_massOf, SX5_massOf, SL_ageOf, SX5_ageOf, SL_isHard, SX5_isHard, SL_isSoft, SX5_isSoft, SL_isEclipsed, SX5_isEclipsed, rqM0 n1, rqM0 (noM1 (f := f)), lt_v, bnd_v]
end LC
