/-! ===== the law's pure part: places, masses, tides out of the moons' rows ===== -/
section LB
variable {f : Nat → Int32} {N : Nat}
/-- a row tells a moon -/
def RW (f : Nat → Int32) (k : Nat) (rv : Nat → Int32) : Prop := ∀ i, i < 5 → rv i = f (20 + 5 * k + i)
theorem age_r (hG : TG f) {k : Nat} (hk : k < mo f) (m : Nat) : f 0 + nI m - f (20 + 5 * k + 4) = nI (ag f k + m) := by
  have hj : k < 5 := Nat.lt_of_lt_of_le hk hG.mo5
  rw [i_asc, (age_v f hj).symm.trans (age_n hG.1 (Int.le_refl _) (hG.2.2.2 k hk) hj), nI_add]
theorem place_l (hG : TG f) {k m : Nat} (hk : k < mo f) (hm : m ≤ 3000) {rv : Nat → Int32} (hr : RW f k rv) : SL_placeIn f rv (nI m) = some (nI (pl f k m)) := by
  have hg := hG.2.2.2 k hk
  obtain ⟨p1, p2, p3⟩ := pr_b hg
  obtain ⟨s1, s2⟩ := sp_b hg
  have hag := ag_le hG.1 (Int.le_refl _) hg
  have hd : (ag f k + m) / pr f k ≤ ag f k + m := Nat.div_le_self _ _
  unfold SL_placeIn SX5_time
  rw [at_0, hr 2 (by omega), hr 3 (by omega), hr 4 (by omega), age_r hG hk, p3, s2, gd_p (nI_ne0 (by omega) (by omega)), nI_div (by omega) (by omega) (by omega), lt_v, nI_add, irm12 (by omega)]
  rfl
theorem mass_l (hG : TG f) {k m : Nat} (hk : k < mo f) (hm : m ≤ 3000) {rv : Nat → Int32} (hr : RW f k rv) : SL_massIn f rv (nI m) = nI (ma f k m) := by
  have hg := hG.2.2.2 k hk
  obtain ⟨m1', m2', m3'⟩ := m1_b hg
  obtain ⟨k1, k2⟩ := kd_b hg
  have hag := ag_le hG.1 (Int.le_refl _) hg
  unfold SL_massIn SX5_time
  rw [at_0, hr 0 (by omega), hr 1 (by omega), hr 4 (by omega), age_r hG hk, lt_v, k2, m3']
  unfold ma
  by_cases c0 : kd f k = 0
  · rw [c0, if_pos (show nI 0 = 0 from rfl), if_neg (by omega), if_neg (by omega)]
  · rw [if_neg (fun e => c0 ((nI_0eq (by omega)).mp e))]
    by_cases c1 : kd f k = 1
    · rw [if_pos c1, if_pos ((nI_1eq (by omega)).mpr c1), nI_ten (by omega), sub_max (by omega) (by omega)]
    · rw [if_neg (fun e => c1 ((nI_1eq (by omega)).mp e)), if_neg c1, if_pos (show kd f k = 2 by omega), nI_par (by omega)]
      by_cases c2 : (ag f k + m) % 2 = 0
      · rw [if_pos c2, if_pos ((nI_0eq (by omega)).mpr c2)]
      · rw [if_neg c2, if_neg (fun e => c2 ((nI_0eq (by omega)).mp e)), nI_half (by omega)]
theorem plugP (h5 : -1 ≤ q f 5 ∧ q f 5 ≤ 11) : SL_plugPosition f = some (if q f 5 < 0 then -13 else f 5) := by
  have hp := plugd_c (f := f) h5.1
  unfold SL_plugPosition SX5_plugPosition SX5_requirePlug
  by_cases c : q f 5 < 0
  · rw [if_pos c] at hp
    rw [hp, if_pos c]
    rfl
  · rw [if_neg c] at hp
    rw [hp, if_neg c, plug_v]
    rfl
theorem abs6 : ∀ a, a < 12 → ∀ b, b < 12 → (iabs (nI b - nI a) = 6 ↔ (a + 6) % 12 = b) := by decide +kernel
theorem dark_l (hG : TG f) {k m : Nat} (hk : k < mo f) (hm : m ≤ 3000) {rv : Nat → Int32} (hr : RW f k rv) : SL_isDark f rv (nI m) = some (if sh f (pl f k m) then 1 else 0) := by
  have h5 := hG.2.1
  unfold SL_isDark
  rw [plugP h5, bnd_v, place_l hG hk hm hr]
  by_cases c : q f 5 < 0
  · have hs : sh f (pl f k m) = false := by
      rw [Bool.eq_false_iff]
      intro h
      have := (sh_t.mp h).1
      omega
    rw [if_pos c, if_pos (by decide), hs]
    rfl
  · have hq : f 5 = nI (q f 5).toNat := q_n (by omega)
    have hn : ¬ f 5 < 0 := fun e => c (lt0_q.mp e)
    rw [if_neg c, if_neg hn, bnd_v, hq]
    by_cases d : (pl f k m + 6) % 12 = (q f 5).toNat
    · have hs : sh f (pl f k m) = true := sh_t.mpr ⟨by omega, d⟩
      rw [if_pos ((abs6 _ (pl_lt f k m) _ (by omega)).mpr d), hs]
      rfl
    · have hs : sh f (pl f k m) = false := by
        rw [Bool.eq_false_iff]
        intro h
        exact d (sh_t.mp h).2
      rw [if_neg (fun e => d ((abs6 _ (pl_lt f k m) _ (by omega)).mp e)), hs]
      rfl
theorem absd : ∀ a, a < 12 → ∀ b, b < 12 → (if iabs (nI b - nI a) ≤ 6 then iabs (nI b - nI a) else 12 - iabs (nI b - nI a)) = nI (ds a b) := by decide +kernel
theorem tide_ll (hG : TG f) {mn p m : Nat} {mv : Nat → Nat → Int32} (hmn : mn = mo f) (hr : ∀ k, k < mn → RW f k (mv k)) (hp : p < 12) (hm : m ≤ 3000) {K : Int32 → Option Int32} : ∀ (d i fu : Nat) (acc : Int), i + d = mn → d + 1 ≤ fu → LL_tide_6 K f mn mv (nI m) (nI p) fu (iI acc) (nI i) = K (iI (acc + SU f p m i d)) := by
  have h5 := hG.mo5
  intro d
  induction d with
  | zero =>
    intro i fu acc hi hf
    obtain ⟨fu, rfl⟩ : ∃ k, fu = k + 1 := ⟨fu - 1, by omega⟩
    rw [LL_tide_6, show SX5_moonCount f = nI (mo f) from (moons_v f).trans hG.f6, if_pos (nI_le (by omega) (by omega))]
    show K (iI acc) = K (iI (acc + 0))
    rw [Int.add_zero]
  | succ d ih =>
    intro i fu acc hi hf
    obtain ⟨fu, rfl⟩ : ∃ k, fu = k + 1 := ⟨fu - 1, by omega⟩
    have hk : i < mo f := by omega
    have hc : (nI i).toNatClampNeg = i := nI_clamp (by omega)
    have hri := hr i (by omega)
    rw [LL_tide_6, show SX5_moonCount f = nI (mo f) from (moons_v f).trans hG.f6, if_neg (nI_ge (by omega) (by omega)), gd_p (vp_in_nI (by omega) (by omega)), hc, gd_p (by omega), place_l hG hk hm hri, bnd_v, absd _ (pl_lt f i m) _ hp, lt_v, dark_l hG hk hm hri, bnd_v]
    have e : (lt_ (if (if sh f (pl f i m) then (1 : Int32) else 0) = 0 then (lt_ (SL_massIn f (mv i) (nI m)) (fun o14 : Int32 => o14 * (3 - nI (ds (pl f i m) p)))) else (0)) (fun o13 : Int32 => LL_tide_6 K f mn mv (nI m) (nI p) fu (iI acc + o13) (nI i + 1))) = LL_tide_6 K f mn mv (nI m) (nI p) fu (iI (acc + pu f i m p)) (nI (i + 1)) := by
      unfold pu
      rw [nI_1]
      by_cases s : sh f (pl f i m) = true
      · rw [s, if_pos rfl, if_pos rfl, if_neg (by decide), lt_v, z_iI, iI_add]
      · rw [if_neg s, if_neg s, if_pos rfl, mass_l hG hk hm hri, lt_v, lt_v, mul3, iI_add]
    rw [e, ih (i + 1) fu _ (by omega) (by omega)]
    show K (iI (acc + pu f i m p + SU f p m (i + 1) d)) = K (iI (acc + (pu f i m p + SU f p m (i + 1) d)))
    rw [Int.add_assoc]
theorem toe_h {p : Nat} (hp : p < 12) : SX5_hasToe f (nI p) = some (0, if f (8 + p) = 1 then 1 else 0) := by
  unfold SX5_hasToe
  rw [rqP1 (pos_n hp), lt_v, if_pos rfl, toeAt_c hp, gd_p nar_b]
theorem tide_l (hG : TG f) {mn p m : Nat} {mv : Nat → Nat → Int32} (hmn : mn = mo f) (hr : ∀ k, k < mn → RW f k (mv k)) (hp : p < 12) (hm : m ≤ 3000) : SL_tide f mn mv (nI p) (nI m) = some (iI (TI f p m)) := by
  have h5 := hG.mo5
  unfold SL_tide
  have hb := SU_b hG.2.2.2 hp m (mo f) 0 (by omega)
  rw [show (0 : Int32) = iI 0 from z_iI]
  refine (tide_ll hG hmn hr hp hm mn 0 7 0 (by omega) (by omega)).trans ?_
  rw [Int.zero_add, toe_h hp, bnd_v, if_pos rfl, hmn]
  unfold TI dm
  by_cases c : q f (8 + p) = 1
  · rw [if_pos c, if_pos (n1_q.mpr c), if_neg (by decide), iI_half (by omega)]
  · rw [if_neg c, if_neg (fun e => c (n1_q.mp e))]
    exact if_pos z_iI
end LB
