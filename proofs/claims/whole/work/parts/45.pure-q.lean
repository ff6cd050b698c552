section PQ2
variable {f s : Nat → Int32} {wo : Nat → Int64} {L : Nat} {xs : Nat → Int32} {x5 : Int32}
theorem ageIn_s (hR : Rel f s) (hG : TG f) {j : Nat} (hj : j < mo f) (m : Nat) : SX6_ageIn s (nI j) (nI m) = some (nI (ag f j + m)) := by
  have h5 := hG.mo5
  have e := age_v f (show j < 5 by omega)
  rw [age_n hG.1 (Int.le_refl _) (hG.2.2.2 j hj) (by omega)] at e
  unfold SX6_ageIn
  rw [show SX6_ofMoon s (nI j) 4 = _ from ofMoon_v hR (by omega) (k := 4) (by omega), bnd_v, hR.r2, i_asc, ← e, nI_add]
theorem nar_b {c : Prop} [Decidable c] : narrow .boolean (.int (if c then 1 else 0)) = .int (if c then 1 else 0) := by split <;> rfl
theorem toeAt_c {p : Nat} (hp : p < 12) : SX4_isToeAt f (nI p) = if f (8 + p) = 1 then 1 else 0 := by
  unfold SX4_isToeAt SX4_isPosition
  rw [if_neg (nI_pos (by omega)), if_neg (show ¬ (12 : Int32) ≤ nI p from nI_ge (b := 12) hp (by omega)), if_neg (show ¬ (1 : Int32) = 0 by decide), toe_v f hp]
theorem plugd_c (h5 : -1 ≤ q f 5) : SX4_isPlugged f = if q f 5 < 0 then 0 else 1 := by
  unfold SX4_isPlugged
  rw [plug_v]
  by_cases c : q f 5 < 0
  · rw [if_pos (m1_q.mpr (by omega)), if_pos c]
  · rw [if_neg (fun z => by have := m1_q.mp z; omega), if_neg c]
theorem p6 (hR : Rel f s) (hG : TG f) (hx : vp_in (x5 + 1) L) : ∃ r, SC6 f s wo L xs x5 = some r := by
  have h5 := hG.mo5
  unfold SC6
  rw [gd_p hx]
  generalize xs (Int32.toNatClampNeg (x5 + 1)) = a
  rcases moonn hR hG.2.2.1 a with ⟨j, hj, rfl, h1, h2⟩ | ⟨h1, h2⟩
  · have hg := hG.2.2.2 j hj
    have hp : SX4_massAfter f (nI j) 0 = _ := ma_c hG.1 (Int.le_refl _) hg (by omega) (m := 0) (by omega)
    have hs : SX6_massIn s (nI j) 0 = _ := ma_s hR hG.1 (Int.le_refl _) hg (by omega) (m := 0) (by omega)
    have hL : SL_massOf f (nI j) wo = some (0, vp_updL wo 0 (nI (ma f j 0)).toInt64) := by simp [SL_massOf, SX5_massOf, rqM1 h1, lt_v, bnd_v, hp]
    have hM : SX6_massOf s (nI j) = some (nI (ma f j 0), 0) := by simp [SX6_massOf, h2, bnd_v, isThere_1, hs]
    rw [hL, bnd_v, hM, bnd_v]
    exact ⟨_, fin_ok rfl rfl (updL_0 wo _)⟩
  · have hL : SL_massOf f a wo = some (1, wo) := by simp [SL_massOf, SX5_massOf, rqM0 h1, lt_v, bnd_v]
    have hM : SX6_massOf s a = some (0, 1) := by simp [SX6_massOf, h2, bnd_v, isThere_0]
    rw [hL, bnd_v, hM, bnd_v]
    exact ⟨_, fin_x rfl (show (1 : Int32) ≠ 0 by decide)⟩
theorem p7 (hR : Rel f s) (hG : TG f) (hx : vp_in (x5 + 1) L) : ∃ r, SC7 f s wo L xs x5 = some r := by
  have h5 := hG.mo5
  unfold SC7
  rw [gd_p hx]
  generalize xs (Int32.toNatClampNeg (x5 + 1)) = a
  rcases moonn hR hG.2.2.1 a with ⟨j, hj, rfl, h1, h2⟩ | ⟨h1, h2⟩
  · have hg := hG.2.2.2 j hj
    have hp : SX4_ageNow f (nI j) = _ := age_n hG.1 (Int.le_refl _) hg (by omega)
    have hs : SX6_ageIn s (nI j) 0 = _ := ageIn_s hR hG hj 0
    have hL : SL_ageOf f (nI j) wo = some (0, vp_updL wo 0 (nI (ag f j)).toInt64) := by simp [SL_ageOf, SX5_ageOf, rqM1 h1, lt_v, bnd_v, hp]
    have hM : SX6_ageOf s (nI j) = some (nI (ag f j), 0) := by simp [SX6_ageOf, h2, bnd_v, isThere_1, hs]
    rw [hL, bnd_v, hM, bnd_v]
    exact ⟨_, fin_ok rfl rfl (updL_0 wo _)⟩
  · have hL : SL_ageOf f a wo = some (1, wo) := by simp [SL_ageOf, SX5_ageOf, rqM0 h1, lt_v, bnd_v]
    have hM : SX6_ageOf s a = some (0, 1) := by simp [SX6_ageOf, h2, bnd_v, isThere_0]
    rw [hL, bnd_v, hM, bnd_v]
    exact ⟨_, fin_x rfl (show (1 : Int32) ≠ 0 by decide)⟩
theorem p8 (hR : Rel f s) (hG : TG f) (hx : vp_in (x5 + 1) L) : ∃ r, SC8 f s wo L xs x5 = some r := by
  have h5 := hG.mo5
  unfold SC8
  rw [gd_p hx]
  generalize xs (Int32.toNatClampNeg (x5 + 1)) = a
  rcases moonn hR hG.2.2.1 a with ⟨j, hj, rfl, h1, h2⟩ | ⟨h1, h2⟩
  · have hp : SX4_kindOf f (nI j) = _ := kind_v f (show j < 5 by omega)
    have hs : SX6_ofMoon s (nI j) 0 = _ := ofMoon_v hR (show j < 5 by omega) (k := 0) (by omega)
    by_cases c : f (20 + 5 * j + 0) = 0
    · have hL : SL_isHard f (nI j) wo = some (0, vp_updL wo 0 (if (1 : Int32) = 0 then 0 else 1)) := by
        unfold SL_isHard SX5_isHard
        rw [rqM1 h1, hp, if_pos c]
        simp [lt_v]
      have hM : SX6_isHard s (nI j) = some (1, 0) := by
        unfold SX6_isHard
        rw [h2, bnd_v, isThere_1, bnd_v, if_neg (show ¬ (1 : Int32) = 0 by decide), hs, bnd_v, if_pos c]
      rw [hL, bnd_v, hM, bnd_v]
      exact ⟨_, fin_b rfl rfl (updL_0 wo _)⟩
    · have hL : SL_isHard f (nI j) wo = some (0, vp_updL wo 0 (if (0 : Int32) = 0 then 0 else 1)) := by
        unfold SL_isHard SX5_isHard
        rw [rqM1 h1, hp, if_neg c]
        simp [lt_v]
      have hM : SX6_isHard s (nI j) = some (0, 0) := by
        unfold SX6_isHard
        rw [h2, bnd_v, isThere_1, bnd_v, if_neg (show ¬ (1 : Int32) = 0 by decide), hs, bnd_v, if_neg c]
      rw [hL, bnd_v, hM, bnd_v]
      exact ⟨_, fin_b rfl rfl (updL_0 wo _)⟩
  · have hL : SL_isHard f a wo = some (1, wo) := by simp [SL_isHard, SX5_isHard, rqM0 h1, lt_v, bnd_v]
    have hM : SX6_isHard s a = some (0, 1) := by simp [SX6_isHard, h2, bnd_v, isThere_0]
    rw [hL, bnd_v, hM, bnd_v]
    exact ⟨_, fin_bx rfl (show (1 : Int32) ≠ 0 by decide)⟩
theorem p9 (hR : Rel f s) (hG : TG f) (hx : vp_in (x5 + 1) L) : ∃ r, SC9 f s wo L xs x5 = some r := by
  have h5 := hG.mo5
  unfold SC9
  rw [gd_p hx]
  generalize xs (Int32.toNatClampNeg (x5 + 1)) = a
  rcases moonn hR hG.2.2.1 a with ⟨j, hj, rfl, h1, h2⟩ | ⟨h1, h2⟩
  · have hp : SX4_kindOf f (nI j) = _ := kind_v f (show j < 5 by omega)
    have hs : SX6_ofMoon s (nI j) 0 = _ := ofMoon_v hR (show j < 5 by omega) (k := 0) (by omega)
    by_cases c : f (20 + 5 * j + 0) = 1
    · have hL : SL_isSoft f (nI j) wo = some (0, vp_updL wo 0 (if (1 : Int32) = 0 then 0 else 1)) := by
        unfold SL_isSoft SX5_isSoft
        rw [rqM1 h1, hp, if_pos c]
        simp [lt_v]
      have hM : SX6_isSoft s (nI j) = some (1, 0) := by
        unfold SX6_isSoft
        rw [h2, bnd_v, isThere_1, bnd_v, if_neg (show ¬ (1 : Int32) = 0 by decide), hs, bnd_v, if_pos c]
      rw [hL, bnd_v, hM, bnd_v]
      exact ⟨_, fin_b rfl rfl (updL_0 wo _)⟩
    · have hL : SL_isSoft f (nI j) wo = some (0, vp_updL wo 0 (if (0 : Int32) = 0 then 0 else 1)) := by
        unfold SL_isSoft SX5_isSoft
        rw [rqM1 h1, hp, if_neg c]
        simp [lt_v]
      have hM : SX6_isSoft s (nI j) = some (0, 0) := by
        unfold SX6_isSoft
        rw [h2, bnd_v, isThere_1, bnd_v, if_neg (show ¬ (1 : Int32) = 0 by decide), hs, bnd_v, if_neg c]
      rw [hL, bnd_v, hM, bnd_v]
      exact ⟨_, fin_b rfl rfl (updL_0 wo _)⟩
  · have hL : SL_isSoft f a wo = some (1, wo) := by simp [SL_isSoft, SX5_isSoft, rqM0 h1, lt_v, bnd_v]
    have hM : SX6_isSoft s a = some (0, 1) := by simp [SX6_isSoft, h2, bnd_v, isThere_0]
    rw [hL, bnd_v, hM, bnd_v]
    exact ⟨_, fin_bx rfl (show (1 : Int32) ≠ 0 by decide)⟩
theorem p10 (hR : Rel f s) (hG : TG f) (hx : vp_in (x5 + 1) L) : ∃ r, SC10 f s wo L xs x5 = some r := by
  have h5 := hG.mo5
  unfold SC10
  rw [gd_p hx]
  generalize xs (Int32.toNatClampNeg (x5 + 1)) = a
  rcases moonn hR hG.2.2.1 a with ⟨j, hj, rfl, h1, h2⟩ | ⟨h1, h2⟩
  · have hp : SX4_placeAfter f (nI j) 0 = _ := pl_c hG.1 (Int.le_refl _) (hG.2.2.2 j hj) (by omega) (m := 0) (by omega)
    have he := ecl_c hG.2.1 (pl_lt f j 0)
    have hs : SX6_isShaded s (nI j) 0 = _ := shade_s hR hG hj (m := 0) (by omega)
    have hL : SL_isEclipsed f (nI j) wo = some (0, vp_updL wo 0 (if (if sh f (pl f j 0) = true then (1 : Int32) else 0) = 0 then 0 else 1)) := by
      unfold SL_isEclipsed SX5_isEclipsed
      rw [rqM1 h1, hp, he, gd_p nar_b]
      simp [lt_v, bnd_v]
    have hM : SX6_isEclipsed s (nI j) = some (if sh f (pl f j 0) = true then 1 else 0, 0) := by
      unfold SX6_isEclipsed
      rw [h2, bnd_v, isThere_1, bnd_v, if_neg (show ¬ (1 : Int32) = 0 by decide), hs, bnd_v]
      cases sh f (pl f j 0) <;> rfl
    rw [hL, bnd_v, hM, bnd_v]
    exact ⟨_, fin_b rfl rfl (updL_0 wo _)⟩
  · have hL : SL_isEclipsed f a wo = some (1, wo) := by simp [SL_isEclipsed, SX5_isEclipsed, rqM0 h1, lt_v, bnd_v]
    have hM : SX6_isEclipsed s a = some (0, 1) := by simp [SX6_isEclipsed, h2, bnd_v, isThere_0]
    rw [hL, bnd_v, hM, bnd_v]
    exact ⟨_, fin_bx rfl (show (1 : Int32) ≠ 0 by decide)⟩
theorem p13 (hR : Rel f s) (hx : vp_in (x5 + 1) L) : ∃ r, SC13 f s wo L xs x5 = some r := by
  unfold SC13
  rw [gd_p hx]
  generalize xs (Int32.toNatClampNeg (x5 + 1)) = a
  rcases posn a with ⟨p, hp, rfl, h1, h2⟩ | ⟨h1, h2⟩
  · have hL : SL_hasToe f (nI p) wo = some (0, vp_updL wo 0 (if (if f (8 + p) = 1 then (1 : Int32) else 0) = 0 then 0 else 1)) := by
      unfold SL_hasToe SX5_hasToe
      rw [rqP1 h1, toeAt_c hp, gd_p nar_b]
      simp [lt_v, bnd_v]
    have hM : SX6_hasToe s (nI p) = some (if f (8 + p) = 1 then 1 else 0, 0) := by
      unfold SX6_hasToe
      rw [h2, bnd_v, isThere_1, bnd_v, if_neg (show ¬ (1 : Int32) = 0 by decide), s_p, gd_p (vp_in_nI (by omega) (by omega)), nI_clamp (by omega), hR.p hp]
      split <;> rfl
    rw [hL, bnd_v, hM, bnd_v]
    exact ⟨_, fin_b rfl rfl (updL_0 wo _)⟩
  · have hL : SL_hasToe f a wo = some (1, wo) := by simp [SL_hasToe, SX5_hasToe, rqP0 h1, lt_v, bnd_v]
    have hM : SX6_hasToe s a = some (0, 1) := by simp [SX6_hasToe, h2, bnd_v, isThere_0]
    rw [hL, bnd_v, hM, bnd_v]
    exact ⟨_, fin_bx rfl (show (1 : Int32) ≠ 0 by decide)⟩
theorem p16 (hR : Rel f s) (h5 : -1 ≤ q f 5) : ∃ r, SC16 f s wo = some r := by
  unfold SC16
  by_cases c : q f 5 < 0
  · have hL : SL_plugPosition f wo = some (1, wo) := by
      unfold SL_plugPosition SX5_plugPosition SX5_requirePlug
      rw [plugd_c h5, if_pos c]
      simp [lt_v]
    have hM : SX6_plugPosition s = some (0, 1) := by
      unfold SX6_plugPosition
      rw [hR.r6, if_pos (lt0_q.mpr c), lt_v, isThere_0, bnd_v, if_pos rfl]
    rw [hL, bnd_v, hM, bnd_v]
    exact ⟨_, fin_x rfl (show (1 : Int32) ≠ 0 by decide)⟩
  · have hL : SL_plugPosition f wo = some (0, vp_updL wo 0 (f 5).toInt64) := by
      unfold SL_plugPosition SX5_plugPosition SX5_requirePlug
      rw [plugd_c h5, if_neg c, plug_v]
      simp [lt_v]
    have hM : SX6_plugPosition s = some (f 5, 0) := by
      unfold SX6_plugPosition
      rw [hR.r6, if_neg (fun z => c (lt0_q.mp z)), lt_v, isThere_1, bnd_v, if_neg (show ¬ (1 : Int32) = 0 by decide)]
    rw [hL, bnd_v, hM, bnd_v]
    exact ⟨_, fin_ok rfl rfl (updL_0 wo _)⟩
theorem p21 (hR : Rel f s) (h7 : 0 ≤ q f 7 ∧ q f 7 ≤ 4) (hx : vp_in (x5 + 1) L) : ∃ r, SC21 f s wo L xs x5 = some r := by
  unfold SC21
  rw [gd_p hx]
  generalize xs (Int32.toNatClampNeg (x5 + 1)) = a
  have h4 : tw f ≤ 4 := by unfold tw; omega
  rcases towln hR h7 a with ⟨j, hj, rfl, h1, h2⟩ | ⟨h1, h2⟩
  · have hp : SX4_ofTowel f (nI j) 0 = _ := tow_v f (show j < 4 by omega) (k := 0) (by omega)
    have hs : SX6_ofTowel s (nI j) 0 = _ := ofTow_v hR (show j < 4 by omega) (k := 0) (by omega)
    have hL : SL_shoreOf f (nI j) wo = some (0, vp_updL wo 0 (f (45 + 4 * j + 0)).toInt64) := by simp [SL_shoreOf, SX5_shoreOf, rqT1 h1, lt_v, bnd_v, hp]
    have hM : SX6_shoreOf s (nI j) = some (f (45 + 4 * j + 0), 0) := by simp [SX6_shoreOf, h2, bnd_v, isThere_1, hs]
    rw [hL, bnd_v, hM, bnd_v]
    exact ⟨_, fin_ok rfl rfl (updL_0 wo _)⟩
  · have hL : SL_shoreOf f a wo = some (1, wo) := by simp [SL_shoreOf, SX5_shoreOf, rqT0 h1, lt_v, bnd_v]
    have hM : SX6_shoreOf s a = some (0, 1) := by simp [SX6_shoreOf, h2, bnd_v, isThere_0]
    rw [hL, bnd_v, hM, bnd_v]
    exact ⟨_, fin_x rfl (show (1 : Int32) ≠ 0 by decide)⟩
theorem p22 (hR : Rel f s) (h7 : 0 ≤ q f 7 ∧ q f 7 ≤ 4) (hx : vp_in (x5 + 1) L) : ∃ r, SC22 f s wo L xs x5 = some r := by
  unfold SC22
  rw [gd_p hx]
  generalize xs (Int32.toNatClampNeg (x5 + 1)) = a
  have h4 : tw f ≤ 4 := by unfold tw; omega
  rcases towln hR h7 a with ⟨j, hj, rfl, h1, h2⟩ | ⟨h1, h2⟩
  · have hp : SX4_ofTowel f (nI j) 1 = _ := tow_v f (show j < 4 by omega) (k := 1) (by omega)
    have hs : SX6_ofTowel s (nI j) 1 = _ := ofTow_v hR (show j < 4 by omega) (k := 1) (by omega)
    have hL : SL_heightOf f (nI j) wo = some (0, vp_updL wo 0 (f (45 + 4 * j + 1)).toInt64) := by simp [SL_heightOf, SX5_heightOf, rqT1 h1, lt_v, bnd_v, hp]
    have hM : SX6_heightOf s (nI j) = some (f (45 + 4 * j + 1), 0) := by simp [SX6_heightOf, h2, bnd_v, isThere_1, hs]
    rw [hL, bnd_v, hM, bnd_v]
    exact ⟨_, fin_ok rfl rfl (updL_0 wo _)⟩
  · have hL : SL_heightOf f a wo = some (1, wo) := by simp [SL_heightOf, SX5_heightOf, rqT0 h1, lt_v, bnd_v]
    have hM : SX6_heightOf s a = some (0, 1) := by simp [SX6_heightOf, h2, bnd_v, isThere_0]
    rw [hL, bnd_v, hM, bnd_v]
    exact ⟨_, fin_x rfl (show (1 : Int32) ≠ 0 by decide)⟩
theorem p23 (hR : Rel f s) (h7 : 0 ≤ q f 7 ∧ q f 7 ≤ 4) (hx : vp_in (x5 + 1) L) : ∃ r, SC23 f s wo L xs x5 = some r := by
  unfold SC23
  rw [gd_p hx]
  generalize xs (Int32.toNatClampNeg (x5 + 1)) = a
  have h4 : tw f ≤ 4 := by unfold tw; omega
  rcases towln hR h7 a with ⟨j, hj, rfl, h1, h2⟩ | ⟨h1, h2⟩
  · have hp : SX4_ofTowel f (nI j) 2 = _ := tow_v f (show j < 4 by omega) (k := 2) (by omega)
    have hs : SX6_ofTowel s (nI j) 2 = _ := ofTow_v hR (show j < 4 by omega) (k := 2) (by omega)
    have hL : SL_absorbedBy f (nI j) wo = some (0, vp_updL wo 0 (f (45 + 4 * j + 2)).toInt64) := by simp [SL_absorbedBy, SX5_absorbedBy, rqT1 h1, lt_v, bnd_v, hp]
    have hM : SX6_absorbedBy s (nI j) = some (f (45 + 4 * j + 2), 0) := by simp [SX6_absorbedBy, h2, bnd_v, isThere_1, hs]
    rw [hL, bnd_v, hM, bnd_v]
    exact ⟨_, fin_ok rfl rfl (updL_0 wo _)⟩
  · have hL : SL_absorbedBy f a wo = some (1, wo) := by simp [SL_absorbedBy, SX5_absorbedBy, rqT0 h1, lt_v, bnd_v]
    have hM : SX6_absorbedBy s a = some (0, 1) := by simp [SX6_absorbedBy, h2, bnd_v, isThere_0]
    rw [hL, bnd_v, hM, bnd_v]
    exact ⟨_, fin_x rfl (show (1 : Int32) ≠ 0 by decide)⟩
theorem p24 (hR : Rel f s) (h7 : 0 ≤ q f 7 ∧ q f 7 ≤ 4) (hx : vp_in (x5 + 1) L) : ∃ r, SC24 f s wo L xs x5 = some r := by
  unfold SC24
  rw [gd_p hx]
  generalize xs (Int32.toNatClampNeg (x5 + 1)) = a
  have h4 : tw f ≤ 4 := by unfold tw; omega
  rcases towln hR h7 a with ⟨j, hj, rfl, h1, h2⟩ | ⟨h1, h2⟩
  · have hp : SX4_ofTowel f (nI j) 3 = _ := tow_v f (show j < 4 by omega) (k := 3) (by omega)
    have hs : SX6_ofTowel s (nI j) 3 = _ := ofTow_v hR (show j < 4 by omega) (k := 3) (by omega)
    have hL : SL_floodsOf f (nI j) wo = some (0, vp_updL wo 0 (f (45 + 4 * j + 3)).toInt64) := by simp [SL_floodsOf, SX5_floodsOf, rqT1 h1, lt_v, bnd_v, hp]
    have hM : SX6_floodsOf s (nI j) = some (f (45 + 4 * j + 3), 0) := by simp [SX6_floodsOf, h2, bnd_v, isThere_1, hs]
    rw [hL, bnd_v, hM, bnd_v]
    exact ⟨_, fin_ok rfl rfl (updL_0 wo _)⟩
  · have hL : SL_floodsOf f a wo = some (1, wo) := by simp [SL_floodsOf, SX5_floodsOf, rqT0 h1, lt_v, bnd_v]
    have hM : SX6_floodsOf s a = some (0, 1) := by simp [SX6_floodsOf, h2, bnd_v, isThere_0]
    rw [hL, bnd_v, hM, bnd_v]
    exact ⟨_, fin_x rfl (show (1 : Int32) ≠ 0 by decide)⟩
theorem p4 (hR : Rel f s) : ∃ r, SC4 f s = some r := by
  unfold SC4 SX5_moonCount SX6_moonCount
  rw [lt_v, moons_v, hR.r0, if_pos rfl]
  exact ⟨_, rfl⟩
theorem p20 (hR : Rel f s) : ∃ r, SC20 f s = some r := by
  unfold SC20 SX5_towelCount SX6_towelCount
  rw [lt_v, towels_v, hR.r1, if_pos rfl]
  exact ⟨_, rfl⟩
theorem p27 (hR : Rel f s) : ∃ r, SC27 f s = some r := by
  unfold SC27 SX5_time SX6_time
  rw [lt_v, at_0, hR.r2, if_pos rfl]
  exact ⟨_, rfl⟩
theorem p28 (hR : Rel f s) : ∃ r, SC28 f s = some r := by
  unfold SC28 SX5_baseLevel SX6_baseLevel
  rw [lt_v, at_1, hR.r3, if_pos rfl]
  exact ⟨_, rfl⟩
theorem p29 (hR : Rel f s) : ∃ r, SC29 f s = some r := by
  unfold SC29 SX5_flow SX6_flow
  rw [lt_v, at_2, hR.r4, if_pos rfl]
  exact ⟨_, rfl⟩
theorem p30 (hR : Rel f s) : ∃ r, SC30 f s = some r := by
  unfold SC30 SX5_spilled SX6_spilled
  rw [lt_v, at_3, hR.r5, if_pos rfl]
  exact ⟨_, rfl⟩
theorem p31 {N : Nat} (hN : 2100 ≤ N) (hR : Rel f s) (hG : TG f) (hx : vp_in (x5 + 1) L) : ∃ r, SC31 N f s wo L xs x5 = some r := by
  unfold SC31
  rw [gd_p hx]
  generalize xs (Int32.toNatClampNeg (x5 + 1)) = a
  rcases posn a with ⟨p, hp, rfl, h1, h2⟩ | ⟨h1, h2⟩
  · have ha : SX4_tideAfter N f (nI p) 0 = _ := tide_c hG hp (m := 0) (by omega) (by omega)
    have hb : SX6_tide N s (nI p) 0 = _ := tide_s hR hG hp (m := 0) (by omega) (by omega)
    have hL : SL_tideAt N f (nI p) wo = some (0, vp_updL wo 0 (iI (TI f p 0)).toInt64) := by simp [SL_tideAt, SX5_tideAt, rqP1 h1, lt_v, bnd_v, ha]
    have hM : SX6_tideAt N s (nI p) = some (iI (TI f p 0), 0) := by simp [SX6_tideAt, h2, bnd_v, isThere_1, hb]
    rw [hL, bnd_v, hM, bnd_v]
    exact ⟨_, fin_ok rfl rfl (updL_0 wo _)⟩
  · have hL : SL_tideAt N f a wo = some (1, wo) := by simp [SL_tideAt, SX5_tideAt, rqP0 h1, lt_v, bnd_v]
    have hM : SX6_tideAt N s a = some (0, 1) := by simp [SX6_tideAt, h2, bnd_v, isThere_0]
    rw [hL, bnd_v, hM, bnd_v]
    exact ⟨_, fin_x rfl (show (1 : Int32) ≠ 0 by decide)⟩
theorem p32 {N : Nat} (hN : 2100 ≤ N) (hR : Rel f s) (hG : TG f) (h1b : 0 ≤ q f 1 ∧ q f 1 ≤ 40) (hx : vp_in (x5 + 1) L) : ∃ r, SC32 N f s wo L xs x5 = some r := by
  unfold SC32
  rw [gd_p hx]
  generalize xs (Int32.toNatClampNeg (x5 + 1)) = a
  rcases posn a with ⟨p, hp, rfl, h1, h2⟩ | ⟨h1, h2⟩
  · have ha : SX4_level N f (nI p) = _ := level_c hG h1b hp (by omega)
    have hb : SX6_level N s (nI p) = _ := level_s hR hG h1b hp (by omega)
    have hL : SL_levelAt N f (nI p) wo = some (0, vp_updL wo 0 (nI (LV f p)).toInt64) := by simp [SL_levelAt, SX5_levelAt, rqP1 h1, lt_v, bnd_v, ha]
    have hM : SX6_levelAt N s (nI p) = some (nI (LV f p), 0) := by simp [SX6_levelAt, h2, bnd_v, isThere_1, hb]
    rw [hL, bnd_v, hM, bnd_v]
    exact ⟨_, fin_ok rfl rfl (updL_0 wo _)⟩
  · have hL : SL_levelAt N f a wo = some (1, wo) := by simp [SL_levelAt, SX5_levelAt, rqP0 h1, lt_v, bnd_v]
    have hM : SX6_levelAt N s a = some (0, 1) := by simp [SX6_levelAt, h2, bnd_v, isThere_0]
    rw [hL, bnd_v, hM, bnd_v]
    exact ⟨_, fin_x rfl (show (1 : Int32) ≠ 0 by decide)⟩
end PQ2
