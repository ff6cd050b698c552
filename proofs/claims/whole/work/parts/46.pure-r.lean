section PR
variable {f s : Nat → Int32} {wo : Nat → Int64} {wd : Nat → UInt64} {L : Nat} {xs : Nat → Int32} {x5 : Int32} {N : Nat}
/-! the highest shore -/
def hs (f : Nat → Int32) : Nat → Nat → Nat → Nat
  | 0, _, b => b
  | d + 1, i, b => hs f d (i + 1) (if LV f i ≤ LV f b then b else i)
theorem hs_c (hG : TG f) (h1 : 0 ≤ q f 1 ∧ q f 1 ≤ 40) (hN : 6 ≤ N) : ∀ (d i fu b : Nat), i + d = 12 → d + 1 ≤ fu → b < 12 → LX5_highestShore_4 N f fu (nI b) (nI i) = some (nI (hs f d i b)) := by
  intro d
  induction d with
  | zero =>
    intro i fu b hi hf hb
    obtain ⟨fu, rfl⟩ : ∃ k, fu = k + 1 := ⟨fu - 1, by omega⟩
    rw [LX5_highestShore_4, if_pos (show (12 : Int32) ≤ nI i from nI_le (a := 12) (by omega) (by omega))]
    rfl
  | succ d ih =>
    intro i fu b hi hf hb
    obtain ⟨fu, rfl⟩ : ∃ k, fu = k + 1 := ⟨fu - 1, by omega⟩
    have l1 := LV_b hG h1 (p := i) (by omega)
    have l2 := LV_b hG h1 (p := b) hb
    have hz : nI (LV f i) ≤ nI (LV f b) ↔ LV f i ≤ LV f b := nI_leI (by omega) (by omega)
    rw [LX5_highestShore_4, if_neg (show ¬ (12 : Int32) ≤ nI i from nI_ge (b := 12) (by omega) (by omega)), level_c hG h1 (by omega) hN, bnd_v, level_c hG h1 hb hN, bnd_v, lt_v, nI_1]
    simp only [hs]
    by_cases c : LV f i ≤ LV f b
    · rw [if_pos (hz.mpr c), if_pos c]
      exact ih (i + 1) fu b (by omega) (by omega) hb
    · rw [if_neg (fun z => c (hz.mp z)), if_neg c]
      exact ih (i + 1) fu i (by omega) (by omega) (by omega)
theorem hs_s (hR : Rel f s) (hG : TG f) (h1 : 0 ≤ q f 1 ∧ q f 1 ≤ 40) (hN : 6 ≤ N) : ∀ (d i fu b : Nat), i + d = 12 → d + 1 ≤ fu → b < 12 → LX6_highestShore_9 N s fu (nI b) (nI i) = some (nI (hs f d i b), 0) := by
  intro d
  induction d with
  | zero =>
    intro i fu b hi hf hb
    obtain ⟨fu, rfl⟩ : ∃ k, fu = k + 1 := ⟨fu - 1, by omega⟩
    rw [LX6_highestShore_9, if_pos (show (12 : Int32) ≤ nI i from nI_le (a := 12) (by omega) (by omega))]
    rfl
  | succ d ih =>
    intro i fu b hi hf hb
    obtain ⟨fu, rfl⟩ : ∃ k, fu = k + 1 := ⟨fu - 1, by omega⟩
    have l1 := LV_b hG h1 (p := i) (by omega)
    have l2 := LV_b hG h1 (p := b) hb
    have hz : nI (LV f i) ≤ nI (LV f b) ↔ LV f i ≤ LV f b := nI_leI (by omega) (by omega)
    rw [LX6_highestShore_9, if_neg (show ¬ (12 : Int32) ≤ nI i from nI_ge (b := 12) (by omega) (by omega)), level_s hR hG h1 (by omega) hN, bnd_v, level_s hR hG h1 hb hN, bnd_v, lt_v, nI_1]
    simp only [hs]
    by_cases c : LV f i ≤ LV f b
    · rw [if_pos (hz.mpr c), if_pos c]
      exact ih (i + 1) fu b (by omega) (by omega) hb
    · rw [if_neg (fun z => c (hz.mp z)), if_neg c]
      exact ih (i + 1) fu i (by omega) (by omega) (by omega)
theorem p33 (hN : 2100 ≤ N) (hR : Rel f s) (hG : TG f) (h1 : 0 ≤ q f 1 ∧ q f 1 ≤ 40) : ∃ r, SC33 N f s = some r := by
  have ha : SX5_highestShore N f = _ := hs_c hG h1 (by omega) 11 1 N 0 (by omega) (by omega) (by omega)
  have hb : SX6_highestShore N s = _ := hs_s hR hG h1 (by omega) 11 1 N 0 (by omega) (by omega) (by omega)
  unfold SC33
  rw [ha, bnd_v, hb, bnd_v]
  exact ⟨_, if_pos rfl⟩
theorem p34 (hN : 2100 ≤ N) (hR : Rel f s) (hG : TG f) (hx : vp_in (x5 + 1) L) (hy : vp_in (x5 + 2) L) : ∃ r, SC34 N f s wo L xs x5 = some r := by
  unfold SC34
  rw [gd_p hx, gd_p hy]
  generalize xs (Int32.toNatClampNeg (x5 + 1)) = a
  generalize xs (Int32.toNatClampNeg (x5 + 2)) = b
  rcases posn a with ⟨p, hp, rfl, h1, h2⟩ | ⟨h1, h2⟩
  · rcases minn b with ⟨m, hm, rfl, h3, h4⟩ | ⟨h3, h4⟩
    · have ha := tide_c hG hp (m := m) (by omega) (N := N) (by omega)
      have hb := tide_s hR hG hp (m := m) (by omega) (N := N) (by omega)
      have hL : SL_tideIn N f (nI p) (nI m) wo = some (0, vp_updL wo 0 (iI (TI f p m)).toInt64) := by simp [SL_tideIn, SX5_tideIn, rqP1 h1, h3, lt_v, bnd_v, ha]
      have hM : SX6_tideIn N s (nI p) (nI m) = some (iI (TI f p m), 0) := by simp [SX6_tideIn, h2, h4, bnd_v, lt_v, hb]
      rw [hL, bnd_v, hM, bnd_v]
      exact ⟨_, fin_ok rfl rfl (updL_0 wo _)⟩
    · have hL : SL_tideIn N f (nI p) b wo = some (2, wo) := by simp [SL_tideIn, SX5_tideIn, rqP1 h1, h3, lt_v, bnd_v]
      have hM : SX6_tideIn N s (nI p) b = some (0, 2) := by simp [SX6_tideIn, h2, h4, bnd_v, lt_v]
      rw [hL, bnd_v, hM, bnd_v]
      exact ⟨_, fin_x rfl (show (2 : Int32) ≠ 0 by decide)⟩
  · have hL : SL_tideIn N f a b wo = some (1, wo) := by simp [SL_tideIn, SX5_tideIn, rqP0 h1, lt_v, bnd_v]
    have hM : SX6_tideIn N s a b = some (0, 1) := by simp [SX6_tideIn, h2, bnd_v, lt_v]
    rw [hL, bnd_v, hM, bnd_v]
    exact ⟨_, fin_x rfl (show (1 : Int32) ≠ 0 by decide)⟩
theorem p35 (hN : 2100 ≤ N) (hR : Rel f s) (hG : TG f) {f1 f2 f3 : Nat → Int32} (hx : vp_in (x5 + 1) L) (hy : vp_in (x5 + 2) L) : ∃ r, SC35 N f f1 f2 f3 s wo L xs x5 = some r := by
  unfold SC35
  rw [gd_p hx, gd_p hy]
  generalize xs (Int32.toNatClampNeg (x5 + 1)) = a
  generalize xs (Int32.toNatClampNeg (x5 + 2)) = b
  rcases posn a with ⟨p, hp, rfl, h1, h2⟩ | ⟨h1, h2⟩
  · rcases minn b with ⟨m, hm, rfl, h3, h4⟩ | ⟨h3, h4⟩
    · obtain ⟨A, P, M, ha⟩ := steps_c hG hp (m := m) (by omega) (N := N) (by omega) f1 f2 f3
      have hb := tide_s hR hG hp (m := m) (by omega) (N := N) (by omega)
      have hL : SL_tideBySteps N f f1 f2 f3 (nI p) (nI m) wo = some (0, A, P, M, vp_updL wo 0 (iI (TI f p m)).toInt64) := by simp [SL_tideBySteps, SX5_tideBySteps, rqP1 h1, h3, lt_v, bnd_v, ha]
      have hM : SX6_tideBySteps N s (nI p) (nI m) = some (iI (TI f p m), 0) := by simp [SX6_tideBySteps, SX6_tideIn, h2, h4, bnd_v, lt_v, hb]
      rw [hL, bnd_v, hM, bnd_v]
      exact ⟨_, fin_ok rfl rfl (updL_0 wo _)⟩
    · have hL : SL_tideBySteps N f f1 f2 f3 (nI p) b wo = some (2, f1, f2, f3, wo) := by simp [SL_tideBySteps, SX5_tideBySteps, rqP1 h1, h3, lt_v, bnd_v]
      have hM : SX6_tideBySteps N s (nI p) b = some (0, 2) := by simp [SX6_tideBySteps, SX6_tideIn, h2, h4, bnd_v, lt_v]
      rw [hL, bnd_v, hM, bnd_v]
      exact ⟨_, fin_x rfl (show (2 : Int32) ≠ 0 by decide)⟩
  · have hL : SL_tideBySteps N f f1 f2 f3 a b wo = some (1, f1, f2, f3, wo) := by simp [SL_tideBySteps, SX5_tideBySteps, rqP0 h1, lt_v, bnd_v]
    have hM : SX6_tideBySteps N s a b = some (0, 1) := by simp [SX6_tideBySteps, SX6_tideIn, h2, bnd_v, lt_v]
    rw [hL, bnd_v, hM, bnd_v]
    exact ⟨_, fin_x rfl (show (1 : Int32) ≠ 0 by decide)⟩
theorem high_v (hN : 2100 ≤ N) (hG : TG f) {p : Nat} (hp : p < 12) : SX0_highest N f (nI p) = some (nI (ex f p 1 144 1 0)) := by
  unfold SX0_highest
  rw [show SX4_tideAfter N f (nI p) 0 = _ from tide_c hG hp (m := 0) (by omega) (by omega), bnd_v]
  exact high_c hG hp (by omega) 144 1 N 0 (by omega) (by omega) (by omega)
theorem low_v (hN : 2100 ≤ N) (hG : TG f) {p : Nat} (hp : p < 12) : SX0_lowest N f (nI p) = some (nI (ex f p (-1) 144 1 0)) := by
  unfold SX0_lowest
  rw [show SX4_tideAfter N f (nI p) 0 = _ from tide_c hG hp (m := 0) (by omega) (by omega), bnd_v]
  exact low_c hG hp (by omega) 144 1 N 0 (by omega) (by omega) (by omega)
theorem ext_0 (hN : 2100 ≤ N) {a v6 x2 : Int32} (h2 : SX6_isPosition a = some 0) : SX6_extreme N v6 s a x2 = some (0, 1) := by
  unfold SX6_extreme
  obtain ⟨k, rfl⟩ : ∃ k, N = k + 1 := ⟨N - 1, by omega⟩
  rw [LX6_extreme_5, if_neg (by decide), h2, bnd_v, isThere_0, bnd_v, if_pos rfl]
theorem p36 (hN : 2100 ≤ N) {v6 : Int32} (hR : Rel f s) (hG : TG f) (hx : vp_in (x5 + 1) L) : ∃ r, SC36 N f v6 s wo L xs x5 = some r := by
  unfold SC36
  rw [gd_p hx]
  generalize xs (Int32.toNatClampNeg (x5 + 1)) = a
  rcases posn a with ⟨p, hp, rfl, h1, h2⟩ | ⟨h1, h2⟩
  · have ha := high_v hN hG hp
    have hb : SX6_extreme N v6 s (nI p) 1 = _ := ext_s hR hG hp (N := N) (by omega) (Or.inl rfl) 144 1 N 0 v6 (by omega) (by omega) (by omega) (Or.inr (by omega))
    have hL : SL_highTideIn N f (nI p) wo = some (0, vp_updL wo 0 (nI (ex f p 1 144 1 0)).toInt64) := by simp [SL_highTideIn, SX5_highTideIn, rqP1 h1, lt_v, bnd_v, ha]
    have hM : SX6_highTideIn N v6 s (nI p) = some (nI (ex f p 1 144 1 0), 0) := by
      unfold SX6_highTideIn
      rw [hb, bnd_v]
    rw [hL, bnd_v, hM, bnd_v]
    exact ⟨_, fin_ok rfl rfl (updL_0 wo _)⟩
  · have hL : SL_highTideIn N f a wo = some (1, wo) := by simp [SL_highTideIn, SX5_highTideIn, rqP0 h1, lt_v, bnd_v]
    have hM : SX6_highTideIn N v6 s a = some (0, 1) := by
      unfold SX6_highTideIn
      rw [ext_0 hN h2, bnd_v]
    rw [hL, bnd_v, hM, bnd_v]
    exact ⟨_, fin_x rfl (show (1 : Int32) ≠ 0 by decide)⟩
theorem p37 (hN : 2100 ≤ N) {v6 : Int32} (hR : Rel f s) (hG : TG f) (hx : vp_in (x5 + 1) L) : ∃ r, SC37 N f v6 s wo L xs x5 = some r := by
  unfold SC37
  rw [gd_p hx]
  generalize xs (Int32.toNatClampNeg (x5 + 1)) = a
  rcases posn a with ⟨p, hp, rfl, h1, h2⟩ | ⟨h1, h2⟩
  · have ha := low_v hN hG hp
    have hb : SX6_extreme N v6 s (nI p) (-1) = _ := ext_s hR hG hp (N := N) (by omega) (Or.inr rfl) 144 1 N 0 v6 (by omega) (by omega) (by omega) (Or.inr (by omega))
    have hL : SL_lowTideIn N f (nI p) wo = some (0, vp_updL wo 0 (nI (ex f p (-1) 144 1 0)).toInt64) := by simp [SL_lowTideIn, SX5_lowTideIn, rqP1 h1, lt_v, bnd_v, ha]
    have hM : SX6_lowTideIn N v6 s (nI p) = some (nI (ex f p (-1) 144 1 0), 0) := by
      unfold SX6_lowTideIn
      rw [hb, bnd_v]
    rw [hL, bnd_v, hM, bnd_v]
    exact ⟨_, fin_ok rfl rfl (updL_0 wo _)⟩
  · have hL : SL_lowTideIn N f a wo = some (1, wo) := by simp [SL_lowTideIn, SX5_lowTideIn, rqP0 h1, lt_v, bnd_v]
    have hM : SX6_lowTideIn N v6 s a = some (0, 1) := by
      unfold SX6_lowTideIn
      rw [ext_0 hN h2, bnd_v]
    rw [hL, bnd_v, hM, bnd_v]
    exact ⟨_, fin_x rfl (show (1 : Int32) ≠ 0 by decide)⟩
theorem p38 (hN : 2100 ≤ N) (hR : Rel f s) (hG : TG f) (hx : vp_in (x5 + 1) L) : ∃ r, SC38 N f s wo L xs x5 = some r := by
  have h5 := hG.mo5
  unfold SC38
  rw [gd_p hx]
  generalize xs (Int32.toNatClampNeg (x5 + 1)) = a
  rcases moonn hR hG.2.2.1 a with ⟨j, hj, rfl, h1, h2⟩ | ⟨h1, h2⟩
  · by_cases c : q f 5 < 0
    · have hq : SX5_requirePlug f = 4 := by
        unfold SX5_requirePlug
        rw [plugd_c hG.2.1.1, if_pos c, if_pos rfl]
      have hL : SL_eclipseIn f (nI j) wo = some (2, wo) := by simp [SL_eclipseIn, SX5_eclipseIn, rqM1 h1, hq, lt_v]
      have hM : SX6_eclipseIn N s (nI j) = some (0, 2) := by
        unfold SX6_eclipseIn
        obtain ⟨k, rfl⟩ : ∃ k, N = k + 1 := ⟨N - 1, by omega⟩
        rw [h2, bnd_v, if_neg (show ¬ (1 : Int32) = 0 by decide), hR.r6, if_neg (fun z => by have := ge0_q.mp z; omega), lt_v, LX6_eclipseIn_33, if_neg (by decide)]
      rw [hL, bnd_v, hM, bnd_v]
      exact ⟨_, fin_x rfl (show (2 : Int32) ≠ 0 by decide)⟩
    · have hq : SX5_requirePlug f = 0 := by
        unfold SX5_requirePlug
        rw [plugd_c hG.2.1.1, if_neg c, if_neg (by decide)]
      have ha := ecl_v hG hj (by omega)
      have he := ec_b (hG.2.2.2 j hj)
      have hL : SL_eclipseIn f (nI j) wo = some (0, vp_updL wo 0 (nI (ec f j)).toInt64) := by simp [SL_eclipseIn, SX5_eclipseIn, rqM1 h1, hq, lt_v, ha]
      have hM : SX6_eclipseIn N s (nI j) = some (nI (ec f j), 0) := by
        unfold SX6_eclipseIn
        rw [h2, bnd_v, if_neg (show ¬ (1 : Int32) = 0 by decide), hR.r6, if_pos (ge0_q.mpr (by omega)), lt_v]
        exact ecl_s hR hG hj (by omega) (ec f j) 0 N (by omega) (by omega)
      rw [hL, bnd_v, hM, bnd_v]
      exact ⟨_, fin_ok rfl rfl (updL_0 wo _)⟩
  · have hL : SL_eclipseIn f a wo = some (1, wo) := by simp [SL_eclipseIn, SX5_eclipseIn, rqM0 h1, lt_v]
    have hM : SX6_eclipseIn N s a = some (0, 1) := by
      unfold SX6_eclipseIn
      obtain ⟨k, rfl⟩ : ∃ k, N = k + 1 := ⟨N - 1, by omega⟩
      rw [h2, bnd_v, if_pos rfl, lt_v, LX6_eclipseIn_33, if_neg (by decide)]
    rw [hL, bnd_v, hM, bnd_v]
    exact ⟨_, fin_x rfl (show (1 : Int32) ≠ 0 by decide)⟩
theorem mt_end {a b : Nat} : (∃ k, mt f a b 2001 0 = some k ∧ k ≤ 2000) ∨ mt f a b 2001 0 = none := by
  cases h : mt f a b 2001 0 with
  | none => exact Or.inr rfl
  | some k => exact Or.inl ⟨k, rfl, by have := mt_le _ _ _ h; omega⟩
theorem found_k {k : Nat} (hk : k ≤ 2000) : SX5_found (nI k) = (0, nI k) := by
  unfold SX5_found
  rw [if_neg (fun e => by
    have h2 := congrArg Int32.toInt e
    rw [nI_toInt (by omega)] at h2
    have h3 : (-1 : Int32).toInt = -1 := by decide
    omega)]
theorem found_n : SX5_found (-1) = (4, 0) := if_pos rfl
theorem p39 (hN : 2100 ≤ N) (hR : Rel f s) (hG : TG f) (hx : vp_in (x5 + 1) L) (hy : vp_in (x5 + 2) L) : ∃ r, SC39 N f s wo L xs x5 = some r := by
  unfold SC39
  rw [gd_p hx, gd_p hy]
  generalize xs (Int32.toNatClampNeg (x5 + 1)) = x
  generalize xs (Int32.toNatClampNeg (x5 + 2)) = y
  rcases moonn hR hG.2.2.1 x with ⟨a, ha, rfl, h1, h2⟩ | ⟨h1, h2⟩
  · rcases moonn hR hG.2.2.1 y with ⟨b, hb, rfl, h3, h4⟩ | ⟨h3, h4⟩
    · have hc : SX0_meetingByMinutes N f (nI a) (nI b) = _ := meet_c hG ha hb 2001 0 N (by omega) (by omega)
      have hd : SX6_conjunctionIn N s (nI a) (nI b) = some (mts (mt f a b 2001 0)) := by
        unfold SX6_conjunctionIn
        rw [h2, bnd_v, if_neg (show ¬ (1 : Int32) = 0 by decide), h4, bnd_v, if_neg (show ¬ (1 : Int32) = 0 by decide)]
        exact meet_s hR hG ha hb 2001 0 N (by omega) (by omega)
      rcases mt_end (f := f) (a := a) (b := b) with ⟨k, e, hk⟩ | e
      · rw [e] at hc hd
        have hL : SL_conjunctionIn N f (nI a) (nI b) wo = some (0, vp_updL wo 0 (nI k).toInt64) := by simp [SL_conjunctionIn, SX5_conjunctionIn, rqM1 h1, rqM1 h3, lt_v, bnd_v, hc, mtc, found_k hk]
        rw [hL, bnd_v, hd, bnd_v]
        exact ⟨_, fin_ok rfl rfl (updL_0 wo _)⟩
      · rw [e] at hc hd
        have hL : SL_conjunctionIn N f (nI a) (nI b) wo = some (2, wo) := by simp [SL_conjunctionIn, SX5_conjunctionIn, rqM1 h1, rqM1 h3, lt_v, bnd_v, hc, mtc, found_n]
        rw [hL, bnd_v, hd, bnd_v]
        exact ⟨_, fin_x rfl (show (2 : Int32) ≠ 0 by decide)⟩
    · have hL : SL_conjunctionIn N f (nI a) y wo = some (1, wo) := by simp [SL_conjunctionIn, SX5_conjunctionIn, rqM1 h1, rqM0 h3, lt_v, bnd_v]
      have hM : SX6_conjunctionIn N s (nI a) y = some (0, 1) := by simp [SX6_conjunctionIn, h2, h4, bnd_v, lt_v, SX6_fails]
      rw [hL, bnd_v, hM, bnd_v]
      exact ⟨_, fin_x rfl (show (1 : Int32) ≠ 0 by decide)⟩
  · have hL : SL_conjunctionIn N f x y wo = some (1, wo) := by simp [SL_conjunctionIn, SX5_conjunctionIn, rqM0 h1, lt_v, bnd_v]
    have hM : SX6_conjunctionIn N s x y = some (0, 1) := by simp [SX6_conjunctionIn, h2, bnd_v, lt_v, SX6_fails]
    rw [hL, bnd_v, hM, bnd_v]
    exact ⟨_, fin_x rfl (show (1 : Int32) ≠ 0 by decide)⟩
theorem p40 (hN : 2100 ≤ N) (hR : Rel f s) (hG : TG f) (hx : vp_in (x5 + 1) L) (hy : vp_in (x5 + 2) L) : ∃ r, SC40 N f s wo L xs x5 = some r := by
  unfold SC40
  rw [gd_p hx, gd_p hy]
  generalize xs (Int32.toNatClampNeg (x5 + 1)) = x
  generalize xs (Int32.toNatClampNeg (x5 + 2)) = y
  rcases moonn hR hG.2.2.1 x with ⟨a, ha, rfl, h1, h2⟩ | ⟨h1, h2⟩
  · rcases moonn hR hG.2.2.1 y with ⟨b, hb, rfl, h3, h4⟩ | ⟨h3, h4⟩
    · have hc : SX0_meetingByMoves N f (nI a) (nI b) = _ := moves_c hG ha hb N 0 0 (by omega) (by omega) (by omega) (by omega)
      have hd : SX6_conjunctionByMoves N s (nI a) (nI b) = some (mts (mt f a b 2001 0)) := by
        unfold SX6_conjunctionByMoves SX6_conjunctionIn
        rw [h2, bnd_v, if_neg (show ¬ (1 : Int32) = 0 by decide), h4, bnd_v, if_neg (show ¬ (1 : Int32) = 0 by decide), show LX6_conjunctionIn_24 s (nI a) (nI b) N 0 = _ from meet_s hR hG ha hb 2001 0 N (by omega) (by omega), bnd_v]
      rcases mt_end (f := f) (a := a) (b := b) with ⟨k, e, hk⟩ | e
      · rw [show 2001 - 0 = 2001 by omega, e] at hc
        rw [e] at hd
        have hL : SL_conjunctionByMoves N f (nI a) (nI b) wo = some (0, vp_updL wo 0 (nI k).toInt64) := by simp [SL_conjunctionByMoves, SX5_conjunctionByMoves, rqM1 h1, rqM1 h3, lt_v, bnd_v, hc, mtc, found_k hk]
        rw [hL, bnd_v, hd, bnd_v]
        exact ⟨_, fin_ok rfl rfl (updL_0 wo _)⟩
      · rw [show 2001 - 0 = 2001 by omega, e] at hc
        rw [e] at hd
        have hL : SL_conjunctionByMoves N f (nI a) (nI b) wo = some (2, wo) := by simp [SL_conjunctionByMoves, SX5_conjunctionByMoves, rqM1 h1, rqM1 h3, lt_v, bnd_v, hc, mtc, found_n]
        rw [hL, bnd_v, hd, bnd_v]
        exact ⟨_, fin_x rfl (show (2 : Int32) ≠ 0 by decide)⟩
    · have hL : SL_conjunctionByMoves N f (nI a) y wo = some (1, wo) := by simp [SL_conjunctionByMoves, SX5_conjunctionByMoves, rqM1 h1, rqM0 h3, lt_v, bnd_v]
      have hM : SX6_conjunctionByMoves N s (nI a) y = some (0, 1) := by simp [SX6_conjunctionByMoves, SX6_conjunctionIn, h2, h4, bnd_v, lt_v, SX6_fails]
      rw [hL, bnd_v, hM, bnd_v]
      exact ⟨_, fin_x rfl (show (1 : Int32) ≠ 0 by decide)⟩
  · have hL : SL_conjunctionByMoves N f x y wo = some (1, wo) := by simp [SL_conjunctionByMoves, SX5_conjunctionByMoves, rqM0 h1, lt_v, bnd_v]
    have hM : SX6_conjunctionByMoves N s x y = some (0, 1) := by simp [SX6_conjunctionByMoves, SX6_conjunctionIn, h2, bnd_v, lt_v, SX6_fails]
    rw [hL, bnd_v, hM, bnd_v]
    exact ⟨_, fin_x rfl (show (1 : Int32) ≠ 0 by decide)⟩
/-! errors that were stored -/
theorem p49 {u8 : Int32} (h : u8 = -1 ∨ 0 ≤ u8) : ∃ r, SC49 u8 u8 wo = some r := by
  unfold SC49
  by_cases c : u8 = -1
  · subst c
    have hL : SL_errorPosition (-1) wo = some (1, wo) := by simp [SL_errorPosition, SX5_errorPosition, lt_v]
    have hM : SX6_errorPosition (-1) = some (0, 1) := by
      unfold SX6_errorPosition
      rw [if_pos (by decide), lt_v, isThere_0, bnd_v, if_pos rfl]
    rw [hL, bnd_v, hM, bnd_v]
    exact ⟨_, fin_x rfl (show (1 : Int32) ≠ 0 by decide)⟩
  · have h0 : ¬ u8 < 0 := Int32.not_lt.mpr (h.resolve_left c)
    have hL : SL_errorPosition u8 wo = some (0, vp_updL wo 0 u8.toInt64) := by simp [SL_errorPosition, SX5_errorPosition, lt_v, c]
    have hM : SX6_errorPosition u8 = some (u8, 0) := by
      unfold SX6_errorPosition
      rw [if_neg h0, lt_v, isThere_1, bnd_v, if_neg (show ¬ (1 : Int32) = 0 by decide)]
    rw [hL, bnd_v, hM, bnd_v]
    exact ⟨_, fin_ok rfl rfl (updL_0 wo _)⟩
theorem p50 {u9 : Int32} (h : u9 = -1 ∨ 0 ≤ u9) : ∃ r, SC50 u9 u9 wo = some r := by
  unfold SC50
  by_cases c : u9 = -1
  · subst c
    have hL : SL_failedCommand (-1) wo = some (1, wo) := by simp [SL_failedCommand, SX5_failedCommand, lt_v]
    have hM : SX6_failedCommand (-1) = some (0, 1) := by
      unfold SX6_failedCommand
      rw [if_pos (by decide), lt_v, isThere_0, bnd_v, if_pos rfl]
    rw [hL, bnd_v, hM, bnd_v]
    exact ⟨_, fin_x rfl (show (1 : Int32) ≠ 0 by decide)⟩
  · have h0 : ¬ u9 < 0 := Int32.not_lt.mpr (h.resolve_left c)
    have hL : SL_failedCommand u9 wo = some (0, vp_updL wo 0 u9.toInt64) := by simp [SL_failedCommand, SX5_failedCommand, lt_v, c]
    have hM : SX6_failedCommand u9 = some (u9, 0) := by
      unfold SX6_failedCommand
      rw [if_neg h0, lt_v, isThere_1, bnd_v, if_neg (show ¬ (1 : Int32) = 0 by decide)]
    rw [hL, bnd_v, hM, bnd_v]
    exact ⟨_, fin_ok rfl rfl (updL_0 wo _)⟩
/-! the water balances, the predictions agree -/
theorem keeps_l (h7 : 0 ≤ q f 7 ∧ q f 7 ≤ 4) {W : Int32} (hb : W + absS f (tw f) = 20 + f 4) : ∀ (d i fu : Nat), i + d = tw f → d + 1 ≤ fu → LX4_keepsWater_20 f fu (W + absS f i) (nI i) = some 1 := by
  have e6 : f 7 = nI (tw f) := q_n h7.1
  have h4 : tw f ≤ 4 := by unfold tw; omega
  intro d
  induction d with
  | zero =>
    intro i fu hi hf
    obtain ⟨fu, rfl⟩ : ∃ k, fu = k + 1 := ⟨fu - 1, by omega⟩
    have e : i = tw f := by omega
    rw [LX4_keepsWater_20, towels_v, e6, if_pos (nI_le (by omega) (by omega)), at_4, e, if_pos hb.symm]
  | succ d ih =>
    intro i fu hi hf
    obtain ⟨fu, rfl⟩ : ∃ k, fu = k + 1 := ⟨fu - 1, by omega⟩
    rw [LX4_keepsWater_20, towels_v, e6, if_neg (nI_ge (by omega) (by omega)), lt_v, show SX4_ofTowel f (nI i) 2 = _ from tow_v f (show i < 4 by omega) (k := 2) (by omega), nI_1, Int32.add_assoc]
    exact ih (i + 1) fu (by omega) (by omega)
theorem keeps_v (hN : 2100 ≤ N) (h7 : 0 ≤ q f 7 ∧ q f 7 ≤ 4) (hb : f 1 + f 3 + absS f (tw f) = 20 + f 4) : SX4_keepsWater N f = some 1 := by
  have h4 : tw f ≤ 4 := by unfold tw; omega
  have h := keeps_l h7 hb (tw f) 0 N (by omega) (by omega)
  unfold SX4_keepsWater
  rw [lt_v, at_1, at_3]
  have e : f 1 + f 3 + absS f 0 = f 1 + f 3 := Int32.add_zero _
  rw [e] at h
  exact h
theorem agrees_v (hN : 2100 ≤ N) (hG : TG f) {m : Nat} (hm : m ≤ 2000) : ∀ (d i fu : Nat) (A P M : Nat → Int32), i + d = 12 → d + 1 ≤ fu → ∃ A' P' M', LX0_agreesIn_2 N f (nI m) fu A P M (nI i) = some (1, A', P', M') := by
  intro d
  induction d with
  | zero =>
    intro i fu A P M hi hf
    obtain ⟨fu, rfl⟩ : ∃ k, fu = k + 1 := ⟨fu - 1, by omega⟩
    exact ⟨A, P, M, by rw [LX0_agreesIn_2, if_pos (show (12 : Int32) ≤ nI i from nI_le (a := 12) (by omega) (by omega))]⟩
  | succ d ih =>
    intro i fu A P M hi hf
    obtain ⟨fu, rfl⟩ : ∃ k, fu = k + 1 := ⟨fu - 1, by omega⟩
    obtain ⟨A1, P1, M1, e1⟩ := steps_c hG (p := i) (by omega) (m := m) hm (N := N) (by omega) A P M
    obtain ⟨A2, P2, M2, e2⟩ := ih (i + 1) fu A1 P1 M1 (by omega) (by omega)
    refine ⟨A2, P2, M2, ?_⟩
    rw [LX0_agreesIn_2, if_neg (show ¬ (12 : Int32) ≤ nI i from nI_ge (b := 12) (by omega) (by omega)), tide_c hG (by omega) (by omega) (by omega), bnd_v, e1, bnd_v, if_pos rfl, nI_1]
    exact e2
theorem p46 (hN : 2100 ≤ N) (hG : TG f) (h7 : 0 ≤ q f 7 ∧ q f 7 ≤ 4) (hb : f 1 + f 3 + absS f (tw f) = 20 + f 4) (f1 f2 f3 : Nat → Int32) : ∃ r, SC46 N f f1 f2 f3 = some r := by
  obtain ⟨A1, P1, M1, e1⟩ : ∃ A' P' M', SX0_agreesIn N f1 f2 f3 f 0 = some (1, A', P', M') := agrees_v hN hG (m := 0) (by omega) 12 0 N f1 f2 f3 (by omega) (by omega)
  obtain ⟨A2, P2, M2, e2⟩ : ∃ A' P' M', SX0_agreesIn N A1 P1 M1 f 1 = some (1, A', P', M') := agrees_v hN hG (m := 1) (by omega) 12 0 N A1 P1 M1 (by omega) (by omega)
  obtain ⟨A3, P3, M3, e3⟩ : ∃ A' P' M', SX0_agreesIn N A2 P2 M2 f 5 = some (1, A', P', M') := agrees_v hN hG (m := 5) (by omega) 12 0 N A2 P2 M2 (by omega) (by omega)
  obtain ⟨A4, P4, M4, e4⟩ : ∃ A' P' M', SX0_agreesIn N A3 P3 M3 f 20 = some (1, A', P', M') := agrees_v hN hG (m := 20) (by omega) 12 0 N A3 P3 M3 (by omega) (by omega)
  have hL : SX5_isBalanced N f f1 f2 f3 = some (1, M4, A4, P4) := by
    unfold SX5_isBalanced
    rw [keeps_v hN h7 hb, bnd_v, if_neg (show ¬ (1 : Int32) = 0 by decide), e1, bnd_v, if_neg (show ¬ (1 : Int32) = 0 by decide), e2, bnd_v, if_neg (show ¬ (1 : Int32) = 0 by decide), e3, bnd_v, if_neg (show ¬ (1 : Int32) = 0 by decide), e4, bnd_v, if_neg (show ¬ (1 : Int32) = 0 by decide)]
  unfold SC46
  rw [hL, bnd_v, lt_v]
  exact ⟨_, if_pos rfl⟩
end PR
