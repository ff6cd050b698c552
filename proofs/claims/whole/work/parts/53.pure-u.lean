/-! undo, save, restore -/
section PU
variable {T : Int} {f ss bb pp g sn sv : Nat → Int32} {v1 v2 v3 v5 u7 : Int32} {wo : Nat → Int64} {L : Nat} {xs : Nat → Int32} {x5 : Int32} {N : Nat}
theorem p51 (hN : 2100 ≤ N) (hR : Rel f ss) (hG : Good T f) (hH : RH T v1 v2 g v5 pp) : ∃ r, SC51 N f v1 v2 g v5 ss pp wo = some r ∧ Rel r.2.1 r.1 ∧ Good T r.2.1 ∧ RH T r.2.2.2.1 r.2.2.2.2.1 g r.2.2.2.2.2.1 pp := by
  obtain ⟨p, k, hp, hk, rfl, rfl, rfl, hj⟩ := hH
  unfold SC51
  by_cases c : k = 0
  · subst c
    have hL : SL_undo N f (nI p) (nI 0) g wo = some (1, f, nI p, nI 0, wo) := by
      unfold SL_undo SX5_undo SX1_size
      rw [if_pos (show nI 0 = 0 from rfl), bnd_v]
      rfl
    have hM : SX6_undo (nI 0) ss pp = some (0, ss, nI 0, 1) := by
      unfold SX6_undo
      rw [if_pos (show nI 0 = 0 from rfl), lt_v, if_neg (by decide)]
    rw [hL, bnd_v, hM, bnd_v]
    exact fin3 rfl (fun h => absurd (show (1 : Int32) = 0 from h) (by decide)) ⟨hR, hG, p, 0, hp, by omega, rfl, rfl, rfl, fun j h => absurd h (by omega)⟩
  · have e0 : ¬ nI k = 0 := nI_ne0 (by omega) (by omega)
    have e1 : irm (nI p + 8 - 1) 8 = nI ((p + 7) % 8) := by
      rw [show nI p + 8 = nI (p + 8) from nI_add _ 8, show nI (p + 8) - 1 = nI (p + 8 - 1) from nI_sub (b := 1) (by omega), show p + 8 - 1 = p + 7 by omega]
      exact nI_irm (b := 8) (by omega) (by omega) (by omega)
    have e2 : nI ((p + 7) % 8) * 61 = nI (61 * ((p + 7) % 8)) := by
      rw [show nI ((p + 7) % 8) * 61 = nI ((p + 7) % 8 * 61) from nI_mul _ 61, Nat.mul_comm]
    have e3 : nI k - 1 = nI (k - 1) := nI_sub (b := 1) (by omega)
    have e4 : (60 : Int32) * nI (k - 1) = nI (60 * (k - 1)) := nI_mul 60 _
    have hc : SX2_copy N 61 f 488 g (nI (61 * ((p + 7) % 8))) 0 61 = some (va_cpy g f (61 * ((p + 7) % 8)) 0 61) := copy_c (n := 61) (k := 488) (a := 61 * ((p + 7) % 8)) (b := 0) (c := 61) (by omega) (by omega) g f (by omega) (by omega) (by omega)
    have hL : SL_undo N f (nI p) (nI k) g wo = some (0, va_cpy g f (61 * ((p + 7) % 8)) 0 61, nI ((p + 7) % 8), nI (k - 1), vp_updL wo 0 (nI (k - 1)).toInt64) := by
      unfold SL_undo SX5_undo SX1_size SX1_takeBack
      rw [if_neg e0, if_neg (show ¬ nI k ≤ 0 from nI_ge (b := k) (a := 0) (by omega) (by omega)), e1, e2, e3, hc, bnd_v, bnd_v, bnd_v]
      rfl
    have hM : SX6_undo (nI k) ss pp = some (nI (k - 1), va_cpy pp ss (60 * (k - 1)) 0 60, nI (k - 1), 0) := by
      unfold SX6_undo
      rw [if_neg e0, lt_v, if_pos (by decide), e3, e4, nI_clamp (by omega), gd_p ⟨nI_pos (by omega), by omega⟩]
    obtain ⟨h1, h2⟩ := hj (k - 1) (by omega)
    have es : (p + 8 - k + (k - 1)) % 8 = (p + 7) % 8 := by omega
    rw [es] at h1 h2
    rw [hL, bnd_v, hM, bnd_v]
    refine fin3 rfl (fun _ => updL_0 wo _) ⟨fun i hi => ?_, h2.congr (fun i hi => ?_), (p + 7) % 8, k - 1, by omega, by omega, rfl, rfl, rfl, fun j h => ?_⟩
    · have := tau_le hi
      show va_cpy pp ss (60 * (k - 1)) 0 60 i = va_cpy g f (61 * ((p + 7) % 8)) 0 61 (tau i)
      rw [cpy_in (by omega), cpy_in (by omega), show 60 * (k - 1) + (i - 0) = 60 * (k - 1) + i by omega, h1 i hi]
      congr 1
    · show va_cpy g f (61 * ((p + 7) % 8)) 0 61 i = _
      rw [cpy_in (by omega)]
      congr 1
    · have e : ((p + 7) % 8 + 8 - (k - 1) + j) % 8 = (p + 8 - k + j) % 8 := by omega
      rw [e]
      exact hj j (by omega)
def SN (T : Int) (u7 v3 : Int32) (sn sv : Nat → Int32) : Prop := u7 = v3 ∧ (u7 = 0 ∨ u7 = 1 ∧ Rel sn sv ∧ Good T sn)
theorem SN.mono {T' : Int} (h : SN T u7 v3 sn sv) (hT : T ≤ T') : SN T' u7 v3 sn sv := by
  obtain ⟨h1, h2⟩ := h
  refine ⟨h1, ?_⟩
  rcases h2 with h | ⟨h, a, b⟩
  · exact Or.inl h
  · exact Or.inr ⟨h, a, b.mono hT⟩
theorem copy61 (hN : 2100 ≤ N) (f g : Nat → Int32) : SX2_copy N 61 f 61 g 0 0 61 = some (va_cpy g f 0 0 61) := copy_c (n := 61) (k := 61) (a := 0) (b := 0) (c := 61) (by omega) (by omega) g f (by omega) (by omega) (by omega)
theorem cpy61 (f g : Nat → Int32) {i : Nat} (hi : i < 61) : va_cpy g f 0 0 61 i = g i := by
  rw [cpy_in (by omega)]
  congr 1; omega
theorem cpy60 (f g : Nat → Int32) {i : Nat} (hi : i < 60) : va_cpy g f 0 0 60 i = g i := by
  rw [cpy_in (by omega)]
  congr 1; omega
theorem p52 (hN : 2100 ≤ N) (hR : Rel f ss) (hG : Good T f) : ∃ r, SC52 N f sn ss sv = some r ∧ SN T r.2.2.1 r.2.2.2.1 r.1 r.2.1 := by
  unfold SC52 SX5_save SX6_save
  rw [copy61 hN, bnd_v, bnd_v, lt_v, moons_v]
  refine ⟨_, if_pos hR.r0.symm, rfl, Or.inr ⟨rfl, fun i hi => ?_, hG.congr (fun i hi => cpy61 _ _ hi)⟩⟩
  show va_cpy ss sv 0 0 60 i = va_cpy f sn 0 0 61 (tau i)
  rw [cpy60 _ _ hi, cpy61 _ _ (tau_le hi), hR i hi]
theorem p53 (hN : 2100 ≤ N) (hR : Rel f ss) (hG : Good T f) (hH : RH T v1 v2 g v5 pp) (hS : SN T u7 v3 sn sv) : ∃ r, SC53 N f v2 sn u7 v3 v5 ss sv wo = some r ∧ Rel r.2.1 r.1 ∧ Good T r.2.1 ∧ RH T v1 r.2.2.2.1 g r.2.2.2.2.1 pp := by
  obtain ⟨rfl, hS⟩ := hS
  unfold SC53
  rcases hS with rfl | ⟨rfl, h1, h2⟩
  · have hL : SL_restore N 0 f v2 sn wo = some (1, f, v2, wo) := by
      unfold SL_restore SX5_restore
      rw [if_pos rfl, bnd_v]
      rfl
    have hM : SX6_restore 0 v5 ss sv = (0, ss, v5, 1) := by
      unfold SX6_restore
      rw [if_pos rfl, lt_v, if_neg (by decide)]
    rw [hL, bnd_v, hM, lt_v]
    exact fin3 rfl (fun h => absurd (show (1 : Int32) = 0 from h) (by decide)) ⟨hR, hG, hH⟩
  · have hL : SL_restore N 1 f v2 sn wo = some (0, va_cpy sn f 0 0 61, 0, vp_updL wo 0 (sn 6).toInt64) := by
      unfold SL_restore SX5_restore SX1_forget
      rw [if_neg (by decide), copy61 hN, bnd_v, lt_v, bnd_v, moons_v, cpy61 _ _ (by omega)]
      rfl
    have hM : SX6_restore 1 v5 ss sv = (sv 0, va_cpy sv ss 0 0 60, 0, 0) := by
      unfold SX6_restore
      rw [if_neg (by decide), lt_v, if_pos (by decide), cpy60 _ _ (by omega)]
    obtain ⟨p, k, hp, hk, rfl, e2, e5, hj⟩ := hH
    rw [hL, bnd_v, hM, lt_v]
    refine fin3 rfl (fun _ => (updL_0 wo _).trans (congrArg Int32.toInt64 h1.r0.symm)) ⟨fun i hi => ?_, h2.congr (fun i hi => cpy61 _ _ hi), p, 0, hp, by omega, rfl, rfl, rfl, fun j h => absurd h (by omega)⟩
    show va_cpy sv ss 0 0 60 i = va_cpy sn f 0 0 61 (tau i)
    rw [cpy60 _ _ hi, cpy61 _ _ (tau_le hi), h1 i hi]
end PU
