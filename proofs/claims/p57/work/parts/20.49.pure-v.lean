theorem in_0 {x lo hi : Int32} (h : SX6_in x lo hi = 0) : x < lo ∨ hi < x := by
  unfold SX6_in at h
  by_cases h1 : x < lo
  · exact Or.inl h1
  · by_cases h2 : hi < x
    · exact Or.inr h2
    · rw [if_neg h1, if_neg h2] at h
      exact absurd h (by decide)
theorem in_1 {x lo hi : Int32} (h : SX6_in x lo hi = 1) : ¬ x < lo ∧ ¬ hi < x := by
  unfold SX6_in at h
  by_cases h1 : x < lo
  · rw [if_pos h1] at h
    exact absurd h (by decide)
  · by_cases h2 : hi < x
    · rw [if_neg h1, if_pos h2] at h
      exact absurd h (by decide)
    · exact ⟨h1, h2⟩
theorem shap (a b c : Int32) : (∃ m p t, a = nI m ∧ (1 ≤ m ∧ m ≤ 6) ∧ b = nI p ∧ p < 12 ∧ c = nI t ∧ (1 ≤ t ∧ t ≤ 12) ∧ SX4_isMoonShape a b c = 1 ∧ SX6_in a 1 6 = 1 ∧ SX6_in c 1 12 = 1) ∨ (SX4_isMoonShape a b c = 0 ∧ ∀ (s : Nat → Int32) (k : Int32), SX6_doAdd 0 s k a b c = some (0, s, 1)) := by
  unfold SX4_isMoonShape
  rcases inn a 1 6 with ⟨h1, h2, h3⟩ | h1
  · have z1 := in_1 h1
    rw [if_neg z1.1, if_neg z1.2]
    rcases posn b with ⟨p, hp, rfl, g1, g2⟩ | ⟨g1, g2⟩
    · rw [g1, if_neg (show ¬ (1 : Int32) = 0 by decide)]
      rcases inn c 1 12 with ⟨k1, k2, k3⟩ | k1
      · have z2 := in_1 k1
        rw [if_neg z2.1, if_neg z2.2]
        obtain ⟨m, rfl, m1, m2⟩ := inN ⟨h2, h3⟩ (by decide)
        obtain ⟨t, rfl, t1, t2⟩ := inN ⟨k2, k3⟩ (by decide)
        have e1 : (1 : Int32).toInt = 1 := rfl
        have e6 : (6 : Int32).toInt = 6 := rfl
        have e12 : (12 : Int32).toInt = 12 := rfl
        exact Or.inl ⟨m, p, t, rfl, by omega, rfl, hp, rfl, by omega, rfl, h1, k1⟩
      · refine Or.inr ⟨?_, fun s k => ?_⟩
        · rcases in_0 k1 with z | z
          · rw [if_pos z]
          · by_cases z2 : c < 1
            · rw [if_pos z2]
            · rw [if_neg z2, if_pos z]
        · unfold SX6_doAdd SX6_fails
          rw [h1, if_neg (by decide), g2, bnd_v, if_neg (by decide), k1, if_pos rfl, lt_v]
    · rw [g1, if_pos rfl]
      refine Or.inr ⟨rfl, fun s k => ?_⟩
      unfold SX6_doAdd SX6_fails
      rw [h1, if_neg (by decide), g2, bnd_v, if_pos rfl, lt_v]
  · refine Or.inr ⟨?_, fun s k => ?_⟩
    · rcases in_0 h1 with z | z
      · rw [if_pos z]
      · by_cases z2 : a < 1
        · rw [if_pos z2]
        · rw [if_neg z2, if_pos z]
    · unfold SX6_doAdd SX6_fails
      rw [h1, if_pos rfl, lt_v]
section PV
variable {T : Int} {f s : Nat → Int32} {N : Nat}
theorem room_v (hG : Good T f) : (mo f < 5 ∧ SX4_hasMoonRoom f = 1) ∨ (mo f = 5 ∧ SX4_hasMoonRoom f = 0) := by
  have := hG.m5
  unfold SX4_hasMoonRoom
  rw [moons_v, hG.f6]
  by_cases c : mo f < 5
  · rw [if_neg (show ¬ (5 : Int32) ≤ nI (mo f) from nI_ge (b := 5) c (by omega))]
    exact Or.inl ⟨c, rfl⟩
  · rw [if_pos (show (5 : Int32) ≤ nI (mo f) from nI_le (a := 5) (by omega) (by omega))]
    exact Or.inr ⟨by omega, rfl⟩
def mo4 (f : Nat → Int32) (j : Nat) (x1 x2 x3 x4 : Int32) : Nat → Int32 := upd (upd (upd (upd (upd f (20 + 5 * j + 0) x1) (20 + 5 * j + 1) x2) (20 + 5 * j + 2) x3) (20 + 5 * j + 3) x4) (20 + 5 * j + 4) (f 0)
theorem putMoon_v (hG : Good T f) (h : mo f < 5) (x1 x2 x3 x4 : Int32) : SX4_putMoon f x1 x2 x3 x4 = (nI (mo f), upd (mo4 f (mo f) x1 x2 x3 x4) 6 (nI (mo f + 1))) := by
  generalize hj : mo f = j at h
  have a0 : (20 : Int32) + nI j * 5 + 0 = nI (20 + 5 * j + 0) := e_m j 0
  have a1 : (20 : Int32) + nI j * 5 + 1 = nI (20 + 5 * j + 1) := e_m j 1
  have a2 : (20 : Int32) + nI j * 5 + 2 = nI (20 + 5 * j + 2) := e_m j 2
  have a3 : (20 : Int32) + nI j * 5 + 3 = nI (20 + 5 * j + 3) := e_m j 3
  have a4 : (20 : Int32) + nI j * 5 + 4 = nI (20 + 5 * j + 4) := e_m j 4
  have z : ∀ (F : Nat → Int32) (k : Nat) (x : Int32), k < 5 → SX2_put 61 F (nI (20 + 5 * j + k)) x = upd F (20 + 5 * j + k) x := fun F k x hk => put_n F x (by omega) (by omega)
  have f6 : f 6 = nI j := by rw [← hj]; exact hG.f6
  unfold SX4_putMoon
  rw [moons_v, f6, a0, a1, a2, a3, a4, z _ 0 _ (by omega), lt_v, z _ 1 _ (by omega), lt_v, z _ 2 _ (by omega), lt_v, z _ 3 _ (by omega), lt_v, z _ 4 _ (by omega), lt_v, put_6, lt_v, at_0, upd_ne _ _ (by omega), upd_ne _ _ (by omega), upd_ne _ _ (by omega), upd_ne _ _ (by omega), nI_1]
  rfl
theorem mo4_e (f : Nat → Int32) (j : Nat) (x1 x2 x3 x4 : Int32) {i : Nat} (h : ¬ (20 + 5 * j ≤ i ∧ i < 25 + 5 * j)) : mo4 f j x1 x2 x3 x4 i = f i := by
  unfold mo4
  rw [upd_ne _ _ (by omega), upd_ne _ _ (by omega), upd_ne _ _ (by omega), upd_ne _ _ (by omega), upd_ne _ _ (by omega)]
theorem mo4_0 (f : Nat → Int32) (j : Nat) (x1 x2 x3 x4 : Int32) : mo4 f j x1 x2 x3 x4 (20 + 5 * j + 0) = x1 := by
  unfold mo4
  rw [upd_ne _ _ (by omega), upd_ne _ _ (by omega), upd_ne _ _ (by omega), upd_ne _ _ (by omega), upd_same]
theorem mo4_1 (f : Nat → Int32) (j : Nat) (x1 x2 x3 x4 : Int32) : mo4 f j x1 x2 x3 x4 (20 + 5 * j + 1) = x2 := by
  unfold mo4
  rw [upd_ne _ _ (by omega), upd_ne _ _ (by omega), upd_ne _ _ (by omega), upd_same]
theorem mo4_2 (f : Nat → Int32) (j : Nat) (x1 x2 x3 x4 : Int32) : mo4 f j x1 x2 x3 x4 (20 + 5 * j + 2) = x3 := by
  unfold mo4
  rw [upd_ne _ _ (by omega), upd_ne _ _ (by omega), upd_same]
theorem mo4_3 (f : Nat → Int32) (j : Nat) (x1 x2 x3 x4 : Int32) : mo4 f j x1 x2 x3 x4 (20 + 5 * j + 3) = x4 := by
  unfold mo4
  rw [upd_ne _ _ (by omega), upd_same]
theorem mo4_4 (f : Nat → Int32) (j : Nat) (x1 x2 x3 x4 : Int32) : mo4 f j x1 x2 x3 x4 (20 + 5 * j + 4) = f 0 := by
  unfold mo4
  rw [upd_same]
theorem doAdd_v (hR : Rel f s) (hG : Good T f) (h : mo f < 5) {m p t : Nat} (hp : p < 12) (k1 : SX6_in (nI m) 1 6 = 1) (k2 : SX6_in (nI t) 1 12 = 1) (x1 : Int32) : ∃ s', SX6_doAdd 0 s x1 (nI m) (nI p) (nI t) = some (nI (mo f), s', 0) ∧ Rel (upd (mo4 f (mo f) x1 (nI m) (nI p) (nI t)) 6 (nI (mo f + 1))) s' := by
  have hjf : mo f = mo f := rfl
  generalize hj : mo f = j at h
  have f6 : s 0 = nI j := by rw [hR.r0, ← hj]; exact hG.f6
  have b1 : nI (19 + 5 * j) + 1 = nI (19 + 5 * j + 1) := nI_add _ 1
  have b2 : nI (19 + 5 * j) + 2 = nI (19 + 5 * j + 2) := nI_add _ 2
  have b3 : nI (19 + 5 * j) + 3 = nI (19 + 5 * j + 3) := nI_add _ 3
  have b4 : nI (19 + 5 * j) + 4 = nI (19 + 5 * j + 4) := nI_add _ 4
  have g : ∀ k, k < 5 → vp_in (nI (19 + 5 * j + k)) 60 := fun k hk => vp_in_nI (by omega) (by omega)
  have c : ∀ k, k < 5 → (nI (19 + 5 * j + k)).toNatClampNeg = 19 + 5 * j + k := fun k hk => nI_clamp (by omega)
  have g0 : vp_in (nI (19 + 5 * j)) 60 := g 0 (by omega)
  have c0 : (nI (19 + 5 * j)).toNatClampNeg = 19 + 5 * j := c 0 (by omega)
  refine ⟨upd (upd (upd (upd (upd (upd s (19 + 5 * j) x1) (19 + 5 * j + 1) (nI m)) (19 + 5 * j + 2) (nI p)) (19 + 5 * j + 3) (nI t)) (19 + 5 * j + 4) (f 0)) 0 (nI (j + 1)), ?_, ?_⟩
  · unfold SX6_doAdd
    rw [k1, if_neg (by decide), posn_1 hp, bnd_v, if_neg (by decide), k2, if_neg (by decide), f6, if_neg (fun z => by have := (nI_eq (a := j) (b := 5) (by omega) (by omega)).mp z; omega), s_m0, b1, b2, b3, b4, gd_p g0, gd_p (g 1 (by omega)), gd_p (g 2 (by omega)), gd_p (g 3 (by omega)), lt_v, gd_p (g 4 (by omega)), lt_v, c0, c 1 (by omega), c 2 (by omega), c 3 (by omega), c 4 (by omega), upd_ne (j := 2) _ _ (by omega), upd_ne (j := 2) _ _ (by omega), upd_ne (j := 2) _ _ (by omega), upd_ne (j := 2) _ _ (by omega), hR.r2, upd_ne (j := 0) _ _ (by omega), upd_ne (j := 0) _ _ (by omega), upd_ne (j := 0) _ _ (by omega), upd_ne (j := 0) _ _ (by omega), upd_ne (j := 0) _ _ (by omega), f6, nI_1]
  · unfold mo4
    exact (((((hR.up x1 (i := 19 + 5 * j) (k := 20 + 5 * j + 0) (by rw [tau_ge (by omega)]; omega)).up (nI m) (i := 19 + 5 * j + 1) (k := 20 + 5 * j + 1) (by rw [tau_ge (by omega)]; omega)).up (nI p) (i := 19 + 5 * j + 2) (k := 20 + 5 * j + 2) (by rw [tau_ge (by omega)]; omega)).up (nI t) (i := 19 + 5 * j + 3) (k := 20 + 5 * j + 3) (by rw [tau_ge (by omega)]; omega)).up (f 0) (i := 19 + 5 * j + 4) (k := 20 + 5 * j + 4) (by rw [tau_ge (by omega)]; omega)).up (nI (j + 1)) (i := 0) (k := 6) rfl
theorem o_moon (hR : Rel f s) (hG : Good T f) (h : mo f < 5) {m p t kd : Nat} (hm : 1 ≤ m ∧ m ≤ 6) (hp : p < 12) (ht : 1 ≤ t ∧ t ≤ 12) (hk : kd ≤ 2) (k1 : SX6_in (nI m) 1 6 = 1) (k2 : SX6_in (nI t) 1 12 = 1) : ∃ r f' s', SX4_putMoon f (nI kd) (nI m) (nI p) (nI t) = (r, f') ∧ SX6_doAdd 0 s (nI kd) (nI m) (nI p) (nI t) = some (r, s', 0) ∧ Rel f' s' ∧ Good T f' := by
  obtain ⟨s', h1, h2⟩ := doAdd_v hR hG h hp k1 k2 (nI kd)
  refine ⟨_, _, s', putMoon_v hG h _ _ _ _, h1, h2, ?_⟩
  have h0 : 0 ≤ q f 0 ∧ q f 0 ≤ T := hG.1
  have hm := hG.2.2.2.2.2.2.2.2.1
  have e6 : q (upd (mo4 f (mo f) (nI kd) (nI m) (nI p) (nI t)) 6 (nI (mo f + 1))) 6 = ((mo f + 1 : Nat) : Int) := by
    rw [q_same, nI_toInt (by omega)]
  have em : mo (upd (mo4 f (mo f) (nI kd) (nI m) (nI p) (nI t)) 6 (nI (mo f + 1))) = mo f + 1 := by
    unfold mo
    unfold mo at e6
    rw [e6]
    rfl
  have e : ∀ i, i ≠ 6 → upd (mo4 f (mo f) (nI kd) (nI m) (nI p) (nI t)) 6 (nI (mo f + 1)) i = mo4 f (mo f) (nI kd) (nI m) (nI p) (nI t) i := fun i hi => upd_ne _ _ hi
  refine hG.moons (fun i h1 h2 h3 => ?_) (by rw [e6]; omega) (fun j hj => ?_)
  · rw [e i h2, mo4_e _ _ _ _ _ _ (by omega)]
  · rw [em] at hj
    have e0 : upd (mo4 f (mo f) (nI kd) (nI m) (nI p) (nI t)) 6 (nI (mo f + 1)) 0 = f 0 := by rw [e 0 (by omega), mo4_e _ _ _ _ _ _ (by omega)]
    by_cases c : j = mo f
    · subst c
      unfold gMoon
      rw [q_c e0, q_nI ((e _ (by omega)).trans (mo4_0 f (mo f) _ _ _ _)) (by omega), q_nI ((e _ (by omega)).trans (mo4_1 f (mo f) _ _ _ _)) (by omega), q_nI ((e _ (by omega)).trans (mo4_2 f (mo f) _ _ _ _)) (by omega), q_nI ((e _ (by omega)).trans (mo4_3 f (mo f) _ _ _ _)) (by omega), q_c ((e (20 + 5 * mo f + 4) (by omega)).trans (mo4_4 f (mo f) _ _ _ _))]
      exact ⟨by omega, by omega, by omega, by omega, by omega⟩
    · refine gMoon_c (hm j (by omega)) (fun k hk => ?_) (by rw [q_c e0]; omega)
      rw [e _ (by omega), mo4_e _ _ _ _ _ _ (by omega)]
theorem x_moon (hR : Rel f s) (hG : Good T f) (h : mo f = 5) {m p t : Nat} (hp : p < 12) (k1 : SX6_in (nI m) 1 6 = 1) (k2 : SX6_in (nI t) 1 12 = 1) (x1 : Int32) : SX6_doAdd 0 s x1 (nI m) (nI p) (nI t) = some (0, s, 2) := by
  have f6 : s 0 = 5 := by rw [hR.r0, hG.f6, h]; rfl
  unfold SX6_doAdd SX6_fails
  rw [k1, if_neg (by decide), posn_1 hp, bnd_v, if_neg (by decide), k2, if_neg (by decide), f6, if_pos rfl, lt_v]
/-! a moon goes -/
theorem o_drop (hN : 62 ≤ N) (hR : Rel f s) (hG : Good T f) {j : Nat} (hj : j < mo f) (h2 : SX6_isMoon s (nI j) = some 1) : ∃ r f' s', SX4_dropMoon N f (nI j) = some (r, f') ∧ SX6_doRemoveMoon 0 s (nI j) = some (r, s', 0) ∧ Rel f' s' ∧ Good T f' := by
  have hm5 := hG.m5
  have f6 := hG.f6
  have e0 : nI (mo f) - 1 = nI (mo f - 1) := nI_sub (b := 1) (by omega)
  have e1 : (20 : Int32) + nI j * 5 + 5 = nI (20 + 5 * j + 5) := e_m j 5
  have e2 : (nI (mo f - 1) - nI j) * 5 = nI (5 * (mo f - 1 - j)) := by
    rw [nI_sub (by omega), show nI (mo f - 1 - j) * 5 = nI ((mo f - 1 - j) * 5) from nI_mul _ 5, Nat.mul_comm]
  have e3 : (5 : Int32) * (nI (mo f - 1) - nI j) = nI (5 * (mo f - 1 - j)) := by
    rw [nI_sub (by omega), show (5 : Int32) * nI (mo f - 1 - j) = nI (5 * (mo f - 1 - j)) from nI_mul 5 _]
  have e4 : nI (19 + 5 * j) + 5 = nI (19 + 5 * j + 5) := nI_add _ 5
  refine ⟨nI (mo f - 1), upd (va_cpy f f (20 + 5 * j + 5) (20 + 5 * j) (5 * (mo f - 1 - j))) 6 (nI (mo f - 1)), upd (va_cpy s s (19 + 5 * j + 5) (19 + 5 * j) (5 * (mo f - 1 - j))) 0 (nI (mo f - 1)), ?_, ?_, ?_, ?_⟩
  · unfold SX4_dropMoon
    rw [moons_v, f6, e0, e1, e2, e_m0, copyo_c (by omega) f (by omega) (by omega) (by omega), bnd_v, put_6, lt_v]
  · unfold SX6_doRemoveMoon
    rw [h2, bnd_v, if_neg (by decide), hR.r0, f6, e0, e3, s_m0, e4, nI_clamp (by omega), nI_clamp (by omega), nI_clamp (by omega), gd_p ⟨nI_pos (by omega), nI_pos (by omega), nI_pos (by omega), by omega, by omega⟩]
  · intro i hi
    by_cases c0 : i = 0
    · subst c0
      rw [upd_same]
      exact (upd_same _ 6 _).symm
    · have ht : tau i ≠ 6 := fun z => c0 (tau_inj (j := 0) z)
      rw [upd_ne _ _ c0, upd_ne _ _ ht]
      by_cases c : 19 + 5 * j ≤ i ∧ i < 19 + 5 * j + 5 * (mo f - 1 - j)
      · rw [cpy_in c, tau_ge (by omega), cpy_in (by omega), hR _ (by omega), tau_ge (by omega)]
        congr 1; omega
      · rw [cpy_out c, hR i hi]
        have h7 : 7 ≤ i → tau i = i + 1 := tau_ge
        have h8 : i < 7 → tau i < 8 := by
          intro h
          unfold tau
          repeat' split
          all_goals omega
        rw [cpy_out (by omega)]
  · have h0 : 0 ≤ q f 0 ∧ q f 0 ≤ T := hG.1
    have hm := hG.2.2.2.2.2.2.2.2.1
    have e6 : q (upd (va_cpy f f (20 + 5 * j + 5) (20 + 5 * j) (5 * (mo f - 1 - j))) 6 (nI (mo f - 1))) 6 = ((mo f - 1 : Nat) : Int) := by
      rw [q_same, nI_toInt (by omega)]
    have em : mo (upd (va_cpy f f (20 + 5 * j + 5) (20 + 5 * j) (5 * (mo f - 1 - j))) 6 (nI (mo f - 1))) = mo f - 1 := by
      unfold mo
      unfold mo at e6
      rw [e6]
      rfl
    have e : ∀ i, i ≠ 6 → upd (va_cpy f f (20 + 5 * j + 5) (20 + 5 * j) (5 * (mo f - 1 - j))) 6 (nI (mo f - 1)) i = va_cpy f f (20 + 5 * j + 5) (20 + 5 * j) (5 * (mo f - 1 - j)) i := fun i hi => upd_ne _ _ hi
    refine hG.moons (fun i h1 h2 h3 => ?_) (by rw [e6]; omega) (fun j' hj' => ?_)
    · rw [e i h2, cpy_out (by omega)]
    · rw [em] at hj'
      have e0 : upd (va_cpy f f (20 + 5 * j + 5) (20 + 5 * j) (5 * (mo f - 1 - j))) 6 (nI (mo f - 1)) 0 = f 0 := by rw [e 0 (by omega), cpy_out (by omega)]
      by_cases c : j' < j
      · refine gMoon_c (hm j' (by omega)) (fun k hk => ?_) (by rw [q_c e0]; omega)
        rw [e _ (by omega), cpy_out (by omega)]
      · refine gMoon_c (hm (j' + 1) (by omega)) (fun k hk => ?_) (by rw [q_c e0]; omega)
        rw [e _ (by omega), cpy_in (by omega)]
        congr 1; omega
theorem x_drop {a : Int32} (h2 : SX6_isMoon s a = some 0) : SX6_doRemoveMoon 0 s a = some (0, s, 1) := by
  unfold SX6_doRemoveMoon SX6_fails
  rw [h2, bnd_v, if_pos rfl, lt_v]
end PV
