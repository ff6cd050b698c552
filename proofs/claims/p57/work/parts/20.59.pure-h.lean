/-! one command: both sides alike -/
section PH
variable {T : Int} {f s cd : Nat → Int32} {N j : Nat} {a b c : Int32}
theorem bnd_m {α β : Type} {x : Option α} {v : α} (h : x = some v) (k : α → Option β) : bnd x k = k v := by rw [h, bnd_v]
theorem co_moon (hR : Rel f s) (hG : Good T f) {x : Int32} (hx : x = 0 ∨ x = 1 ∨ x = 2) : (SX4_isMoonShape a b c = 0 ∧ ∃ k, ¬ k ≤ 0 ∧ SX6_doAdd 0 s x a b c = some (0, s, k)) ∨ (SX4_isMoonShape a b c = 1 ∧ SX4_hasMoonRoom f = 0 ∧ ∃ k, ¬ k ≤ 0 ∧ SX6_doAdd 0 s x a b c = some (0, s, k)) ∨ (SX4_isMoonShape a b c = 1 ∧ SX4_hasMoonRoom f = 1 ∧ ∃ r f' s', SX4_putMoon f x a b c = (r, f') ∧ SX6_doAdd 0 s x a b c = some (r, s', 0) ∧ Rel f' s' ∧ Good T f') := by
  obtain ⟨w, hw, rfl⟩ : ∃ w, w ≤ 2 ∧ x = nI w := by
    rcases hx with rfl | rfl | rfl
    · exact ⟨0, by omega, rfl⟩
    · exact ⟨1, by omega, rfl⟩
    · exact ⟨2, by omega, rfl⟩
  rcases shap a b c with ⟨m, p, t, rfl, hm, rfl, hp, rfl, ht, z1, z2, z3⟩ | ⟨z1, z2⟩
  · rcases room_v hG with ⟨y1, y2⟩ | ⟨y1, y2⟩
    · exact Or.inr (Or.inr ⟨z1, y2, o_moon hR hG y1 hm hp ht hw z2 z3⟩)
    · exact Or.inr (Or.inl ⟨z1, y2, 2, by decide, x_moon hR hG y1 hp z2 z3 _⟩)
  · exact Or.inl ⟨z1, 1, by decide, z2 s _⟩
theorem co_all (hN : 2100 ≤ N) (hR : Rel f s) (hG : Good T f) (hT : T ≤ 900000) (hj : j < 15) {w : Nat} (hw : w < 12) (e0 : cd (4 * j) = nI w) (e1 : 1 ≤ nums w → cd (4 * j + 1) = a) (e2 : 2 ≤ nums w → cd (4 * j + 2) = b) (e3 : 3 ≤ nums w → cd (4 * j + 3) = c) : CO N T f s (SX4_allows N f (nI w) a b c) (SX4_obey N f (nI w) a b c) (SX6_does N 0 s cd (nI j)) := by
  obtain ⟨X, hX, hX2⟩ := does_0 (N := N) (s := s) (cd := cd) hj
  rw [hX, hX2, e0]
  have hTT : T ≤ T + 60 := by omega
  have n1 : ¬ (1 : Int32) ≤ 0 := by decide
  have n2 : ¬ (2 : Int32) ≤ 0 := by decide
  have n3 : ¬ (3 : Int32) ≤ 0 := by decide
  have hc : w = 0 ∨ w = 1 ∨ w = 2 ∨ w = 3 ∨ w = 4 ∨ w = 5 ∨ w = 6 ∨ w = 7 ∨ w = 8 ∨ w = 9 ∨ w = 10 ∨ w = 11 := by omega
  rcases hc with rfl | rfl | rfl | rfl | rfl | rfl | rfl | rfl | rfl | rfl | rfl | rfl
  · rw [e1 (by decide), e2 (by decide), e3 (by decide)]
    rw [show nI 0 = (0 : Int32) from rfl]
    dsimp only
    rcases co_moon (a := a) (b := b) (c := c) hR hG (x := 0) (by decide) with ⟨h1, k, h2, h3⟩ | ⟨h1, h2, k, h3, h4⟩ | ⟨h1, h2, r, f', s', h3, h4, h5, h6⟩
    · refine Or.inl ⟨by simp [SX4_allows, h1], k, s, ?_, h2⟩
      simp [h3, bnd_v]
    · refine Or.inl ⟨by simp [SX4_allows, h1, h2], k, s, ?_, h3⟩
      simp [h4, bnd_v]
    · refine Or.inr ⟨by simp [SX4_allows, h1, h2], f', s', ?_, ?_, h5, h6.mono hTT⟩
      · simp [SX4_obey, h3, lt_v]
      · simp [h4, bnd_v]
  · rw [e1 (by decide), e2 (by decide), e3 (by decide)]
    rw [show nI 1 = (1 : Int32) from rfl]
    dsimp only
    rcases co_moon (a := a) (b := b) (c := c) hR hG (x := 1) (by decide) with ⟨h1, k, h2, h3⟩ | ⟨h1, h2, k, h3, h4⟩ | ⟨h1, h2, r, f', s', h3, h4, h5, h6⟩
    · refine Or.inl ⟨by simp [SX4_allows, h1], k, s, ?_, h2⟩
      simp [h3, bnd_v]
    · refine Or.inl ⟨by simp [SX4_allows, h1, h2], k, s, ?_, h3⟩
      simp [h4, bnd_v]
    · refine Or.inr ⟨by simp [SX4_allows, h1, h2], f', s', ?_, ?_, h5, h6.mono hTT⟩
      · simp [SX4_obey, h3, lt_v]
      · simp [h4, bnd_v]
  · rw [e1 (by decide), e2 (by decide), e3 (by decide)]
    rw [show nI 2 = (2 : Int32) from rfl]
    dsimp only
    rcases co_moon (a := a) (b := b) (c := c) hR hG (x := 2) (by decide) with ⟨h1, k, h2, h3⟩ | ⟨h1, h2, k, h3, h4⟩ | ⟨h1, h2, r, f', s', h3, h4, h5, h6⟩
    · refine Or.inl ⟨by simp [SX4_allows, h1], k, s, ?_, h2⟩
      simp [h3, bnd_v]
    · refine Or.inl ⟨by simp [SX4_allows, h1, h2], k, s, ?_, h3⟩
      simp [h4, bnd_v]
    · refine Or.inr ⟨by simp [SX4_allows, h1, h2], f', s', ?_, ?_, h5, h6.mono hTT⟩
      · simp [SX4_obey, h3, lt_v]
      · simp [h4, bnd_v]
  · rw [e1 (by decide)]
    rw [show nI 3 = (3 : Int32) from rfl]
    dsimp only
    rcases moonn hR hG.2.2.2.2.1 a with ⟨i, hi, rfl, h1, h2⟩ | ⟨h1, h2⟩
    · obtain ⟨r, f', s', h3, h4, h5, h6⟩ := o_drop (N := N) (by omega) hR hG hi h2
      refine Or.inr ⟨by simp [SX4_allows, h1, gd_p nar_1], f', s', by simp [SX4_obey, h3, bnd_v], ?_, h5, h6.mono hTT⟩
      simp [h4, bnd_v]
    · refine Or.inl ⟨by simp [SX4_allows, h1, gd_p nar_0], 1, s, ?_, n1⟩
      simp [x_drop h2, bnd_v]
  · rw [e1 (by decide)]
    rw [show nI 4 = (4 : Int32) from rfl]
    dsimp only
    rcases posn a with ⟨p, hp, rfl, h1, h2⟩ | ⟨h1, h2⟩
    · rcases canToe (N := N) (by omega) hG hp h1 with ⟨y1, y2, y3⟩ | ⟨y1, y3⟩
      · obtain ⟨r, f', s', h3, h4, h5, h6⟩ := o_toe (N := N) (by omega) hR hG hp y1 y2
        refine Or.inr ⟨by simp [SX4_allows, h1, y3, bnd_v], f', s', by simp [SX4_obey, h3, bnd_v], ?_, h5, h6.mono hTT⟩
        simp [h4, bnd_v]
      · refine Or.inl ⟨by simp [SX4_allows, h1, y3, bnd_v], 2, s, ?_, n2⟩
        simp [x_toe (N := N) (by omega) hR hG hp y1, bnd_v]
    · have xx : SX6_doPlaceToe N 0 s a = some (0, s, 1) := by simp [SX6_doPlaceToe, SX6_fails, h2, bnd_v, lt_v]
      refine Or.inl ⟨by simp [SX4_allows, h1], 1, s, ?_, n1⟩
      simp [xx, bnd_v]
  · rw [e1 (by decide)]
    rw [show nI 5 = (5 : Int32) from rfl]
    dsimp only
    rcases posn a with ⟨p, hp, rfl, h1, h2⟩ | ⟨h1, h2⟩
    · have hv := isToe_v f hp h1
      rcases hG.2.2.2.2.2.2.1 p hp with y1 | y1
      · rw [if_neg (fun z => by have := n1_q.mp z; omega)] at hv
        refine Or.inl ⟨by simp [SX4_allows, h1, hv], 2, s, ?_, n2⟩
        simp [x_untoe (N := N) hR hp y1, bnd_v]
      · rw [if_pos (n1_q.mpr y1)] at hv
        obtain ⟨r, f', s', h3, h4, h5, h6⟩ := o_untoe (N := N) (by omega) hR hG hp y1
        refine Or.inr ⟨by simp [SX4_allows, h1, hv], f', s', by simp [SX4_obey, h3, bnd_v], ?_, h5, h6.mono hTT⟩
        simp [h4, bnd_v]
    · have xx : SX6_doRemoveToe N 0 s a = some (0, s, 1) := by simp [SX6_doRemoveToe, SX6_fails, h2, bnd_v, lt_v]
      refine Or.inl ⟨by simp [SX4_allows, h1], 1, s, ?_, n1⟩
      simp [xx, bnd_v]
  · rw [e1 (by decide)]
    rw [show nI 6 = (6 : Int32) from rfl]
    dsimp only
    rcases posn a with ⟨p, hp, rfl, h1, h2⟩ | ⟨h1, h2⟩
    · obtain ⟨r, f', s', h3, h4, h5, h6⟩ := o_plug hR hG hp
      refine Or.inr ⟨by simp [SX4_allows, h1, gd_p nar_1], f', s', by simp [SX4_obey, h3, lt_v], ?_, h5, h6.mono hTT⟩
      simp [h4, bnd_v]
    · have xx : SX6_doInsertPlug 0 s a = some (0, s, 1) := by simp [SX6_doInsertPlug, SX6_fails, h2, bnd_v, lt_v]
      refine Or.inl ⟨by simp [SX4_allows, h1, gd_p nar_0], 1, s, ?_, n1⟩
      simp [xx, bnd_v]
  · rw [show nI 7 = (7 : Int32) from rfl]
    dsimp only
    rcases plugd f with h1 | h1
    · obtain ⟨r, f', s', h3, h4, h5, h6⟩ := o_pull hR hG h1
      refine Or.inr ⟨by simp [SX4_allows, h1, gd_p nar_1], f', s', by simp [SX4_obey, h3, lt_v], ?_, h5, h6.mono hTT⟩
      simp [h4, bnd_v]
    · obtain ⟨s', xx⟩ := x_pull hR h1
      refine Or.inl ⟨by simp [SX4_allows, h1, gd_p nar_0], 1, s', ?_, n1⟩
      simp [xx, bnd_v]
  · rw [e1 (by decide), e2 (by decide)]
    rw [show nI 8 = (8 : Int32) from rfl]
    dsimp only
    rcases posn a with ⟨p, hp, rfl, h1, h2⟩ | ⟨h1, h2⟩
    · rcases inn b 0 60 with ⟨k1, k2, k3⟩ | k1
      · obtain ⟨m, rfl, m1, m2⟩ := inN ⟨k2, k3⟩ (by decide)
        have e60 : (60 : Int32).toInt = 60 := rfl
        have hh : SX4_isHeight (nI m) = 1 := k1
        rcases canTow (N := N) (by omega) hR hG (nI p) with ⟨y1, y2, y3⟩ | ⟨y2, y3⟩
        · obtain ⟨r, f', s', h3, h4, h5, h6⟩ := o_tow (N := N) (by omega) hR hG y1 hp (m := m) (by omega) k1 y3
          refine Or.inr ⟨by simp [SX4_allows, h1, hh, y2, bnd_v], f', s', by simp [SX4_obey, h3, lt_v], ?_, h5, h6.mono hTT⟩
          simp [h4, bnd_v]
        · have xx : SX6_doLayTowel N 0 s (nI p) (nI m) = some (0, s, 3) := by
            rcases y3 with ⟨y3, y4⟩ | y3
            · exact x_tow4 hR hG y3 hp k1 y4
            · exact x_towL hp k1 y3
          refine Or.inl ⟨by simp [SX4_allows, h1, hh, y2, bnd_v], 3, s, ?_, n3⟩
          simp [xx, bnd_v]
      · have hh : SX4_isHeight b = 0 := k1
        have xx : SX6_doLayTowel N 0 s (nI p) b = some (0, s, 2) := by simp [SX6_doLayTowel, SX6_fails, h2, k1, bnd_v, lt_v]
        refine Or.inl ⟨by simp [SX4_allows, h1, hh], 2, s, ?_, n2⟩
        simp [xx, bnd_v]
    · have xx : SX6_doLayTowel N 0 s a b = some (0, s, 1) := by simp [SX6_doLayTowel, SX6_fails, h2, bnd_v, lt_v]
      refine Or.inl ⟨by simp [SX4_allows, h1], 1, s, ?_, n1⟩
      simp [xx, bnd_v]
  · rw [e1 (by decide)]
    rw [show nI 9 = (9 : Int32) from rfl]
    dsimp only
    rcases towln hR hG.2.2.2.2.2.1 a with ⟨i, hi, rfl, h1, h2⟩ | ⟨h1, h2⟩
    · obtain ⟨r, f', s', h3, h4, h5, h6⟩ := o_wring hR hG hi h2
      refine Or.inr ⟨by simp [SX4_allows, h1, gd_p nar_1], f', s', by simp [SX4_obey, h3, lt_v], ?_, h5, h6.mono hTT⟩
      simp [h4, bnd_v]
    · refine Or.inl ⟨by simp [SX4_allows, h1, gd_p nar_0], 1, s, ?_, n1⟩
      simp [x_wring h2, bnd_v]
  · rw [e1 (by decide)]
    rw [show nI 10 = (10 : Int32) from rfl]
    dsimp only
    rcases inn a (-3) 3 with ⟨h1, h2, h3⟩ | h1
    · have hf : SX4_isFlow a = 1 := h1
      obtain ⟨r, f', s', h3, h4, h5, h6⟩ := o_flow hR hG ⟨h2, h3⟩ h1
      refine Or.inr ⟨by simp [SX4_allows, hf, gd_p nar_1], f', s', by simp [SX4_obey, h3, lt_v], ?_, h5, h6.mono hTT⟩
      simp [h4, bnd_v]
    · have hf : SX4_isFlow a = 0 := h1
      refine Or.inl ⟨by simp [SX4_allows, hf, gd_p nar_0], 1, s, ?_, n1⟩
      simp [x_flow h1, bnd_v]
  · rw [e1 (by decide)]
    rw [show nI 11 = (11 : Int32) from rfl]
    dsimp only
    rcases inn a 1 60 with ⟨h1, h2, h3⟩ | h1
    · have hf : SX4_isWait a = 1 := h1
      obtain ⟨n, rfl, n1, n2⟩ := inN ⟨h2, h3⟩ (by decide)
      have e60 : (60 : Int32).toInt = 60 := rfl
      obtain ⟨r, f', s', h3, h4, h5, h6, -⟩ := o_adv (N := N) (by omega) hR hG (by omega) (n := n) (by omega) h1
      refine Or.inr ⟨by simp [SX4_allows, hf, gd_p nar_1], f', s', by simp [SX4_obey, h3, bnd_v], ?_, h5, h6⟩
      simp [h4, bnd_v]
    · have hf : SX4_isWait a = 0 := h1
      refine Or.inl ⟨by simp [SX4_allows, hf, gd_p nar_0], 1, s, ?_, n1⟩
      simp [x_adv h1, bnd_v]
end PH
