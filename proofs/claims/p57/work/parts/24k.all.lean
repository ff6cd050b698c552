/-! ===== the law's pure part: the whole of it ===== -/
section LK
variable {N : Nat}
theorem drawn_1 (hN : 2100 ≤ N) {L : Nat} (hL : L < 2147483648) (xs : Nat → Int32) {c0 : Int32} (h0 : SL_cell L xs 0 = some c0) (hn : 1 + irm (ush c0 1) 5 = 1) : ∃ (r1 f : Nat → Int32) (a c : Int32) (g : Nat → Int32), SL_drawn_1 N L xs = some (r1, -1, -1, f, SX0_init.1, SX0_init.2.1, SX0_init.2.2, a, c, g, (fun _ => 0), 16, (fun _ => 0), (fun _ => 0), 16, (fun _ => 0), (fun _ => 0)) ∧ Good 1000 f ∧ VR a c ∧ mo f = 1 ∧ (∀ j, j < 1 → RW f j ([r1].getD j (fun _ => 0))) ∧ DT f := by
  obtain ⟨c1, h1⟩ := cell_t hL xs (j := 1) (by omega)
  replace h1 : SL_cell L xs 1 = some c1 := h1
  obtain ⟨c6, h6⟩ := cell_t hL xs (j := 6) (by omega)
  replace h6 : SL_cell L xs 6 = some c6 := h6
  obtain ⟨c7, h7⟩ := cell_t hL xs (j := 7) (by omega)
  replace h7 : SL_cell L xs 7 = some c7 := h7
  obtain ⟨c8, h8⟩ := cell_t hL xs (j := 8) (by omega)
  replace h8 : SL_cell L xs 8 = some c8 := h8
  obtain ⟨f1, a1, b1, g1, m1, k1⟩ := mst hN MI0 (by show 0 < 5; omega) (by omega) (fun _ => 0) c1
  obtain ⟨s1, t1, q1⟩ := tst hN m1.ti (by show 1 ≤ 5; omega) g1 c6
  obtain ⟨s2, t2, q2⟩ := tst hN t1 (by show 1 ≤ 5; omega) s1.2.2.2.2 c7
  obtain ⟨s3, t3, q3⟩ := tst hN t2 (by show 1 ≤ 5; omega) s2.2.2.2.2 c8
  obtain ⟨s4, ⟨u1, u2, u3, u4, u5⟩, q4⟩ := fin_d hN t3 (by show 1 ≤ 5; omega) (by omega) s3.2.2.2.2 c0
  refine ⟨_, s4.2.1, s4.2.2.1, s4.2.2.2.1, s4.2.2.2.2, ?_, u1.mono (by omega), u2, u3, u4, u5⟩
  unfold SL_drawn_1
  rw [init_v5, bnd_v, h0, bnd_v, gd_p hn, h1, bnd_v, lt_v, lt_v, lt_v]
  refine (k1 _).trans ?_
  rw [h6, bnd_v]
  refine (q1 _).trans ?_
  rw [h7, bnd_v]
  refine (q2 _).trans ?_
  rw [h8, bnd_v]
  refine (q3 _).trans ?_
  refine (q4 _).trans ?_
  rfl
theorem law_1 (hN : 2100 ≤ N) {L : Nat} (hL : L < 2147483648) (xs : Nat → Int32) {c0 : Int32} (h0 : SL_cell L xs 0 = some c0) (hn : 1 + irm (ush c0 1) 5 = 1) : SLaw_1 N L xs = some () := by
  obtain ⟨r1, f, a, c, g, hd, hG, hV, hm, hr, hD⟩ := drawn_1 hN hL xs h0 hn
  have hT := hG.tg (by omega)
  have hCL : CL [] 16 (fun _ => 0) := ⟨Or.inl rfl, by decide, by decide, fun j _ => ⟨0, by omega, rfl⟩, AT.nil, PR.nil⟩
  have e1 := moved_c (N := N) hT (by omega) hN (mv := fun k9 => [r1].getD k9 (fun _ => 0)) hm.symm hr
  obtain ⟨x2, e2⟩ := tides_c hN hT hG.2.1 hG.2.2.2.2.2.1 hG.2.2.2.2.2.2.2.2.2.2 (mv := fun k9 => [r1].getD k9 (fun _ => 0)) hm.symm hr SX0_init.1 SX0_init.2.1 SX0_init.2.2
  have e3 := met_c hN hT (by omega) (mv := fun k9 => [r1].getD k9 (fun _ => 0)) hm.symm hr
  obtain ⟨x4, e4⟩ := lines_c hN hG (by omega) hD (mv := fun k9 => [r1].getD k9 (fun _ => 0)) hm.symm hr hCL 0
  replace e4 : SL_lines N f 16 (fun _ => 0) 0 0 1 (fun k9 => [r1].getD k9 (fun _ => 0)) = some x4 := e4
  obtain ⟨x5, e5⟩ := undone_c hN hL xs hG (by omega) hV (g := g) (-1) (-1) 0 0 0 0 (n := 16) (tf := fun _ => 0) (Or.inl rfl) (fun j _ => ⟨0, by omega, rfl⟩) (fun _ => 0) (fun _ => 0)
  unfold SLaw_1
  rw [hd, bnd_v]
  dsimp only
  rw [e1, bnd_v, e2, bnd_v, e3, bnd_v, e4, bnd_v, e5, bnd_v]
theorem drawn_2 (hN : 2100 ≤ N) {L : Nat} (hL : L < 2147483648) (xs : Nat → Int32) {c0 : Int32} (h0 : SL_cell L xs 0 = some c0) (hn : 1 + irm (ush c0 1) 5 = 2) : ∃ (r1 r2 f : Nat → Int32) (a c : Int32) (g : Nat → Int32), SL_drawn_2 N L xs = some (r1, r2, -1, -1, f, SX0_init.1, SX0_init.2.1, SX0_init.2.2, a, c, g, (fun _ => 0), 16, (fun _ => 0), (fun _ => 0), 16, (fun _ => 0), (fun _ => 0)) ∧ Good 1000 f ∧ VR a c ∧ mo f = 2 ∧ (∀ j, j < 2 → RW f j ([r1, r2].getD j (fun _ => 0))) ∧ DT f := by
  obtain ⟨c1, h1⟩ := cell_t hL xs (j := 1) (by omega)
  replace h1 : SL_cell L xs 1 = some c1 := h1
  obtain ⟨c2, h2⟩ := cell_t hL xs (j := 2) (by omega)
  replace h2 : SL_cell L xs 2 = some c2 := h2
  obtain ⟨c6, h6⟩ := cell_t hL xs (j := 6) (by omega)
  replace h6 : SL_cell L xs 6 = some c6 := h6
  obtain ⟨c7, h7⟩ := cell_t hL xs (j := 7) (by omega)
  replace h7 : SL_cell L xs 7 = some c7 := h7
  obtain ⟨c8, h8⟩ := cell_t hL xs (j := 8) (by omega)
  replace h8 : SL_cell L xs 8 = some c8 := h8
  obtain ⟨f1, a1, b1, g1, m1, k1⟩ := mst hN MI0 (by show 0 < 5; omega) (by omega) (fun _ => 0) c1
  obtain ⟨f2, a2, b2, g2, m2, k2⟩ := mst hN m1 (by show 1 < 5; omega) (by omega) g1 c2
  obtain ⟨s1, t1, q1⟩ := tst hN m2.ti (by show 2 ≤ 5; omega) g2 c6
  obtain ⟨s2, t2, q2⟩ := tst hN t1 (by show 2 ≤ 5; omega) s1.2.2.2.2 c7
  obtain ⟨s3, t3, q3⟩ := tst hN t2 (by show 2 ≤ 5; omega) s2.2.2.2.2 c8
  obtain ⟨s4, ⟨u1, u2, u3, u4, u5⟩, q4⟩ := fin_d hN t3 (by show 2 ≤ 5; omega) (by omega) s3.2.2.2.2 c0
  refine ⟨_, _, s4.2.1, s4.2.2.1, s4.2.2.2.1, s4.2.2.2.2, ?_, u1.mono (by omega), u2, u3, u4, u5⟩
  unfold SL_drawn_2
  rw [init_v5, bnd_v, h0, bnd_v, gd_p hn, h1, bnd_v, lt_v, lt_v, lt_v]
  refine (k1 _).trans ?_
  rw [h2, bnd_v, lt_v, lt_v, lt_v]
  refine (k2 _).trans ?_
  rw [h6, bnd_v]
  refine (q1 _).trans ?_
  rw [h7, bnd_v]
  refine (q2 _).trans ?_
  rw [h8, bnd_v]
  refine (q3 _).trans ?_
  refine (q4 _).trans ?_
  rfl
theorem law_2 (hN : 2100 ≤ N) {L : Nat} (hL : L < 2147483648) (xs : Nat → Int32) {c0 : Int32} (h0 : SL_cell L xs 0 = some c0) (hn : 1 + irm (ush c0 1) 5 = 2) : SLaw_2 N L xs = some () := by
  obtain ⟨r1, r2, f, a, c, g, hd, hG, hV, hm, hr, hD⟩ := drawn_2 hN hL xs h0 hn
  have hT := hG.tg (by omega)
  have hCL : CL [] 16 (fun _ => 0) := ⟨Or.inl rfl, by decide, by decide, fun j _ => ⟨0, by omega, rfl⟩, AT.nil, PR.nil⟩
  have e1 := moved_c (N := N) hT (by omega) hN (mv := fun k9 => [r1, r2].getD k9 (fun _ => 0)) hm.symm hr
  obtain ⟨x2, e2⟩ := tides_c hN hT hG.2.1 hG.2.2.2.2.2.1 hG.2.2.2.2.2.2.2.2.2.2 (mv := fun k9 => [r1, r2].getD k9 (fun _ => 0)) hm.symm hr SX0_init.1 SX0_init.2.1 SX0_init.2.2
  have e3 := met_c hN hT (by omega) (mv := fun k9 => [r1, r2].getD k9 (fun _ => 0)) hm.symm hr
  obtain ⟨x4, e4⟩ := lines_c hN hG (by omega) hD (mv := fun k9 => [r1, r2].getD k9 (fun _ => 0)) hm.symm hr hCL 0
  replace e4 : SL_lines N f 16 (fun _ => 0) 0 0 2 (fun k9 => [r1, r2].getD k9 (fun _ => 0)) = some x4 := e4
  obtain ⟨x5, e5⟩ := undone_c hN hL xs hG (by omega) hV (g := g) (-1) (-1) 0 0 0 0 (n := 16) (tf := fun _ => 0) (Or.inl rfl) (fun j _ => ⟨0, by omega, rfl⟩) (fun _ => 0) (fun _ => 0)
  unfold SLaw_2
  rw [hd, bnd_v]
  dsimp only
  rw [e1, bnd_v, e2, bnd_v, e3, bnd_v, e4, bnd_v, e5, bnd_v]
theorem drawn_3 (hN : 2100 ≤ N) {L : Nat} (hL : L < 2147483648) (xs : Nat → Int32) {c0 : Int32} (h0 : SL_cell L xs 0 = some c0) (hn : 1 + irm (ush c0 1) 5 = 3) : ∃ (r1 r2 r3 f : Nat → Int32) (a c : Int32) (g : Nat → Int32), SL_drawn_3 N L xs = some (r1, r2, r3, -1, -1, f, SX0_init.1, SX0_init.2.1, SX0_init.2.2, a, c, g, (fun _ => 0), 16, (fun _ => 0), (fun _ => 0), 16, (fun _ => 0), (fun _ => 0)) ∧ Good 1000 f ∧ VR a c ∧ mo f = 3 ∧ (∀ j, j < 3 → RW f j ([r1, r2, r3].getD j (fun _ => 0))) ∧ DT f := by
  obtain ⟨c1, h1⟩ := cell_t hL xs (j := 1) (by omega)
  replace h1 : SL_cell L xs 1 = some c1 := h1
  obtain ⟨c2, h2⟩ := cell_t hL xs (j := 2) (by omega)
  replace h2 : SL_cell L xs 2 = some c2 := h2
  obtain ⟨c3, h3⟩ := cell_t hL xs (j := 3) (by omega)
  replace h3 : SL_cell L xs 3 = some c3 := h3
  obtain ⟨c6, h6⟩ := cell_t hL xs (j := 6) (by omega)
  replace h6 : SL_cell L xs 6 = some c6 := h6
  obtain ⟨c7, h7⟩ := cell_t hL xs (j := 7) (by omega)
  replace h7 : SL_cell L xs 7 = some c7 := h7
  obtain ⟨c8, h8⟩ := cell_t hL xs (j := 8) (by omega)
  replace h8 : SL_cell L xs 8 = some c8 := h8
  obtain ⟨f1, a1, b1, g1, m1, k1⟩ := mst hN MI0 (by show 0 < 5; omega) (by omega) (fun _ => 0) c1
  obtain ⟨f2, a2, b2, g2, m2, k2⟩ := mst hN m1 (by show 1 < 5; omega) (by omega) g1 c2
  obtain ⟨f3, a3, b3, g3, m3, k3⟩ := mst hN m2 (by show 2 < 5; omega) (by omega) g2 c3
  obtain ⟨s1, t1, q1⟩ := tst hN m3.ti (by show 3 ≤ 5; omega) g3 c6
  obtain ⟨s2, t2, q2⟩ := tst hN t1 (by show 3 ≤ 5; omega) s1.2.2.2.2 c7
  obtain ⟨s3, t3, q3⟩ := tst hN t2 (by show 3 ≤ 5; omega) s2.2.2.2.2 c8
  obtain ⟨s4, ⟨u1, u2, u3, u4, u5⟩, q4⟩ := fin_d hN t3 (by show 3 ≤ 5; omega) (by omega) s3.2.2.2.2 c0
  refine ⟨_, _, _, s4.2.1, s4.2.2.1, s4.2.2.2.1, s4.2.2.2.2, ?_, u1.mono (by omega), u2, u3, u4, u5⟩
  unfold SL_drawn_3
  rw [init_v5, bnd_v, h0, bnd_v, gd_p hn, h1, bnd_v, lt_v, lt_v, lt_v]
  refine (k1 _).trans ?_
  rw [h2, bnd_v, lt_v, lt_v, lt_v]
  refine (k2 _).trans ?_
  rw [h3, bnd_v, lt_v, lt_v, lt_v]
  refine (k3 _).trans ?_
  rw [h6, bnd_v]
  refine (q1 _).trans ?_
  rw [h7, bnd_v]
  refine (q2 _).trans ?_
  rw [h8, bnd_v]
  refine (q3 _).trans ?_
  refine (q4 _).trans ?_
  rfl
theorem law_3 (hN : 2100 ≤ N) {L : Nat} (hL : L < 2147483648) (xs : Nat → Int32) {c0 : Int32} (h0 : SL_cell L xs 0 = some c0) (hn : 1 + irm (ush c0 1) 5 = 3) : SLaw_3 N L xs = some () := by
  obtain ⟨r1, r2, r3, f, a, c, g, hd, hG, hV, hm, hr, hD⟩ := drawn_3 hN hL xs h0 hn
  have hT := hG.tg (by omega)
  have hCL : CL [] 16 (fun _ => 0) := ⟨Or.inl rfl, by decide, by decide, fun j _ => ⟨0, by omega, rfl⟩, AT.nil, PR.nil⟩
  have e1 := moved_c (N := N) hT (by omega) hN (mv := fun k9 => [r1, r2, r3].getD k9 (fun _ => 0)) hm.symm hr
  obtain ⟨x2, e2⟩ := tides_c hN hT hG.2.1 hG.2.2.2.2.2.1 hG.2.2.2.2.2.2.2.2.2.2 (mv := fun k9 => [r1, r2, r3].getD k9 (fun _ => 0)) hm.symm hr SX0_init.1 SX0_init.2.1 SX0_init.2.2
  have e3 := met_c hN hT (by omega) (mv := fun k9 => [r1, r2, r3].getD k9 (fun _ => 0)) hm.symm hr
  obtain ⟨x4, e4⟩ := lines_c hN hG (by omega) hD (mv := fun k9 => [r1, r2, r3].getD k9 (fun _ => 0)) hm.symm hr hCL 0
  replace e4 : SL_lines N f 16 (fun _ => 0) 0 0 3 (fun k9 => [r1, r2, r3].getD k9 (fun _ => 0)) = some x4 := e4
  obtain ⟨x5, e5⟩ := undone_c hN hL xs hG (by omega) hV (g := g) (-1) (-1) 0 0 0 0 (n := 16) (tf := fun _ => 0) (Or.inl rfl) (fun j _ => ⟨0, by omega, rfl⟩) (fun _ => 0) (fun _ => 0)
  unfold SLaw_3
  rw [hd, bnd_v]
  dsimp only
  rw [e1, bnd_v, e2, bnd_v, e3, bnd_v, e4, bnd_v, e5, bnd_v]
theorem drawn_4 (hN : 2100 ≤ N) {L : Nat} (hL : L < 2147483648) (xs : Nat → Int32) {c0 : Int32} (h0 : SL_cell L xs 0 = some c0) (hn : 1 + irm (ush c0 1) 5 = 4) : ∃ (r1 r2 r3 r4 f : Nat → Int32) (a c : Int32) (g : Nat → Int32), SL_drawn_4 N L xs = some (r1, r2, r3, r4, -1, -1, f, SX0_init.1, SX0_init.2.1, SX0_init.2.2, a, c, g, (fun _ => 0), 16, (fun _ => 0), (fun _ => 0), 16, (fun _ => 0), (fun _ => 0)) ∧ Good 1000 f ∧ VR a c ∧ mo f = 4 ∧ (∀ j, j < 4 → RW f j ([r1, r2, r3, r4].getD j (fun _ => 0))) ∧ DT f := by
  obtain ⟨c1, h1⟩ := cell_t hL xs (j := 1) (by omega)
  replace h1 : SL_cell L xs 1 = some c1 := h1
  obtain ⟨c2, h2⟩ := cell_t hL xs (j := 2) (by omega)
  replace h2 : SL_cell L xs 2 = some c2 := h2
  obtain ⟨c3, h3⟩ := cell_t hL xs (j := 3) (by omega)
  replace h3 : SL_cell L xs 3 = some c3 := h3
  obtain ⟨c4, h4⟩ := cell_t hL xs (j := 4) (by omega)
  replace h4 : SL_cell L xs 4 = some c4 := h4
  obtain ⟨c6, h6⟩ := cell_t hL xs (j := 6) (by omega)
  replace h6 : SL_cell L xs 6 = some c6 := h6
  obtain ⟨c7, h7⟩ := cell_t hL xs (j := 7) (by omega)
  replace h7 : SL_cell L xs 7 = some c7 := h7
  obtain ⟨c8, h8⟩ := cell_t hL xs (j := 8) (by omega)
  replace h8 : SL_cell L xs 8 = some c8 := h8
  obtain ⟨f1, a1, b1, g1, m1, k1⟩ := mst hN MI0 (by show 0 < 5; omega) (by omega) (fun _ => 0) c1
  obtain ⟨f2, a2, b2, g2, m2, k2⟩ := mst hN m1 (by show 1 < 5; omega) (by omega) g1 c2
  obtain ⟨f3, a3, b3, g3, m3, k3⟩ := mst hN m2 (by show 2 < 5; omega) (by omega) g2 c3
  obtain ⟨f4, a4, b4, g4, m4, k4⟩ := mst hN m3 (by show 3 < 5; omega) (by omega) g3 c4
  obtain ⟨s1, t1, q1⟩ := tst hN m4.ti (by show 4 ≤ 5; omega) g4 c6
  obtain ⟨s2, t2, q2⟩ := tst hN t1 (by show 4 ≤ 5; omega) s1.2.2.2.2 c7
  obtain ⟨s3, t3, q3⟩ := tst hN t2 (by show 4 ≤ 5; omega) s2.2.2.2.2 c8
  obtain ⟨s4, ⟨u1, u2, u3, u4, u5⟩, q4⟩ := fin_d hN t3 (by show 4 ≤ 5; omega) (by omega) s3.2.2.2.2 c0
  refine ⟨_, _, _, _, s4.2.1, s4.2.2.1, s4.2.2.2.1, s4.2.2.2.2, ?_, u1.mono (by omega), u2, u3, u4, u5⟩
  unfold SL_drawn_4
  rw [init_v5, bnd_v, h0, bnd_v, gd_p hn, h1, bnd_v, lt_v, lt_v, lt_v]
  refine (k1 _).trans ?_
  rw [h2, bnd_v, lt_v, lt_v, lt_v]
  refine (k2 _).trans ?_
  rw [h3, bnd_v, lt_v, lt_v, lt_v]
  refine (k3 _).trans ?_
  rw [h4, bnd_v, lt_v, lt_v, lt_v]
  refine (k4 _).trans ?_
  rw [h6, bnd_v]
  refine (q1 _).trans ?_
  rw [h7, bnd_v]
  refine (q2 _).trans ?_
  rw [h8, bnd_v]
  refine (q3 _).trans ?_
  refine (q4 _).trans ?_
  rfl
theorem law_4 (hN : 2100 ≤ N) {L : Nat} (hL : L < 2147483648) (xs : Nat → Int32) {c0 : Int32} (h0 : SL_cell L xs 0 = some c0) (hn : 1 + irm (ush c0 1) 5 = 4) : SLaw_4 N L xs = some () := by
  obtain ⟨r1, r2, r3, r4, f, a, c, g, hd, hG, hV, hm, hr, hD⟩ := drawn_4 hN hL xs h0 hn
  have hT := hG.tg (by omega)
  have hCL : CL [] 16 (fun _ => 0) := ⟨Or.inl rfl, by decide, by decide, fun j _ => ⟨0, by omega, rfl⟩, AT.nil, PR.nil⟩
  have e1 := moved_c (N := N) hT (by omega) hN (mv := fun k9 => [r1, r2, r3, r4].getD k9 (fun _ => 0)) hm.symm hr
  obtain ⟨x2, e2⟩ := tides_c hN hT hG.2.1 hG.2.2.2.2.2.1 hG.2.2.2.2.2.2.2.2.2.2 (mv := fun k9 => [r1, r2, r3, r4].getD k9 (fun _ => 0)) hm.symm hr SX0_init.1 SX0_init.2.1 SX0_init.2.2
  have e3 := met_c hN hT (by omega) (mv := fun k9 => [r1, r2, r3, r4].getD k9 (fun _ => 0)) hm.symm hr
  obtain ⟨x4, e4⟩ := lines_c hN hG (by omega) hD (mv := fun k9 => [r1, r2, r3, r4].getD k9 (fun _ => 0)) hm.symm hr hCL 0
  replace e4 : SL_lines N f 16 (fun _ => 0) 0 0 4 (fun k9 => [r1, r2, r3, r4].getD k9 (fun _ => 0)) = some x4 := e4
  obtain ⟨x5, e5⟩ := undone_c hN hL xs hG (by omega) hV (g := g) (-1) (-1) 0 0 0 0 (n := 16) (tf := fun _ => 0) (Or.inl rfl) (fun j _ => ⟨0, by omega, rfl⟩) (fun _ => 0) (fun _ => 0)
  unfold SLaw_4
  rw [hd, bnd_v]
  dsimp only
  rw [e1, bnd_v, e2, bnd_v, e3, bnd_v, e4, bnd_v, e5, bnd_v]
theorem drawn_5 (hN : 2100 ≤ N) {L : Nat} (hL : L < 2147483648) (xs : Nat → Int32) {c0 : Int32} (h0 : SL_cell L xs 0 = some c0) (hn : 1 + irm (ush c0 1) 5 = 5) : ∃ (r1 r2 r3 r4 r5 f : Nat → Int32) (a c : Int32) (g : Nat → Int32), SL_drawn_5 N L xs = some (r1, r2, r3, r4, r5, -1, -1, f, SX0_init.1, SX0_init.2.1, SX0_init.2.2, a, c, g, (fun _ => 0), 16, (fun _ => 0), (fun _ => 0), 16, (fun _ => 0), (fun _ => 0)) ∧ Good 1000 f ∧ VR a c ∧ mo f = 5 ∧ (∀ j, j < 5 → RW f j ([r1, r2, r3, r4, r5].getD j (fun _ => 0))) ∧ DT f := by
  obtain ⟨c1, h1⟩ := cell_t hL xs (j := 1) (by omega)
  replace h1 : SL_cell L xs 1 = some c1 := h1
  obtain ⟨c2, h2⟩ := cell_t hL xs (j := 2) (by omega)
  replace h2 : SL_cell L xs 2 = some c2 := h2
  obtain ⟨c3, h3⟩ := cell_t hL xs (j := 3) (by omega)
  replace h3 : SL_cell L xs 3 = some c3 := h3
  obtain ⟨c4, h4⟩ := cell_t hL xs (j := 4) (by omega)
  replace h4 : SL_cell L xs 4 = some c4 := h4
  obtain ⟨c5, h5⟩ := cell_t hL xs (j := 5) (by omega)
  replace h5 : SL_cell L xs 5 = some c5 := h5
  obtain ⟨c6, h6⟩ := cell_t hL xs (j := 6) (by omega)
  replace h6 : SL_cell L xs 6 = some c6 := h6
  obtain ⟨c7, h7⟩ := cell_t hL xs (j := 7) (by omega)
  replace h7 : SL_cell L xs 7 = some c7 := h7
  obtain ⟨c8, h8⟩ := cell_t hL xs (j := 8) (by omega)
  replace h8 : SL_cell L xs 8 = some c8 := h8
  obtain ⟨f1, a1, b1, g1, m1, k1⟩ := mst hN MI0 (by show 0 < 5; omega) (by omega) (fun _ => 0) c1
  obtain ⟨f2, a2, b2, g2, m2, k2⟩ := mst hN m1 (by show 1 < 5; omega) (by omega) g1 c2
  obtain ⟨f3, a3, b3, g3, m3, k3⟩ := mst hN m2 (by show 2 < 5; omega) (by omega) g2 c3
  obtain ⟨f4, a4, b4, g4, m4, k4⟩ := mst hN m3 (by show 3 < 5; omega) (by omega) g3 c4
  obtain ⟨f5, a5, b5, g5, m5, k5⟩ := mst hN m4 (by show 4 < 5; omega) (by omega) g4 c5
  obtain ⟨s1, t1, q1⟩ := tst hN m5.ti (by show 5 ≤ 5; omega) g5 c6
  obtain ⟨s2, t2, q2⟩ := tst hN t1 (by show 5 ≤ 5; omega) s1.2.2.2.2 c7
  obtain ⟨s3, t3, q3⟩ := tst hN t2 (by show 5 ≤ 5; omega) s2.2.2.2.2 c8
  obtain ⟨s4, ⟨u1, u2, u3, u4, u5⟩, q4⟩ := fin_d hN t3 (by show 5 ≤ 5; omega) (by omega) s3.2.2.2.2 c0
  refine ⟨_, _, _, _, _, s4.2.1, s4.2.2.1, s4.2.2.2.1, s4.2.2.2.2, ?_, u1.mono (by omega), u2, u3, u4, u5⟩
  unfold SL_drawn_5
  rw [init_v5, bnd_v, h0, bnd_v, gd_p hn, h1, bnd_v, lt_v, lt_v, lt_v]
  refine (k1 _).trans ?_
  rw [h2, bnd_v, lt_v, lt_v, lt_v]
  refine (k2 _).trans ?_
  rw [h3, bnd_v, lt_v, lt_v, lt_v]
  refine (k3 _).trans ?_
  rw [h4, bnd_v, lt_v, lt_v, lt_v]
  refine (k4 _).trans ?_
  rw [h5, bnd_v, lt_v, lt_v, lt_v]
  refine (k5 _).trans ?_
  rw [h6, bnd_v]
  refine (q1 _).trans ?_
  rw [h7, bnd_v]
  refine (q2 _).trans ?_
  rw [h8, bnd_v]
  refine (q3 _).trans ?_
  refine (q4 _).trans ?_
  rfl
theorem law_5 (hN : 2100 ≤ N) {L : Nat} (hL : L < 2147483648) (xs : Nat → Int32) {c0 : Int32} (h0 : SL_cell L xs 0 = some c0) (hn : 1 + irm (ush c0 1) 5 = 5) : SLaw_5 N L xs = some () := by
  obtain ⟨r1, r2, r3, r4, r5, f, a, c, g, hd, hG, hV, hm, hr, hD⟩ := drawn_5 hN hL xs h0 hn
  have hT := hG.tg (by omega)
  have hCL : CL [] 16 (fun _ => 0) := ⟨Or.inl rfl, by decide, by decide, fun j _ => ⟨0, by omega, rfl⟩, AT.nil, PR.nil⟩
  have e1 := moved_c (N := N) hT (by omega) hN (mv := fun k9 => [r1, r2, r3, r4, r5].getD k9 (fun _ => 0)) hm.symm hr
  obtain ⟨x2, e2⟩ := tides_c hN hT hG.2.1 hG.2.2.2.2.2.1 hG.2.2.2.2.2.2.2.2.2.2 (mv := fun k9 => [r1, r2, r3, r4, r5].getD k9 (fun _ => 0)) hm.symm hr SX0_init.1 SX0_init.2.1 SX0_init.2.2
  have e3 := met_c hN hT (by omega) (mv := fun k9 => [r1, r2, r3, r4, r5].getD k9 (fun _ => 0)) hm.symm hr
  obtain ⟨x4, e4⟩ := lines_c hN hG (by omega) hD (mv := fun k9 => [r1, r2, r3, r4, r5].getD k9 (fun _ => 0)) hm.symm hr hCL 0
  replace e4 : SL_lines N f 16 (fun _ => 0) 0 0 5 (fun k9 => [r1, r2, r3, r4, r5].getD k9 (fun _ => 0)) = some x4 := e4
  obtain ⟨x5, e5⟩ := undone_c hN hL xs hG (by omega) hV (g := g) (-1) (-1) 0 0 0 0 (n := 16) (tf := fun _ => 0) (Or.inl rfl) (fun j _ => ⟨0, by omega, rfl⟩) (fun _ => 0) (fun _ => 0)
  unfold SLaw_5
  rw [hd, bnd_v]
  dsimp only
  rw [e1, bnd_v, e2, bnd_v, e3, bnd_v, e4, bnd_v, e5, bnd_v]
theorem law_any (hN : 2100 ≤ N) {L : Nat} (hL : L < 2147483648) (xs : Nat → Int32) : SLaw_1 N L xs = some () ∨ SLaw_2 N L xs = some () ∨ SLaw_3 N L xs = some () ∨ SLaw_4 N L xs = some () ∨ SLaw_5 N L xs = some () := by
  obtain ⟨c0, h0⟩ := cell_t hL xs (j := 0) (by omega)
  replace h0 : SL_cell L xs 0 = some c0 := h0
  obtain ⟨m, hm, em⟩ := u1_5 c0
  have e : 1 + irm (ush c0 1) 5 = nI (1 + m) := by
    rw [em]
    exact nI_add 1 m
  have h5 : m = 0 ∨ m = 1 ∨ m = 2 ∨ m = 3 ∨ m = 4 := by omega
  rcases h5 with rfl | rfl | rfl | rfl | rfl
  · exact Or.inl (law_1 hN hL xs h0 e)
  · exact Or.inr (Or.inl (law_2 hN hL xs h0 e))
  · exact Or.inr (Or.inr (Or.inl (law_3 hN hL xs h0 e)))
  · exact Or.inr (Or.inr (Or.inr (Or.inl (law_4 hN hL xs h0 e))))
  · exact Or.inr (Or.inr (Or.inr (Or.inr (law_5 hN hL xs h0 e))))
end LK
