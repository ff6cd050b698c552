/-! the changes of the state, on both sides -/
theorem nI_sub {a b : Nat} (h : b ≤ a) : nI a - nI b = nI (a - b) := by
  rw [iI_n, iI_n, iI_n, iI_sub]
  congr 1; omega
theorem inn (x lo hi : Int32) : (SX6_in x lo hi = 1 ∧ lo.toInt ≤ x.toInt ∧ x.toInt ≤ hi.toInt) ∨ SX6_in x lo hi = 0 := by
  unfold SX6_in
  by_cases h1 : x < lo
  · exact Or.inr (if_pos h1)
  · by_cases h2 : hi < x
    · exact Or.inr (by rw [if_neg h1, if_pos h2])
    · refine Or.inl ⟨by rw [if_neg h1, if_neg h2], ?_, ?_⟩
      · have : ¬ x.toInt < lo.toInt := fun z => h1 (Int32.lt_iff_toInt_lt.mpr z)
        omega
      · have : ¬ hi.toInt < x.toInt := fun z => h2 (Int32.lt_iff_toInt_lt.mpr z)
        omega
theorem inN {x lo hi : Int32} (h : lo.toInt ≤ x.toInt ∧ x.toInt ≤ hi.toInt) (h0 : 0 ≤ lo.toInt) : ∃ m : Nat, x = nI m ∧ lo.toInt ≤ (m : Int) ∧ (m : Int) ≤ hi.toInt := by
  refine ⟨x.toInt.toNat, ?_, by omega, by omega⟩
  rw [iI_n, Int.toNat_of_nonneg (by omega)]
  exact iI_of x
section PO
variable {T : Int} {f s : Nat → Int32} {N : Nat}
theorem Good.moons {f' : Nat → Int32} (hG : Good T f) (e : ∀ i, i < 61 → i ≠ 6 → ¬ (20 ≤ i ∧ i < 45) → f' i = f i) (h6' : 0 ≤ q f' 6 ∧ q f' 6 ≤ 5) (hm' : ∀ j, j < mo f' → gMoon f' j) : Good T f' := by
  have l7 := hG.t4
  obtain ⟨h0, h1, h2, h5, h6, h7, ht, hs, hm, hw, hb⟩ := hG
  unfold Good
  rw [tw_c (e 7 (by omega) (by omega) (by omega)), toeS_c 12 (fun i hi => e _ (by omega) (by omega) (by omega)), absS_c (tw f) (fun i hi => e _ (by omega) (by omega) (by omega)), q_c (e 0 (by omega) (by omega) (by omega)), q_c (e 1 (by omega) (by omega) (by omega)), q_c (e 2 (by omega) (by omega) (by omega)), q_c (e 5 (by omega) (by omega) (by omega)), q_c (e 7 (by omega) (by omega) (by omega)), e 1 (by omega) (by omega) (by omega), e 3 (by omega) (by omega) (by omega), e 4 (by omega) (by omega) (by omega)]
  refine ⟨h0, h1, h2, h5, h6', h7, fun i hi => ?_, hs, hm', fun t ht => ?_, hb⟩
  · rw [q_c (e _ (by omega) (by omega) (by omega))]
    exact ht i hi
  · exact gTow_c (hw t ht) (fun k hk => e _ (by omega) (by omega) (by omega))
theorem Good.water {T' : Int} {f' : Nat → Int32} (hG : Good T f) (e : ∀ i, i < 45 → i ≠ 0 → i ≠ 1 → i ≠ 3 → i ≠ 4 → i ≠ 7 → f' i = f i) (h0' : q f 0 ≤ q f' 0 ∧ q f' 0 ≤ T') (h1' : 0 ≤ q f' 1 ∧ q f' 1 ≤ 40) (h7' : 0 ≤ q f' 7 ∧ q f' 7 ≤ 4) (hw' : ∀ t, t < tw f' → gTow f' t) (hb' : f' 1 + f' 3 + absS f' (tw f') = 20 + f' 4) : Good T' f' := by
  have l6 := hG.m5
  obtain ⟨h0, h1, h2, h5, h6, h7, ht, hs, hm, hw, hb⟩ := hG
  have e' : ∀ i, i < 45 → 8 ≤ i → f' i = f i := fun i h1 h2 => e i h1 (by omega) (by omega) (by omega) (by omega) (by omega)
  have e2 := e 2 (by omega) (by omega) (by omega) (by omega) (by omega) (by omega)
  have e5 := e 5 (by omega) (by omega) (by omega) (by omega) (by omega) (by omega)
  have e6 := e 6 (by omega) (by omega) (by omega) (by omega) (by omega) (by omega)
  unfold Good
  rw [mo_c e6, toeS_c 12 (fun i hi => e' _ (by omega) (by omega)), q_c e2, q_c e5, q_c e6]
  refine ⟨⟨by omega, by omega⟩, h1', h2, h5, h6, h7', fun i hi => ?_, hs, fun j hj => ?_, hw', hb'⟩
  · rw [q_c (e' _ (by omega) (by omega))]
    exact ht i hi
  · exact gMoon_c (hm j hj) (fun k hk => e' _ (by omega) (by omega)) (by omega)
/-! flow and plug -/
theorem o_flow (hR : Rel f s) (hG : Good T f) {a : Int32} (h : -3 ≤ a.toInt ∧ a.toInt ≤ 3) (h2 : SX6_in a (-3) 3 = 1) : ∃ r f' s', SX4_turnTaps f a = (r, f') ∧ SX6_doSetFlow 0 s a = (r, s', 0) ∧ Rel f' s' ∧ Good T f' := by
  refine ⟨f 2, upd f 2 a, upd s 4 a, ?_, ?_, hR.up a rfl, ?_⟩
  · unfold SX4_turnTaps
    rw [put_2, lt_v, at_2]
  · unfold SX6_doSetFlow
    rw [h2, if_neg (by decide), hR.r4]
  · obtain ⟨h0, h1, h2, h5, h6, h7, ht, hs, hm, hw, hb⟩ := hG
    have e : ∀ i, i ≠ 2 → upd f 2 a i = f i := fun i hi => upd_ne f a hi
    have l6 : mo f ≤ 5 := by unfold mo; omega
    have l7 : tw f ≤ 4 := by unfold tw; omega
    unfold Good
    rw [mo_c (e 6 (by omega)), tw_c (e 7 (by omega)), toeS_c 12 (fun i hi => e _ (by omega)), absS_c (tw f) (fun i hi => e _ (by omega)), q_c (e 0 (by omega)), q_c (e 1 (by omega)), q_same, q_c (e 5 (by omega)), q_c (e 6 (by omega)), q_c (e 7 (by omega)), e 1 (by omega), e 3 (by omega), e 4 (by omega)]
    refine ⟨h0, h1, h, h5, h6, h7, fun i hi => ?_, hs, fun j hj => ?_, fun t ht => ?_, hb⟩
    · rw [q_c (e _ (by omega))]
      exact ht i hi
    · exact gMoon_c (hm j hj) (fun k hk => e _ (by omega)) (by rw [q_c (e 0 (by omega))]; omega)
    · exact gTow_c (hw t ht) (fun k hk => e _ (by omega))
theorem x_flow {a : Int32} (h2 : SX6_in a (-3) 3 = 0) : SX6_doSetFlow 0 s a = (0, s, 1) := by
  unfold SX6_doSetFlow SX6_fails
  rw [h2, if_pos rfl, lt_v]
theorem Good.plug (hG : Good T f) {a : Int32} (h : -1 ≤ a.toInt ∧ a.toInt ≤ 11) : Good T (upd f 5 a) := by
  obtain ⟨h0, h1, h2, h5, h6, h7, ht, hs, hm, hw, hb⟩ := hG
  have e : ∀ i, i ≠ 5 → upd f 5 a i = f i := fun i hi => upd_ne f a hi
  have l6 : mo f ≤ 5 := by unfold mo; omega
  have l7 : tw f ≤ 4 := by unfold tw; omega
  unfold Good
  rw [mo_c (e 6 (by omega)), tw_c (e 7 (by omega)), toeS_c 12 (fun i hi => e _ (by omega)), absS_c (tw f) (fun i hi => e _ (by omega)), q_c (e 0 (by omega)), q_c (e 1 (by omega)), q_same, q_c (e 2 (by omega)), q_c (e 6 (by omega)), q_c (e 7 (by omega)), e 1 (by omega), e 3 (by omega), e 4 (by omega)]
  refine ⟨h0, h1, h2, h, h6, h7, fun i hi => ?_, hs, fun j hj => ?_, fun t ht => ?_, hb⟩
  · rw [q_c (e _ (by omega))]
    exact ht i hi
  · exact gMoon_c (hm j hj) (fun k hk => e _ (by omega)) (by rw [q_c (e 0 (by omega))]; omega)
  · exact gTow_c (hw t ht) (fun k hk => e _ (by omega))
theorem o_plug (hR : Rel f s) (hG : Good T f) {p : Nat} (hp : p < 12) : ∃ r f' s', SX4_putPlug f (nI p) = (r, f') ∧ SX6_doInsertPlug 0 s (nI p) = some (if r = -1 then 1 else 0, s', 0) ∧ Rel f' s' ∧ Good T f' := by
  have h5 : -1 ≤ q f 5 ∧ q f 5 ≤ 11 := hG.2.2.2.1
  refine ⟨f 5, upd f 5 (nI p), upd s 6 (nI p), ?_, ?_, hR.up _ rfl, hG.plug (by rw [nI_toInt (by omega)]; omega)⟩
  · unfold SX4_putPlug
    rw [put_5, lt_v, plug_v]
  · unfold SX6_doInsertPlug
    rw [posn_1 hp, bnd_v, if_neg (by decide), hR.r6]
    by_cases c : f 5 = -1
    · rw [if_neg (fun z => by have := ge0_q.mp z; have := m1_q.mp c; omega), if_pos c]
    · have : q f 5 ≠ -1 := fun z => c (m1_q.mpr z)
      rw [if_pos (ge0_q.mpr (by omega)), if_neg c]
theorem o_pull (hR : Rel f s) (hG : Good T f) (h : SX4_isPlugged f = 1) : ∃ r f' s', SX4_putPlug f (-1) = (r, f') ∧ SX6_doPullPlug 0 s = (r, s', 0) ∧ Rel f' s' ∧ Good T f' := by
  have h5 : -1 ≤ q f 5 ∧ q f 5 ≤ 11 := hG.2.2.2.1
  refine ⟨f 5, upd f 5 (-1), upd s 6 (-1), ?_, ?_, hR.up _ rfl, hG.plug (by decide)⟩
  · unfold SX4_putPlug
    rw [put_5, lt_v, plug_v]
  · have c : ¬ f 5 = -1 := by
      intro c
      unfold SX4_isPlugged at h
      rw [plug_v, if_pos c] at h
      exact absurd h (by decide)
    have : q f 5 ≠ -1 := fun z => c (m1_q.mpr z)
    unfold SX6_doPullPlug
    rw [hR.r6, if_pos (ge0_q.mpr (by omega))]
theorem plugd (f : Nat → Int32) : SX4_isPlugged f = 1 ∨ SX4_isPlugged f = 0 := by
  unfold SX4_isPlugged
  by_cases c : SX4_plug f = -1
  · exact Or.inr (if_pos c)
  · exact Or.inl (if_neg c)
theorem x_pull (hR : Rel f s) (h : SX4_isPlugged f = 0) : ∃ s', SX6_doPullPlug 0 s = (0, s', 1) := by
  have c : f 5 = -1 := by
    apply Classical.byContradiction
    intro c
    unfold SX4_isPlugged at h
    rw [plug_v, if_neg c] at h
    exact absurd h (by decide)
  unfold SX6_doPullPlug SX6_fails
  rw [hR.r6, if_neg (fun z => by have := ge0_q.mp z; have := m1_q.mp c; omega), lt_v]
  exact ⟨_, rfl⟩
/-! toes -/
theorem toes_lc (f : Nat → Int32) : ∀ (d i fu : Nat), i + d = 12 → d + 1 ≤ fu → LX4_toes_4 f fu (iI (toeS f i)) (nI i) = some (iI (toeS f 12)) := by
  intro d
  induction d with
  | zero =>
    intro i fu hi hf
    obtain ⟨fu, rfl⟩ : ∃ k, fu = k + 1 := ⟨fu - 1, by omega⟩
    rw [LX4_toes_4, if_pos (show (12 : Int32) ≤ nI i from nI_le (a := 12) (by omega) (by omega)), show i = 12 by omega]
  | succ d ih =>
    intro i fu hi hf
    obtain ⟨fu, rfl⟩ : ∃ k, fu = k + 1 := ⟨fu - 1, by omega⟩
    rw [LX4_toes_4, if_neg (show ¬ (12 : Int32) ≤ nI i from nI_ge (b := 12) (by omega) (by omega)), toe_v f (by omega), lt_v, nI_1, q_i f (8 + i), iI_add]
    exact ih (i + 1) fu (by omega) (by omega)
theorem toes_c (hN : 13 ≤ N) (f : Nat → Int32) : SX4_toes N f = some (iI (toeS f 12)) := toes_lc f 12 0 N (by omega) (by omega)
theorem toes_ls (hR : Rel f s) : ∀ (d i fu : Nat), i + d = 12 → d + 1 ≤ fu → LX6_toes_4 s fu (iI (toeS f i)) (nI i) = some (iI (toeS f 12)) := by
  intro d
  induction d with
  | zero =>
    intro i fu hi hf
    obtain ⟨fu, rfl⟩ : ∃ k, fu = k + 1 := ⟨fu - 1, by omega⟩
    rw [LX6_toes_4, if_pos (show (12 : Int32) ≤ nI i from nI_le (a := 12) (by omega) (by omega)), show i = 12 by omega]
  | succ d ih =>
    intro i fu hi hf
    obtain ⟨fu, rfl⟩ : ∃ k, fu = k + 1 := ⟨fu - 1, by omega⟩
    rw [LX6_toes_4, if_neg (show ¬ (12 : Int32) ≤ nI i from nI_ge (b := 12) (by omega) (by omega)), s_p, gd_p (vp_in_nI (by omega) (by omega)), nI_clamp (by omega), hR.p (by omega), lt_v, nI_1, q_i f (8 + i), iI_add]
    exact ih (i + 1) fu (by omega) (by omega)
theorem toes_s (hN : 13 ≤ N) (hR : Rel f s) : SX6_toes N s = some (iI (toeS f 12)) := toes_ls hR 12 0 N (by omega) (by omega)
theorem toeS_b (ht : ∀ i, i < 12 → q f (8 + i) = 0 ∨ q f (8 + i) = 1) : ∀ n : Nat, n ≤ 12 → 0 ≤ toeS f n ∧ toeS f n ≤ (n : Int) := by
  intro n
  induction n with
  | zero => intro _; exact ⟨Int.le_refl _, Int.le_refl _⟩
  | succ n ih =>
    intro h
    have h1 := ih (by omega)
    have h2 := ht n (by omega)
    simp only [toeS]
    omega
theorem toeS_u {p : Nat} (x : Int32) : ∀ n : Nat, toeS (upd f (8 + p) x) n = if p < n then toeS f n + x.toInt - q f (8 + p) else toeS f n := by
  intro n
  induction n with
  | zero => rfl
  | succ n ih =>
    simp only [toeS]
    rw [ih]
    by_cases c : p = n
    · subst c
      rw [if_neg (by omega), if_pos (by omega), q_same]
      omega
    · rw [q_ne f x (show 8 + n ≠ 8 + p by omega)]
      by_cases c2 : p < n
      · rw [if_pos c2, if_pos (by omega)]
        omega
      · rw [if_neg c2, if_neg (by omega)]
theorem Good.toe (hG : Good T f) {p : Nat} (hp : p < 12) {a : Int32} (h : a.toInt = 0 ∨ a.toInt = 1) (h4 : toeS f 12 + a.toInt - q f (8 + p) ≤ 4) : Good T (upd f (8 + p) a) := by
  obtain ⟨h0, h1, h2, h5, h6, h7, ht, hs, hm, hw, hb⟩ := hG
  have e : ∀ i, i ≠ 8 + p → upd f (8 + p) a i = f i := fun i hi => upd_ne f a hi
  have l6 : mo f ≤ 5 := by unfold mo; omega
  have l7 : tw f ≤ 4 := by unfold tw; omega
  unfold Good
  rw [mo_c (e 6 (by omega)), tw_c (e 7 (by omega)), toeS_u, if_pos hp, absS_c (tw f) (fun i hi => e _ (by omega)), q_c (e 0 (by omega)), q_c (e 1 (by omega)), q_c (e 2 (by omega)), q_c (e 5 (by omega)), q_c (e 6 (by omega)), q_c (e 7 (by omega)), e 1 (by omega), e 3 (by omega), e 4 (by omega)]
  refine ⟨h0, h1, h2, h5, h6, h7, fun i hi => ?_, h4, fun j hj => ?_, fun t ht => ?_, hb⟩
  · by_cases c : i = p
    · subst c
      rw [q_same]
      exact h
    · rw [q_c (e _ (by omega))]
      exact ht i hi
  · exact gMoon_c (hm j hj) (fun k hk => e _ (by omega)) (by rw [q_c (e 0 (by omega))]; omega)
  · exact gTow_c (hw t ht) (fun k hk => e _ (by omega))
theorem isToe_v (f : Nat → Int32) {p : Nat} (hp : p < 12) (h : SX4_isPosition (nI p) = 1) : SX4_isToeAt f (nI p) = if f (8 + p) = 1 then 1 else 0 := by
  unfold SX4_isToeAt
  rw [h, if_neg (by decide), toe_v f hp]
theorem canToe (hN : 13 ≤ N) (hG : Good T f) {p : Nat} (hp : p < 12) (h : SX4_isPosition (nI p) = 1) : (q f (8 + p) = 0 ∧ toeS f 12 ≤ 3 ∧ SX4_canPutToe N f (nI p) = some 1) ∨ ((q f (8 + p) = 1 ∨ toeS f 12 = 4) ∧ SX4_canPutToe N f (nI p) = some 0) := by
  obtain ⟨h0, h1, h2, h5, h6, h7, ht, hs, hm, hw, hb⟩ := hG
  have hb12 := toeS_b ht 12 (by omega)
  have hz : (4 : Int32) ≤ iI (toeS f 12) ↔ 4 ≤ toeS f 12 := iI_le (a := 4) ⟨by omega, by omega⟩ ⟨by omega, by omega⟩
  unfold SX4_canPutToe
  rw [isToe_v f hp h, toes_c hN, bnd_v]
  by_cases c : f (8 + p) = 1
  · rw [if_pos c, if_neg (by decide)]
    exact Or.inr ⟨Or.inl (n1_q.mp c), rfl⟩
  · rw [if_neg c, if_pos rfl]
    have c' : q f (8 + p) ≠ 1 := fun z => c (n1_q.mpr z)
    have := ht p hp
    by_cases c4 : 4 ≤ toeS f 12
    · rw [if_pos (hz.mpr c4)]
      exact Or.inr ⟨Or.inr (by omega), rfl⟩
    · rw [if_neg (fun z => c4 (hz.mp z))]
      exact Or.inl ⟨by omega, by omega, rfl⟩
theorem o_toe (hN : 13 ≤ N) (hR : Rel f s) (hG : Good T f) {p : Nat} (hp : p < 12) (h0 : q f (8 + p) = 0) (h3 : toeS f 12 ≤ 3) : ∃ r f' s', SX4_putToe N f (nI p) = some (r, f') ∧ SX6_doPlaceToe N 0 s (nI p) = some (r, s', 0) ∧ Rel f' s' ∧ Good T f' := by
  have hR' : Rel (upd f (8 + p) 1) (upd s (7 + p) 1) := hR.up 1 (by rw [tau_ge (by omega)]; omega)
  have hb12 := toeS_b hG.2.2.2.2.2.2.1 12 (by omega)
  refine ⟨iI (toeS (upd f (8 + p) 1) 12), upd f (8 + p) 1, upd s (7 + p) 1, ?_, ?_, hR', hG.toe hp (Or.inr rfl) ?_⟩
  · unfold SX4_putToe
    rw [e_p, put_n f 1 (by omega) (by omega), lt_v, toes_c hN, bnd_v]
  · unfold SX6_doPlaceToe
    have hz : ¬ iI (toeS f 12) = 4 := fun z => by
      have := (iI_eq (a := toeS f 12) (b := 4) ⟨by omega, by omega⟩ ⟨by omega, by omega⟩).mp z
      omega
    rw [posn_1 hp, bnd_v, if_neg (by decide), s_p, gd_p (vp_in_nI (by omega) (by omega)), nI_clamp (by omega), hR.p hp, if_neg (fun z => by have := n1_q.mp z; omega), toes_s hN hR, bnd_v, if_neg hz, gd_p (vp_in_nI (by omega) (by omega)), toes_s hN hR', bnd_v]
  · show toeS f 12 + 1 - q f (8 + p) ≤ 4
    omega
theorem x_toe (hN : 13 ≤ N) (hR : Rel f s) (hG : Good T f) {p : Nat} (hp : p < 12) (h : q f (8 + p) = 1 ∨ toeS f 12 = 4) : SX6_doPlaceToe N 0 s (nI p) = some (0, s, 2) := by
  unfold SX6_doPlaceToe SX6_fails
  rw [posn_1 hp, bnd_v, if_neg (by decide), s_p, gd_p (vp_in_nI (by omega) (by omega)), nI_clamp (by omega), hR.p hp]
  by_cases c : f (8 + p) = 1
  · rw [if_pos c, lt_v]
  · have h4 : toeS f 12 = 4 := by
      rcases h with h | h
      · exact absurd (n1_q.mpr h) c
      · exact h
    rw [if_neg c, toes_s hN hR, bnd_v, h4, if_pos (show iI 4 = 4 from rfl), lt_v]
theorem o_untoe (hN : 13 ≤ N) (hR : Rel f s) (hG : Good T f) {p : Nat} (hp : p < 12) (h0 : q f (8 + p) = 1) : ∃ r f' s', SX4_dropToe N f (nI p) = some (r, f') ∧ SX6_doRemoveToe N 0 s (nI p) = some (r, s', 0) ∧ Rel f' s' ∧ Good T f' := by
  have hR' : Rel (upd f (8 + p) 0) (upd s (7 + p) 0) := hR.up 0 (by rw [tau_ge (by omega)]; omega)
  have hs : toeS f 12 ≤ 4 := hG.2.2.2.2.2.2.2.1
  refine ⟨iI (toeS (upd f (8 + p) 0) 12), upd f (8 + p) 0, upd s (7 + p) 0, ?_, ?_, hR', hG.toe hp (Or.inl rfl) ?_⟩
  · unfold SX4_dropToe
    rw [e_p, put_n f 0 (by omega) (by omega), lt_v, toes_c hN, bnd_v]
  · unfold SX6_doRemoveToe
    rw [posn_1 hp, bnd_v, if_neg (by decide), s_p, gd_p (vp_in_nI (by omega) (by omega)), nI_clamp (by omega), hR.p hp, if_neg (fun z => by have := n0_q.mp z; omega), gd_p (vp_in_nI (by omega) (by omega)), toes_s hN hR', bnd_v]
  · show toeS f 12 + 0 - q f (8 + p) ≤ 4
    omega
theorem x_untoe (hR : Rel f s) {p : Nat} (hp : p < 12) (h0 : q f (8 + p) = 0) : SX6_doRemoveToe N 0 s (nI p) = some (0, s, 2) := by
  unfold SX6_doRemoveToe SX6_fails
  rw [posn_1 hp, bnd_v, if_neg (by decide), s_p, gd_p (vp_in_nI (by omega) (by omega)), nI_clamp (by omega), hR.p hp, if_pos (n0_q.mpr h0), lt_v]
end PO
