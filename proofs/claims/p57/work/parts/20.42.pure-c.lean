/-! arguments: in their range or not, on both sides alike -/
theorem nar_1 : narrow .boolean (.int 1) = .int 1 := rfl
theorem nar_0 : narrow .boolean (.int 0) = .int 0 := rfl
theorem isThere_1 : SX6_isThere 1 = some (1, 0) := by
  unfold SX6_isThere
  rw [if_neg (by decide), lt_v, gd_p nar_1]
theorem isThere_0 : SX6_isThere 0 = some (0, 1) := by
  unfold SX6_isThere
  rw [if_pos rfl, lt_v, gd_p nar_0]
theorem posn (x : Int32) : (∃ p, p < 12 ∧ x = nI p ∧ SX4_isPosition x = 1 ∧ SX6_isPosition x = some 1) ∨ (SX4_isPosition x = 0 ∧ SX6_isPosition x = some 0) := by
  by_cases h : x < 0
  · refine Or.inr ⟨if_pos h, ?_⟩
    unfold SX6_isPosition SX6_in
    rw [if_pos h, gd_p nar_0]
  · obtain ⟨p, hp, rfl⟩ := nI_of h
    by_cases h2 : p < 12
    · refine Or.inl ⟨p, h2, rfl, ?_, ?_⟩
      · unfold SX4_isPosition
        rw [if_neg h, if_neg (show ¬ (12 : Int32) ≤ nI p from nI_ge (b := 12) h2 (by omega))]
      · unfold SX6_isPosition SX6_in
        rw [if_neg h, if_neg (show ¬ (11 : Int32) < nI p from nI_nlt (a := 11) (by omega) (by omega)), gd_p nar_1]
    · refine Or.inr ⟨?_, ?_⟩
      · unfold SX4_isPosition
        rw [if_neg h, if_pos (show (12 : Int32) ≤ nI p from nI_le (a := 12) (by omega) hp)]
      · unfold SX6_isPosition SX6_in
        rw [if_neg h, if_pos (show (11 : Int32) < nI p from nI_lt (a := 11) (by omega) hp), gd_p nar_0]
theorem moonn {f s : Nat → Int32} (hR : Rel f s) (h6 : 0 ≤ q f 6 ∧ q f 6 ≤ 5) (x : Int32) : (∃ j, j < mo f ∧ x = nI j ∧ SX4_isMoon f x = 1 ∧ SX6_isMoon s x = some 1) ∨ (SX4_isMoon f x = 0 ∧ SX6_isMoon s x = some 0) := by
  have e6 : f 6 = nI (mo f) := q_n h6.1
  have hm : mo f ≤ 5 := by unfold mo; omega
  have e1 : nI (mo f) - 1 = iI ((mo f : Int) - 1) := by rw [iI_n, show (1 : Int32) = iI 1 from iI_n 1, iI_sub]
  by_cases h : x < 0
  · refine Or.inr ⟨if_pos h, ?_⟩
    unfold SX6_isMoon SX6_in
    rw [if_pos h, gd_p nar_0]
  · obtain ⟨p, hp, rfl⟩ := nI_of h
    have hz : iI ((mo f : Int) - 1) < nI p ↔ mo f ≤ p := by
      rw [iI_n, iI_lt ⟨by omega, by omega⟩ ⟨by omega, by omega⟩]
      omega
    by_cases h2 : p < mo f
    · refine Or.inl ⟨p, h2, rfl, ?_, ?_⟩
      · unfold SX4_isMoon
        rw [if_neg h, moons_v, e6, if_neg (nI_ge h2 (by omega))]
      · unfold SX6_isMoon SX6_in
        rw [if_neg h, hR.r0, e6, e1, if_neg (fun c => by have := hz.mp c; omega), gd_p nar_1]
    · refine Or.inr ⟨?_, ?_⟩
      · unfold SX4_isMoon
        rw [if_neg h, moons_v, e6, if_pos (nI_le (by omega) hp)]
      · unfold SX6_isMoon SX6_in
        rw [if_neg h, hR.r0, e6, e1, if_pos (hz.mpr (by omega)), gd_p nar_0]
theorem towln {f s : Nat → Int32} (hR : Rel f s) (h6 : 0 ≤ q f 7 ∧ q f 7 ≤ 4) (x : Int32) : (∃ j, j < tw f ∧ x = nI j ∧ SX4_isTowel f x = 1 ∧ SX6_isTowel s x = some 1) ∨ (SX4_isTowel f x = 0 ∧ SX6_isTowel s x = some 0) := by
  have e6 : f 7 = nI (tw f) := q_n h6.1
  have hm : tw f ≤ 4 := by unfold tw; omega
  have e1 : nI (tw f) - 1 = iI ((tw f : Int) - 1) := by rw [iI_n, show (1 : Int32) = iI 1 from iI_n 1, iI_sub]
  by_cases h : x < 0
  · refine Or.inr ⟨if_pos h, ?_⟩
    unfold SX6_isTowel SX6_in
    rw [if_pos h, gd_p nar_0]
  · obtain ⟨p, hp, rfl⟩ := nI_of h
    have hz : iI ((tw f : Int) - 1) < nI p ↔ tw f ≤ p := by
      rw [iI_n, iI_lt ⟨by omega, by omega⟩ ⟨by omega, by omega⟩]
      omega
    by_cases h2 : p < tw f
    · refine Or.inl ⟨p, h2, rfl, ?_, ?_⟩
      · unfold SX4_isTowel
        rw [if_neg h, towels_v, e6, if_neg (nI_ge h2 (by omega))]
      · unfold SX6_isTowel SX6_in
        rw [if_neg h, hR.r1, e6, e1, if_neg (fun c => by have := hz.mp c; omega), gd_p nar_1]
    · refine Or.inr ⟨?_, ?_⟩
      · unfold SX4_isTowel
        rw [if_neg h, towels_v, e6, if_pos (nI_le (by omega) hp)]
      · unfold SX6_isTowel SX6_in
        rw [if_neg h, hR.r1, e6, e1, if_pos (hz.mpr (by omega)), gd_p nar_0]
theorem minn (x : Int32) : (∃ m, m ≤ 144 ∧ x = nI m ∧ SX5_requireTideMinutes x = 0 ∧ SX6_in x 0 144 = 1) ∨ (SX5_requireTideMinutes x = 1 ∧ SX6_in x 0 144 = 0) := by
  by_cases h : x < 0
  · exact Or.inr ⟨if_pos h, if_pos h⟩
  · obtain ⟨p, hp, rfl⟩ := nI_of h
    by_cases h2 : p ≤ 144
    · refine Or.inl ⟨p, h2, rfl, ?_, ?_⟩
      · unfold SX5_requireTideMinutes
        rw [if_neg h, if_pos (show nI p ≤ (144 : Int32) from nI_le (b := 144) h2 (by omega))]
      · unfold SX6_in
        rw [if_neg h, if_neg (show ¬ (144 : Int32) < nI p from nI_nlt (a := 144) (by omega) (by omega))]
    · refine Or.inr ⟨?_, ?_⟩
      · unfold SX5_requireTideMinutes
        rw [if_neg h, if_neg (show ¬ nI p ≤ (144 : Int32) from nI_ge (a := 144) (by omega) hp)]
      · unfold SX6_in
        rw [if_neg h, if_pos (show (144 : Int32) < nI p from nI_lt (a := 144) (by omega) hp)]
/-! the ends of a call -/
theorem lg_self (x : Int64) : lg_cmp x x = 0 := by
  unfold lg_cmp
  rw [if_neg (by simp), if_pos rfl]
theorem updL_0 (wo : Nat → Int64) (x : Int64) : vp_updL wo 0 x 0 = x := if_pos rfl
theorem fin_ok {α : Type} {t k : Int32} {a b : Int64} {X : α} (h1 : t = k) (h0 : k = 0) (h2 : a = b) : (if SX6_thrown t = k then (if k = 0 then (if lg_cmp a b = 0 then some X else none) else some X) else none) = some X := by
  subst h1; subst h2
  rw [if_pos (show SX6_thrown t = t from rfl), if_pos h0, if_pos (lg_self _)]
theorem fin_x {α : Type} {t k : Int32} {a b : Int64} {X : α} (h1 : t = k) (h0 : k ≠ 0) : (if SX6_thrown t = k then (if k = 0 then (if lg_cmp a b = 0 then some X else none) else some X) else none) = some X := by
  subst h1
  rw [if_pos (show SX6_thrown t = t from rfl), if_neg h0]
theorem fin_b {α : Type} {t k v : Int32} {a : Int64} {X : α} (h1 : t = k) (h0 : k = 0) (h2 : a = if v = 0 then 0 else 1) : (if SX6_thrown t = k then (if k = 0 then (lt_ (if v = 0 then (0 : Int64) else 1) (fun o10 : Int64 => if lg_cmp a o10 = 0 then some X else none)) else some X) else none) = some X := by
  subst h1; subst h2
  rw [if_pos (show SX6_thrown t = t from rfl), if_pos h0, lt_v, if_pos (lg_self _)]
theorem fin_bx {α : Type} {t k v : Int32} {a : Int64} {X : α} (h1 : t = k) (h0 : k ≠ 0) : (if SX6_thrown t = k then (if k = 0 then (lt_ (if v = 0 then (0 : Int64) else 1) (fun o10 : Int64 => if lg_cmp a o10 = 0 then some X else none)) else some X) else none) = some X := by
  subst h1
  rw [if_pos (show SX6_thrown t = t from rfl), if_neg h0]
section PQ
variable {f s : Nat → Int32} {wo : Nat → Int64} {L : Nat} {xs : Nat → Int32} {x5 : Int32}
theorem rqM1 {x : Int32} (h : SX4_isMoon f x = 1) : SX5_requireMoon f x = 0 := if_neg (by rw [h]; decide)
theorem rqM0 {x : Int32} (h : SX4_isMoon f x = 0) : SX5_requireMoon f x = 3 := if_pos h
theorem rqT1 {x : Int32} (h : SX4_isTowel f x = 1) : SX5_requireTowel f x = 0 := if_neg (by rw [h]; decide)
theorem rqT0 {x : Int32} (h : SX4_isTowel f x = 0) : SX5_requireTowel f x = 3 := if_pos h
theorem rqP1 {x : Int32} (h : SX4_isPosition x = 1) : SX5_requirePosition x = 0 := if_neg (by rw [h]; decide)
theorem rqP0 {x : Int32} (h : SX4_isPosition x = 0) : SX5_requirePosition x = 3 := if_pos h
end PQ
