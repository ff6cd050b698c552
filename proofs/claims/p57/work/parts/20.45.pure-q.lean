section PQ2
variable {f s : Nat → Int32} {wo : Nat → Int64} {L : Nat} {xs : Nat → Int32} {x5 : Int32}
theorem ageIn_s (hR : Rel f s) (hG : TG f) {j : Nat} (hj : j < mo f) (m : Nat) : SX6_ageIn s (nI j) (nI m) = some (nI (ag f j + m)) := by
  have h5 := hG.mo5
  have e := age_v f (show j < 5 by omega)
  rw [age_n hG.1 (Int.le_refl _) (hG.2.2.2 j hj) (by omega)] at e
  unfold SX6_ageIn
  rw [show SX6_ofMoon s (nI j) 4 = _ from ofMoon_v hR (by omega) (k := 4) (by omega), bnd_v, hR.r2, i_asc, ← e, nI_add]
theorem nar_b {c : Prop} [Decidable c] : narrow .boolean (.int (if c then 1 else 0)) = .int (if c then 1 else 0) := by split <;> rfl
theorem toeAt_c {p : Nat} (hp : p < 12) : SX4_isToeAt f (nI p) = if f (8 + p) = 1 then 1 else 0 := by
  unfold SX4_isToeAt SX4_isPosition
  rw [if_neg (nI_pos (by omega)), if_neg (show ¬ (12 : Int32) ≤ nI p from nI_ge (b := 12) hp (by omega)), if_neg (show ¬ (1 : Int32) = 0 by decide), toe_v f hp]
theorem plugd_c (h5 : -1 ≤ q f 5) : SX4_isPlugged f = if q f 5 < 0 then 0 else 1 := by
  unfold SX4_isPlugged
  rw [plug_v]
  by_cases c : q f 5 < 0
  · rw [if_pos (m1_q.mpr (by omega)), if_pos c]
  · rw [if_neg (fun z => by have := m1_q.mp z; omega), if_neg c]
end PQ2
