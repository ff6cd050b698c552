/-! typing; and one command -/
section PI
variable {T : Int} {f s : Nat → Int32} {wo : Nat → Int64} {L : Nat} {xs : Nat → Int32} {x5 : Int32} {N : Nat}
def TT (n : Nat) (tf : Nat → Int32) (c v : Int32) (tx : Nat → Int32) : Prop := ∃ q, c = nI q ∧ v = nI q ∧ LR 60 q n tf tx
theorem in_lo {x lo hi : Int32} (h : x < lo) : SX6_in x lo hi = 0 := if_pos h
theorem in_hi {x lo hi : Int32} (h : hi < x) : SX6_in x lo hi = 0 := by
  unfold SX6_in
  by_cases c : x < lo
  · exact if_pos c
  · rw [if_neg c, if_pos h]
theorem p47 {n : Nat} {tf tx : Nat → Int32} {c0 v10 : Int32} (hl : TT n tf c0 v10 tx) (hx : vp_in (x5 + 1) L) : ∃ r, SC47 n tf c0 v10 tx wo L xs x5 = some r ∧ TT r.2.2.2.2.2.2 r.1 r.2.2.2.1 r.2.2.2.2.1 r.2.1 := by
  obtain ⟨q, rfl, rfl, hl⟩ := hl
  have hn := hl.1.le
  unfold SC47
  rw [gd_p hx]
  generalize i2c (xs (Int32.toNatClampNeg (x5 + 1))) = a
  have bad : ∀ k : Int32, k ≠ 0 → SL_type n tf (nI q) a wo = some (k, nI q, tf, n, wo) → SX6_type (nI q) tx a = some (0, tx, nI q, k) → ∃ r, (bnd (SL_type n tf (nI q) a wo) fun o2 => bnd (SX6_type (nI q) tx a) fun o4 => if SX6_thrown o4.2.2.2 = o2.1 then (if o2.1 = 0 then (if lg_cmp (o2.2.2.2.2 0) o4.1.toInt64 = 0 then some (o2.2.2.1, o4.2.1, o2.2.2.2.2, o2.2.1, o4.2.2.1, o4.2.2.2, o2.2.2.2.1) else none) else some (o2.2.2.1, o4.2.1, o2.2.2.2.2, o2.2.1, o4.2.2.1, o4.2.2.2, o2.2.2.2.1)) else none) = some r ∧ TT r.2.2.2.2.2.2 r.1 r.2.2.2.1 r.2.2.2.2.1 r.2.1 := by
    intro k hk e1 e2
    rw [e1, bnd_v, e2, bnd_v]
    exact fin3 rfl (fun h => absurd h hk) ⟨q, rfl, rfl, hl⟩
  rcases inn a 32 126 with ⟨h1, h2, h3⟩ | h1
  · obtain ⟨x, rfl, x1, x2⟩ := inN ⟨h2, h3⟩ (by decide)
    have e32 : (32 : Int32).toInt = 32 := rfl
    have e126 : (126 : Int32).toInt = 126 := rfl
    have z := in_1 h1
    have z2 : nI x ≤ 126 := nI_le (b := 126) (by omega) (by omega)
    by_cases c : q < 60
    · obtain ⟨n', lf', e1, e2, e3, e4, e5, e6⟩ := app1 hl (by omega) (x := x) (by omega)
      have hL : SL_type n tf (nI q) (nI x) wo = some (0, nI (q + 1), lf', n', vp_updL wo 0 (nI (q + 1)).toInt64) := by
        unfold SL_type SX5_type SX3_length SX3_append SJ4_length_8abf5 SJ5_length_8abf5
        rw [if_neg z.1, if_pos z2, if_pos (show nI q < 60 from nI_lt (b := 60) c (by omega)), e1, bnd_v, bnd_v, bnd_v]
        rfl
      have hM : SX6_type (nI q) tx (nI x) = some (nI (q + 1), upd tx q (nI x), nI (q + 1), 0) := by
        unfold SX6_type
        rw [h1, if_neg (by decide), if_neg (fun y => by have := (nI_eq (a := q) (b := 60) (by omega) (by omega)).mp y; omega), lt_v, if_pos (by decide), gd_p (vp_in_nI (by omega) (by omega)), nI_clamp (by omega), vnc (by omega), nI_1]
      rw [hL, bnd_v, hM, bnd_v]
      exact fin3 rfl (fun _ => updL_0 wo _) ⟨q + 1, rfl, rfl, hl.one (by omega) (by omega) e2 e3 e4 e5 e6⟩
    · have hq : q = 60 := by have := hl.2.2.1; omega
      refine bad 2 (by decide) ?_ ?_
      · unfold SL_type SX5_type SX3_length SJ4_length_8abf5 SJ5_length_8abf5
        rw [if_neg z.1, if_pos z2, if_neg (show ¬ nI q < 60 from nI_nlt (a := q) (b := 60) (by omega) (by omega)), bnd_v]
        rfl
      · unfold SX6_type
        rw [h1, if_neg (by decide), if_pos (by rw [hq]; rfl), lt_v, if_neg (by decide)]
  · refine bad 1 (by decide) ?_ ?_
    · unfold SL_type SX5_type
      rcases in_0 h1 with z | z
      · rw [if_pos z, bnd_v]
        rfl
      · have z2 : ¬ a ≤ 126 := fun y => by
          have := Int32.le_iff_toInt_le.mp y
          have := Int32.lt_iff_toInt_lt.mp z
          omega
        by_cases z3 : a < 32
        · rw [if_pos z3, bnd_v]
          rfl
        · rw [if_neg z3, if_neg z2, bnd_v]
          rfl
    · unfold SX6_type
      rw [h1, if_pos rfl, lt_v, if_neg (by decide)]
/-! one command of a text -/
def nums (w : Nat) : Nat := if w ≤ 2 then 3 else if w = 7 then 0 else if w = 8 then 2 else 1
/-- what a command asks of both sides -/
def CO (N : Nat) (T : Int) (f s : Nat → Int32) (A : Option Int32) (B : Option (Nat → Int32)) (M : Option (Int32 × (Nat → Int32))) : Prop := (A = some 0 ∧ ∃ k s', M = some (k, s') ∧ ¬ k ≤ 0) ∨ (A = some 1 ∧ ∃ f' s', B = some f' ∧ M = some (0, s') ∧ Rel f' s' ∧ Good (T + 60) f')
theorem does_w {N : Nat} {s cd : Nat → Int32} {j w : Nat} (hj : j < 15) (hw : cd (4 * j) = nI w) : (4 : Int32) * nI j = nI (4 * j) ∧ nI (4 * j) + 1 = nI (4 * j + 1) ∧ nI (4 * j) + 2 = nI (4 * j + 2) ∧ nI (4 * j) + 3 = nI (4 * j + 3) := by
  refine ⟨nI_mul 4 j, nI_add _ 1, nI_add _ 2, nI_add _ 3⟩
theorem does_0 {N : Nat} {s cd : Nat → Int32} {j : Nat} (hj : j < 15) : ∃ X, SX6_does N 0 s cd (nI j) = X (cd (4 * j)) (cd (4 * j + 1)) (cd (4 * j + 2)) (cd (4 * j + 3)) ∧ X = fun w a b c => if w = 0 then (bnd (SX6_doAdd 0 s w a b c) (fun o9 : Int32 × (Nat → Int32) × Int32 => some ((o9.2.2, o9.2.1)))) else (if w = 1 then (bnd (SX6_doAdd 0 s w a b c) (fun o14 : Int32 × (Nat → Int32) × Int32 => some ((o14.2.2, o14.2.1)))) else (if w = 2 then (bnd (SX6_doAdd 0 s w a b c) (fun o19 : Int32 × (Nat → Int32) × Int32 => some ((o19.2.2, o19.2.1)))) else (if w = 3 then (bnd (SX6_doRemoveMoon 0 s a) (fun o22 : Int32 × (Nat → Int32) × Int32 => some ((o22.2.2, o22.2.1)))) else (if w = 4 then (bnd (SX6_doPlaceToe N 0 s a) (fun o25 : Int32 × (Nat → Int32) × Int32 => some ((o25.2.2, o25.2.1)))) else (if w = 5 then (bnd (SX6_doRemoveToe N 0 s a) (fun o28 : Int32 × (Nat → Int32) × Int32 => some ((o28.2.2, o28.2.1)))) else (if w = 6 then (bnd (SX6_doInsertPlug 0 s a) (fun o31 : Int32 × (Nat → Int32) × Int32 => some ((o31.2.2, o31.2.1)))) else (if w = 7 then (some ((SX6_doPullPlug 0 s).2.2, (SX6_doPullPlug 0 s).2.1)) else (if w = 8 then (bnd (SX6_doLayTowel N 0 s a b) (fun o37 : Int32 × (Nat → Int32) × Int32 => some ((o37.2.2, o37.2.1)))) else (if w = 9 then (bnd (SX6_doWringTowel 0 s a) (fun o40 : Int32 × (Nat → Int32) × Int32 => some ((o40.2.2, o40.2.1)))) else (if w = 10 then (some ((SX6_doSetFlow 0 s a).2.2, (SX6_doSetFlow 0 s a).2.1)) else (bnd (SX6_doAdvance N 0 s a) (fun o45 : Int32 × (Nat → Int32) × Int32 => some ((o45.2.2, o45.2.1)))))))))))))) := by
  have e0 : (4 : Int32) * nI j = nI (4 * j) := nI_mul 4 j
  have e1 : nI (4 * j) + 1 = nI (4 * j + 1) := nI_add _ 1
  have e2 : nI (4 * j) + 2 = nI (4 * j + 2) := nI_add _ 2
  have e3 : nI (4 * j) + 3 = nI (4 * j + 3) := nI_add _ 3
  have g : ∀ k, k < 4 → vp_in (nI (4 * j + k)) 240 := fun k hk => vp_in_nI (by omega) (by omega)
  have c : ∀ k, k < 4 → (nI (4 * j + k)).toNatClampNeg = 4 * j + k := fun k hk => nI_clamp (by omega)
  have g0 : vp_in (nI (4 * j)) 240 := g 0 (by omega)
  have c0 : (nI (4 * j)).toNatClampNeg = 4 * j := c 0 (by omega)
  refine ⟨_, ?_, rfl⟩
  unfold SX6_does
  rw [e0, e1, e2, e3, gd_p (g 1 (by omega)), lt_v, gd_p (g 2 (by omega)), lt_v, gd_p g0, c0, c 1 (by omega), c 2 (by omega), c 3 (by omega)]
  simp only [gd_p (g 3 (by omega)), gd_p g0, lt_v]
end PI
