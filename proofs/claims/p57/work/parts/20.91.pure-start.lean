/-! where the loop starts -/
def F00 : Nat → Int32 := upd (upd (fun _ => 0) 1 20) 5 (-1)
def S00 : Nat → Int32 := upd (upd (fun _ => 0) 3 20) 6 (-1)
theorem init_J : SJ4_init_da8c8 = some ((fun _ => 0), 16) := by
  unfold SJ4_init_da8c8 SJ5_init_d00df
  rw [gd_p ⟨by decide, by decide⟩, bnd_v]
  rfl
theorem init_F : SX4_init = F00 := by
  unfold SX4_init SX2_init_61
  rw [lt_v, put_1, lt_v, put_5, lt_v]
  rfl
theorem init_v5 : SX5_init = some (-1, -1, F00, SX0_init.1, SX0_init.2.1, SX0_init.2.2, (fun _ => 0), (fun _ => 0), 16, (fun _ => 0), (fun _ => 0), 16, (fun _ => 0), (fun _ => 0)) := by
  unfold SX5_init SX3_init SX1_init SX2_init_61 SX2_init_60 SX2_init_488
  rw [init_F, init_J]
  rfl
theorem init_v6 : SX6_init = (-1, -1, S00, (fun _ => 0), (fun _ => 0), (fun _ => 0), (fun _ => 0), (fun _ => 0), (fun _ => 0)) := rfl
theorem F00_R : Rel F00 S00 := by
  have h : Rel (fun _ => 0) (fun _ => 0) := fun i _ => rfl
  exact (h.up 20 (i := 3) (k := 1) rfl).up (-1) (i := 6) (k := 5) rfl
theorem F00_e {i : Nat} (h1 : i ≠ 1) (h5 : i ≠ 5) : F00 i = 0 := by
  unfold F00
  rw [upd_ne _ _ h5, upd_ne _ _ h1]
theorem q_0 {f : Nat → Int32} {i : Nat} (h : f i = 0) : q f i = 0 := q_nI (k := 0) h (by omega)
theorem F00_G : Good 0 F00 := by
  have e1 : q F00 1 = 20 := rfl
  have e5 : q F00 5 = -1 := rfl
  have e0 := q_0 (F00_e (i := 0) (by omega) (by omega))
  have e2 := q_0 (F00_e (i := 2) (by omega) (by omega))
  have e6 := q_0 (F00_e (i := 6) (by omega) (by omega))
  have e7 := q_0 (F00_e (i := 7) (by omega) (by omega))
  have em : mo F00 = 0 := by
    unfold mo
    rw [e6]
    rfl
  have et : tw F00 = 0 := by
    unfold tw
    rw [e7]
    rfl
  have z : ∀ n : Nat, n ≤ 12 → toeS F00 n = 0 := by
    intro n
    induction n with
    | zero => intro _; rfl
    | succ n ih =>
      intro h
      simp only [toeS]
      rw [ih (by omega), q_0 (F00_e (by omega) (by omega))]
      rfl
  refine ⟨by omega, by omega, by omega, by omega, by omega, by omega, fun i hi => Or.inl (q_0 (F00_e (by omega) (by omega))), by rw [z 12 (by omega)]; omega, fun j hj => by omega, fun t ht => by omega, ?_⟩
  rw [et]
  decide
theorem LR00 (m : Nat) : LR m 0 16 (fun _ => 0) (fun _ => 0) := ⟨Or.inl rfl, by omega, by omega, fun j _ => ⟨0, by omega, rfl⟩, fun j hj => absurd hj (by omega)⟩
theorem RH00 : RH 0 0 0 (fun _ => 0) 0 (fun _ => 0) := ⟨0, 0, by omega, by omega, rfl, rfl, rfl, fun j h => absurd h (by omega)⟩
