/-! the line: the three calls -/
section PK
variable {T : Int} {f s : Nat → Int32} {wo : Nat → Int64} {L : Nat} {xs : Nat → Int32} {x5 : Int32} {N : Nat}
def LI (n : Nat) (lf : Nat → Int32) (c v : Int32) (ln : Nat → Int32) : Prop := ∃ q, c = nI q ∧ v = nI q ∧ LR 90 q n lf ln
theorem CapN.le {n : Nat} (h : CapN n) : n ≤ 142 := by rcases h with h | h | h | h <;> omega
theorem setl {n q : Nat} {lf : Nat → Int32} {ml : Int32} (hn : CapN n) (hq : q ≤ n) : ∃ ml', SJ4_setLength_d00df n lf ml (nI q) 0 = some (ml', 0, lf, n) := by
  have h := hn.le
  have e : SJ5_ensureCapacityInternal_d00df n lf 0 = some (lf, n) := by
    unfold SJ5_ensureCapacityInternal_d00df
    rw [if_pos]
    rw [z_iI, iI_n, iI_sub, iI_le ⟨by omega, by omega⟩ ⟨by omega, by omega⟩]
    omega
  unfold SJ4_setLength_d00df SJ5_setLength_d00df
  rw [gd_p (by decide), e, bnd_v, gd_p (show (0 : Int32) ≤ nI q from nI_le (a := 0) (by omega) (by omega)), lt_v, bnd_v]
  exact ⟨_, rfl⟩
theorem LR.nil {m q n : Nat} {lf ln : Nat → Int32} (h : LR m q n lf ln) : LR m 0 n lf ln := ⟨h.1, by omega, by omega, h.2.2.2.1, fun j hj => absurd hj (by omega)⟩
/-- what is said of one position -/
theorem rim1 (hN : 2100 ≤ N) (hR : Rel f s) (hG : Good T f) (hT : T ≤ 1000000) {i : Nat} (hi : i < 12) {q n : Nat} {lf ln : Nat → Int32} (h : LR 90 q n lf ln) (hq : q + 6 ≤ 90) : ∃ k n' lf' ln', k ≤ 6 ∧ LR 90 (q + k) n' lf' ln' ∧ (∀ (o1 : Int32 × Int32 × (Nat → Int32) × Nat) (fu : Nat), (bnd (SX4_level 13 f (nI i)) (fun o6 : Int32 => bnd (SJ4_append_bf812 13 n lf (nI q) o6) (fun o8 : Int32 × (Nat → Int32) × Nat => bnd (SX5_writeLetter o8.2.2 o8.2.1 o8.1 (SX4_isToeAt f (nI i)) 116) (fun o11 : Int32 × (Nat → Int32) × Nat => lt_ (if (SX4_plug f) = (nI i) then (1) else (0)) (fun o15 : Int32 => bnd (SX5_writeLetter o11.2.2 o11.2.1 o11.1 o15 112) (fun o16 : Int32 × (Nat → Int32) × Nat => bnd (SX4_isTowelAt 13 f (nI i)) (fun o18 : Int32 => bnd (SX5_writeLetter o16.2.2 o16.2.1 o16.1 o18 119) (fun o20 : Int32 × (Nat → Int32) × Nat => LX5_writeRim_10 o1 f fu o20.2.1 o20.1 (nI i + 1) o20.2.2)))))))) = LX5_writeRim_10 o1 f fu lf' (nI (q + k)) (nI (i + 1)) n') ∧ (∀ fu : Nat, (bnd (SX6_level N s (nI i)) (fun o6 : Int32 => bnd (SX6_saysNumber_2 (nI q) ln o6) (fun o8 : Int32 × (Nat → Int32) => gd (vp_in (7 + nI i) 60) (lt_ (if (s (Int32.toNatClampNeg (7 + nI i))) = 1 then (1) else (0)) (fun o12 : Int32 => bnd (SX6_saysIf o8.1 o8.2 o12 116) (fun o13 : (Nat → Int32) × Int32 => lt_ (if (s 6) = nI i then (1) else (0)) (fun o16 : Int32 => bnd (SX6_saysIf o13.2 o13.1 o16 112) (fun o17 : (Nat → Int32) × Int32 => bnd (SX6_isLaid N s (nI i)) (fun o19 : Int32 => bnd (SX6_saysIf o17.2 o17.1 o19 119) (fun o21 : (Nat → Int32) × Int32 => LX6_writeRim_12 N s fu o21.1 o21.2 (nI i + 1))))))))))) = LX6_writeRim_12 N s fu ln' (nI (q + k)) (nI (i + 1))) := by
  have htg := hG.tg hT
  have h1 : 0 ≤ (f 1).toInt ∧ (f 1).toInt ≤ 40 := hG.2.1
  have h4 := hG.t4
  have hlv := LV_b htg h1 hi
  have hp1 : SX4_isPosition (nI i) = 1 := by
    rcases posn (nI i) with ⟨_, _, _, h, _⟩ | ⟨_, h⟩
    · exact h
    · rw [posn_1 hi] at h
      exact absurd (Option.some.inj h) (by decide)
  have et := isToe_v f hi hp1
  have el : SX4_isTowelAt 13 f (nI i) = _ := lat_c hG (nI i) (tw f) 0 13 (by omega) (by omega)
  have sl : SX6_isLaid N s (nI i) = _ := lat_s hR hG (nI i) (tw f) 0 N false (by omega) (by omega)
  rw [Bool.false_or] at sl
  obtain ⟨t1, n1, lf1, ln1, u1, a1, b1, g1⟩ := jnum h (by omega) (by omega) (N := 13) (by omega) (v := LV f i) (by omega)
  obtain ⟨t2, n2, lf2, ln2, u2, a2, b2, g2⟩ := jlet g1 (by omega) (by omega) (x := 116) (by omega) (if f (8 + i) = 1 then 1 else 0)
  obtain ⟨t3, n3, lf3, ln3, u3, a3, b3, g3⟩ := jlet g2 (by omega) (by omega) (x := 112) (by omega) (if f 5 = nI i then 1 else 0)
  obtain ⟨t4, n4, lf4, ln4, u4, a4, b4, g4⟩ := jlet g3 (by omega) (by omega) (x := 119) (by omega) (if lat f (nI i) (tw f) 0 then 1 else 0)
  have a2' : SX5_writeLetter n1 lf1 (nI (q + t1)) (if f (8 + i) = 1 then 1 else 0) 116 = _ := a2
  have b2' : SX6_saysIf (nI (q + t1)) ln1 (if f (8 + i) = 1 then 1 else 0) 116 = _ := b2
  have a3' : SX5_writeLetter n2 lf2 (nI (q + t1 + t2)) (if f 5 = nI i then 1 else 0) 112 = _ := a3
  have b3' : SX6_saysIf (nI (q + t1 + t2)) ln2 (if f 5 = nI i then 1 else 0) 112 = _ := b3
  have a4' : SX5_writeLetter n3 lf3 (nI (q + t1 + t2 + t3)) (if lat f (nI i) (tw f) 0 then 1 else 0) 119 = _ := a4
  have b4' : SX6_saysIf (nI (q + t1 + t2 + t3)) ln3 (if lat f (nI i) (tw f) 0 then 1 else 0) 119 = _ := b4
  refine ⟨t1 + t2 + t3 + t4, n4, lf4, ln4, by omega, by rw [← Nat.add_assoc, ← Nat.add_assoc, ← Nat.add_assoc]; exact g4, fun o1 fu => ?_, fun fu => ?_⟩
  · rw [level_c htg h1 hi (by omega), bnd_v, a1, bnd_v, et, a2', bnd_v, plug_v, lt_v, a3', bnd_v, el, bnd_v, a4', bnd_v, nI_1, Nat.add_assoc, Nat.add_assoc, Nat.add_assoc]
    simp only [Nat.add_assoc]
  · rw [level_s hR htg h1 hi (by omega), bnd_v, b1, bnd_v, s_p, gd_p (vp_in_nI (by omega) (by omega)), nI_clamp (by omega), hR.p hi, lt_v, b2', bnd_v, hR.r6, lt_v, b3', bnd_v, sl, bnd_v, b4', bnd_v, nI_1]
    simp only [Nat.add_assoc]
end PK
