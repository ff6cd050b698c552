/-! the line: the three calls -/
section PK
variable {T : Int} {f s : Nat → Int32} {wo : Nat → Int64} {L : Nat} {xs : Nat → Int32} {x5 : Int32} {N : Nat}
def LI (n : Nat) (lf : Nat → Int32) (c v : Int32) (ln : Nat → Int32) : Prop := ∃ q, c = nI q ∧ v = nI q ∧ LR 90 q n lf ln
theorem CapN.le {n : Nat} (h : CapN n) : n ≤ 142 := by rcases h with h | h | h | h <;> omega
theorem p43 {n2 : Nat} {lf ln : Nat → Int32} {c2 v8 : Int32} (hl : LI n2 lf c2 v8 ln) (hx : vp_in (x5 + 1) L) : ∃ r, SC43 n2 lf c2 v8 ln wo L xs x5 = some r := by
  obtain ⟨q, rfl, rfl, h1, h2, h3, h4, h5⟩ := hl
  have hn := h1.le
  unfold SC43
  rw [gd_p hx]
  generalize xs (Int32.toNatClampNeg (x5 + 1)) = a
  have bad : SX5_lineAt n2 lf (nI q) a = some (3, 0) → SX6_in a 0 (nI q - 1) = 0 → ∃ r, (bnd (SL_lineAt n2 lf (nI q) a wo) fun o2 => bnd (SX6_lineAt (nI q) ln a) fun o4 => if SX6_thrown o4.2 = o2.1 then (if o2.1 = 0 then (if lg_cmp (o2.2 0) o4.1.toInt64 = 0 then some (o2.2, o4.2) else none) else some (o2.2, o4.2)) else none) = some r := by
    intro e1 e2
    have hL : SL_lineAt n2 lf (nI q) a wo = some (1, wo) := by
      unfold SL_lineAt
      rw [e1, bnd_v]
      rfl
    have hM : SX6_lineAt (nI q) ln a = some (32, 1) := by
      unfold SX6_lineAt
      rw [e2, isThere_0, bnd_v, if_pos rfl]
    rw [hL, bnd_v, hM, bnd_v]
    exact ⟨_, fin_x rfl (show (1 : Int32) ≠ 0 by decide)⟩
  by_cases ha : a < 0
  · refine bad ?_ ?_
    · unfold SX5_lineAt
      rw [if_pos ha]
    · unfold SX6_in
      rw [if_pos ha]
  · obtain ⟨j, hj, rfl⟩ := nI_of ha
    have z : nI q - 1 < nI j ↔ q ≤ j := by
      rw [show nI q - 1 = iI ((q : Int) - 1) from by rw [iI_n, show (1 : Int32) = iI 1 from rfl, iI_sub], iI_n, iI_lt ⟨by omega, by omega⟩ ⟨by omega, by omega⟩]
      omega
    by_cases c : j < q
    · obtain ⟨x, x1, x2, x3, x4⟩ := h5 j c
      have em : imin (nI q) (nI n2) = nI q := by
        rw [iI_n, iI_n, imin_v ⟨by omega, by omega⟩ ⟨by omega, by omega⟩]
        congr 1; omega
      have hL : SL_lineAt n2 lf (nI q) (nI j) wo = some (0, vp_updL wo 0 (nI x).toInt64) := by
        unfold SL_lineAt SX5_lineAt SJ4_length_8abf5 SJ5_length_8abf5 SJ4_charAt_5068e SJ5_charAt_5068e SJ0_checkIndex_df160 SJ3_checkIndex_8e157_n
        rw [if_neg ha, if_pos (nI_lt c (by omega)), em, gd_p ha, gd_p (nI_lt c (by omega)), bnd_v, bnd_v, gd_p (vp_in_nI (by omega) (by omega)), nI_clamp (by omega), x3, i2c_w x (by omega), gd_p (nrc (by omega)), bnd_v, gd_p (nrc (by omega)), bnd_v, gd_p (nrc (by omega)), bnd_v]
        rfl
      have hM : SX6_lineAt (nI q) ln (nI j) = some (nI x, 0) := by
        unfold SX6_lineAt SX6_in
        rw [if_neg ha, if_neg (fun y => by have := z.mp y; omega), isThere_1, bnd_v, if_neg (by decide), gd_p (vp_in_nI (by omega) (by omega)), nI_clamp (by omega), x4, gd_p (nrc (by omega))]
      rw [hL, bnd_v, hM, bnd_v]
      exact ⟨_, fin_ok rfl rfl (updL_0 wo _)⟩
    · refine bad ?_ ?_
      · unfold SX5_lineAt SJ4_length_8abf5 SJ5_length_8abf5
        rw [if_neg ha, if_neg (show ¬ nI j < nI q from nI_nlt (by omega) (by omega))]
      · unfold SX6_in
        rw [if_neg ha, if_pos (z.mpr (by omega))]
theorem setl {n q : Nat} {lf : Nat → Int32} {ml : Int32} (hn : CapN n) (hq : q ≤ n) : ∃ ml', SJ4_setLength_d00df n lf ml (nI q) 0 = some (ml', 0, lf, n) := by
  have h := hn.le
  have e : SJ5_ensureCapacityInternal_d00df n lf 0 = some (lf, n) := by
    unfold SJ5_ensureCapacityInternal_d00df
    rw [if_pos]
    rw [z_iI, iI_n, iI_sub, iI_le ⟨by omega, by omega⟩ ⟨by omega, by omega⟩]
    omega
  unfold SJ4_setLength_d00df SJ5_setLength_d00df
  rw [gd_p (by decide), e, bnd_v, gd_p (show (0 : Int32) ≤ nI q from nI_le (a := 0) (by omega) (by omega)), lt_v, bnd_v]
  exact ⟨_, rfl⟩
theorem LR.nil {m q n : Nat} {lf ln : Nat → Int32} (h : LR m q n lf ln) : LR m 0 n lf ln := ⟨h.1, by omega, by omega, h.2.2.2.1, fun j hj => absurd hj (by omega)⟩
theorem p42 (hN : 2100 ≤ N) (hR : Rel f s) (hG : TG f) {n2 : Nat} {lf ln : Nat → Int32} {ml2 c2 v8 : Int32} (hl : LI n2 lf c2 v8 ln) (hx : vp_in (x5 + 1) L) : ∃ r, SC42 N f n2 lf ml2 c2 v8 s ln wo L xs x5 = some r ∧ LI r.2.2.2.2.2.2.2 r.1 r.2.2.2.2.1 r.2.2.2.2.2.2.1 r.2.1 := by
  have h5 := hG.mo5
  obtain ⟨q, rfl, rfl, hl⟩ := hl
  unfold SC42
  rw [gd_p hx]
  generalize xs (Int32.toNatClampNeg (x5 + 1)) = a
  rcases moonn hR hG.2.2.1 a with ⟨j, hj, rfl, h1, h2⟩ | ⟨h1, h2⟩
  · have hg := hG.2.2.2 j hj
    have hml := ma_le hg 0
    have hpl := pl_lt f j 0
    obtain ⟨k1, k2⟩ := kd_b hg
    obtain ⟨x, hx1, hx2, hx3⟩ : ∃ x : Nat, (32 ≤ x ∧ x < 127) ∧ (if f (20 + 5 * j + 0) = 0 then (104 : Int32) else (if f (20 + 5 * j + 0) = 1 then 115 else 98)) = nI x ∧ (if f (20 + 5 * j + 0) = 0 then some (104 : Int32) else (if f (20 + 5 * j + 0) = 1 then some 115 else some 98)) = some (nI x) := by
      by_cases c0 : f (20 + 5 * j + 0) = 0
      · exact ⟨104, by omega, if_pos c0, if_pos c0⟩
      · by_cases c1 : f (20 + 5 * j + 0) = 1
        · exact ⟨115, by omega, by rw [if_neg c0, if_pos c1]; rfl, by rw [if_neg c0, if_pos c1]; rfl⟩
        · exact ⟨98, by omega, by rw [if_neg c0, if_neg c1]; rfl, by rw [if_neg c0, if_neg c1]; rfl⟩
    have em : SX4_massAfter f (nI j) 0 = nI (ma f j 0) := ma_c hG.1 (Int.le_refl _) hg (by omega) (m := 0) (by omega)
    have ep : SX4_placeAfter f (nI j) 0 = nI (pl f j 0) := pl_c hG.1 (Int.le_refl _) hg (by omega) (m := 0) (by omega)
    have sm : SX6_massIn s (nI j) 0 = some (nI (ma f j 0)) := ma_s hR hG.1 (Int.le_refl _) hg (by omega) (m := 0) (by omega)
    have sp : SX6_placeIn s (nI j) 0 = some (nI (pl f j 0)) := pl_s hR hG.1 (Int.le_refl _) hg (by omega) (m := 0) (by omega)
    have ss : SX6_isShaded s (nI j) 0 = _ := shade_s hR hG hj (m := 0) (by omega)
    have sk : SX6_ofMoon s (nI j) 0 = some (f (20 + 5 * j + 0)) := ofMoon_v hR (by omega) (k := 0) (by omega)
    have ek := kind_v f (j := j) (by omega)
    have ee := ecl_c hG.2.1 hpl
    obtain ⟨ml', e0⟩ := setl (lf := lf) (ml := ml2) hl.1 hl.2.1
    have g0 := hl.nil
    obtain ⟨n1, lf1, ln1, a1, b1, g1⟩ := jchar g0 (by omega) (by omega) hx1
    obtain ⟨t2, n2', lf2, ln2, u2, a2, b2, g2⟩ := jnum g1 (by omega) (by omega) (N := N) (by omega) (v := ma f j 0) (by omega)
    obtain ⟨n3, lf3, ln3, a3, b3, g3⟩ := jchar g2 (by omega) (by omega) (x := 64) (by omega)
    obtain ⟨t4, n4, lf4, ln4, u4, a4, b4, g4⟩ := jnum g3 (by omega) (by omega) (N := N) (by omega) (v := pl f j 0) (by omega)
    obtain ⟨t5, n5, lf5, ln5, u5, a5, b5, g5⟩ := jlet g4 (by omega) (by omega) (x := 33) (by omega) (if sh f (pl f j 0) then 1 else 0)
    have a1' : SJ4_append_cf468 n2 lf 0 (nI x) = some (nI (0 + 1), lf1, n1) := a1
    have b1' : SX6_says 0 ln (nI x) = some (ln1, nI (0 + 1)) := b1
    have a3' : SJ4_append_cf468 n2' lf2 (nI (0 + 1 + t2)) 64 = _ := a3
    have b3' : SX6_says (nI (0 + 1 + t2)) ln2 64 = _ := b3
    have a5' : SX5_writeLetter n4 lf4 (nI (0 + 1 + t2 + 1 + t4)) (if sh f (pl f j 0) then 1 else 0) 33 = _ := a5
    have b5' : SX6_saysIf (nI (0 + 1 + t2 + 1 + t4)) ln4 (if sh f (pl f j 0) then 1 else 0) 33 = _ := b5
    have hL : SL_writeMoon N f n2 lf ml2 (nI q) (nI j) wo = some (0, ml', nI (0 + 1 + t2 + 1 + t4 + t5), lf5, n5, vp_updL wo 0 (nI (0 + 1 + t2 + 1 + t4 + t5)).toInt64) := by
      unfold SL_writeMoon SX5_writeMoon
      rw [rqM1 h1, lt_v, if_pos rfl, e0, bnd_v, ek, hx2, lt_v, a1', bnd_v, em, a2, bnd_v, a3', bnd_v, ep, a4, bnd_v, ee, a5', bnd_v, bnd_v]
      rfl
    have hM : SX6_writeMoon (nI q) s ln (nI j) = some (nI (0 + 1 + t2 + 1 + t4 + t5), 0, nI (0 + 1 + t2 + 1 + t4 + t5), ln5) := by
      unfold SX6_writeMoon
      rw [h2, bnd_v, isThere_1, bnd_v, if_neg (by decide), sk, bnd_v, bnd_v, hx3, bnd_v, b1', bnd_v, sm, bnd_v, b2, bnd_v, b3', bnd_v, sp, bnd_v, b4, bnd_v, ss, bnd_v, b5', bnd_v]
    rw [hL, bnd_v, hM, bnd_v]
    exact fin3 rfl (fun _ => updL_0 wo _) ⟨_, rfl, rfl, g5⟩
  · have hL : SL_writeMoon N f n2 lf ml2 (nI q) a wo = some (1, ml2, nI q, lf, n2, wo) := by
      unfold SL_writeMoon SX5_writeMoon
      rw [rqM0 h1, lt_v, if_neg (by decide), bnd_v]
      rfl
    have hM : SX6_writeMoon (nI q) s ln a = some (0, 1, nI q, ln) := by
      unfold SX6_writeMoon
      rw [h2, bnd_v, isThere_0, bnd_v, if_pos rfl]
    rw [hL, bnd_v, hM, bnd_v]
    exact fin3 rfl (fun h => absurd (show (1 : Int32) = 0 from h) (by decide)) ⟨q, rfl, rfl, hl⟩
/-- what is said of one position -/
theorem rim1 (hN : 2100 ≤ N) (hR : Rel f s) (hG : Good T f) (hT : T ≤ 1000000) {i : Nat} (hi : i < 12) {q n : Nat} {lf ln : Nat → Int32} (h : LR 90 q n lf ln) (hq : q + 6 ≤ 90) : ∃ k n' lf' ln', k ≤ 6 ∧ LR 90 (q + k) n' lf' ln' ∧ (∀ (o1 : Int32 × Int32 × (Nat → Int32) × Nat) (fu : Nat), (bnd (SX4_level 13 f (nI i)) (fun o6 : Int32 => bnd (SJ4_append_bf812 13 n lf (nI q) o6) (fun o8 : Int32 × (Nat → Int32) × Nat => bnd (SX5_writeLetter o8.2.2 o8.2.1 o8.1 (SX4_isToeAt f (nI i)) 116) (fun o11 : Int32 × (Nat → Int32) × Nat => lt_ (if (SX4_plug f) = (nI i) then (1) else (0)) (fun o15 : Int32 => bnd (SX5_writeLetter o11.2.2 o11.2.1 o11.1 o15 112) (fun o16 : Int32 × (Nat → Int32) × Nat => bnd (SX4_isTowelAt 13 f (nI i)) (fun o18 : Int32 => bnd (SX5_writeLetter o16.2.2 o16.2.1 o16.1 o18 119) (fun o20 : Int32 × (Nat → Int32) × Nat => LX5_writeRim_10 o1 f fu o20.2.1 o20.1 (nI i + 1) o20.2.2)))))))) = LX5_writeRim_10 o1 f fu lf' (nI (q + k)) (nI (i + 1)) n') ∧ (∀ fu : Nat, (bnd (SX6_level N s (nI i)) (fun o6 : Int32 => bnd (SX6_saysNumber_2 (nI q) ln o6) (fun o8 : Int32 × (Nat → Int32) => gd (vp_in (7 + nI i) 60) (lt_ (if (s (Int32.toNatClampNeg (7 + nI i))) = 1 then (1) else (0)) (fun o12 : Int32 => bnd (SX6_saysIf o8.1 o8.2 o12 116) (fun o13 : (Nat → Int32) × Int32 => lt_ (if (s 6) = nI i then (1) else (0)) (fun o16 : Int32 => bnd (SX6_saysIf o13.2 o13.1 o16 112) (fun o17 : (Nat → Int32) × Int32 => bnd (SX6_isLaid N s (nI i)) (fun o19 : Int32 => bnd (SX6_saysIf o17.2 o17.1 o19 119) (fun o21 : (Nat → Int32) × Int32 => LX6_writeRim_12 N s fu o21.1 o21.2 (nI i + 1))))))))))) = LX6_writeRim_12 N s fu ln' (nI (q + k)) (nI (i + 1))) := by
  have htg := hG.tg hT
  have h1 : 0 ≤ (f 1).toInt ∧ (f 1).toInt ≤ 40 := hG.2.1
  have h4 := hG.t4
  have hlv := LV_b htg h1 hi
  have hp1 : SX4_isPosition (nI i) = 1 := by
    rcases posn (nI i) with ⟨_, _, _, h, _⟩ | ⟨_, h⟩
    · exact h
    · rw [posn_1 hi] at h
      exact absurd (Option.some.inj h) (by decide)
  have et := isToe_v f hi hp1
  have el : SX4_isTowelAt 13 f (nI i) = _ := lat_c hG (nI i) (tw f) 0 13 (by omega) (by omega)
  have sl : SX6_isLaid N s (nI i) = _ := lat_s hR hG (nI i) (tw f) 0 N false (by omega) (by omega)
  rw [Bool.false_or] at sl
  obtain ⟨t1, n1, lf1, ln1, u1, a1, b1, g1⟩ := jnum h (by omega) (by omega) (N := 13) (by omega) (v := LV f i) (by omega)
  obtain ⟨t2, n2, lf2, ln2, u2, a2, b2, g2⟩ := jlet g1 (by omega) (by omega) (x := 116) (by omega) (if f (8 + i) = 1 then 1 else 0)
  obtain ⟨t3, n3, lf3, ln3, u3, a3, b3, g3⟩ := jlet g2 (by omega) (by omega) (x := 112) (by omega) (if f 5 = nI i then 1 else 0)
  obtain ⟨t4, n4, lf4, ln4, u4, a4, b4, g4⟩ := jlet g3 (by omega) (by omega) (x := 119) (by omega) (if lat f (nI i) (tw f) 0 then 1 else 0)
  have a2' : SX5_writeLetter n1 lf1 (nI (q + t1)) (if f (8 + i) = 1 then 1 else 0) 116 = _ := a2
  have b2' : SX6_saysIf (nI (q + t1)) ln1 (if f (8 + i) = 1 then 1 else 0) 116 = _ := b2
  have a3' : SX5_writeLetter n2 lf2 (nI (q + t1 + t2)) (if f 5 = nI i then 1 else 0) 112 = _ := a3
  have b3' : SX6_saysIf (nI (q + t1 + t2)) ln2 (if f 5 = nI i then 1 else 0) 112 = _ := b3
  have a4' : SX5_writeLetter n3 lf3 (nI (q + t1 + t2 + t3)) (if lat f (nI i) (tw f) 0 then 1 else 0) 119 = _ := a4
  have b4' : SX6_saysIf (nI (q + t1 + t2 + t3)) ln3 (if lat f (nI i) (tw f) 0 then 1 else 0) 119 = _ := b4
  refine ⟨t1 + t2 + t3 + t4, n4, lf4, ln4, by omega, by rw [← Nat.add_assoc, ← Nat.add_assoc, ← Nat.add_assoc]; exact g4, fun o1 fu => ?_, fun fu => ?_⟩
  · rw [level_c htg h1 hi (by omega), bnd_v, a1, bnd_v, et, a2', bnd_v, plug_v, lt_v, a3', bnd_v, el, bnd_v, a4', bnd_v, nI_1, Nat.add_assoc, Nat.add_assoc, Nat.add_assoc]
    simp only [Nat.add_assoc]
  · rw [level_s hR htg h1 hi (by omega), bnd_v, b1, bnd_v, s_p, gd_p (vp_in_nI (by omega) (by omega)), nI_clamp (by omega), hR.p hi, lt_v, b2', bnd_v, hR.r6, lt_v, b3', bnd_v, sl, bnd_v, b4', bnd_v, nI_1]
    simp only [Nat.add_assoc]
end PK
