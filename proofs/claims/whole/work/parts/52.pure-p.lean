/-! the calls that change the state, one by one -/
section PM
variable {T : Int} {f ss bb pp g : Nat → Int32} {v1 v2 v5 : Int32} {wo : Nat → Int64} {L : Nat} {xs : Nat → Int32} {x5 : Int32} {N : Nat}
theorem one_x : ¬ (1 : Int32) ≤ 0 := by decide
theorem two_x : ¬ (2 : Int32) ≤ 0 := by decide
theorem thr_x : ¬ (3 : Int32) ≤ 0 := by decide
theorem p0 (hN : 2100 ≤ N) (hR : Rel f ss) (hG : Good T f) (hT : T ≤ 900000) (hH : RH T v1 v2 g v5 pp) (hx1 : vp_in (x5 + 1) L) (hx2 : vp_in (x5 + 2) L) (hx3 : vp_in (x5 + 3) L) : ∃ r, SC0 N f v1 v2 g v5 ss bb pp wo L xs x5 = some r ∧ O3 (T + 60) r := by
  have hB : Rel f (va_cpy ss bb 0 0 60) := hR.cpy bb
  have hTT : T ≤ T + 60 := by omega
  unfold SC0
  rw [gd_p hx1, gd_p hx2, gd_p hx3]
  generalize xs (Int32.toNatClampNeg (x5 + 1)) = a
  generalize xs (Int32.toNatClampNeg (x5 + 2)) = b
  generalize xs (Int32.toNatClampNeg (x5 + 3)) = c
  rcases shap a b c with ⟨m, p, t, rfl, hm, rfl, hp, rfl, ht, z1, z2, z3⟩ | ⟨z1, z2⟩
  · rcases room_v hG with ⟨y1, y2⟩ | ⟨y1, y2⟩
    · obtain ⟨r, f1, s1, o1, o2, o3, o4⟩ := o_moon hR hG y1 hm hp ht (kd := 0) (by omega) z2 z3
      replace o1 : SX4_putMoon f 0 (nI m) (nI p) (nI t) = (r, f1) := o1
      replace o2 : SX6_doAdd 0 ss 0 (nI m) (nI p) (nI t) = some (r, s1, 0) := o2
      obtain ⟨g1, c1, c2, hk, pp1, c5, hH1, he⟩ := keep_r (N := N) hH hB hG (by omega)
      have hL : SL_addHardMoon N f v1 v2 g (nI m) (nI p) (nI t) wo = some (0, f1, c1, c2, g1, vp_updL wo 0 r.toInt64) := by simp [SL_addHardMoon, SX5_addHardMoon, SX5_addMoon, z1, y2, hk, bnd_v, lt_v, o1]
      have hM : SX6_addHardMoon v5 ss bb pp (nI m) (nI p) (nI t) = some (r, s1, (va_cpy ss bb 0 0 60), pp1, c5, 0) := by simp [SX6_addHardMoon, SX6_keep, bnd_v, lt_v, o2, he]
      rw [hL, bnd_v, hM, bnd_v]
      exact fin3 rfl (fun _ => updL_0 wo _) ⟨o3, o4.mono hTT, hH1.mono hTT⟩
    · have xx := x_moon hR hG y1 hp z2 z3 0
      have hL : SL_addHardMoon N f v1 v2 g (nI m) (nI p) (nI t) wo = some (2, f, v1, v2, g, wo) := by simp [SL_addHardMoon, SX5_addHardMoon, SX5_addMoon, z1, y2, bnd_v, lt_v]
      have hM : SX6_addHardMoon v5 ss bb pp (nI m) (nI p) (nI t) = some (0, va_cpy (va_cpy ss bb 0 0 60) ss 0 0 60, (va_cpy ss bb 0 0 60), pp, v5, 2) := by simp [SX6_addHardMoon, SX6_keep, bnd_v, lt_v, xx, ends_x two_x]
      rw [hL, bnd_v, hM, bnd_v]
      exact fin3 rfl (fun h => absurd (show (2 : Int32) = 0 from h) (by decide)) ⟨hB.cpy ss, hG.mono hTT, hH.mono hTT⟩
  · have xx := z2 ss 0
    have hL : SL_addHardMoon N f v1 v2 g a b c wo = some (1, f, v1, v2, g, wo) := by simp [SL_addHardMoon, SX5_addHardMoon, SX5_addMoon, z1, bnd_v, lt_v]
    have hM : SX6_addHardMoon v5 ss bb pp a b c = some (0, va_cpy (va_cpy ss bb 0 0 60) ss 0 0 60, (va_cpy ss bb 0 0 60), pp, v5, 1) := by simp [SX6_addHardMoon, SX6_keep, bnd_v, lt_v, xx, ends_x one_x]
    rw [hL, bnd_v, hM, bnd_v]
    exact fin3 rfl (fun h => absurd (show (1 : Int32) = 0 from h) (by decide)) ⟨hB.cpy ss, hG.mono hTT, hH.mono hTT⟩
theorem p1 (hN : 2100 ≤ N) (hR : Rel f ss) (hG : Good T f) (hT : T ≤ 900000) (hH : RH T v1 v2 g v5 pp) (hx1 : vp_in (x5 + 1) L) (hx2 : vp_in (x5 + 2) L) (hx3 : vp_in (x5 + 3) L) : ∃ r, SC1 N f v1 v2 g v5 ss bb pp wo L xs x5 = some r ∧ O3 (T + 60) r := by
  have hB : Rel f (va_cpy ss bb 0 0 60) := hR.cpy bb
  have hTT : T ≤ T + 60 := by omega
  unfold SC1
  rw [gd_p hx1, gd_p hx2, gd_p hx3]
  generalize xs (Int32.toNatClampNeg (x5 + 1)) = a
  generalize xs (Int32.toNatClampNeg (x5 + 2)) = b
  generalize xs (Int32.toNatClampNeg (x5 + 3)) = c
  rcases shap a b c with ⟨m, p, t, rfl, hm, rfl, hp, rfl, ht, z1, z2, z3⟩ | ⟨z1, z2⟩
  · rcases room_v hG with ⟨y1, y2⟩ | ⟨y1, y2⟩
    · obtain ⟨r, f1, s1, o1, o2, o3, o4⟩ := o_moon hR hG y1 hm hp ht (kd := 1) (by omega) z2 z3
      replace o1 : SX4_putMoon f 1 (nI m) (nI p) (nI t) = (r, f1) := o1
      replace o2 : SX6_doAdd 0 ss 1 (nI m) (nI p) (nI t) = some (r, s1, 0) := o2
      obtain ⟨g1, c1, c2, hk, pp1, c5, hH1, he⟩ := keep_r (N := N) hH hB hG (by omega)
      have hL : SL_addSoftMoon N f v1 v2 g (nI m) (nI p) (nI t) wo = some (0, f1, c1, c2, g1, vp_updL wo 0 r.toInt64) := by simp [SL_addSoftMoon, SX5_addSoftMoon, SX5_addMoon, z1, y2, hk, bnd_v, lt_v, o1]
      have hM : SX6_addSoftMoon v5 ss bb pp (nI m) (nI p) (nI t) = some (r, s1, (va_cpy ss bb 0 0 60), pp1, c5, 0) := by simp [SX6_addSoftMoon, SX6_keep, bnd_v, lt_v, o2, he]
      rw [hL, bnd_v, hM, bnd_v]
      exact fin3 rfl (fun _ => updL_0 wo _) ⟨o3, o4.mono hTT, hH1.mono hTT⟩
    · have xx := x_moon hR hG y1 hp z2 z3 1
      have hL : SL_addSoftMoon N f v1 v2 g (nI m) (nI p) (nI t) wo = some (2, f, v1, v2, g, wo) := by simp [SL_addSoftMoon, SX5_addSoftMoon, SX5_addMoon, z1, y2, bnd_v, lt_v]
      have hM : SX6_addSoftMoon v5 ss bb pp (nI m) (nI p) (nI t) = some (0, va_cpy (va_cpy ss bb 0 0 60) ss 0 0 60, (va_cpy ss bb 0 0 60), pp, v5, 2) := by simp [SX6_addSoftMoon, SX6_keep, bnd_v, lt_v, xx, ends_x two_x]
      rw [hL, bnd_v, hM, bnd_v]
      exact fin3 rfl (fun h => absurd (show (2 : Int32) = 0 from h) (by decide)) ⟨hB.cpy ss, hG.mono hTT, hH.mono hTT⟩
  · have xx := z2 ss 1
    have hL : SL_addSoftMoon N f v1 v2 g a b c wo = some (1, f, v1, v2, g, wo) := by simp [SL_addSoftMoon, SX5_addSoftMoon, SX5_addMoon, z1, bnd_v, lt_v]
    have hM : SX6_addSoftMoon v5 ss bb pp a b c = some (0, va_cpy (va_cpy ss bb 0 0 60) ss 0 0 60, (va_cpy ss bb 0 0 60), pp, v5, 1) := by simp [SX6_addSoftMoon, SX6_keep, bnd_v, lt_v, xx, ends_x one_x]
    rw [hL, bnd_v, hM, bnd_v]
    exact fin3 rfl (fun h => absurd (show (1 : Int32) = 0 from h) (by decide)) ⟨hB.cpy ss, hG.mono hTT, hH.mono hTT⟩
theorem p2 (hN : 2100 ≤ N) (hR : Rel f ss) (hG : Good T f) (hT : T ≤ 900000) (hH : RH T v1 v2 g v5 pp) (hx1 : vp_in (x5 + 1) L) (hx2 : vp_in (x5 + 2) L) (hx3 : vp_in (x5 + 3) L) : ∃ r, SC2 N f v1 v2 g v5 ss bb pp wo L xs x5 = some r ∧ O3 (T + 60) r := by
  have hB : Rel f (va_cpy ss bb 0 0 60) := hR.cpy bb
  have hTT : T ≤ T + 60 := by omega
  unfold SC2
  rw [gd_p hx1, gd_p hx2, gd_p hx3]
  generalize xs (Int32.toNatClampNeg (x5 + 1)) = a
  generalize xs (Int32.toNatClampNeg (x5 + 2)) = b
  generalize xs (Int32.toNatClampNeg (x5 + 3)) = c
  rcases shap a b c with ⟨m, p, t, rfl, hm, rfl, hp, rfl, ht, z1, z2, z3⟩ | ⟨z1, z2⟩
  · rcases room_v hG with ⟨y1, y2⟩ | ⟨y1, y2⟩
    · obtain ⟨r, f1, s1, o1, o2, o3, o4⟩ := o_moon hR hG y1 hm hp ht (kd := 2) (by omega) z2 z3
      replace o1 : SX4_putMoon f 2 (nI m) (nI p) (nI t) = (r, f1) := o1
      replace o2 : SX6_doAdd 0 ss 2 (nI m) (nI p) (nI t) = some (r, s1, 0) := o2
      obtain ⟨g1, c1, c2, hk, pp1, c5, hH1, he⟩ := keep_r (N := N) hH hB hG (by omega)
      have hL : SL_addBubbleMoon N f v1 v2 g (nI m) (nI p) (nI t) wo = some (0, f1, c1, c2, g1, vp_updL wo 0 r.toInt64) := by simp [SL_addBubbleMoon, SX5_addBubbleMoon, SX5_addMoon, z1, y2, hk, bnd_v, lt_v, o1]
      have hM : SX6_addBubbleMoon v5 ss bb pp (nI m) (nI p) (nI t) = some (r, s1, (va_cpy ss bb 0 0 60), pp1, c5, 0) := by simp [SX6_addBubbleMoon, SX6_keep, bnd_v, lt_v, o2, he]
      rw [hL, bnd_v, hM, bnd_v]
      exact fin3 rfl (fun _ => updL_0 wo _) ⟨o3, o4.mono hTT, hH1.mono hTT⟩
    · have xx := x_moon hR hG y1 hp z2 z3 2
      have hL : SL_addBubbleMoon N f v1 v2 g (nI m) (nI p) (nI t) wo = some (2, f, v1, v2, g, wo) := by simp [SL_addBubbleMoon, SX5_addBubbleMoon, SX5_addMoon, z1, y2, bnd_v, lt_v]
      have hM : SX6_addBubbleMoon v5 ss bb pp (nI m) (nI p) (nI t) = some (0, va_cpy (va_cpy ss bb 0 0 60) ss 0 0 60, (va_cpy ss bb 0 0 60), pp, v5, 2) := by simp [SX6_addBubbleMoon, SX6_keep, bnd_v, lt_v, xx, ends_x two_x]
      rw [hL, bnd_v, hM, bnd_v]
      exact fin3 rfl (fun h => absurd (show (2 : Int32) = 0 from h) (by decide)) ⟨hB.cpy ss, hG.mono hTT, hH.mono hTT⟩
  · have xx := z2 ss 2
    have hL : SL_addBubbleMoon N f v1 v2 g a b c wo = some (1, f, v1, v2, g, wo) := by simp [SL_addBubbleMoon, SX5_addBubbleMoon, SX5_addMoon, z1, bnd_v, lt_v]
    have hM : SX6_addBubbleMoon v5 ss bb pp a b c = some (0, va_cpy (va_cpy ss bb 0 0 60) ss 0 0 60, (va_cpy ss bb 0 0 60), pp, v5, 1) := by simp [SX6_addBubbleMoon, SX6_keep, bnd_v, lt_v, xx, ends_x one_x]
    rw [hL, bnd_v, hM, bnd_v]
    exact fin3 rfl (fun h => absurd (show (1 : Int32) = 0 from h) (by decide)) ⟨hB.cpy ss, hG.mono hTT, hH.mono hTT⟩
theorem p3 (hN : 2100 ≤ N) (hR : Rel f ss) (hG : Good T f) (hT : T ≤ 900000) (hH : RH T v1 v2 g v5 pp) (hx1 : vp_in (x5 + 1) L) : ∃ r, SC3 N f v1 v2 g v5 ss bb pp wo L xs x5 = some r ∧ O3 (T + 60) r := by
  have hB : Rel f (va_cpy ss bb 0 0 60) := hR.cpy bb
  have hTT : T ≤ T + 60 := by omega
  unfold SC3
  rw [gd_p hx1]
  generalize xs (Int32.toNatClampNeg (x5 + 1)) = a
  rcases moonn hR hG.2.2.2.2.1 a with ⟨j, hj, rfl, h1, h2⟩ | ⟨h1, h2⟩
  · have hq := rqM1 h1
    obtain ⟨r, f1, s1, o1, o2, o3, o4⟩ := o_drop (N := N) (by omega) hR hG hj h2
    obtain ⟨g1, c1, c2, hk, pp1, c5, hH1, he⟩ := keep_r (N := N) hH hB hG (by omega)
    have hL : SL_removeMoon N f v1 v2 g (nI j) wo = some (0, f1, c1, c2, g1, vp_updL wo 0 r.toInt64) := by simp [SL_removeMoon, SX5_removeMoon, hq, hk, bnd_v, lt_v, o1]
    have hM : SX6_removeMoon v5 ss bb pp (nI j) = some (r, s1, (va_cpy ss bb 0 0 60), pp1, c5, 0) := by simp [SX6_removeMoon, SX6_keep, bnd_v, lt_v, o2, he]
    rw [hL, bnd_v, hM, bnd_v]
    exact fin3 rfl (fun _ => updL_0 wo _) ⟨o3, o4.mono hTT, hH1.mono hTT⟩
  · have hq := rqM0 h1
    have hL : SL_removeMoon N f v1 v2 g a wo = some (1, f, v1, v2, g, wo) := by simp [SL_removeMoon, SX5_removeMoon, hq, bnd_v, lt_v]
    have hM : SX6_removeMoon v5 ss bb pp a = some (0, va_cpy (va_cpy ss bb 0 0 60) ss 0 0 60, (va_cpy ss bb 0 0 60), pp, v5, 1) := by simp [SX6_removeMoon, SX6_keep, bnd_v, lt_v, x_drop h2, ends_x one_x]
    rw [hL, bnd_v, hM, bnd_v]
    exact fin3 rfl (fun h => absurd (show (1 : Int32) = 0 from h) (by decide)) ⟨hB.cpy ss, hG.mono hTT, hH.mono hTT⟩
theorem p11 (hN : 2100 ≤ N) (hR : Rel f ss) (hG : Good T f) (hT : T ≤ 900000) (hH : RH T v1 v2 g v5 pp) (hx1 : vp_in (x5 + 1) L) : ∃ r, SC11 N f v1 v2 g v5 ss bb pp wo L xs x5 = some r ∧ O3 (T + 60) r := by
  have hB : Rel f (va_cpy ss bb 0 0 60) := hR.cpy bb
  have hTT : T ≤ T + 60 := by omega
  unfold SC11
  rw [gd_p hx1]
  generalize xs (Int32.toNatClampNeg (x5 + 1)) = a
  rcases posn a with ⟨p, hp, rfl, h1, h2⟩ | ⟨h1, h2⟩
  · have hq := rqP1 h1
    rcases canToe (N := N) (by omega) hG hp h1 with ⟨y1, y2, y3⟩ | ⟨y1, y3⟩
    · skip
      obtain ⟨r, f1, s1, o1, o2, o3, o4⟩ := o_toe (N := N) (by omega) hR hG hp y1 y2
      obtain ⟨g1, c1, c2, hk, pp1, c5, hH1, he⟩ := keep_r (N := N) hH hB hG (by omega)
      have hL : SL_placeToe N f v1 v2 g (nI p) wo = some (0, f1, c1, c2, g1, vp_updL wo 0 r.toInt64) := by simp [SL_placeToe, SX5_placeToe, hq, y3, hk, bnd_v, lt_v, o1]
      have hM : SX6_placeToe N v5 ss bb pp (nI p) = some (r, s1, (va_cpy ss bb 0 0 60), pp1, c5, 0) := by simp [SX6_placeToe, SX6_keep, bnd_v, lt_v, o2, he]
      rw [hL, bnd_v, hM, bnd_v]
      exact fin3 rfl (fun _ => updL_0 wo _) ⟨o3, o4.mono hTT, hH1.mono hTT⟩
    · have xx := x_toe (N := N) (by omega) hR hG hp y1
      have hL : SL_placeToe N f v1 v2 g (nI p) wo = some (2, f, v1, v2, g, wo) := by simp [SL_placeToe, SX5_placeToe, hq, y3, bnd_v, lt_v]
      have hM : SX6_placeToe N v5 ss bb pp (nI p) = some (0, va_cpy (va_cpy ss bb 0 0 60) ss 0 0 60, (va_cpy ss bb 0 0 60), pp, v5, 2) := by simp [SX6_placeToe, SX6_keep, bnd_v, lt_v, xx, ends_x two_x]
      rw [hL, bnd_v, hM, bnd_v]
      exact fin3 rfl (fun h => absurd (show (2 : Int32) = 0 from h) (by decide)) ⟨hB.cpy ss, hG.mono hTT, hH.mono hTT⟩
  · have hq := rqP0 h1
    have xx : SX6_doPlaceToe N 0 ss a = some (0, ss, 1) := by simp [SX6_doPlaceToe, SX6_fails, h2, bnd_v, lt_v]
    have hL : SL_placeToe N f v1 v2 g a wo = some (1, f, v1, v2, g, wo) := by simp [SL_placeToe, SX5_placeToe, hq, bnd_v, lt_v]
    have hM : SX6_placeToe N v5 ss bb pp a = some (0, va_cpy (va_cpy ss bb 0 0 60) ss 0 0 60, (va_cpy ss bb 0 0 60), pp, v5, 1) := by simp [SX6_placeToe, SX6_keep, bnd_v, lt_v, xx, ends_x one_x]
    rw [hL, bnd_v, hM, bnd_v]
    exact fin3 rfl (fun h => absurd (show (1 : Int32) = 0 from h) (by decide)) ⟨hB.cpy ss, hG.mono hTT, hH.mono hTT⟩
theorem p12 (hN : 2100 ≤ N) (hR : Rel f ss) (hG : Good T f) (hT : T ≤ 900000) (hH : RH T v1 v2 g v5 pp) (hx1 : vp_in (x5 + 1) L) : ∃ r, SC12 N f v1 v2 g v5 ss bb pp wo L xs x5 = some r ∧ O3 (T + 60) r := by
  have hB : Rel f (va_cpy ss bb 0 0 60) := hR.cpy bb
  have hTT : T ≤ T + 60 := by omega
  unfold SC12
  rw [gd_p hx1]
  generalize xs (Int32.toNatClampNeg (x5 + 1)) = a
  rcases posn a with ⟨p, hp, rfl, h1, h2⟩ | ⟨h1, h2⟩
  · have hq := rqP1 h1
    have hv := isToe_v f hp h1
    rcases hG.2.2.2.2.2.2.1 p hp with y1 | y1
    · rw [if_neg (fun z => by have := n1_q.mp z; omega)] at hv
      have xx := x_untoe (N := N) hR hp y1
      have hL : SL_removeToe N f v1 v2 g (nI p) wo = some (2, f, v1, v2, g, wo) := by simp [SL_removeToe, SX5_removeToe, hq, hv, bnd_v, lt_v]
      have hM : SX6_removeToe N v5 ss bb pp (nI p) = some (0, va_cpy (va_cpy ss bb 0 0 60) ss 0 0 60, (va_cpy ss bb 0 0 60), pp, v5, 2) := by simp [SX6_removeToe, SX6_keep, bnd_v, lt_v, xx, ends_x two_x]
      rw [hL, bnd_v, hM, bnd_v]
      exact fin3 rfl (fun h => absurd (show (2 : Int32) = 0 from h) (by decide)) ⟨hB.cpy ss, hG.mono hTT, hH.mono hTT⟩
    · rw [if_pos (n1_q.mpr y1)] at hv
      obtain ⟨r, f1, s1, o1, o2, o3, o4⟩ := o_untoe (N := N) (by omega) hR hG hp y1
      obtain ⟨g1, c1, c2, hk, pp1, c5, hH1, he⟩ := keep_r (N := N) hH hB hG (by omega)
      have hL : SL_removeToe N f v1 v2 g (nI p) wo = some (0, f1, c1, c2, g1, vp_updL wo 0 r.toInt64) := by simp [SL_removeToe, SX5_removeToe, hq, hv, hk, bnd_v, lt_v, o1]
      have hM : SX6_removeToe N v5 ss bb pp (nI p) = some (r, s1, (va_cpy ss bb 0 0 60), pp1, c5, 0) := by simp [SX6_removeToe, SX6_keep, bnd_v, lt_v, o2, he]
      rw [hL, bnd_v, hM, bnd_v]
      exact fin3 rfl (fun _ => updL_0 wo _) ⟨o3, o4.mono hTT, hH1.mono hTT⟩
  · have hq := rqP0 h1
    have xx : SX6_doRemoveToe N 0 ss a = some (0, ss, 1) := by simp [SX6_doRemoveToe, SX6_fails, h2, bnd_v, lt_v]
    have hL : SL_removeToe N f v1 v2 g a wo = some (1, f, v1, v2, g, wo) := by simp [SL_removeToe, SX5_removeToe, hq, bnd_v, lt_v]
    have hM : SX6_removeToe N v5 ss bb pp a = some (0, va_cpy (va_cpy ss bb 0 0 60) ss 0 0 60, (va_cpy ss bb 0 0 60), pp, v5, 1) := by simp [SX6_removeToe, SX6_keep, bnd_v, lt_v, xx, ends_x one_x]
    rw [hL, bnd_v, hM, bnd_v]
    exact fin3 rfl (fun h => absurd (show (1 : Int32) = 0 from h) (by decide)) ⟨hB.cpy ss, hG.mono hTT, hH.mono hTT⟩
theorem p14 (hN : 2100 ≤ N) (hR : Rel f ss) (hG : Good T f) (hT : T ≤ 900000) (hH : RH T v1 v2 g v5 pp) (hx1 : vp_in (x5 + 1) L) : ∃ r, SC14 N f v1 v2 g v5 ss bb pp wo L xs x5 = some r ∧ O3 (T + 60) r := by
  have hB : Rel f (va_cpy ss bb 0 0 60) := hR.cpy bb
  have hTT : T ≤ T + 60 := by omega
  unfold SC14
  rw [gd_p hx1]
  generalize xs (Int32.toNatClampNeg (x5 + 1)) = a
  rcases posn a with ⟨p, hp, rfl, h1, h2⟩ | ⟨h1, h2⟩
  · have hq := rqP1 h1
    obtain ⟨r, f1, s1, o1, o2, o3, o4⟩ := o_plug hR hG hp
    obtain ⟨g1, c1, c2, hk, pp1, c5, hH1, he⟩ := keep_r (N := N) hH hB hG (by omega)
    by_cases cr : r = -1
    · rw [if_pos cr] at o2
      have hL : SL_insertPlug N f v1 v2 g (nI p) wo = some (0, f1, c1, c2, g1, vp_updL wo 0 1) := by simp [SL_insertPlug, SX5_insertPlug, hq, hk, bnd_v, lt_v, o1, cr]
      have hM : SX6_insertPlug v5 ss bb pp (nI p) = some (1, s1, (va_cpy ss bb 0 0 60), pp1, c5, 0) := by simp [SX6_insertPlug, SX6_keep, bnd_v, lt_v, o2, he]
      rw [hL, bnd_v, hM, bnd_v]
      exact fin3b rfl (fun _ => updL_0 wo _) ⟨o3, o4.mono hTT, hH1.mono hTT⟩
    · rw [if_neg cr] at o2
      have hL : SL_insertPlug N f v1 v2 g (nI p) wo = some (0, f1, c1, c2, g1, vp_updL wo 0 0) := by simp [SL_insertPlug, SX5_insertPlug, hq, hk, bnd_v, lt_v, o1, cr]
      have hM : SX6_insertPlug v5 ss bb pp (nI p) = some (0, s1, (va_cpy ss bb 0 0 60), pp1, c5, 0) := by simp [SX6_insertPlug, SX6_keep, bnd_v, lt_v, o2, he]
      rw [hL, bnd_v, hM, bnd_v]
      exact fin3b rfl (fun _ => updL_0 wo _) ⟨o3, o4.mono hTT, hH1.mono hTT⟩
  · have hq := rqP0 h1
    have xx : SX6_doInsertPlug 0 ss a = some (0, ss, 1) := by simp [SX6_doInsertPlug, SX6_fails, h2, bnd_v, lt_v]
    have hL : SL_insertPlug N f v1 v2 g a wo = some (1, f, v1, v2, g, wo) := by simp [SL_insertPlug, SX5_insertPlug, hq, bnd_v, lt_v]
    have hM : SX6_insertPlug v5 ss bb pp a = some (0, va_cpy (va_cpy ss bb 0 0 60) ss 0 0 60, (va_cpy ss bb 0 0 60), pp, v5, 1) := by simp [SX6_insertPlug, SX6_keep, bnd_v, lt_v, xx, ends_x one_x]
    rw [hL, bnd_v, hM, bnd_v]
    exact fin3b rfl (fun h => absurd (show (1 : Int32) = 0 from h) (by decide)) ⟨hB.cpy ss, hG.mono hTT, hH.mono hTT⟩
theorem p15 (hN : 2100 ≤ N) (hR : Rel f ss) (hG : Good T f) (hT : T ≤ 900000) (hH : RH T v1 v2 g v5 pp) : ∃ r, SC15 N f v1 v2 g v5 ss bb pp wo = some r ∧ O3 (T + 60) r := by
  have hB : Rel f (va_cpy ss bb 0 0 60) := hR.cpy bb
  have hTT : T ≤ T + 60 := by omega
  unfold SC15
  rcases plugd f with h1 | h1
  · skip
    obtain ⟨r, f1, s1, o1, o2, o3, o4⟩ := o_pull hR hG h1
    obtain ⟨g1, c1, c2, hk, pp1, c5, hH1, he⟩ := keep_r (N := N) hH hB hG (by omega)
    have hL : SL_pullPlug N f v1 v2 g wo = some (0, f1, c1, c2, g1, vp_updL wo 0 r.toInt64) := by simp [SL_pullPlug, SX5_pullPlug, h1, hk, bnd_v, lt_v, o1]
    have hM : SX6_pullPlug v5 ss bb pp = some (r, s1, (va_cpy ss bb 0 0 60), pp1, c5, 0) := by simp [SX6_pullPlug, SX6_keep, bnd_v, lt_v, o2, he]
    rw [hL, bnd_v, hM, bnd_v]
    exact fin3 rfl (fun _ => updL_0 wo _) ⟨o3, o4.mono hTT, hH1.mono hTT⟩
  · obtain ⟨s2, xx⟩ := x_pull hR h1
    have hL : SL_pullPlug N f v1 v2 g wo = some (1, f, v1, v2, g, wo) := by simp [SL_pullPlug, SX5_pullPlug, h1, bnd_v, lt_v]
    have hM : SX6_pullPlug v5 ss bb pp = some (0, va_cpy (va_cpy ss bb 0 0 60) s2 0 0 60, (va_cpy ss bb 0 0 60), pp, v5, 1) := by simp [SX6_pullPlug, SX6_keep, bnd_v, lt_v, xx, ends_x one_x]
    rw [hL, bnd_v, hM, bnd_v]
    exact fin3 rfl (fun h => absurd (show (1 : Int32) = 0 from h) (by decide)) ⟨hB.cpy s2, hG.mono hTT, hH.mono hTT⟩
theorem p17 (hN : 2100 ≤ N) (hR : Rel f ss) (hG : Good T f) (hT : T ≤ 900000) (hH : RH T v1 v2 g v5 pp) (hx1 : vp_in (x5 + 1) L) (hx2 : vp_in (x5 + 2) L) : ∃ r, SC17 N f v1 v2 g v5 ss bb pp wo L xs x5 = some r ∧ O3 (T + 60) r := by
  have hB : Rel f (va_cpy ss bb 0 0 60) := hR.cpy bb
  have hTT : T ≤ T + 60 := by omega
  unfold SC17
  rw [gd_p hx1, gd_p hx2]
  generalize xs (Int32.toNatClampNeg (x5 + 1)) = a
  generalize xs (Int32.toNatClampNeg (x5 + 2)) = b
  rcases posn a with ⟨p, hp, rfl, h1, h2⟩ | ⟨h1, h2⟩
  · have hq := rqP1 h1
    rcases inn b 0 60 with ⟨k1, k2, k3⟩ | k1
    · obtain ⟨m, rfl, m1, m2⟩ := inN ⟨k2, k3⟩ (by decide)
      have e60 : (60 : Int32).toInt = 60 := rfl
      have hh : SX4_isHeight (nI m) = 1 := k1
      rcases canTow (N := N) (by omega) hR hG (nI p) with ⟨y1, y2, y3⟩ | ⟨y2, y3⟩
      · skip
        obtain ⟨r, f1, s1, o1, o2, o3, o4⟩ := o_tow (N := N) (by omega) hR hG y1 hp (m := m) (by omega) k1 y3
        obtain ⟨g1, c1, c2, hk, pp1, c5, hH1, he⟩ := keep_r (N := N) hH hB hG (by omega)
        have hL : SL_layTowel N f v1 v2 g (nI p) (nI m) wo = some (0, f1, c1, c2, g1, vp_updL wo 0 r.toInt64) := by simp [SL_layTowel, SX5_layTowel, hq, hh, y2, hk, bnd_v, lt_v, o1]
        have hM : SX6_layTowel N v5 ss bb pp (nI p) (nI m) = some (r, s1, (va_cpy ss bb 0 0 60), pp1, c5, 0) := by simp [SX6_layTowel, SX6_keep, bnd_v, lt_v, o2, he]
        rw [hL, bnd_v, hM, bnd_v]
        exact fin3 rfl (fun _ => updL_0 wo _) ⟨o3, o4.mono hTT, hH1.mono hTT⟩
      · have xx : SX6_doLayTowel N 0 ss (nI p) (nI m) = some (0, ss, 3) := by
          rcases y3 with ⟨y3, y4⟩ | y3
          · exact x_tow4 hR hG y3 hp k1 y4
          · exact x_towL hp k1 y3
        have hL : SL_layTowel N f v1 v2 g (nI p) (nI m) wo = some (3, f, v1, v2, g, wo) := by simp [SL_layTowel, SX5_layTowel, hq, hh, y2, bnd_v, lt_v]
        have hM : SX6_layTowel N v5 ss bb pp (nI p) (nI m) = some (0, va_cpy (va_cpy ss bb 0 0 60) ss 0 0 60, (va_cpy ss bb 0 0 60), pp, v5, 3) := by simp [SX6_layTowel, SX6_keep, bnd_v, lt_v, xx, ends_x thr_x]
        rw [hL, bnd_v, hM, bnd_v]
        exact fin3 rfl (fun h => absurd (show (3 : Int32) = 0 from h) (by decide)) ⟨hB.cpy ss, hG.mono hTT, hH.mono hTT⟩
    · have hh : SX4_isHeight b = 0 := k1
      have xx : SX6_doLayTowel N 0 ss (nI p) b = some (0, ss, 2) := by simp [SX6_doLayTowel, SX6_fails, h2, k1, bnd_v, lt_v]
      have hL : SL_layTowel N f v1 v2 g (nI p) b wo = some (2, f, v1, v2, g, wo) := by simp [SL_layTowel, SX5_layTowel, hq, hh, bnd_v, lt_v]
      have hM : SX6_layTowel N v5 ss bb pp (nI p) b = some (0, va_cpy (va_cpy ss bb 0 0 60) ss 0 0 60, (va_cpy ss bb 0 0 60), pp, v5, 2) := by simp [SX6_layTowel, SX6_keep, bnd_v, lt_v, xx, ends_x two_x]
      rw [hL, bnd_v, hM, bnd_v]
      exact fin3 rfl (fun h => absurd (show (2 : Int32) = 0 from h) (by decide)) ⟨hB.cpy ss, hG.mono hTT, hH.mono hTT⟩
  · have hq := rqP0 h1
    have xx : SX6_doLayTowel N 0 ss a b = some (0, ss, 1) := by simp [SX6_doLayTowel, SX6_fails, h2, bnd_v, lt_v]
    have hL : SL_layTowel N f v1 v2 g a b wo = some (1, f, v1, v2, g, wo) := by simp [SL_layTowel, SX5_layTowel, hq, bnd_v, lt_v]
    have hM : SX6_layTowel N v5 ss bb pp a b = some (0, va_cpy (va_cpy ss bb 0 0 60) ss 0 0 60, (va_cpy ss bb 0 0 60), pp, v5, 1) := by simp [SX6_layTowel, SX6_keep, bnd_v, lt_v, xx, ends_x one_x]
    rw [hL, bnd_v, hM, bnd_v]
    exact fin3 rfl (fun h => absurd (show (1 : Int32) = 0 from h) (by decide)) ⟨hB.cpy ss, hG.mono hTT, hH.mono hTT⟩
theorem p18 (hN : 2100 ≤ N) (hR : Rel f ss) (hG : Good T f) (hT : T ≤ 900000) (hH : RH T v1 v2 g v5 pp) (hx1 : vp_in (x5 + 1) L) : ∃ r, SC18 N f v1 v2 g v5 ss bb pp wo L xs x5 = some r ∧ O3 (T + 60) r := by
  have hB : Rel f (va_cpy ss bb 0 0 60) := hR.cpy bb
  have hTT : T ≤ T + 60 := by omega
  unfold SC18
  rw [gd_p hx1]
  generalize xs (Int32.toNatClampNeg (x5 + 1)) = a
  rcases towln hR hG.2.2.2.2.2.1 a with ⟨j, hj, rfl, h1, h2⟩ | ⟨h1, h2⟩
  · have hq := rqT1 h1
    obtain ⟨r, f1, s1, o1, o2, o3, o4⟩ := o_dropT (N := N) (by omega) hR hG hj h2
    obtain ⟨g1, c1, c2, hk, pp1, c5, hH1, he⟩ := keep_r (N := N) hH hB hG (by omega)
    have hL : SL_removeTowel N f v1 v2 g (nI j) wo = some (0, f1, c1, c2, g1, vp_updL wo 0 r.toInt64) := by simp [SL_removeTowel, SX5_removeTowel, hq, hk, bnd_v, lt_v, o1]
    have hM : SX6_removeTowel v5 ss bb pp (nI j) = some (r, s1, (va_cpy ss bb 0 0 60), pp1, c5, 0) := by simp [SX6_removeTowel, SX6_keep, bnd_v, lt_v, o2, he]
    rw [hL, bnd_v, hM, bnd_v]
    exact fin3 rfl (fun _ => updL_0 wo _) ⟨o3, o4.mono hTT, hH1.mono hTT⟩
  · have hq := rqT0 h1
    have hL : SL_removeTowel N f v1 v2 g a wo = some (1, f, v1, v2, g, wo) := by simp [SL_removeTowel, SX5_removeTowel, hq, bnd_v, lt_v]
    have hM : SX6_removeTowel v5 ss bb pp a = some (0, va_cpy (va_cpy ss bb 0 0 60) ss 0 0 60, (va_cpy ss bb 0 0 60), pp, v5, 1) := by simp [SX6_removeTowel, SX6_keep, bnd_v, lt_v, x_dropT h2, ends_x one_x]
    rw [hL, bnd_v, hM, bnd_v]
    exact fin3 rfl (fun h => absurd (show (1 : Int32) = 0 from h) (by decide)) ⟨hB.cpy ss, hG.mono hTT, hH.mono hTT⟩
theorem p19 (hN : 2100 ≤ N) (hR : Rel f ss) (hG : Good T f) (hT : T ≤ 900000) (hH : RH T v1 v2 g v5 pp) (hx1 : vp_in (x5 + 1) L) : ∃ r, SC19 N f v1 v2 g v5 ss bb pp wo L xs x5 = some r ∧ O3 (T + 60) r := by
  have hB : Rel f (va_cpy ss bb 0 0 60) := hR.cpy bb
  have hTT : T ≤ T + 60 := by omega
  unfold SC19
  rw [gd_p hx1]
  generalize xs (Int32.toNatClampNeg (x5 + 1)) = a
  rcases towln hR hG.2.2.2.2.2.1 a with ⟨j, hj, rfl, h1, h2⟩ | ⟨h1, h2⟩
  · have hq := rqT1 h1
    obtain ⟨r, f1, s1, o1, o2, o3, o4⟩ := o_wring hR hG hj h2
    obtain ⟨g1, c1, c2, hk, pp1, c5, hH1, he⟩ := keep_r (N := N) hH hB hG (by omega)
    have hL : SL_wringTowel N f v1 v2 g (nI j) wo = some (0, f1, c1, c2, g1, vp_updL wo 0 r.toInt64) := by simp [SL_wringTowel, SX5_wringTowel, hq, hk, bnd_v, lt_v, o1]
    have hM : SX6_wringTowel v5 ss bb pp (nI j) = some (r, s1, (va_cpy ss bb 0 0 60), pp1, c5, 0) := by simp [SX6_wringTowel, SX6_keep, bnd_v, lt_v, o2, he]
    rw [hL, bnd_v, hM, bnd_v]
    exact fin3 rfl (fun _ => updL_0 wo _) ⟨o3, o4.mono hTT, hH1.mono hTT⟩
  · have hq := rqT0 h1
    have hL : SL_wringTowel N f v1 v2 g a wo = some (1, f, v1, v2, g, wo) := by simp [SL_wringTowel, SX5_wringTowel, hq, bnd_v, lt_v]
    have hM : SX6_wringTowel v5 ss bb pp a = some (0, va_cpy (va_cpy ss bb 0 0 60) ss 0 0 60, (va_cpy ss bb 0 0 60), pp, v5, 1) := by simp [SX6_wringTowel, SX6_keep, bnd_v, lt_v, x_wring h2, ends_x one_x]
    rw [hL, bnd_v, hM, bnd_v]
    exact fin3 rfl (fun h => absurd (show (1 : Int32) = 0 from h) (by decide)) ⟨hB.cpy ss, hG.mono hTT, hH.mono hTT⟩
theorem p25 (hN : 2100 ≤ N) (hR : Rel f ss) (hG : Good T f) (hT : T ≤ 900000) (hH : RH T v1 v2 g v5 pp) (hx1 : vp_in (x5 + 1) L) : ∃ r, SC25 N f v1 v2 g v5 ss bb pp wo L xs x5 = some r ∧ O3 (T + 60) r := by
  have hB : Rel f (va_cpy ss bb 0 0 60) := hR.cpy bb
  have hTT : T ≤ T + 60 := by omega
  unfold SC25
  rw [gd_p hx1]
  generalize xs (Int32.toNatClampNeg (x5 + 1)) = a
  rcases inn a (-3) 3 with ⟨h1, h2, h3⟩ | h1
  · have hf : SX4_isFlow a = 1 := h1
    obtain ⟨r, f1, s1, o1, o2, o3, o4⟩ := o_flow hR hG ⟨h2, h3⟩ h1
    obtain ⟨g1, c1, c2, hk, pp1, c5, hH1, he⟩ := keep_r (N := N) hH hB hG (by omega)
    have hL : SL_setFlow N f v1 v2 g a wo = some (0, f1, c1, c2, g1, vp_updL wo 0 r.toInt64) := by simp [SL_setFlow, SX5_setFlow, hf, hk, bnd_v, lt_v, o1]
    have hM : SX6_setFlow v5 ss bb pp a = some (r, s1, (va_cpy ss bb 0 0 60), pp1, c5, 0) := by simp [SX6_setFlow, SX6_keep, bnd_v, lt_v, o2, he]
    rw [hL, bnd_v, hM, bnd_v]
    exact fin3 rfl (fun _ => updL_0 wo _) ⟨o3, o4.mono hTT, hH1.mono hTT⟩
  · have hf : SX4_isFlow a = 0 := h1
    have hL : SL_setFlow N f v1 v2 g a wo = some (1, f, v1, v2, g, wo) := by simp [SL_setFlow, SX5_setFlow, hf, bnd_v, lt_v]
    have hM : SX6_setFlow v5 ss bb pp a = some (0, va_cpy (va_cpy ss bb 0 0 60) ss 0 0 60, (va_cpy ss bb 0 0 60), pp, v5, 1) := by simp [SX6_setFlow, SX6_keep, bnd_v, lt_v, x_flow h1, ends_x one_x]
    rw [hL, bnd_v, hM, bnd_v]
    exact fin3 rfl (fun h => absurd (show (1 : Int32) = 0 from h) (by decide)) ⟨hB.cpy ss, hG.mono hTT, hH.mono hTT⟩
theorem p26 (hN : 2100 ≤ N) (hR : Rel f ss) (hG : Good T f) (hT : T ≤ 900000) (hH : RH T v1 v2 g v5 pp) (hx1 : vp_in (x5 + 1) L) : ∃ r, SC26 N f v1 v2 g v5 ss bb pp wo L xs x5 = some r ∧ O3 (T + 60) r := by
  have hB : Rel f (va_cpy ss bb 0 0 60) := hR.cpy bb
  have hTT : T ≤ T + 60 := by omega
  unfold SC26
  rw [gd_p hx1]
  generalize xs (Int32.toNatClampNeg (x5 + 1)) = a
  rcases inn a 1 60 with ⟨h1, h2, h3⟩ | h1
  · have hf : SX4_isWait a = 1 := h1
    obtain ⟨n, rfl, n1, n2⟩ := inN ⟨h2, h3⟩ (by decide)
    have e60 : (60 : Int32).toInt = 60 := rfl
    obtain ⟨r, f1, s1, o1, o2, o3, o4⟩ := o_adv (N := N) (by omega) hR hG (by omega) (n := n) (by omega) h1
    obtain ⟨g1, c1, c2, hk, pp1, c5, hH1, he⟩ := keep_r (N := N) hH hB hG (by omega)
    have hL : SL_advance N f v1 v2 g (nI n) wo = some (0, f1, c1, c2, g1, vp_updL wo 0 r.toInt64) := by simp [SL_advance, SX5_advance, hf, hk, bnd_v, lt_v, o1]
    have hM : SX6_advance N v5 ss bb pp (nI n) = some (r, s1, (va_cpy ss bb 0 0 60), pp1, c5, 0) := by simp [SX6_advance, SX6_keep, bnd_v, lt_v, o2, he]
    rw [hL, bnd_v, hM, bnd_v]
    exact fin3 rfl (fun _ => updL_0 wo _) ⟨o3, o4, hH1.mono hTT⟩
  · have hf : SX4_isWait a = 0 := h1
    have hL : SL_advance N f v1 v2 g a wo = some (1, f, v1, v2, g, wo) := by simp [SL_advance, SX5_advance, hf, bnd_v, lt_v]
    have hM : SX6_advance N v5 ss bb pp a = some (0, va_cpy (va_cpy ss bb 0 0 60) ss 0 0 60, (va_cpy ss bb 0 0 60), pp, v5, 1) := by simp [SX6_advance, SX6_keep, bnd_v, lt_v, x_adv h1, ends_x one_x]
    rw [hL, bnd_v, hM, bnd_v]
    exact fin3 rfl (fun h => absurd (show (1 : Int32) = 0 from h) (by decide)) ⟨hB.cpy ss, hG.mono hTT, hH.mono hTT⟩
end PM
