/-! ===== the law's pure part: what is drawn ===== -/
section LJ
variable {T : Int} {f g : Nat → Int32} {v1 v2 : Int32} {N : Nat}
theorem tw_v {f : Nat → Int32} {n : Nat} (h : f 7 = nI n) (hn : n < 2147483648) : tw f = n := by
  unfold tw
  rw [q_nI h hn]
  exact Int.toNat_natCast _
theorem mo_v {f : Nat → Int32} {n : Nat} (h : f 6 = nI n) (hn : n < 2147483648) : mo f = n := by
  unfold mo
  rw [q_nI h hn]
  exact Int.toNat_natCast _
theorem pass_i {K : (Int32 × Int32 × (Nat → Int32)) → Option (Int32 × (Nat → Int32))} {r : Int32 × (Nat → Int32)} {c : Nat} (hc : c ≤ 4) : ∀ (fu : Nat) (F : Nat → Int32) (acc : Int32) (i : Nat), F 7 = nI c → i ≤ 4 → LX4_pass_25 K N fu F acc (nI i) = some r → ∃ (F' : Nat → Int32) (a x : Int32), K (a, x, F') = some r ∧ F' 7 = F 7 ∧ ∀ t, t < 4 → F' (45 + 4 * t + 0) = F (45 + 4 * t + 0) := by
  intro fu
  induction fu with
  | zero => intro F acc i _ _ h; cases h
  | succ fu ih =>
    intro F acc i h7 hi h
    rw [LX4_pass_25, towels_v, h7] at h
    by_cases d : c ≤ i
    · rw [if_pos (nI_le d (by omega))] at h
      exact ⟨F, acc, nI i, h, rfl, fun _ _ => rfl⟩
    · rw [if_neg (nI_ge (by omega) (by omega))] at h
      obtain ⟨o6, -, h⟩ := bnd_i h
      by_cases e : SX4_isFlooded F (nI i) o6 = 0
      · rw [if_pos e, lt_v, nI_1] at h
        exact ih F acc (i + 1) h7 (by omega) h
      · rw [if_neg e, lt_v, lt_v, soak_c (by omega), nI_1] at h
        obtain ⟨F', a, x, k1, k2, k3⟩ := ih (soF F i) (acc + 1) (i + 1) (by rw [soF_e ⟨by omega, by omega, by omega⟩]; exact h7) (by omega) h
        refine ⟨F', a, x, k1, by rw [k2, soF_e ⟨by omega, by omega, by omega⟩], fun t ht => ?_⟩
        rw [k3 t ht, soF_e ⟨by omega, by omega, by omega⟩]
theorem pass_o {x1 : Int32} {c : Nat} (hc : c ≤ 4) : ∀ (fu : Nat) (F : Nat → Int32) (a b : Int32) (r : Int32 × (Nat → Int32)), F 7 = nI c → LX4_pass_4 N x1 fu F a b = some r → ∀ t, t < 4 → r.2 (45 + 4 * t + 0) = F (45 + 4 * t + 0) := by
  intro fu
  induction fu with
  | zero => intro F a b r _ h; cases h
  | succ fu ih =>
    intro F a b r h7 h t ht
    rw [LX4_pass_4] at h
    by_cases d : x1 ≤ b
    · rw [if_pos d] at h
      cases h
      rfl
    · rw [if_neg d, add_0, lt_v, lt_v] at h
      have e7 : SX4_runTaps (upd F 0 (F 0 + 1)) 7 = nI c := by
        rw [taps_e (by omega) (by omega), upd_ne _ _ (by omega)]
        exact h7
      obtain ⟨F', a', x, k1, k2, k3⟩ := pass_i hc N (SX4_runTaps (upd F 0 (F 0 + 1))) a 0 e7 (by omega) h
      have k4 := ih F' a' (b + 1) r (k2.trans e7) k1 t ht
      rw [k4, k3 t ht, taps_e (by omega) (by omega), upd_ne _ _ (by omega)]
theorem adv2 (hN : 2100 ≤ N) (hG : Good T f) (hT : T ≤ 900000) (hV : VR v1 v2) {n : Nat} (h1 : 1 ≤ n) (h2 : n ≤ 60) : ∃ r, SL_advance N f v1 v2 g (nI n) = some r ∧ OUT N (T + 60) f v1 v2 g r ∧ ¬ r.1 < 0 ∧ (∀ j, j ≠ 0 → j ≠ 1 → j ≠ 4 → j < 45 → r.2.1 j = f j) ∧ ∀ t, t < 4 → r.2.1 (45 + 4 * t + 0) = f (45 + 4 * t + 0) := by
  have h4 := hG.t4
  rcases inn (nI n) 1 60 with ⟨k, -, -⟩ | k
  · obtain ⟨r, f', s', k3, -, -, k6, ⟨m, hm, rfl⟩, k8⟩ := o_adv (N := N) (by omega) (GH_R f) hG (by omega) (n := n) (by omega) k
    obtain ⟨g1, a1, c1, hk, -⟩ := keep_t hN hV g f
    have kw : SX4_isWait (nI n) = 1 := k
    exact ⟨(nI m, f', a1, c1, g1), by simp [SL_advance, SX5_advance, kw, hk, k3, bnd_v], OUT.ok (nI_pos (by omega)) k6 hk, nI_pos (by omega), k8, pass_o h4 N f 0 0 (nI m, f') hG.f7 k3⟩
  · have kw : SX4_isWait (nI n) = 0 := k
    rw [wait_ok n (by omega) h1] at kw
    exact absurd kw (by decide)
theorem DT.congr {f' : Nat → Int32} (h : DT f) (e7 : f' 7 = f 7) (ht : tw f ≤ 4) (e : ∀ t, t < 4 → f' (45 + 4 * t + 0) = f (45 + 4 * t + 0)) : DT f' := by
  have et : tw f' = tw f := tw_c e7
  intro s t hs h2
  rw [et] at h2
  rw [e s (by omega), e t (by omega)]
  exact h s t hs h2
theorem lat_no (f : Nat → Int32) (x : Int32) : ∀ d i : Nat, lat f x d i = false → ∀ j, i ≤ j → j < i + d → f (45 + 4 * j + 0) ≠ x := by
  intro d
  induction d with
  | zero => intro i _ j h1 h2; omega
  | succ d ih =>
    intro i h j h1 h2
    have h' : (decide (f (45 + 4 * i + 0) = x) || lat f x d (i + 1)) = false := h
    rw [Bool.or_eq_false_iff] at h'
    by_cases c : j = i
    · subst c
      exact of_decide_eq_false h'.1
    · exact ih (i + 1) h'.2 j (by omega) (by omega)
theorem tow2 (hN : 2100 ≤ N) (hG : Good T f) (hV : VR v1 v2) {p : Nat} (hp : p < 12) (b : Int32) (hD : DT f) : ∃ r, SL_layTowel N f v1 v2 g (nI p) b = some r ∧ OUT N T f v1 v2 g r ∧ r.1 ≠ -1 ∧ (∀ j, j ≠ 7 → j < 45 → r.2.1 j = f j) ∧ DT r.2.1 := by
  have h4 := hG.t4
  have hq := rqP1 (pos_n hp)
  rcases inn b 0 60 with ⟨k, h2, h3⟩ | k
  · obtain ⟨m, rfl, h5, h6⟩ := inN ⟨h2, h3⟩ (by decide)
    have h7 : (m : Int) ≤ 60 := h6
    have kw : SX4_isHeight (nI m) = 1 := k
    rcases canTow (N := N) (by omega) (GH_R f) hG (nI p) with ⟨z1, z2, z3⟩ | ⟨z2, -⟩
    · obtain ⟨r, f', s', k1, -, -, k4⟩ := o_tow (N := N) (by omega) (GH_R f) hG z1 hp (m := m) (by omega) k z3
      rw [putTow_v hG z1] at k1
      cases k1
      obtain ⟨g1, a1, c1, hk, -⟩ := keep_t hN hV g f
      have sl : SX6_isLaid N (GH f) (nI p) = _ := lat_s (GH_R f) hG (nI p) (tw f) 0 N false (by omega) (by omega)
      rw [Bool.false_or] at sl
      have hl : lat f (nI p) (tw f) 0 = false := by
        rw [sl] at z3
        by_cases c : lat f (nI p) (tw f) 0 = true
        · rw [if_pos c] at z3
          exact absurd (Option.some.inj z3) (by decide)
        · exact Bool.eq_false_iff.mpr c
      have hno := lat_no f (nI p) (tw f) 0 hl
      refine ⟨(nI (tw f), upd (to3 f (tw f) (nI p) (nI m)) 7 (nI (tw f + 1)), a1, c1, g1), by simp [SL_layTowel, SX5_layTowel, hq, kw, z2, hk, putTow_v hG z1, bnd_v, lt_v], OUT.ok (nI_pos (by omega)) k4 hk, fun e => nI_pos (n := tw f) (by omega) (by rw [show nI (tw f) = -1 from e]; decide), fun j a b => ?_, ?_⟩
      · show upd (to3 f (tw f) (nI p) (nI m)) 7 (nI (tw f + 1)) j = f j
        rw [upd_ne _ _ a, to3_e _ _ _ _ (by omega)]
      · show DT (upd (to3 f (tw f) (nI p) (nI m)) 7 (nI (tw f + 1)))
        have et : tw (upd (to3 f (tw f) (nI p) (nI m)) 7 (nI (tw f + 1))) = tw f + 1 := by
          exact tw_v (upd_same _ _ _) (by omega)
        intro s t hs ht
        rw [et] at ht
        rw [upd_ne _ _ (by omega), upd_ne _ _ (by omega), to3_e f (tw f) (nI p) (nI m) (i := 45 + 4 * s + 0) (by omega)]
        by_cases c : t = tw f
        · subst c
          rw [to3_0]
          exact hno s (by omega) (by omega)
        · rw [to3_e f (tw f) (nI p) (nI m) (i := 45 + 4 * t + 0) (by omega)]
          exact hD s t hs (by omega)
    · exact ⟨(-3, f, v1, v2, g), by simp [SL_layTowel, SX5_layTowel, hq, kw, z2, bnd_v, lt_v], OUT.no m3_lt, fun e => absurd (show (-3 : Int32) = -1 from e) (by decide), fun j _ _ => rfl, hD⟩
  · have kw : SX4_isHeight b = 0 := k
    exact ⟨(-2, f, v1, v2, g), by simp [SL_layTowel, SX5_layTowel, hq, kw, bnd_v, lt_v], OUT.no m2_lt, fun e => absurd (show (-2 : Int32) = -1 from e) (by decide), fun j _ _ => rfl, hD⟩
/-! the steps of the drawing -/
theorem ush_k (x y : Int32) (k : UInt32) (e : (y.toUInt32 &&& Int32.toUInt32 31) = k) (h1 : 1 ≤ k.toNat) (h2 : k.toNat < 32) (b : Nat) (hb : 0 < b) (hb2 : b < 2147483648) : ∃ m, m < b ∧ irm (ush x y) (nI b) = nI m := by
  obtain ⟨m, hm, h⟩ := ush_p x y k e h1 h2
  exact ⟨m % b, Nat.mod_lt _ hb, by rw [h, nI_irm hm hb hb2]⟩
theorem u1_3 (x : Int32) : ∃ m, m < 3 ∧ irm (ush x 1) 3 = nI m := ush_k x 1 1 (by decide) (by decide) (by decide) 3 (by omega) (by omega)
theorem u2_6 (x : Int32) : ∃ m, m < 6 ∧ irm (ush x 2) 6 = nI m := ush_k x 2 2 (by decide) (by decide) (by decide) 6 (by omega) (by omega)
theorem u5_12 (x : Int32) : ∃ m, m < 12 ∧ irm (ush x 5) 12 = nI m := ush_k x 5 5 (by decide) (by decide) (by decide) 12 (by omega) (by omega)
theorem u9_12 (x : Int32) : ∃ m, m < 12 ∧ irm (ush x 9) 12 = nI m := ush_k x 9 9 (by decide) (by decide) (by decide) 12 (by omega) (by omega)
theorem u13_9 (x : Int32) : ∃ m, m < 9 ∧ irm (ush x 13) 9 = nI m := ush_k x 13 13 (by decide) (by decide) (by decide) 9 (by omega) (by omega)
theorem u1_12 (x : Int32) : ∃ m, m < 12 ∧ irm (ush x 1) 12 = nI m := ush_k x 1 1 (by decide) (by decide) (by decide) 12 (by omega) (by omega)
theorem u4_12 (x : Int32) : ∃ m, m < 12 ∧ irm (ush x 4) 12 = nI m := ush_k x 4 4 (by decide) (by decide) (by decide) 12 (by omega) (by omega)
theorem u8_7 (x : Int32) : ∃ m, m < 7 ∧ irm (ush x 8) 7 = nI m := ush_k x 8 8 (by decide) (by decide) (by decide) 7 (by omega) (by omega)
theorem u12_40 (x : Int32) : ∃ m, m < 40 ∧ irm (ush x 12) 40 = nI m := ush_k x 12 12 (by decide) (by decide) (by decide) 40 (by omega) (by omega)
theorem u1_5 (x : Int32) : ∃ m, m < 5 ∧ irm (ush x 1) 5 = nI m := ush_k x 1 1 (by decide) (by decide) (by decide) 5 (by omega) (by omega)
abbrev R4 : Type := (Nat → Int32) × Int32 × Int32 × (Nat → Int32)
def MI (T : Int) (f : Nat → Int32) (v1 v2 : Int32) (R : List (Nat → Int32)) : Prop := Good T f ∧ VR v1 v2 ∧ mo f = R.length ∧ (∀ j, j < R.length → RW f j (R.getD j (fun _ => 0))) ∧ f 5 = -1 ∧ f 2 = 0 ∧ tw f = 0
theorem gd_l {R : List (Nat → Int32)} {x : Nat → Int32} {j : Nat} (h : j < R.length) : (R ++ [x]).getD j (fun _ => 0) = R.getD j (fun _ => 0) := by
  rw [List.getD_eq_getElem?_getD, List.getD_eq_getElem?_getD, List.getElem?_append, if_pos h]
theorem gd_r {R : List (Nat → Int32)} {x : Nat → Int32} : (R ++ [x]).getD R.length (fun _ => 0) = x := by
  rw [List.getD_eq_getElem?_getD, List.getElem?_append, if_neg (Nat.lt_irrefl _), Nat.sub_self]
  rfl
theorem kx_v {m : Nat} (h : m < 3) : nI (kx (nI m)) = nI m := by
  have e : ∀ m, m < 3 → nI (kx (nI m)) = nI m := by decide
  exact e m h
theorem RW.congr {f' : Nat → Int32} {k : Nat} {rv : Nat → Int32} (h : RW f k rv) (hk : k < 5) (e : ∀ j, 20 ≤ j → j < 45 → f' j = f j) : RW f' k rv := by
  intro i hi
  rw [h i hi, e _ (by omega) (by omega)]
theorem mst (hN : 2100 ≤ N) {R : List (Nat → Int32)} (h : MI T f v1 v2 R) (hR : R.length < 5) (hT : T ≤ 800000) (g : Nat → Int32) (o8 : Int32) : ∃ f1 a c g1, MI (T + 60) f1 a c (R ++ [upd (upd (upd (upd (upd (fun _ => 0) 0 (irm (ush o8 1) 3)) 1 (1 + (irm (ush (ush o8 1) 2) 6))) 2 (irm (ush (ush o8 1) 5) 12)) 3 (1 + (irm (ush (ush o8 1) 9) 12))) 4 (SX5_time f)]) ∧ ∀ {β : Type} (K : R4 → Option β), bnd (SL_moon N f v1 v2 g (irm (ush o8 1) 3) (1 + (irm (ush (ush o8 1) 2) 6)) (irm (ush (ush o8 1) 5) 12) (1 + (irm (ush (ush o8 1) 9) 12))) (fun o15 : Int32 × (Nat → Int32) × Int32 × Int32 × (Nat → Int32) => if o15.1 = nI R.length then (bnd (if (irm (ush o8 1) 4) = 0 then (bnd (SL_advance N o15.2.1 o15.2.2.1 o15.2.2.2.1 o15.2.2.2.2 (1 + (irm (ush (ush o8 1) 13) 9))) (fun o20 : Int32 × (Nat → Int32) × Int32 × Int32 × (Nat → Int32) => if 0 ≤ o20.1 then (some ((o20.2.1, o20.2.2.1, o20.2.2.2.1, o20.2.2.2.2))) else (none))) else (some ((o15.2.1, o15.2.2.1, o15.2.2.2.1, o15.2.2.2.2)))) K) else none) = K (f1, a, c, g1) := by
  obtain ⟨hG, hV, hm, hr, h5, h2, ht⟩ := h
  obtain ⟨x, hx, ex⟩ := u1_3 o8
  obtain ⟨y, hy, ey⟩ := u2_6 (ush o8 1)
  obtain ⟨p, hp, ep⟩ := u5_12 (ush o8 1)
  obtain ⟨z, hz, ez⟩ := u9_12 (ush o8 1)
  obtain ⟨w, hw, ew⟩ := u13_9 (ush o8 1)
  have ey1 : (1 : Int32) + nI y = nI (1 + y) := nI_add 1 y
  have ez1 : (1 : Int32) + nI z = nI (1 + z) := nI_add 1 z
  have ew1 : (1 : Int32) + nI w = nI (1 + w) := nI_add 1 w
  rw [ex, ey, ep, ez, ew, ey1, ez1, ew1, show SX5_time f = f 0 from at_0 f]
  obtain ⟨r, k1, k2, k3⟩ := w_moon hN hG hV (g := g) (nI x) (nI (1 + y)) (nI p) (nI (1 + z))
  obtain ⟨k4, k5⟩ := k3 (1 + y) p (1 + z) rfl (by omega) (by omega) rfl hp rfl (by omega) (by omega) (by omega)
  have hG1 := k2.G hG
  have hV1 := k2.V hN hV
  rw [kx_v hx, hm] at k5
  rw [hm] at k4
  have e6 : r.2.1 6 = nI (R.length + 1) := by rw [k5, upd_same]
  have hm1 : mo r.2.1 = R.length + 1 := by
    exact mo_v e6 (by omega)
  have eo : ∀ j, j ≠ 6 → ¬ (20 + 5 * R.length ≤ j ∧ j < 25 + 5 * R.length) → r.2.1 j = f j := by
    intro j hj hj2
    rw [k5, upd_ne _ _ hj]
    unfold mo4
    rw [upd_ne _ _ (by omega), upd_ne _ _ (by omega), upd_ne _ _ (by omega), upd_ne _ _ (by omega), upd_ne _ _ (by omega)]
  have hrow : RW r.2.1 R.length (upd (upd (upd (upd (upd (fun _ => 0) 0 (nI x)) 1 (nI (1 + y))) 2 (nI p)) 3 (nI (1 + z))) 4 (f 0)) := by
    intro i hi
    have e0 : r.2.1 (20 + 5 * R.length + i) = mo4 f R.length (nI x) (nI (1 + y)) (nI p) (nI (1 + z)) (20 + 5 * R.length + i) := by
      rw [k5]
      exact upd_ne _ _ (by omega)
    rw [e0]
    have hi5 : i = 0 ∨ i = 1 ∨ i = 2 ∨ i = 3 ∨ i = 4 := by omega
    rcases hi5 with rfl | rfl | rfl | rfl | rfl
    · rw [mo4_0]
      rfl
    · rw [mo4_1]
      rfl
    · rw [mo4_2]
      rfl
    · rw [mo4_3]
      rfl
    · rw [mo4_4]
      rfl
  have hrows : ∀ j, j < (R ++ [upd (upd (upd (upd (upd (fun _ => 0) 0 (nI x)) 1 (nI (1 + y))) 2 (nI p)) 3 (nI (1 + z))) 4 (f 0)]).length → RW r.2.1 j ((R ++ [upd (upd (upd (upd (upd (fun _ => 0) 0 (nI x)) 1 (nI (1 + y))) 2 (nI p)) 3 (nI (1 + z))) 4 (f 0)]).getD j (fun _ => 0)) := by
    intro j hj
    rw [List.length_append, List.length_cons, List.length_nil] at hj
    by_cases c : j = R.length
    · subst c
      rw [gd_r]
      exact hrow
    · rw [gd_l (by omega)]
      intro i hi
      rw [hr j (by omega) i hi, eo _ (by omega) (by omega)]
  have hlen : ∀ x : Nat → Int32, (R ++ [x]).length = R.length + 1 := fun x => by rw [List.length_append, List.length_cons, List.length_nil]
  by_cases c : irm (ush o8 1) 4 = 0
  · obtain ⟨r2, a1, a2, a3, a4, a5⟩ := adv2 hN hG1 (by omega) hV1 (g := r.2.2.2.2) (n := 1 + w) (by omega) (by omega)
    refine ⟨r2.2.1, r2.2.2.1, r2.2.2.2.1, r2.2.2.2.2, ⟨a2.G (hG1.mono (by omega)), a2.V hN hV1, ?_, fun j hj => ?_, ?_, ?_, ?_⟩, fun K => ?_⟩
    · rw [hlen, mo_c (a4 6 (by omega) (by omega) (by omega) (by omega)), hm1]
    · have hj' := hj
      rw [hlen] at hj'
      exact (hrows j hj).congr (by omega) (fun j h1 h2 => a4 j (by omega) (by omega) (by omega) (by omega))
    · rw [a4 5 (by omega) (by omega) (by omega) (by omega), eo 5 (by omega) (by omega), h5]
    · rw [a4 2 (by omega) (by omega) (by omega) (by omega), eo 2 (by omega) (by omega), h2]
    · rw [tw_c (a4 7 (by omega) (by omega) (by omega) (by omega)), tw_c (eo 7 (by omega) (by omega)), ht]
    · rw [k1, bnd_v, if_pos k4, if_pos c, a1, bnd_v, if_pos (Int32.not_lt.mp a3), bnd_v]
  · refine ⟨r.2.1, r.2.2.1, r.2.2.2.1, r.2.2.2.2, ⟨hG1.mono (by omega), hV1, ?_, hrows, ?_, ?_, ?_⟩, fun K => ?_⟩
    · rw [hlen, hm1]
    · rw [eo 5 (by omega) (by omega), h5]
    · rw [eo 2 (by omega) (by omega), h2]
    · rw [tw_c (eo 7 (by omega) (by omega)), ht]
    · rw [k1, bnd_v, if_pos k4, if_neg c, bnd_v]
def DI (T : Int) (f : Nat → Int32) (v1 v2 : Int32) (R : List (Nat → Int32)) : Prop := Good T f ∧ VR v1 v2 ∧ mo f = R.length ∧ (∀ j, j < R.length → RW f j (R.getD j (fun _ => 0))) ∧ f 5 = -1 ∧ f 2 = 0 ∧ DT f
theorem MI.ti {R : List (Nat → Int32)} (h : MI T f v1 v2 R) : DI T f v1 v2 R := by
  obtain ⟨h1, h2, h3, h4, h5, h6, h7⟩ := h
  exact ⟨h1, h2, h3, h4, h5, h6, fun s t hs ht => by rw [h7] at ht; omega⟩
theorem tst (hN : 2100 ≤ N) {R : List (Nat → Int32)} (h : DI T f v1 v2 R) (hR : R.length ≤ 5) (g : Nat → Int32) (o25 : Int32) : ∃ r : R5, DI T r.2.1 r.2.2.1 r.2.2.2.1 R ∧ ∀ {β : Type} (K : R5 → Option β), bnd (SL_placeToe N f v1 v2 g (irm (ush o25 1) 12)) (fun o27 : Int32 × (Nat → Int32) × Int32 × Int32 × (Nat → Int32) => if o27.1 = (-1) then (none) else (bnd (SL_layTowel N o27.2.1 o27.2.2.1 o27.2.2.2.1 o27.2.2.2.2 (irm (ush (ush o25 1) 4) 12) (irm (ush (ush o25 1) 8) 40)) (fun o30 : Int32 × (Nat → Int32) × Int32 × Int32 × (Nat → Int32) => if o30.1 = (-1) then (none) else (K o30)))) = K r := by
  obtain ⟨hG, hV, hm, hr, h5, h2, hD⟩ := h
  obtain ⟨p, hp, ep⟩ := u1_12 o25
  obtain ⟨s, hs, es⟩ := u4_12 (ush o25 1)
  obtain ⟨r, k1, k2, k3⟩ := w_toe hN hG hV (g := g) (nI p)
  obtain ⟨k4, k5⟩ := k3 p rfl hp
  have hG1 := k2.G hG
  have hV1 := k2.V hN hV
  have hD1 : DT r.2.1 := hD.congr (k5 7 (by omega)) hG.t4 (fun t _ => k5 _ (by omega))
  obtain ⟨r2, a1, a2, a3, a4, a5⟩ := tow2 hN hG1 hV1 (g := r.2.2.2.2) hs (irm (ush (ush o25 1) 8) 40) hD1
  refine ⟨r2, ⟨a2.G hG1, a2.V hN hV1, ?_, fun j hj => ?_, ?_, ?_, a5⟩, fun K => ?_⟩
  · rw [mo_c (a4 6 (by omega) (by omega)), mo_c (k5 6 (by omega)), hm]
  · exact (hr j hj).congr (by omega) (fun i h1 h2 => by rw [a4 i (by omega) h2, k5 i (by omega)])
  · rw [a4 5 (by omega) (by omega), k5 5 (by omega), h5]
  · rw [a4 2 (by omega) (by omega), k5 2 (by omega), h2]
  · rw [ep, es, k1, bnd_v, if_neg k4, a1, bnd_v, if_neg a3]
theorem fin_d (hN : 2100 ≤ N) {R : List (Nat → Int32)} (h : DI T f v1 v2 R) (hR : R.length ≤ 5) (hT : T ≤ 800000) (g : Nat → Int32) (o4 : Int32) : ∃ r : R5, (Good (T + 60) r.2.1 ∧ VR r.2.2.1 r.2.2.2.1 ∧ mo r.2.1 = R.length ∧ (∀ j, j < R.length → RW r.2.1 j (R.getD j (fun _ => 0))) ∧ DT r.2.1) ∧ ∀ {β : Type} (K : R5 → Option β), bnd (if (irm (ush o4 1) 3) ≤ 0 then (some ((f, v1, v2, g))) else (bnd (SL_insertPlug N f v1 v2 g (irm (ush (ush o4 1) 4) 12)) (fun o54 : Int32 × (Nat → Int32) × Int32 × Int32 × (Nat → Int32) => if o54.1 = 1 then (some ((o54.2.1, o54.2.2.1, o54.2.2.2.1, o54.2.2.2.2))) else (none)))) (fun o53 : (Nat → Int32) × Int32 × Int32 × (Nat → Int32) => lt_ ((irm (ush (ush o4 1) 8) 7) - 3) (fun t57 : Int32 => bnd (SL_setFlow N o53.1 o53.2.1 o53.2.2.1 o53.2.2.2 t57) (fun o58 : Int32 × (Nat → Int32) × Int32 × Int32 × (Nat → Int32) => if o58.1 = 0 then (bnd (SL_advance N o58.2.1 o58.2.2.1 o58.2.2.2.1 o58.2.2.2.2 (1 + (irm (ush (ush o4 1) 12) 40))) (fun o61 : Int32 × (Nat → Int32) × Int32 × Int32 × (Nat → Int32) => if 0 ≤ o61.1 then (K o61) else (none))) else (none)))) = K r := by
  obtain ⟨hG, hV, hm, hr, h5, h2, hD⟩ := h
  obtain ⟨p, hp, ep⟩ := u4_12 (ush o4 1)
  obtain ⟨m, hm7, em⟩ := u8_7 (ush o4 1)
  obtain ⟨w, hw, ew⟩ := u12_40 (ush o4 1)
  have ew1 : (1 : Int32) + nI w = nI (1 + w) := nI_add 1 w
  have step1 : ∃ (f1 : Nat → Int32) (a c : Int32) (g1 : Nat → Int32), Good T f1 ∧ VR a c ∧ (∀ j, j ≠ 5 → f1 j = f j) ∧ ∀ {β : Type} (K : R4 → Option β), bnd (if (irm (ush o4 1) 3) ≤ 0 then (some ((f, v1, v2, g))) else (bnd (SL_insertPlug N f v1 v2 g (irm (ush (ush o4 1) 4) 12)) (fun o54 : Int32 × (Nat → Int32) × Int32 × Int32 × (Nat → Int32) => if o54.1 = 1 then (some ((o54.2.1, o54.2.2.1, o54.2.2.2.1, o54.2.2.2.2))) else (none)))) K = K (f1, a, c, g1) := by
    by_cases c : (irm (ush o4 1) 3) ≤ 0
    · exact ⟨f, v1, v2, g, hG, hV, fun _ _ => rfl, fun K => by rw [if_pos c, bnd_v]⟩
    · obtain ⟨r, k1, k2, k3⟩ := w_plug hN hG hV (g := g) (nI p)
      obtain ⟨k4, k5⟩ := k3 p rfl hp h5
      exact ⟨r.2.1, r.2.2.1, r.2.2.2.1, r.2.2.2.2, k2.G hG, k2.V hN hV, fun j hj => by rw [k5, upd_ne _ _ hj], fun K => by rw [if_neg c, ep, k1, bnd_v, if_pos k4, bnd_v]⟩
  obtain ⟨f1, a, c, g1, hG1, hV1, e1, hK1⟩ := step1
  have e3 : nI m - 3 = iI ((m : Int) - 3) := by
    rw [iI_n, show (3 : Int32) = iI 3 from rfl, iI_sub]
  obtain ⟨r2, k1, k2, k3⟩ := w_flow hN hG1 hV1 (g := g1) (nI m - 3)
  obtain ⟨k4, k5⟩ := k3 (by rw [e3, iI_toInt ⟨by omega, by omega⟩]; omega) (by rw [e3, iI_toInt ⟨by omega, by omega⟩]; omega)
  have hG2 : Good T r2.2.1 := k2.G hG1
  have hV2 : VR r2.2.2.1 r2.2.2.2.1 := k2.V hN hV1
  have e2 : ∀ j, j ≠ 5 → j ≠ 2 → r2.2.1 j = f j := fun j hj hj2 => by rw [k5, upd_ne _ _ hj2, e1 j hj]
  have hz : r2.1 = 0 := by rw [k4, e1 2 (by omega), h2]
  obtain ⟨r3, a1, a2, a3, a4, a5⟩ := adv2 hN hG2 (by omega) hV2 (g := r2.2.2.2.2) (n := 1 + w) (by omega) (by omega)
  have e4 : ∀ j, j ≠ 0 → j ≠ 1 → j ≠ 2 → j ≠ 4 → j ≠ 5 → j < 45 → r3.2.1 j = f j := fun j h0 h1 h2 h4 h5 h45 => by rw [a4 j h0 h1 h4 h45, e2 j h5 h2]
  refine ⟨r3, ⟨a2.G (hG2.mono (by omega)), a2.V hN hV2, ?_, fun j hj => ?_, ?_⟩, fun K => ?_⟩
  · rw [mo_c (e4 6 (by omega) (by omega) (by omega) (by omega) (by omega) (by omega)), hm]
  · exact (hr j hj).congr (by omega) (fun i h1 h2 => e4 i (by omega) (by omega) (by omega) (by omega) (by omega) h2)
  · exact hD.congr (e4 7 (by omega) (by omega) (by omega) (by omega) (by omega) (by omega)) hG.t4 (fun t ht => by rw [a5 t ht, e2 _ (by omega) (by omega)])
  · rw [hK1, em, lt_v, k1, bnd_v, if_pos hz, ew, ew1, a1, bnd_v, if_pos (Int32.not_lt.mp a3)]
theorem MI0 : MI 0 F00 0 0 [] := by
  have e6 : F00 6 = nI 0 := F00_e (by omega) (by omega)
  have e7 : F00 7 = nI 0 := F00_e (by omega) (by omega)
  refine ⟨F00_G, ⟨0, 0, by omega, by omega, rfl, rfl⟩, mo_v (n := 0) e6 (by omega), fun j hj => absurd hj (Nat.not_lt_zero j), rfl, F00_e (by omega) (by omega), tw_v e7 (by omega)⟩
end LJ
