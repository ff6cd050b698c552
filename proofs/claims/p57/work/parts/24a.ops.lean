/-! ===== the law's pure part: the calls that change the state; a state beside it is the ghost's ===== -/
section LA
variable {T : Int} {f g : Nat → Int32} {v1 v2 : Int32} {N : Nat}
def GH (f : Nat → Int32) : Nat → Int32 := fun i => f (tau i)
theorem GH_R (f : Nat → Int32) : Rel f (GH f) := fun _ _ => rfl
def VR (v1 v2 : Int32) : Prop := ∃ p k : Nat, p < 8 ∧ k ≤ 8 ∧ v1 = nI p ∧ v2 = nI k
theorem keep_t (hN : 2100 ≤ N) (hV : VR v1 v2) (g f : Nat → Int32) : ∃ g' a c, SX1_keep N v1 v2 g f = some (g', a, c) ∧ VR a c := by
  obtain ⟨p, k, hp, hk, rfl, rfl⟩ := hV
  exact ⟨_, _, _, keep_c hp hk (by omega), (p + 1) % 8, if k = 8 then 8 else k + 1, by omega, by split <;> omega, rfl, rfl⟩
abbrev R5 : Type := Int32 × (Nat → Int32) × Int32 × Int32 × (Nat → Int32)
/-- a call that may change the state: below 0 it failed and left all; else the state before is kept -/
def OUT (N : Nat) (T : Int) (f : Nat → Int32) (v1 v2 : Int32) (g : Nat → Int32) (r : R5) : Prop :=
  (r.1 < 0 ∧ (∀ i, i < 61 → r.2.1 i = f i) ∧ r.2.2.1 = v1 ∧ r.2.2.2.1 = v2 ∧ r.2.2.2.2 = g) ∨ (¬ r.1 < 0 ∧ Good T r.2.1 ∧ ∃ B : Nat → Int32, (∀ i, i < 61 → B i = f i) ∧ SX1_keep N v1 v2 g B = some (r.2.2.2.2, r.2.2.1, r.2.2.2.1))
theorem OUT.ok {r a c : Int32} {f' g' : Nat → Int32} (h0 : ¬ r < 0) (hG : Good T f') (hk : SX1_keep N v1 v2 g f = some (g', a, c)) : OUT N T f v1 v2 g (r, f', a, c, g') := Or.inr ⟨h0, hG, f, fun _ _ => rfl, hk⟩
theorem OUT.no {r : Int32} (h : r < 0) : OUT N T f v1 v2 g (r, f, v1, v2, g) := Or.inl ⟨h, fun _ _ => rfl, rfl, rfl, rfl⟩
theorem OUT.G {r : R5} (h : OUT N T f v1 v2 g r) (hG : Good T f) : Good T r.2.1 := by
  rcases h with ⟨_, e, _⟩ | ⟨_, h, _⟩
  · exact hG.congr e
  · exact h
theorem OUT.V {r : R5} (h : OUT N T f v1 v2 g r) (hN : 2100 ≤ N) (hV : VR v1 v2) : VR r.2.2.1 r.2.2.2.1 := by
  rcases h with ⟨_, _, e1, e2, _⟩ | ⟨_, _, B, _, hk⟩
  · rw [e1, e2]; exact hV
  · obtain ⟨g', a, c, h1, h2⟩ := keep_t hN hV g B
    rw [h1] at hk
    cases hk
    exact h2
theorem OUT.mono {T' : Int} {r : R5} (h : OUT N T f v1 v2 g r) (hT : T ≤ T') : OUT N T' f v1 v2 g r := by
  rcases h with h | ⟨h1, h2, h3⟩
  · exact Or.inl h
  · exact Or.inr ⟨h1, h2.mono hT, h3⟩
theorem m1_lt : (-1 : Int32) < 0 := by decide
theorem m2_lt : (-2 : Int32) < 0 := by decide
theorem m9_lt : (-9 : Int32) + 3 < 0 := by decide
theorem m3_lt : (-3 : Int32) < 0 := by decide
theorem shape_ok : ∀ m, m < 7 → ∀ p, p < 12 → ∀ t, t < 13 → 1 ≤ m → 1 ≤ t → SX4_isMoonShape (nI m) (nI p) (nI t) = 1 := by decide +kernel
theorem wait_ok : ∀ n, n < 61 → 1 ≤ n → SX4_isWait (nI n) = 1 := by decide +kernel
theorem height_ok : ∀ n, n < 61 → SX4_isHeight (nI n) = 1 := by decide +kernel
theorem add_t (hN : 2100 ≤ N) (hG : Good T f) (hV : VR v1 v2) {kd : Nat} (hk : kd ≤ 2) (a b c : Int32) :
    (∃ g' a' c', mo f < 5 ∧ SX1_keep N v1 v2 g f = some (g', a', c') ∧ Good T (upd (mo4 f (mo f) (nI kd) a b c) 6 (nI (mo f + 1))) ∧ SX5_addMoon N f v1 v2 g (nI kd) a b c = some (0, nI (mo f), upd (mo4 f (mo f) (nI kd) a b c) 6 (nI (mo f + 1)), g', a', c')) ∨
    (∃ e : Nat, (e = 1 ∨ e = 2) ∧ SX5_addMoon N f v1 v2 g (nI kd) a b c = some (e, 0, f, g, v1, v2) ∧ (mo f = 5 ∨ SX4_isMoonShape a b c = 0)) := by
  rcases shap a b c with ⟨m, p, t, rfl, hm, rfl, hp, rfl, ht, z1, z2, z3⟩ | ⟨z1, z2⟩
  · rcases room_v hG with ⟨y1, y2⟩ | ⟨y1, y2⟩
    · obtain ⟨r, f1, s1, o1, o2, o3, o4⟩ := o_moon (GH_R f) hG y1 hm hp ht (kd := kd) hk z2 z3
      obtain ⟨g', a', c', hk', -⟩ := keep_t hN hV g f
      rw [putMoon_v hG y1] at o1
      cases o1
      refine Or.inl ⟨g', a', c', y1, hk', o4, ?_⟩
      unfold SX5_addMoon
      rw [z1, if_neg (by decide), y2, if_neg (by decide), hk', bnd_v, lt_v, putMoon_v hG y1]
    · refine Or.inr ⟨2, Or.inr rfl, ?_, Or.inl y1⟩
      unfold SX5_addMoon
      rw [z1, if_neg (by decide), y2, if_pos rfl]
  · refine Or.inr ⟨1, Or.inl rfl, ?_, Or.inr z1⟩
    unfold SX5_addMoon
    rw [z1, if_pos rfl]
def kx (x : Int32) : Nat := if x = 0 then 0 else if x = 1 then 1 else 2
theorem w_moon (hN : 2100 ≤ N) (hG : Good T f) (hV : VR v1 v2) (x a b c : Int32) : ∃ r, SL_moon N f v1 v2 g x a b c = some r ∧ OUT N T f v1 v2 g r ∧ ∀ m p t : Nat, a = nI m → 1 ≤ m → m ≤ 6 → b = nI p → p < 12 → c = nI t → 1 ≤ t → t ≤ 12 → mo f < 5 → r.1 = nI (mo f) ∧ r.2.1 = upd (mo4 f (mo f) (nI (kx x)) a b c) 6 (nI (mo f + 1)) := by
  have hm5 := hG.m5
  have bad : ∀ {r : R5}, (mo f = 5 ∨ SX4_isMoonShape a b c = 0) → ∀ m p t : Nat, a = nI m → 1 ≤ m → m ≤ 6 → b = nI p → p < 12 → c = nI t → 1 ≤ t → t ≤ 12 → mo f < 5 → r.1 = nI (mo f) ∧ r.2.1 = upd (mo4 f (mo f) (nI (kx x)) a b c) 6 (nI (mo f + 1)) := by
    intro r h m p t e1 h1 h2 e2 h3 e3 h4 h5 h6
    rcases h with h | h
    · omega
    · rw [e1, e2, e3, shape_ok m (by omega) p h3 t (by omega) h1 h4] at h
      exact absurd h (by decide)
  unfold SL_moon
  by_cases cx : x = 0
  · rw [if_pos cx]
    rcases add_t (g := g) hN hG hV (kd := 0) (by omega) a b c with ⟨g1, a1, c1, y1, hk, hg, h⟩ | ⟨e, he, h, hb⟩
    · replace h : SX5_addMoon N f v1 v2 g 0 a b c = _ := h
      refine ⟨(nI (mo f), upd (mo4 f (mo f) (nI 0) a b c) 6 (nI (mo f + 1)), a1, c1, g1), ?_, OUT.ok (nI_pos (by omega)) hg hk, fun m p t _ _ _ _ _ _ _ _ _ => ⟨rfl, ?_⟩⟩
      · simp [SL_hard, SX5_addHardMoon, h, bnd_v]
      · rw [show kx x = 0 from by simp [kx, cx]]
    · replace h : SX5_addMoon N f v1 v2 g 0 a b c = _ := h
      rcases he with rfl | rfl
      · exact ⟨(-1, f, v1, v2, g), by simp [SL_hard, SX5_addHardMoon, h, bnd_v], OUT.no m1_lt, bad hb⟩
      · exact ⟨(-2, f, v1, v2, g), by simp [SL_hard, SX5_addHardMoon, h, bnd_v], OUT.no m2_lt, bad hb⟩
  · rw [if_neg cx]
    by_cases cy : x = 1
    · rw [if_pos cy]
      rcases add_t (g := g) hN hG hV (kd := 1) (by omega) a b c with ⟨g1, a1, c1, y1, hk, hg, h⟩ | ⟨e, he, h, hb⟩
      · replace h : SX5_addMoon N f v1 v2 g 1 a b c = _ := h
        refine ⟨(nI (mo f), upd (mo4 f (mo f) (nI 1) a b c) 6 (nI (mo f + 1)), a1, c1, g1), ?_, OUT.ok (nI_pos (by omega)) hg hk, fun m p t _ _ _ _ _ _ _ _ _ => ⟨rfl, ?_⟩⟩
        · simp [SL_soft, SX5_addSoftMoon, h, bnd_v]
        · rw [show kx x = 1 from by simp [kx, cx, cy]]
      · replace h : SX5_addMoon N f v1 v2 g 1 a b c = _ := h
        rcases he with rfl | rfl
        · exact ⟨(-1, f, v1, v2, g), by simp [SL_soft, SX5_addSoftMoon, h, bnd_v], OUT.no m1_lt, bad hb⟩
        · exact ⟨(-2, f, v1, v2, g), by simp [SL_soft, SX5_addSoftMoon, h, bnd_v], OUT.no m2_lt, bad hb⟩
    · rw [if_neg cy]
      rcases add_t (g := g) hN hG hV (kd := 2) (by omega) a b c with ⟨g1, a1, c1, y1, hk, hg, h⟩ | ⟨e, he, h, hb⟩
      · replace h : SX5_addMoon N f v1 v2 g 2 a b c = _ := h
        refine ⟨(nI (mo f), upd (mo4 f (mo f) (nI 2) a b c) 6 (nI (mo f + 1)), a1, c1, g1), ?_, OUT.ok (nI_pos (by omega)) hg hk, fun m p t _ _ _ _ _ _ _ _ _ => ⟨rfl, ?_⟩⟩
        · simp [SL_bubble, SX5_addBubbleMoon, h, bnd_v]
        · rw [show kx x = 2 from by simp [kx, cx, cy]]
      · replace h : SX5_addMoon N f v1 v2 g 2 a b c = _ := h
        rcases he with rfl | rfl
        · exact ⟨(-1, f, v1, v2, g), by simp [SL_bubble, SX5_addBubbleMoon, h, bnd_v], OUT.no m1_lt, bad hb⟩
        · exact ⟨(-2, f, v1, v2, g), by simp [SL_bubble, SX5_addBubbleMoon, h, bnd_v], OUT.no m2_lt, bad hb⟩
theorem w_adv (hN : 2100 ≤ N) (hG : Good T f) (hT : T ≤ 900000) (hV : VR v1 v2) (a : Int32) : ∃ r, SL_advance N f v1 v2 g a = some r ∧ OUT N (T + 60) f v1 v2 g r ∧ ∀ n : Nat, a = nI n → 1 ≤ n → n ≤ 60 → ¬ r.1 < 0 ∧ ∀ j, j ≠ 0 → j ≠ 1 → j ≠ 4 → j < 45 → r.2.1 j = f j := by
  rcases inn a 1 60 with ⟨k, h1, h2⟩ | k
  · obtain ⟨n, rfl, h3, h4⟩ := inN ⟨h1, h2⟩ (by decide)
    have h5 : (n : Int) ≤ 60 := h4
    obtain ⟨r, f', s', k3, -, -, k6, ⟨m, hm, rfl⟩, k8⟩ := o_adv (N := N) (by omega) (GH_R f) hG (by omega) (n := n) (by omega) k
    obtain ⟨g1, a1, c1, hk, -⟩ := keep_t hN hV g f
    have kw : SX4_isWait (nI n) = 1 := k
    exact ⟨(nI m, f', a1, c1, g1), by simp [SL_advance, SX5_advance, kw, hk, k3, bnd_v], OUT.ok (nI_pos (by omega)) k6 hk, fun _ _ _ _ => ⟨nI_pos (by omega), k8⟩⟩
  · have kw : SX4_isWait a = 0 := k
    refine ⟨(-1, f, v1, v2, g), by simp [SL_advance, SX5_advance, kw, bnd_v], OUT.no m1_lt, fun n e h1 h2 => ?_⟩
    rw [e, wait_ok n (by omega) h1] at kw
    exact absurd kw (by decide)
theorem pos_n {p : Nat} (hp : p < 12) : SX4_isPosition (nI p) = 1 := by
  rcases posn (nI p) with ⟨p', -, -, h, -⟩ | ⟨-, h⟩
  · exact h
  · rw [posn_1 hp] at h
    cases h
theorem w_toe (hN : 2100 ≤ N) (hG : Good T f) (hV : VR v1 v2) (a : Int32) : ∃ r, SL_placeToe N f v1 v2 g a = some r ∧ OUT N T f v1 v2 g r ∧ ∀ p : Nat, a = nI p → p < 12 → r.1 ≠ -1 ∧ ∀ j, ¬ (8 ≤ j ∧ j < 20) → r.2.1 j = f j := by
  rcases posn a with ⟨p, hp, rfl, h1, -⟩ | ⟨h1, -⟩
  · have hq := rqP1 h1
    rcases canToe (N := N) (by omega) hG hp h1 with ⟨z0, z1, z2⟩ | ⟨z1, z2⟩
    · obtain ⟨r, f', s', k1, -, -, k4⟩ := o_toe (N := N) (by omega) (GH_R f) hG hp z0 z1
      have k1' := k1
      unfold SX4_putToe at k1'
      rw [show (8 : Int32) + nI p = nI (8 + p) from e_p p, put_n f 1 (by omega) (by omega), lt_v, toes_c (by omega), bnd_v] at k1'
      cases k1'
      have hb := toeS_b k4.2.2.2.2.2.2.1 12 (by omega)
      have hn : ¬ iI (toeS (upd f (8 + p) 1) 12) < 0 := by
        rw [z_iI, iI_lt ⟨by omega, by omega⟩ ⟨by omega, by omega⟩]
        omega
      obtain ⟨g1, a1, c1, hk, -⟩ := keep_t hN hV g f
      refine ⟨(iI (toeS (upd f (8 + p) 1) 12), upd f (8 + p) 1, a1, c1, g1), by simp [SL_placeToe, SX5_placeToe, hq, z2, hk, k1, bnd_v, lt_v], OUT.ok hn k4 hk, fun _ _ _ => ⟨fun e => hn (by rw [show iI (toeS (upd f (8 + p) 1) 12) = -1 from e]; decide), fun j hj => upd_ne _ _ (by omega)⟩⟩
    · exact ⟨(-2, f, v1, v2, g), by simp [SL_placeToe, SX5_placeToe, hq, z2, bnd_v, lt_v], OUT.no m2_lt, fun _ _ _ => ⟨fun e => absurd (show (-2 : Int32) = -1 from e) (by decide), fun j hj => rfl⟩⟩
  · have hq := rqP0 h1
    refine ⟨(-1, f, v1, v2, g), by simp [SL_placeToe, SX5_placeToe, hq, bnd_v, lt_v], OUT.no m1_lt, fun p e hp => ?_⟩
    rw [e, pos_n hp] at h1
    exact absurd h1 (by decide)
theorem w_untoe (hN : 2100 ≤ N) (hG : Good T f) (hV : VR v1 v2) (a : Int32) : ∃ r, SL_removeToe N f v1 v2 g a = some r ∧ OUT N T f v1 v2 g r := by
  rcases posn a with ⟨p, hp, rfl, h1, -⟩ | ⟨h1, -⟩
  · have hq := rqP1 h1
    rcases hG.2.2.2.2.2.2.1 p hp with z0 | z0
    · have ht : SX4_isToeAt f (nI p) = 0 := by rw [isToe_v f hp h1, if_neg (fun e => by have := n1_q.mp e; omega)]
      exact ⟨(-2, f, v1, v2, g), by simp [SL_removeToe, SX5_removeToe, hq, ht, bnd_v, lt_v], OUT.no m2_lt⟩
    · have ht : SX4_isToeAt f (nI p) = 1 := by rw [isToe_v f hp h1, if_pos (n1_q.mpr z0)]
      obtain ⟨r, f', s', k1, -, -, k4⟩ := o_untoe (N := N) (by omega) (GH_R f) hG hp z0
      have k1' := k1
      unfold SX4_dropToe at k1'
      rw [show (8 : Int32) + nI p = nI (8 + p) from e_p p, put_n f 0 (by omega) (by omega), lt_v, toes_c (by omega), bnd_v] at k1'
      cases k1'
      have hb := toeS_b k4.2.2.2.2.2.2.1 12 (by omega)
      have hn : ¬ iI (toeS (upd f (8 + p) 0) 12) < 0 := by
        generalize toeS (upd f (8 + p) 0) 12 = z at hb
        rw [z_iI, iI_lt ⟨by omega, by omega⟩ ⟨by omega, by omega⟩]
        omega
      obtain ⟨g1, a1, c1, hk, -⟩ := keep_t hN hV g f
      exact ⟨(iI (toeS (upd f (8 + p) 0) 12), upd f (8 + p) 0, a1, c1, g1), by simp [SL_removeToe, SX5_removeToe, hq, ht, hk, k1, bnd_v, lt_v], OUT.ok hn k4 hk⟩
  · exact ⟨(-1, f, v1, v2, g), by simp [SL_removeToe, SX5_removeToe, rqP0 h1, bnd_v, lt_v], OUT.no m1_lt⟩
theorem putPlug_v (f : Nat → Int32) (x : Int32) : SX4_putPlug f x = (f 5, upd f 5 x) := by
  unfold SX4_putPlug
  rw [put_5, lt_v, plug_v]
theorem w_plug (hN : 2100 ≤ N) (hG : Good T f) (hV : VR v1 v2) (a : Int32) : ∃ r, SL_insertPlug N f v1 v2 g a = some r ∧ OUT N T f v1 v2 g r ∧ ∀ p : Nat, a = nI p → p < 12 → f 5 = -1 → r.1 = 1 ∧ r.2.1 = upd f 5 a := by
  rcases posn a with ⟨p, hp, rfl, h1, -⟩ | ⟨h1, -⟩
  · have hq := rqP1 h1
    obtain ⟨g1, a1, c1, hk, -⟩ := keep_t hN hV g f
    have hg : Good T (upd f 5 (nI p)) := hG.plug (by rw [nI_toInt (by omega)]; omega)
    by_cases c : f 5 = -1
    · exact ⟨(1, upd f 5 (nI p), a1, c1, g1), by simp [SL_insertPlug, SX5_insertPlug, hq, hk, putPlug_v, c, bnd_v, lt_v], OUT.ok (by decide) hg hk, fun _ _ _ _ => ⟨rfl, rfl⟩⟩
    · exact ⟨(0, upd f 5 (nI p), a1, c1, g1), by simp [SL_insertPlug, SX5_insertPlug, hq, hk, putPlug_v, c, bnd_v, lt_v], OUT.ok (by decide) hg hk, fun _ _ _ h => absurd h c⟩
  · refine ⟨(-1, f, v1, v2, g), by simp [SL_insertPlug, SX5_insertPlug, rqP0 h1, bnd_v, lt_v], OUT.no m1_lt, fun p e hp => ?_⟩
    rw [e, pos_n hp] at h1
    exact absurd h1 (by decide)
theorem w_pull (hN : 2100 ≤ N) (hG : Good T f) (hV : VR v1 v2) : ∃ r, SL_pullPlug N f v1 v2 g = some r ∧ OUT N T f v1 v2 g r := by
  have h5 : -1 ≤ q f 5 ∧ q f 5 ≤ 11 := (hG.2.2.2.1)
  have hp := plugd_c (f := f) h5.1
  by_cases c : q f 5 < 0
  · rw [if_pos c] at hp
    exact ⟨(-1, f, v1, v2, g), by simp [SL_pullPlug, SX5_pullPlug, hp, bnd_v, lt_v], OUT.no m1_lt⟩
  · rw [if_neg c] at hp
    obtain ⟨g1, a1, c1, hk, -⟩ := keep_t hN hV g f
    have hn : ¬ f 5 < 0 := fun e => c (lt0_q.mp e)
    exact ⟨(f 5, upd f 5 (-1), a1, c1, g1), by simp [SL_pullPlug, SX5_pullPlug, hp, hk, putPlug_v, bnd_v, lt_v], OUT.ok hn (hG.plug ⟨by decide, by decide⟩) hk⟩
theorem w_flow (hN : 2100 ≤ N) (hG : Good T f) (hV : VR v1 v2) (a : Int32) : ∃ r, SL_setFlow N f v1 v2 g a = some r ∧ OUT N T f v1 v2 g (r.1 + 3, r.2) ∧ (-3 ≤ a.toInt → a.toInt ≤ 3 → r.1 = f 2 ∧ r.2.1 = upd f 2 a) := by
  have h2 : -3 ≤ q f 2 ∧ q f 2 ≤ 3 := hG.2.2.1
  rcases inn a (-3) 3 with ⟨k, h3, h4⟩ | k
  · obtain ⟨r, f', s', k1, -, -, k4⟩ := o_flow (GH_R f) hG (a := a) ⟨h3, h4⟩ k
    have k1' := k1
    unfold SX4_turnTaps at k1'
    rw [put_2, lt_v, at_2] at k1'
    cases k1'
    obtain ⟨g1, a1, c1, hk, -⟩ := keep_t hN hV g f
    have kw : SX4_isFlow a = 1 := k
    have hn : ¬ f 2 + 3 < 0 := by
      rw [q_i f 2, show (3 : Int32) = iI 3 from iI_n 3, iI_add, z_iI, iI_lt ⟨by omega, by omega⟩ ⟨by omega, by omega⟩]
      omega
    exact ⟨(f 2, upd f 2 a, a1, c1, g1), by simp [SL_setFlow, SX5_setFlow, kw, hk, k1, bnd_v, lt_v], OUT.ok hn k4 hk, fun _ _ => ⟨rfl, rfl⟩⟩
  · have kw : SX4_isFlow a = 0 := k
    refine ⟨(-9, f, v1, v2, g), by simp [SL_setFlow, SX5_setFlow, kw, bnd_v, lt_v], OUT.no m9_lt, fun h3 h4 => ?_⟩
    rcases in_0 k with h | h
    · rw [Int32.lt_iff_toInt_lt] at h
      have e : (-3 : Int32).toInt = -3 := by decide
      omega
    · rw [Int32.lt_iff_toInt_lt] at h
      have e : (3 : Int32).toInt = 3 := by decide
      omega
theorem w_tow (hN : 2100 ≤ N) (hG : Good T f) (hV : VR v1 v2) (a b : Int32) : ∃ r, SL_layTowel N f v1 v2 g a b = some r ∧ OUT N T f v1 v2 g r ∧ ∀ p : Nat, a = nI p → p < 12 → r.1 ≠ -1 ∧ ∀ j, j ≠ 7 → j < 45 → r.2.1 j = f j := by
  have h4 := hG.t4
  rcases posn a with ⟨p, hp, rfl, h1, -⟩ | ⟨h1, -⟩
  · have hq := rqP1 h1
    rcases inn b 0 60 with ⟨k, h2, h3⟩ | k
    · obtain ⟨m, rfl, h5, h6⟩ := inN ⟨h2, h3⟩ (by decide)
      have h7 : (m : Int) ≤ 60 := h6
      have kw : SX4_isHeight (nI m) = 1 := k
      rcases canTow (N := N) (by omega) (GH_R f) hG (nI p) with ⟨z1, z2, z3⟩ | ⟨z2, -⟩
      · obtain ⟨r, f', s', k1, -, -, k4⟩ := o_tow (N := N) (by omega) (GH_R f) hG z1 hp (m := m) (by omega) k z3
        rw [putTow_v hG z1] at k1
        cases k1
        obtain ⟨g1, a1, c1, hk, -⟩ := keep_t hN hV g f
        refine ⟨(nI (tw f), upd (to3 f (tw f) (nI p) (nI m)) 7 (nI (tw f + 1)), a1, c1, g1), by simp [SL_layTowel, SX5_layTowel, hq, kw, z2, hk, putTow_v hG z1, bnd_v, lt_v], OUT.ok (nI_pos (by omega)) k4 hk, fun _ _ _ => ⟨fun e => nI_pos (n := tw f) (by omega) (by rw [show nI (tw f) = -1 from e]; decide), fun j a b => ?_⟩⟩
        show upd (to3 f (tw f) (nI p) (nI m)) 7 (nI (tw f + 1)) j = f j
        rw [upd_ne _ _ a, to3_e _ _ _ _ (by omega)]
      · exact ⟨(-3, f, v1, v2, g), by simp [SL_layTowel, SX5_layTowel, hq, kw, z2, bnd_v, lt_v], OUT.no m3_lt, fun _ _ _ => ⟨fun e => absurd (show (-3 : Int32) = -1 from e) (by decide), fun j _ _ => rfl⟩⟩
    · have kw : SX4_isHeight b = 0 := k
      exact ⟨(-2, f, v1, v2, g), by simp [SL_layTowel, SX5_layTowel, hq, kw, bnd_v, lt_v], OUT.no m2_lt, fun _ _ _ => ⟨fun e => absurd (show (-2 : Int32) = -1 from e) (by decide), fun j _ _ => rfl⟩⟩
  · refine ⟨(-1, f, v1, v2, g), by simp [SL_layTowel, SX5_layTowel, rqP0 h1, bnd_v, lt_v], OUT.no m1_lt, fun p e hp => ?_⟩
    rw [e, pos_n hp] at h1
    exact absurd h1 (by decide)
theorem w_drop (hN : 2100 ≤ N) (hG : Good T f) (hV : VR v1 v2) (a : Int32) : ∃ r, SL_removeMoon N f v1 v2 g a = some r ∧ OUT N T f v1 v2 g r := by
  have h6 : 0 ≤ q f 6 ∧ q f 6 ≤ 5 := hG.2.2.2.2.1
  have h5 := hG.m5
  rcases moonn (GH_R f) h6 a with ⟨j, hj, rfl, h1, h2⟩ | ⟨h1, -⟩
  · obtain ⟨r, f', s', k1, -, -, k4⟩ := o_drop (N := N) (by omega) (GH_R f) hG hj h2
    have hr : r = nI (mo f - 1) := by
      have k1' := k1
      unfold SX4_dropMoon at k1'
      obtain ⟨o, -, k2⟩ := bnd_i k1'
      rw [lt_v, moons_v, hG.f6, show nI (mo f) - 1 = nI (mo f - 1) from nI_sub (b := 1) (by omega)] at k2
      cases k2
      rfl
    obtain ⟨g1, a1, c1, hk, -⟩ := keep_t hN hV g f
    exact ⟨(r, f', a1, c1, g1), by simp [SL_removeMoon, SX5_removeMoon, rqM1 h1, hk, k1, bnd_v, lt_v], OUT.ok (by rw [hr]; exact nI_pos (by omega)) k4 hk⟩
  · exact ⟨(-1, f, v1, v2, g), by simp [SL_removeMoon, SX5_removeMoon, rqM0 h1, bnd_v, lt_v], OUT.no m1_lt⟩
theorem w_wring (hN : 2100 ≤ N) (hG : Good T f) (hV : VR v1 v2) (a : Int32) : ∃ r, SL_wringTowel N f v1 v2 g a = some r ∧ OUT N T f v1 v2 g r := by
  have h7 : 0 ≤ q f 7 ∧ q f 7 ≤ 4 := hG.2.2.2.2.2.1
  have h1' : 0 ≤ q f 1 ∧ q f 1 ≤ 40 := hG.2.1
  have h4 := hG.t4
  rcases towln (GH_R f) h7 a with ⟨t, ht, rfl, h1, h2⟩ | ⟨h1, -⟩
  · have hw := hG.2.2.2.2.2.2.2.2.2.1 t ht
    obtain ⟨w1, w2, w3⟩ := hw
    have ec := wring_c h1' (t := t) (by omega) (hG.2.2.2.2.2.2.2.2.2.1 t ht)
    have hn : ¬ f (45 + 4 * t + 2) - iI (wA f t) < 0 := by
      unfold wA
      rw [q_i f (45 + 4 * t + 2), iI_sub, z_iI, iI_lt ⟨by omega, by omega⟩ ⟨by omega, by omega⟩]
      omega
    obtain ⟨g1, a1, c1, hk, -⟩ := keep_t hN hV g f
    exact ⟨(f (45 + 4 * t + 2) - iI (wA f t), wF f t, a1, c1, g1), by simp [SL_wringTowel, SX5_wringTowel, rqT1 h1, hk, ec, bnd_v, lt_v], OUT.ok hn (wF_g hG ht) hk⟩
  · exact ⟨(-1, f, v1, v2, g), by simp [SL_wringTowel, SX5_wringTowel, rqT0 h1, bnd_v, lt_v], OUT.no m1_lt⟩
theorem w_dropT (hN : 2100 ≤ N) (hG : Good T f) (hV : VR v1 v2) (a : Int32) : ∃ r, SL_removeTowel N f v1 v2 g a = some r ∧ OUT N T f v1 v2 g r := by
  have h7 : 0 ≤ q f 7 ∧ q f 7 ≤ 4 := hG.2.2.2.2.2.1
  have h4 := hG.t4
  rcases towln (GH_R f) h7 a with ⟨t, ht, rfl, h1, h2⟩ | ⟨h1, -⟩
  · obtain ⟨r, f', s', k1, -, -, k4⟩ := o_dropT (N := N) (by omega) (GH_R f) hG ht h2
    have hr : r = nI (tw f - 1) := by
      have k1' := k1
      unfold SX4_dropTowel at k1'
      rw [lt_v, wring_c hG.2.1 (t := t) (by omega) (hG.2.2.2.2.2.2.2.2.2.1 t ht)] at k1'
      obtain ⟨o, -, k2⟩ := bnd_i k1'
      dsimp only at k2
      rw [lt_v, towels_v, wF_e ⟨by omega, by omega, by omega⟩, hG.f7, show nI (tw f) - 1 = nI (tw f - 1) from nI_sub (b := 1) (by omega)] at k2
      cases k2
      rfl
    obtain ⟨g1, a1, c1, hk, -⟩ := keep_t hN hV g f
    exact ⟨(r, f', a1, c1, g1), by simp [SL_removeTowel, SX5_removeTowel, rqT1 h1, hk, k1, bnd_v, lt_v], OUT.ok (by rw [hr]; exact nI_pos (by omega)) k4 hk⟩
  · exact ⟨(-1, f, v1, v2, g), by simp [SL_removeTowel, SX5_removeTowel, rqT0 h1, bnd_v, lt_v], OUT.no m1_lt⟩
end LA
