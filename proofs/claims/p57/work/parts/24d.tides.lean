/-! ===== the law's pure part: tides now and to come ===== -/
section LD
variable {f : Nat → Int32} {N mn : Nat} {mv : Nat → Nat → Int32}
theorem ex_0 (f : Nat → Int32) (p : Nat) (sg : Int) (d : Nat) : ex f p sg (d + 1) 0 0 = ex f p sg d 1 0 := by rw [ex, ite_self]
theorem hs_0 (f : Nat → Int32) (d : Nat) : hs f (d + 1) 0 0 = hs f d 1 0 := by rw [hs, ite_self]
theorem rqm {m : Nat} (h : m ≤ 144) : SX5_requireTideMinutes (nI m) = 0 := by
  unfold SX5_requireTideMinutes
  rw [if_neg (nI_pos (by omega)), if_pos (show nI m ≤ (144 : Int32) from nI_le (b := 144) h (by omega))]
theorem ltin (hN : 2100 ≤ N) (hG : TG f) {p m : Nat} (hp : p < 12) (hm : m ≤ 144) : SL_tideIn N f (nI p) (nI m) = some (iI (TI f p m)) := by
  unfold SL_tideIn SX5_tideIn
  rw [rqP1 (pos_n hp), lt_v, if_pos rfl, rqm hm, lt_v, if_pos rfl, tide_c hG hp (by omega) (by omega), bnd_v, bnd_v, if_pos rfl]
theorem lsteps (hN : 2100 ≤ N) (hG : TG f) {p m : Nat} (hp : p < 12) (hm : m ≤ 144) (A P M : Nat → Int32) : ∃ A' P' M', SL_tideBySteps N f A P M (nI p) (nI m) = some (iI (TI f p m), A', P', M') := by
  obtain ⟨a, b, c, h⟩ := steps_c hG hp (m := m) (by omega) (N := N) (by omega) A P M
  refine ⟨a, b, c, ?_⟩
  unfold SL_tideBySteps SX5_tideBySteps
  rw [rqP1 (pos_n hp), lt_v, if_pos rfl, rqm hm, lt_v, if_pos rfl, h, bnd_v, bnd_v, if_pos rfl]
theorem lnow (hN : 2100 ≤ N) (hG : TG f) {p : Nat} (hp : p < 12) : SL_tideAt N f (nI p) = some (iI (TI f p 0)) := by
  have e : SX4_tideAfter N f (nI p) 0 = some (iI (TI f p 0)) := tide_c hG hp (m := 0) (by omega) (by omega)
  unfold SL_tideAt SX5_tideAt
  rw [rqP1 (pos_n hp), lt_v, if_pos rfl, e, bnd_v, bnd_v, if_pos rfl]
theorem llev (hN : 2100 ≤ N) (hG : TG f) (h1 : 0 ≤ q f 1 ∧ q f 1 ≤ 40) {p : Nat} (hp : p < 12) : SL_levelAt N f (nI p) = some (nI (LV f p)) := by
  unfold SL_levelAt SX5_levelAt
  rw [rqP1 (pos_n hp), lt_v, if_pos rfl, level_c hG h1 hp (by omega), bnd_v, bnd_v, if_pos rfl]
theorem lhigh (hN : 2100 ≤ N) (hG : TG f) {p : Nat} (hp : p < 12) : SL_highTideIn N f (nI p) = some (nI (ex f p 1 144 1 0)) := by
  unfold SL_highTideIn SX5_highTideIn
  rw [rqP1 (pos_n hp), lt_v, if_pos rfl, high_v hN hG hp, bnd_v, bnd_v, if_pos rfl]
theorem llow (hN : 2100 ≤ N) (hG : TG f) {p : Nat} (hp : p < 12) : SL_lowTideIn N f (nI p) = some (nI (ex f p (-1) 144 1 0)) := by
  unfold SL_lowTideIn SX5_lowTideIn
  rw [rqP1 (pos_n hp), lt_v, if_pos rfl, low_v hN hG hp, bnd_v, bnd_v, if_pos rfl]
theorem hi_s (hG : TG f) {p : Nat} (hp : p < 12) (i w : Nat) : (if iI (TI f p i) ≤ iI (TI f p w) then nI w else nI i) = nI (if 1 * (TI f p i - TI f p w) ≤ 0 then w else i) ∧ imax (iI (TI f p w)) (iI (TI f p i)) = iI (TI f p (if 1 * (TI f p i - TI f p w) ≤ 0 then w else i)) := by
  have b1 := TI_b hG hp i
  have b2 := TI_b hG hp w
  have c1 : bd (TI f p i) := ⟨by omega, by omega⟩
  have c2 : bd (TI f p w) := ⟨by omega, by omega⟩
  unfold imax
  by_cases c : 1 * (TI f p i - TI f p w) ≤ 0
  · rw [if_pos c, if_pos ((iI_le c1 c2).mpr (by omega)), if_neg (fun e => by have := (iI_lt c2 c1).mp e; omega)]
    exact ⟨rfl, rfl⟩
  · rw [if_neg c, if_neg (fun e => by have := (iI_le c1 c2).mp e; omega), if_pos ((iI_lt c2 c1).mpr (by omega))]
    exact ⟨rfl, rfl⟩
theorem lo_s (hG : TG f) {p : Nat} (hp : p < 12) (i w : Nat) : (if iI (TI f p w) ≤ iI (TI f p i) then nI w else nI i) = nI (if (-1) * (TI f p i - TI f p w) ≤ 0 then w else i) ∧ imin (iI (TI f p w)) (iI (TI f p i)) = iI (TI f p (if (-1) * (TI f p i - TI f p w) ≤ 0 then w else i)) := by
  have b1 := TI_b hG hp i
  have b2 := TI_b hG hp w
  have c1 : bd (TI f p i) := ⟨by omega, by omega⟩
  have c2 : bd (TI f p w) := ⟨by omega, by omega⟩
  unfold imin
  by_cases c : (-1) * (TI f p i - TI f p w) ≤ 0
  · rw [if_pos c, if_pos ((iI_le c2 c1).mpr (by omega)), if_neg (fun e => by have := (iI_lt c1 c2).mp e; omega)]
    exact ⟨rfl, rfl⟩
  · rw [if_neg c, if_neg (fun e => by have := (iI_le c2 c1).mp e; omega), if_pos ((iI_lt c1 c2).mpr (by omega))]
    exact ⟨rfl, rfl⟩
abbrev F3 : Type := (Nat → Int32) × (Nat → Int32) × (Nat → Int32)
theorem tides_i (hN : 2100 ≤ N) (hG : TG f) (hmn : mn = mo f) (hr : ∀ k, k < mn → RW f k (mv k)) {p : Nat} (hp : p < 12) {K : (Int32 × Int32 × (Nat → Int32) × (Nat → Int32) × (Nat → Int32)) → Option ((Nat → Int32) × (Nat → Int32) × (Nat → Int32))} : ∀ (d i fu w v : Nat) (A P M : Nat → Int32), i + d = 145 → d + 1 ≤ fu → w ≤ 144 → v ≤ 144 → ∃ A' P' M', LL_tides_54 K N f mn mv (nI p) fu (nI w) (nI v) (iI (TI f p w)) (iI (TI f p v)) (nI i) A P M = K (nI (ex f p 1 d i w), nI (ex f p (-1) d i v), A', P', M') := by
  intro d
  induction d with
  | zero =>
    intro i fu w v A P M hi hf hw hv
    obtain ⟨fu, rfl⟩ : ∃ k, fu = k + 1 := ⟨fu - 1, by omega⟩
    refine ⟨A, P, M, ?_⟩
    rw [LL_tides_54, if_pos (show (144 : Int32) < nI i from nI_lt (a := 144) (by omega) (by omega))]
    rfl
  | succ d ih =>
    intro i fu w v A P M hi hf hw hv
    obtain ⟨fu, rfl⟩ : ∃ k, fu = k + 1 := ⟨fu - 1, by omega⟩
    obtain ⟨h1, h2⟩ := hi_s hG hp i w
    obtain ⟨l1, l2⟩ := lo_s hG hp i v
    have hb : ∃ A1 P1 M1, (if (irm (nI i) 7) = (irm (nI p) 7) then (bnd (SL_tideIn N f (nI p) (nI i)) (fun o17 : Int32 => if o17 = iI (TI f p i) then (bnd (SL_tideBySteps N f A P M (nI p) (nI i)) (fun o20 : Int32 × (Nat → Int32) × (Nat → Int32) × (Nat → Int32) => if o20.1 = iI (TI f p i) then (some ((o20.2.1, o20.2.2.1, o20.2.2.2))) else (none))) else (none))) else (some ((A, P, M)))) = some (A1, P1, M1) := by
      by_cases c : (irm (nI i) 7) = (irm (nI p) 7)
      · obtain ⟨a1, p1, m1, hs⟩ := lsteps hN hG hp (m := i) (by omega) A P M
        refine ⟨a1, p1, m1, ?_⟩
        rw [if_pos c, ltin hN hG hp (by omega), bnd_v, if_pos rfl, hs, bnd_v, if_pos rfl]
      · exact ⟨A, P, M, if_neg c⟩
    obtain ⟨A1, P1, M1, hb⟩ := hb
    obtain ⟨A2, P2, M2, hx⟩ := ih (i + 1) fu (if 1 * (TI f p i - TI f p w) ≤ 0 then w else i) (if (-1) * (TI f p i - TI f p v) ≤ 0 then v else i) A1 P1 M1 (by omega) (by omega) (by split <;> omega) (by split <;> omega)
    refine ⟨A2, P2, M2, ?_⟩
    rw [LL_tides_54, if_neg (show ¬ (144 : Int32) < nI i from nI_nlt (a := 144) (by omega) (by omega)), tide_l hG hmn hr hp (by omega), bnd_v, h1, lt_v, l1, lt_v, hb, bnd_v, h2, l2, nI_1]
    exact hx
theorem tides_o (hN : 2100 ≤ N) (hG : TG f) (h1 : 0 ≤ q f 1 ∧ q f 1 ≤ 40) (hmn : mn = mo f) (hr : ∀ k, k < mn → RW f k (mv k)) {K : (Int32 × Int32 × (Nat → Int32) × (Nat → Int32) × (Nat → Int32)) → Option ((Nat → Int32) × (Nat → Int32) × (Nat → Int32))} : ∀ (d i fu b acc : Nat) (A P M : Nat → Int32), i + d = 12 → d + 1 ≤ fu → b < 12 → ∃ A' P' M', LL_tides_7 K N f mn mv fu (nI b) (nI acc) (nI i) A P M = K (nI (hs f d i b), nI (acc + lsum f d i), A', P', M') := by
  intro d
  induction d with
  | zero =>
    intro i fu b acc A P M hi hf hb
    obtain ⟨fu, rfl⟩ : ∃ k, fu = k + 1 := ⟨fu - 1, by omega⟩
    refine ⟨A, P, M, ?_⟩
    rw [LL_tides_7, if_pos (show (12 : Int32) ≤ nI i from nI_le (a := 12) (by omega) (by omega))]
    rfl
  | succ d ih =>
    intro i fu b acc A P M hi hf hb
    obtain ⟨fu, rfl⟩ : ∃ k, fu = k + 1 := ⟨fu - 1, by omega⟩
    have hp : i < 12 := by omega
    have e0 : SL_tide f mn mv (nI i) 0 = some (iI (TI f i 0)) := tide_l hG hmn hr hp (m := 0) (by omega)
    have bT := TI_b hG hp 0
    have eL : imax 0 (SX5_baseLevel f + iI (TI f i 0)) = nI (LV f i) := by
      rw [show SX5_baseLevel f = f 1 from at_1 f, q_i f 1, iI_add, imax0 ⟨by omega, by omega⟩]
      rfl
    have hbL : nI (LV f i) ≤ nI (LV f b) ↔ LV f i ≤ LV f b := by
      have b1 := LV_b hG h1 hp
      have b2 := LV_b hG h1 hb
      rw [iI_n, iI_n, iI_le ⟨by omega, by omega⟩ ⟨by omega, by omega⟩]
      omega
    have eB : (if nI (LV f i) ≤ nI (LV f b) then nI b else nI i) = nI (if LV f i ≤ LV f b then b else i) := by
      by_cases c : LV f i ≤ LV f b
      · rw [if_pos c, if_pos (hbL.mpr c)]
      · rw [if_neg c, if_neg (fun e => c (hbL.mp e))]
    have x1 : ex f i 1 145 0 0 = ex f i 1 144 1 0 := ex_0 f i 1 144
    have x2 : ex f i (-1) 145 0 0 = ex f i (-1) 144 1 0 := ex_0 f i (-1) 144
    have z145 : SL_tideIn N f (nI i) 145 = some (-1012) := by
      have e : SX5_requireTideMinutes 145 = 1 := by decide
      unfold SL_tideIn SX5_tideIn
      rw [rqP1 (pos_n hp), lt_v, if_pos rfl, e]
      rfl
    have z1 : ∀ A1 P1 M1 : Nat → Int32, SL_tideBySteps N f A1 P1 M1 (nI i) (-1) = some (-1012, A1, P1, M1) := by
      intro A1 P1 M1
      have e : SX5_requireTideMinutes (-1) = 1 := by decide
      unfold SL_tideBySteps SX5_tideBySteps
      rw [rqP1 (pos_n hp), lt_v, if_pos rfl, e]
      rfl
    have tail : ∀ (A1 P1 M1 : Nat → Int32), ∃ A2 P2 M2, (fun o7 : Int32 × Int32 × (Nat → Int32) × (Nat → Int32) × (Nat → Int32) => bnd (SL_tideAt N f (nI i)) (fun o23 : Int32 => bnd (if o23 = iI (TI f i 0) then (bnd (SL_levelAt N f (nI i)) (fun o27 : Int32 => if o27 = nI (LV f i) then (bnd (SL_highTideIn N f (nI i)) (fun o30 : Int32 => if o30 = o7.1 then (bnd (SL_lowTideIn N f (nI i)) (fun o33 : Int32 => if o33 = o7.2.1 then (bnd (SL_tideIn N f (nI i) 145) (fun o36 : Int32 => if o36 = (-1012) then (bnd (SL_tideBySteps N f o7.2.2.1 o7.2.2.2.1 o7.2.2.2.2 (nI i) (-1)) (fun o39 : Int32 × (Nat → Int32) × (Nat → Int32) × (Nat → Int32) => if o39.1 = (-1012) then (some (((1 : Int32), o39.2.1, o39.2.2.1, o39.2.2.2))) else (some ((0, o39.2.1, o39.2.2.1, o39.2.2.2))))) else (some ((0, o7.2.2.1, o7.2.2.2.1, o7.2.2.2.2))))) else (some ((0, o7.2.2.1, o7.2.2.2.1, o7.2.2.2.2))))) else (some ((0, o7.2.2.1, o7.2.2.2.1, o7.2.2.2.2))))) else (some ((0, o7.2.2.1, o7.2.2.2.1, o7.2.2.2.2))))) else (some ((0, o7.2.2.1, o7.2.2.2.1, o7.2.2.2.2)))) (fun o26 : Int32 × (Nat → Int32) × (Nat → Int32) × (Nat → Int32) => if o26.1 = 0 then (none) else (bnd (SL_levelAt N f (nI b)) (fun o43 : Int32 => lt_ (if nI (LV f i) ≤ o43 then (nI b) else (nI i)) (fun o46 : Int32 => LL_tides_7 K N f mn mv fu o46 (nI acc + nI (LV f i)) (nI i + 1) o26.2.1 o26.2.2.1 o26.2.2.2)))))) (nI (ex f i 1 145 0 0), nI (ex f i (-1) 145 0 0), A1, P1, M1) = K (nI (hs f (d + 1) i b), nI (acc + lsum f (d + 1) i), A2, P2, M2) := by
      intro A1 P1 M1
      obtain ⟨A2, P2, M2, hx⟩ := ih (i + 1) fu (if LV f i ≤ LV f b then b else i) (acc + LV f i) A1 P1 M1 (by omega) (by omega) (by split <;> omega)
      refine ⟨A2, P2, M2, ?_⟩
      have hl : acc + LV f i + lsum f d (i + 1) = acc + lsum f (d + 1) i := Nat.add_assoc _ _ _
      rw [← hl]
      refine Eq.trans ?_ hx
      dsimp only
      rw [lnow hN hG hp, bnd_v, if_pos rfl, llev hN hG h1 hp, bnd_v, if_pos rfl, lhigh hN hG hp, bnd_v, if_pos (congrArg nI x1.symm), llow hN hG hp, bnd_v, if_pos (congrArg nI x2.symm), z145, bnd_v, if_pos rfl, z1, bnd_v, if_pos rfl, bnd_v, if_neg (show ¬ (1 : Int32) = 0 by decide), llev hN hG h1 hb, bnd_v, eB, lt_v, nI_add, nI_1]
    obtain ⟨A1, P1, M1, hi1⟩ := tides_i hN hG hmn hr hp (K := fun o7 : Int32 × Int32 × (Nat → Int32) × (Nat → Int32) × (Nat → Int32) => bnd (SL_tideAt N f (nI i)) (fun o23 : Int32 => bnd (if o23 = iI (TI f i 0) then (bnd (SL_levelAt N f (nI i)) (fun o27 : Int32 => if o27 = nI (LV f i) then (bnd (SL_highTideIn N f (nI i)) (fun o30 : Int32 => if o30 = o7.1 then (bnd (SL_lowTideIn N f (nI i)) (fun o33 : Int32 => if o33 = o7.2.1 then (bnd (SL_tideIn N f (nI i) 145) (fun o36 : Int32 => if o36 = (-1012) then (bnd (SL_tideBySteps N f o7.2.2.1 o7.2.2.2.1 o7.2.2.2.2 (nI i) (-1)) (fun o39 : Int32 × (Nat → Int32) × (Nat → Int32) × (Nat → Int32) => if o39.1 = (-1012) then (some (((1 : Int32), o39.2.1, o39.2.2.1, o39.2.2.2))) else (some ((0, o39.2.1, o39.2.2.1, o39.2.2.2))))) else (some ((0, o7.2.2.1, o7.2.2.2.1, o7.2.2.2.2))))) else (some ((0, o7.2.2.1, o7.2.2.2.1, o7.2.2.2.2))))) else (some ((0, o7.2.2.1, o7.2.2.2.1, o7.2.2.2.2))))) else (some ((0, o7.2.2.1, o7.2.2.2.1, o7.2.2.2.2))))) else (some ((0, o7.2.2.1, o7.2.2.2.1, o7.2.2.2.2)))) (fun o26 : Int32 × (Nat → Int32) × (Nat → Int32) × (Nat → Int32) => if o26.1 = 0 then (none) else (bnd (SL_levelAt N f (nI b)) (fun o43 : Int32 => lt_ (if nI (LV f i) ≤ o43 then (nI b) else (nI i)) (fun o46 : Int32 => LL_tides_7 K N f mn mv fu o46 (nI acc + nI (LV f i)) (nI i + 1) o26.2.1 o26.2.2.1 o26.2.2.2)))))) 145 0 147 0 0 A P M (by omega) (by omega) (by omega) (by omega)
    obtain ⟨A2, P2, M2, ht⟩ := tail A1 P1 M1
    refine ⟨A2, P2, M2, ?_⟩
    rw [LL_tides_7, if_neg (show ¬ (12 : Int32) ≤ nI i from nI_ge (b := 12) hp (by omega)), e0, bnd_v, eL, lt_v]
    exact hi1.trans ht
theorem agr (hN : 2100 ≤ N) (hG : TG f) {m : Nat} (hm : m ≤ 2000) (A P M : Nat → Int32) : ∃ A' P' M', SX0_agreesIn N A P M f (nI m) = some (1, A', P', M') := agrees_v hN hG hm 12 0 N A P M (by omega) (by omega)
theorem bal (hN : 2100 ≤ N) (hG : TG f) (h7 : 0 ≤ q f 7 ∧ q f 7 ≤ 4) (hb : f 1 + f 3 + absS f (tw f) = 20 + f 4) (A P M : Nat → Int32) : ∃ A' P' M', SX5_isBalanced N f A P M = some (1, A', P', M') := by
  obtain ⟨a0, p0, m0, e0⟩ := agr hN hG (m := 0) (by omega) A P M
  obtain ⟨a1, p1, m1, e1⟩ := agr hN hG (m := 1) (by omega) a0 p0 m0
  obtain ⟨a2, p2, m2, e2⟩ := agr hN hG (m := 5) (by omega) a1 p1 m1
  obtain ⟨a3, p3, m3, e3⟩ := agr hN hG (m := 20) (by omega) a2 p2 m2
  replace e0 : SX0_agreesIn N A P M f 0 = _ := e0
  replace e1 : SX0_agreesIn N a0 p0 m0 f 1 = _ := e1
  replace e2 : SX0_agreesIn N a1 p1 m1 f 5 = _ := e2
  replace e3 : SX0_agreesIn N a2 p2 m2 f 20 = _ := e3
  refine ⟨m3, a3, p3, ?_⟩
  unfold SX5_isBalanced
  simp [keeps_v hN h7 hb, e0, e1, e2, e3, bnd_v]
theorem tides_c (hN : 2100 ≤ N) (hG : TG f) (h1 : 0 ≤ q f 1 ∧ q f 1 ≤ 40) (h7 : 0 ≤ q f 7 ∧ q f 7 ≤ 4) (hb : f 1 + f 3 + absS f (tw f) = 20 + f 4) (hmn : mn = mo f) (hr : ∀ k, k < mn → RW f k (mv k)) (A P M : Nat → Int32) : ∃ r, SL_tides N f A P M mn mv = some r := by
  have nP : SX5_requirePosition 12 = 3 := by decide
  have nP1 : SX5_requirePosition (-1) = 3 := by decide
  have x1 : hs f 12 0 0 = hs f 11 1 0 := hs_0 f 11
  have hH : SX5_highestShore N f = some (nI (hs f 12 0 0)) := by
    rw [x1]
    exact hs_c hG h1 (by omega) 11 1 N 0 (by omega) (by omega) (by omega)
  obtain ⟨z, hz, e1, e2⟩ := mean_lc hG h1 (N := N) (by omega) 12 0 N 0 (by omega) (by omega) (by omega)
  have hM : SX5_meanLevel N f = some (FP.ddiv (FP.i2d (nI z)) 4622945017495814144) := e1
  obtain ⟨k1, k2⟩ := mean_ok z (by omega)
  have bl : ∀ a b c : Nat → Int32, ∃ r : F3, ∀ {β : Type} (k : Int32 × F3 → Option β), bnd (SX5_isBalanced N f a b c) k = k (1, r) := by
    intro a b c
    obtain ⟨a', b', c', h⟩ := bal hN hG h7 hb a b c
    exact ⟨(a', b', c'), fun k => by rw [h, bnd_v]⟩
  unfold SL_tides
  obtain ⟨A1, P1, M1, ht⟩ := tides_o hN hG h1 hmn hr 12 0 14 0 0 A P M (by omega) (by omega) (by omega) (K := fun o1 : Int32 × Int32 × (Nat → Int32) × (Nat → Int32) × (Nat → Int32) => bnd (SX5_highestShore N f) (fun o47 : Int32 => if o47 = o1.1 then (bnd (SX5_meanLevel N f) (fun o50 : UInt64 => gd (vf_n64 (FP.ddiv (FP.i2d o1.2.1) 4622945017495814144)) (if (Op.cmpValue (FP.dcmp o50 (FP.ddiv (FP.i2d o1.2.1) 4622945017495814144)) .l) = 0 then (bnd (SL_tideAt N f 12) (fun o54 : Int32 => if o54 = (-1011) then (bnd (SL_levelAt N f (-1)) (fun o57 : Int32 => if o57 = (-1011) then (bnd (SL_tideIn N f 12 999) (fun o60 : Int32 => if o60 = (-1011) then (bnd (SL_tideBySteps N f o1.2.2.1 o1.2.2.2.1 o1.2.2.2.2 (-1) 0) (fun o63 : Int32 × (Nat → Int32) × (Nat → Int32) × (Nat → Int32) => if o63.1 = (-1011) then (bnd (SL_highTideIn N f 12) (fun o66 : Int32 => if o66 = (-11) then (bnd (SL_lowTideIn N f 12) (fun o69 : Int32 => if o69 = (-11) then (bnd (SX5_isBalanced N f o63.2.1 o63.2.2.1 o63.2.2.2) (fun o72 : Int32 × (Nat → Int32) × (Nat → Int32) × (Nat → Int32) => if o72.1 = 0 then (none) else (some ((o72.2.2.1, o72.2.2.2, o72.2.1))))) else (none))) else (none))) else (none))) else (none))) else (none))) else (none))) else (none)))) else (none)))
  obtain ⟨r, hr2⟩ := bl A1 P1 M1
  refine ⟨(r.2.1, r.2.2, r.1), ht.trans ?_⟩
  dsimp only
  rw [hH, bnd_v, if_pos rfl, hM, bnd_v]
  show gd (vf_n64 (FP.ddiv (FP.i2d (nI (0 + lsum f 12 0))) 4622945017495814144)) _ = _
  rw [← e2, gd_p k1]
  simp [k2, SL_tideAt, SX5_tideAt, SL_levelAt, SX5_levelAt, SL_tideIn, SX5_tideIn, SL_tideBySteps, SX5_tideBySteps, SL_highTideIn, SX5_highTideIn, SL_lowTideIn, SX5_lowTideIn, nP, nP1, lt_v, bnd_v, hr2, ← e2]
end LD
