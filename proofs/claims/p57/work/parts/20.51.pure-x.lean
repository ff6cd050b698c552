/-! time passes -/
theorem upd_id {F : Nat → Int32} {k : Nat} {x : Int32} (h : F k = x) : upd F k x = F := by
  funext j
  by_cases e : j = k
  · subst e
    rw [upd_same, h]
  · exact upd_ne _ _ e
section PX
variable {T : Int} {f s : Nat → Int32} {N : Nat}
theorem tap_v {a b : Int} (ha : 0 ≤ a ∧ a ≤ 40) (hb : -3 ≤ b ∧ b ≤ 3) : imax 0 (imin 40 (iI a + iI b)) = iI (max 0 (min 40 (a + b))) := by
  rw [iI_add, f40, z_iI, imin_v ⟨by omega, by omega⟩ ⟨by omega, by omega⟩, imax_v ⟨by omega, by omega⟩ ⟨by omega, by omega⟩]
theorem tick (hR : Rel f s) (hG : Good T f) (hT : T < 1000000) : ∃ S, Rel (SX4_runTaps (upd f 0 (f 0 + 1))) S ∧ Good (T + 1) (SX4_runTaps (upd f 0 (f 0 + 1))) ∧ SX6_minute N s = LX6_minute_58 N N S 0 0 := by
  have h0 : 0 ≤ q f 0 ∧ q f 0 ≤ T := hG.1
  have h1 : 0 ≤ q f 1 ∧ q f 1 ≤ 40 := hG.2.1
  have h2 : -3 ≤ q f 2 ∧ q f 2 ≤ 3 := hG.2.2.1
  have h7 : 0 ≤ q f 7 ∧ q f 7 ≤ 4 := hG.2.2.2.2.2.1
  have h4 := hG.t4
  have hw := hG.2.2.2.2.2.2.2.2.2.1
  have hb := hG.2.2.2.2.2.2.2.2.2.2
  have e0 : f 0 + 1 = iI (q f 0 + 1) := by rw [q_i f 0, show (1 : Int32) = iI 1 from iI_n 1, iI_add]
  have q0 : (iI (q f 0 + 1)).toInt = q f 0 + 1 := iI_toInt ⟨by omega, by omega⟩
  unfold SX6_minute SX4_runTaps
  rw [at_0, at_1, at_2, hR.r2, e0, upd_same, upd_same, upd_ne (j := 1) _ _ (by omega), upd_ne (j := 2) _ _ (by omega), upd_ne (j := 3) _ _ (by omega), upd_ne (j := 4) _ _ (by omega), hR.r3, hR.r4]
  by_cases c : irm (iI (q f 0 + 1)) 12 = 0
  · have ev : imax 0 (imin 40 (f 1 + f 2)) = iI (max 0 (min 40 (q f 1 + q f 2))) := by
      rw [q_i f 1, q_i f 2]
      exact tap_v h1 h2
    have qv : (iI (max 0 (min 40 (q f 1 + q f 2)))).toInt = max 0 (min 40 (q f 1 + q f 2)) := iI_toInt ⟨by omega, by omega⟩
    rw [if_pos c, if_pos c, lt_v, lt_v, lt_v, ev, put_1, lt_v, add_4, lt_v, upd_ne (j := 4) _ _ (by omega), upd_ne (j := 4) _ _ (by omega)]
    refine ⟨_, ((hR.up _ (i := 2) (k := 0) rfl).up _ (i := 3) (k := 1) rfl).free _, ?_, by rw [ev]⟩
    have e : ∀ i, i ≠ 0 → i ≠ 1 → i ≠ 4 → upd (upd (upd f 0 (iI (q f 0 + 1))) 1 (iI (max 0 (min 40 (q f 1 + q f 2))))) 4 (f 4 + (iI (max 0 (min 40 (q f 1 + q f 2))) - f 1)) i = f i := fun i a b c => by
      rw [upd_ne _ _ c, upd_ne _ _ b, upd_ne _ _ a]
    have ew : tw (upd (upd (upd f 0 (iI (q f 0 + 1))) 1 (iI (max 0 (min 40 (q f 1 + q f 2))))) 4 (f 4 + (iI (max 0 (min 40 (q f 1 + q f 2))) - f 1))) = tw f := tw_c (e 7 (by omega) (by omega) (by omega))
    refine hG.water (fun i a b c d g h => e i b c g) ?_ ?_ ?_ ?_ ?_
    · rw [q_ne _ _ (by omega), q_ne _ _ (by omega), q_same, q0]
      omega
    · rw [q_ne _ _ (by omega), q_same, qv]
      omega
    · rw [q_c (e 7 (by omega) (by omega) (by omega))]
      exact h7
    · rw [ew]
      exact fun t ht => gTow_c (hw t ht) (fun k hk => e _ (by omega) (by omega) (by omega))
    · rw [ew, absS_c (f := f) (tw f) (fun i hi => e _ (by omega) (by omega) (by omega)), e 3 (by omega) (by omega) (by omega), upd_same, upd_ne _ _ (by omega), upd_same]
      exact tap_sum _ _ _ _ _ hb
  · have ev : imax 0 (imin 40 (f 1 + 0)) = f 1 := by
      rw [q_i f 1, z_iI, ← z_iI, show iI (q f 1) + 0 = iI (q f 1) + iI 0 from by rw [← z_iI], tap_v h1 ⟨by omega, by omega⟩]
      congr 1
      omega
    rw [if_neg c, if_neg c, lt_v, lt_v, ev, upd_id (F := upd s 2 _) (k := 3) (by rw [upd_ne _ _ (by omega), hR.r3])]
    refine ⟨_, hR.up _ (i := 2) (k := 0) rfl, ?_, rfl⟩
    have e : ∀ i, i ≠ 0 → upd f 0 (iI (q f 0 + 1)) i = f i := fun i a => upd_ne _ _ a
    have ew : tw (upd f 0 (iI (q f 0 + 1))) = tw f := tw_c (e 7 (by omega))
    refine hG.water (fun i a b c d g h => e i b) ?_ ?_ ?_ ?_ ?_
    · rw [q_same, q0]
      omega
    · rw [q_c (e 1 (by omega))]
      exact h1
    · rw [q_c (e 7 (by omega))]
      exact h7
    · rw [ew]
      exact fun t ht => gTow_c (hw t ht) (fun k hk => e _ (by omega))
    · rw [ew, absS_c (f := f) (tw f) (fun i hi => e _ (by omega)), e 1 (by omega), e 3 (by omega), e 4 (by omega)]
      exact hb
/-- a towel soaks -/
def soF (f : Nat → Int32) (i : Nat) : Nat → Int32 := upd (upd (upd f (45 + 4 * i + 2) (f (45 + 4 * i + 2) + 1)) (45 + 4 * i + 3) (f (45 + 4 * i + 3) + 1)) 1 (f 1 - 1)
theorem soak_c {i : Nat} (hi : i < 4) : SX4_soak f (nI i) = soF f i := by
  have a2 : (45 : Int32) + nI i * 4 + 2 = nI (45 + 4 * i + 2) := e_t i 2
  have a3 : (45 : Int32) + nI i * 4 + 3 = nI (45 + 4 * i + 3) := e_t i 3
  unfold SX4_soak soF
  rw [a2, a3, add_n f 1 (by omega) (by omega), lt_v, add_n _ 1 (by omega) (by omega), lt_v, add_1, lt_v, upd_ne (j := 45 + 4 * i + 3) _ _ (by omega), upd_ne (j := 1) _ _ (by omega), upd_ne (j := 1) _ _ (by omega), Int32.sub_eq_add_neg]
theorem soF_e {i j : Nat} (h : j ≠ 1 ∧ j ≠ 45 + 4 * i + 2 ∧ j ≠ 45 + 4 * i + 3) : soF f i j = f j := by
  unfold soF
  rw [upd_ne _ _ h.1, upd_ne _ _ h.2.2, upd_ne _ _ h.2.1]
theorem soF_g (hG : Good T f) {i : Nat} (hi : i < tw f) (h1 : 1 ≤ q f 1) (hB : q f (45 + 4 * i + 2) < 5) : Good T (soF f i) := by
  have h0 : 0 ≤ q f 0 ∧ q f 0 ≤ T := hG.1
  have h1' : 0 ≤ q f 1 ∧ q f 1 ≤ 40 := hG.2.1
  have h7 : 0 ≤ q f 7 ∧ q f 7 ≤ 4 := hG.2.2.2.2.2.1
  have h4 := hG.t4
  have hw := hG.2.2.2.2.2.2.2.2.2.1
  have hb := hG.2.2.2.2.2.2.2.2.2.2
  obtain ⟨w1, w2, w3⟩ := hw i hi
  have ew : tw (soF f i) = tw f := tw_c (soF_e ⟨by omega, by omega, by omega⟩)
  have e1 : q (soF f i) 1 = q f 1 - 1 := by
    unfold soF
    rw [q_same, q_i f 1, show (1 : Int32) = iI 1 from iI_n 1, iI_sub, iI_toInt ⟨by omega, by omega⟩]
  have e2 : q (soF f i) (45 + 4 * i + 2) = q f (45 + 4 * i + 2) + 1 := by
    unfold soF
    rw [q_ne _ _ (by omega), q_ne _ _ (by omega), q_same, q_i f (45 + 4 * i + 2), show (1 : Int32) = iI 1 from iI_n 1, iI_add, iI_toInt ⟨by omega, by omega⟩]
  refine hG.water (fun j a b c d g h => soF_e ⟨by omega, by omega, by omega⟩) ?_ ?_ ?_ ?_ ?_
  · rw [q_c (soF_e (f := f) (i := i) (j := 0) ⟨by omega, by omega, by omega⟩)]
    omega
  · rw [e1]
    omega
  · rw [q_c (soF_e (f := f) (i := i) (j := 7) ⟨by omega, by omega, by omega⟩)]
    exact h7
  · rw [ew]
    intro t ht
    by_cases c : t = i
    · subst c
      unfold gTow
      rw [e2, q_c (soF_e (f := f) (i := t) (j := 45 + 4 * t + 0) ⟨by omega, by omega, by omega⟩), q_c (soF_e (f := f) (i := t) (j := 45 + 4 * t + 1) ⟨by omega, by omega, by omega⟩)]
      exact ⟨w1, w2, by omega⟩
    · exact gTow_c (hw t ht) (fun k hk => soF_e ⟨by omega, by omega, by omega⟩)
  · have ea : absS (soF f i) (tw f) = absS f (tw f) + (f (45 + 4 * i + 2) + 1) - f (45 + 4 * i + 2) := by
      unfold soF
      rw [absS_c (f := upd f (45 + 4 * i + 2) (f (45 + 4 * i + 2) + 1)) (tw f) (fun j hj => by rw [upd_ne _ _ (by omega), upd_ne _ _ (by omega)]), absS_u, if_pos hi]
    have ef1 : soF f i 1 = f 1 - 1 := by
      unfold soF
      rw [upd_same]
    rw [ew, ea, ef1, soF_e (j := 3) ⟨by omega, by omega, by omega⟩, soF_e (j := 4) ⟨by omega, by omega, by omega⟩, so_sum, hb]
theorem inner (hN : 6 ≤ N) (hT : T ≤ 1000000) : ∀ (d i : Nat) (f s : Nat → Int32), Rel f s → Good T f → i + d = tw f → ∃ c f' s', (∀ K acc fu, d + 1 ≤ fu → LX4_pass_25 K N fu f acc (nI i) = K (acc + c, nI (tw f), f')) ∧ (∀ acc fu, d + 1 ≤ fu → LX6_minute_58 N fu s acc (nI i) = some (acc + c, s')) ∧ Rel f' s' ∧ Good T f' ∧ (∃ n : Nat, n ≤ d ∧ c = nI n) ∧ (∀ j, j ≠ 1 → j < 45 → f' j = f j) := by
  intro d
  induction d with
  | zero =>
    intro i f s hR hG hi
    have h4 := hG.t4
    refine ⟨0, f, s, fun K acc fu hf => ?_, fun acc fu hf => ?_, hR, hG, ⟨0, by omega, rfl⟩, fun _ _ _ => rfl⟩
    · obtain ⟨fu, rfl⟩ : ∃ k, fu = k + 1 := ⟨fu - 1, by omega⟩
      rw [LX4_pass_25, towels_v, hG.f7, if_pos (nI_le (by omega) (by omega)), add0, show i = tw f by omega]
    · obtain ⟨fu, rfl⟩ : ∃ k, fu = k + 1 := ⟨fu - 1, by omega⟩
      rw [LX6_minute_58, hR.r1, hG.f7, if_pos (nI_le (by omega) (by omega)), add0]
  | succ d ih =>
    intro i f s hR hG hi
    have h4 := hG.t4
    have h1 : 0 ≤ q f 1 ∧ q f 1 ≤ 40 := hG.2.1
    obtain ⟨w1, w2, w3⟩ := hG.2.2.2.2.2.2.2.2.2.1 i (by omega)
    have htg := hG.tg hT
    obtain ⟨p, hp, ep⟩ : ∃ p, p < 12 ∧ f (45 + 4 * i + 0) = nI p := ⟨(q f (45 + 4 * i + 0)).toNat, by omega, q_n w1.1⟩
    have htc : SX4_tideAfter N f (nI p) 0 = some (iI (TI f p 0)) := tide_c htg hp (m := 0) (by omega) hN
    have hlv := level_s hR htg h1 hp hN
    have hTb := TI_b htg hp 0
    have o0 : SX4_ofTowel f (nI i) 0 = f (45 + 4 * i + 0) := tow_v f (t := i) (k := 0) (by omega) (by omega)
    have o1 : SX4_ofTowel f (nI i) 1 = f (45 + 4 * i + 1) := tow_v f (t := i) (k := 1) (by omega) (by omega)
    have o2 : SX4_ofTowel f (nI i) 2 = f (45 + 4 * i + 2) := tow_v f (t := i) (k := 2) (by omega) (by omega)
    have b1 : (44 : Int32) + 4 * nI i + 1 = nI (44 + 4 * i + 1) := s_t i 1
    have b2 : (44 : Int32) + 4 * nI i + 2 = nI (44 + 4 * i + 2) := s_t i 2
    have b3 : (44 : Int32) + 4 * nI i + 3 = nI (44 + 4 * i + 3) := s_t i 3
    have g : ∀ k, k < 4 → vp_in (nI (44 + 4 * i + k)) 60 := fun k hk => vp_in_nI (by omega) (by omega)
    have c : ∀ k, k < 4 → (nI (44 + 4 * i + k)).toNatClampNeg = 44 + 4 * i + k := fun k hk => nI_clamp (by omega)
    have g0 : vp_in (nI (44 + 4 * i)) 60 := g 0 (by omega)
    have c0 : (nI (44 + 4 * i)).toNatClampNeg = 44 + 4 * i := c 0 (by omega)
    have r0 : s (44 + 4 * i) = nI p := by rw [← ep]; exact hR.t (j := i) (k := 0) (by omega) (by omega)
    have r1 := hR.t (j := i) (k := 1) (by omega) (by omega)
    have r2 := hR.t (j := i) (k := 2) (by omega) (by omega)
    have r3 := hR.t (j := i) (k := 3) (by omega) (by omega)
    have z1 : f 1 + iI (TI f p 0) ≤ f (45 + 4 * i + 1) ↔ q f 1 + TI f p 0 ≤ q f (45 + 4 * i + 1) := by
      rw [q_i f 1, q_i f (45 + 4 * i + 1), iI_add]
      exact iI_le ⟨by omega, by omega⟩ (q_bd _ _)
    have z1' : nI (LV f p) ≤ f (45 + 4 * i + 1) ↔ q f 1 + TI f p 0 ≤ q f (45 + 4 * i + 1) := by
      have hl := LV_b htg h1 hp
      rw [q_i f (45 + 4 * i + 1), iI_n, iI_le ⟨by omega, by omega⟩ (q_bd f (45 + 4 * i + 1))]
      unfold LV
      omega
    have z2 : (5 : Int32) ≤ f (45 + 4 * i + 2) ↔ 5 ≤ q f (45 + 4 * i + 2) := by
      rw [q_i f (45 + 4 * i + 2), show (5 : Int32) = iI 5 from iI_n 5]
      exact iI_le ⟨by omega, by omega⟩ (q_bd _ _)
    have z3 : f 1 < 1 ↔ q f 1 < 1 := by
      rw [q_i f 1, show (1 : Int32) = iI 1 from iI_n 1]
      exact iI_lt (q_bd _ _) ⟨by omega, by omega⟩
    have z3' : f 1 ≤ 0 ↔ q f 1 < 1 := by
      rw [q_i f 1, z_iI, iI_le (q_bd f 1) ⟨by omega, by omega⟩]
      omega
    by_cases hs : q f (45 + 4 * i + 1) < q f 1 + TI f p 0 ∧ q f (45 + 4 * i + 2) < 5 ∧ 1 ≤ q f 1
    · obtain ⟨s1, s2, s3⟩ := hs
      have hfl : SX4_isFlooded f (nI i) (iI (TI f p 0)) = 1 := by
        unfold SX4_isFlooded
        rw [at_1, o1, o2, if_neg (fun z => by have := z1.mp z; omega), if_neg (fun z => by have := z2.mp z; omega), if_neg (fun z => by have := z3.mp z; omega)]
      have hR2 : Rel (soF f i) (upd (upd (upd s (44 + 4 * i + 2) (f (45 + 4 * i + 2) + 1)) (44 + 4 * i + 3) (f (45 + 4 * i + 3) + 1)) 3 (f 1 - 1)) := by
        unfold soF
        exact ((hR.up _ (i := 44 + 4 * i + 2) (k := 45 + 4 * i + 2) (by rw [tau_ge (by omega)]; omega)).up _ (i := 44 + 4 * i + 3) (k := 45 + 4 * i + 3) (by rw [tau_ge (by omega)]; omega)).up _ (i := 3) (k := 1) rfl
      have hG2 := soF_g hG (i := i) (by omega) s3 s2
      have et : tw (soF f i) = tw f := tw_c (soF_e ⟨by omega, by omega, by omega⟩)
      obtain ⟨c', f', s', k1, k2, k3, k4, ⟨n, hn, en⟩, k6⟩ := ih (i + 1) _ _ hR2 hG2 (by omega)
      refine ⟨1 + c', f', s', fun K acc fu hf => ?_, fun acc fu hf => ?_, k3, k4, ⟨n + 1, by omega, by rw [en, Int32.add_comm]; exact nI_1 n⟩, fun j a b => (k6 j a b).trans (soF_e ⟨a, by omega, by omega⟩)⟩
      · obtain ⟨fu, rfl⟩ : ∃ k, fu = k + 1 := ⟨fu - 1, by omega⟩
        rw [LX4_pass_25, towels_v, hG.f7, if_neg (nI_ge (by omega) (by omega)), o0, ep, htc, bnd_v, hfl, if_neg (by decide), lt_v, soak_c (by omega), lt_v]
        dsimp only
        rw [nI_1, k1 K _ fu (by omega), et, Int32.add_assoc]
      · obtain ⟨fu, rfl⟩ : ∃ k, fu = k + 1 := ⟨fu - 1, by omega⟩
        rw [LX6_minute_58, hR.r1, hG.f7, if_neg (nI_ge (by omega) (by omega)), b1, b2, b3, s_t0, gd_p g0, c0, r0, hlv, bnd_v, gd_p (g 1 (by omega)), c 1 (by omega), r1, if_neg (fun z => by have := z1'.mp z; omega), gd_p (g 2 (by omega)), c 2 (by omega), r2, if_neg (fun z => by have := z2.mp z; omega), hR.r3, if_neg (fun z => by have := z3'.mp z; omega), gd_p (g 2 (by omega)), lt_v, gd_p (g 2 (by omega)), gd_p (g 3 (by omega)), c 3 (by omega), upd_ne (j := 44 + 4 * i + 3) _ _ (by omega), r3, lt_v, gd_p (g 3 (by omega)), upd_ne (j := 3) _ _ (by omega), upd_ne (j := 3) _ _ (by omega), hR.r3, lt_v, bnd_v]
        dsimp only
        rw [nI_1, k2 _ fu (by omega), Int32.add_assoc]
    · obtain ⟨c', f', s', k1, k2, k3, k4, ⟨n, hn, en⟩, k6⟩ := ih (i + 1) f s hR hG (by omega)
      have hfl : SX4_isFlooded f (nI i) (iI (TI f p 0)) = 0 := by
        unfold SX4_isFlooded
        rw [at_1, o1, o2]
        by_cases y1 : q f 1 + TI f p 0 ≤ q f (45 + 4 * i + 1)
        · rw [if_pos (z1.mpr y1)]
        · rw [if_neg (fun z => y1 (z1.mp z))]
          by_cases y2 : 5 ≤ q f (45 + 4 * i + 2)
          · rw [if_pos (z2.mpr y2)]
          · rw [if_neg (fun z => y2 (z2.mp z)), if_pos (z3.mpr (by omega))]
      refine ⟨c', f', s', fun K acc fu hf => ?_, fun acc fu hf => ?_, k3, k4, ⟨n, by omega, en⟩, k6⟩
      · obtain ⟨fu, rfl⟩ : ∃ k, fu = k + 1 := ⟨fu - 1, by omega⟩
        rw [LX4_pass_25, towels_v, hG.f7, if_neg (nI_ge (by omega) (by omega)), o0, ep, htc, bnd_v, hfl, if_pos rfl, lt_v]
        dsimp only
        rw [nI_1, k1 K _ fu (by omega)]
      · obtain ⟨fu, rfl⟩ : ∃ k, fu = k + 1 := ⟨fu - 1, by omega⟩
        rw [LX6_minute_58, hR.r1, hG.f7, if_neg (nI_ge (by omega) (by omega)), b1, b2, b3, s_t0, gd_p g0, c0, r0, hlv, bnd_v, gd_p (g 1 (by omega)), c 1 (by omega), r1]
        by_cases y1 : q f 1 + TI f p 0 ≤ q f (45 + 4 * i + 1)
        · rw [if_pos (z1'.mpr y1), bnd_v]
          dsimp only
          rw [nI_1, k2 _ fu (by omega)]
        · rw [if_neg (fun z => y1 (z1'.mp z)), gd_p (g 2 (by omega)), c 2 (by omega), r2]
          by_cases y2 : 5 ≤ q f (45 + 4 * i + 2)
          · rw [if_pos (z2.mpr y2), bnd_v]
            dsimp only
            rw [nI_1, k2 _ fu (by omega)]
          · rw [if_neg (fun z => y2 (z2.mp z)), hR.r3, if_pos (z3'.mpr (by omega)), bnd_v]
            dsimp only
            rw [nI_1, k2 _ fu (by omega)]
theorem taps_e {F : Nat → Int32} {j : Nat} (h1 : j ≠ 1) (h4 : j ≠ 4) : SX4_runTaps F j = F j := by
  unfold SX4_runTaps
  simp only [lt_v, at_0, at_1, at_2, put_1, add_4]
  split
  · rw [upd_ne _ _ h4, upd_ne _ _ h1]
  · rfl
theorem outer (hN : 6 ≤ N) {n : Nat} (hn : n ≤ 60) : ∀ (d i : Nat) (T : Int) (f s : Nat → Int32), Rel f s → Good T f → T + d ≤ 1000000 → i + d = n → ∃ c f' s', (∀ acc fu, d + 1 ≤ fu → LX4_pass_4 N (nI n) fu f acc (nI i) = some (acc + c, f')) ∧ (∀ acc fu, d + 1 ≤ fu → LX6_doAdvance_20 N (nI n) 0 fu s acc (nI i) = some (acc + c, s', 0)) ∧ Rel f' s' ∧ Good (T + d) f' ∧ (∃ m : Nat, m ≤ 4 * d ∧ c = nI m) ∧ (∀ j, j ≠ 0 → j ≠ 1 → j ≠ 4 → j < 45 → f' j = f j) := by
  intro d
  induction d with
  | zero =>
    intro i T f s hR hG hT hi
    refine ⟨0, f, s, fun acc fu hf => ?_, fun acc fu hf => ?_, hR, hG.mono (by omega), ⟨0, by omega, rfl⟩, fun _ _ _ _ _ => rfl⟩
    · obtain ⟨fu, rfl⟩ : ∃ k, fu = k + 1 := ⟨fu - 1, by omega⟩
      rw [LX4_pass_4, if_pos (nI_le (by omega) (by omega)), add0]
    · obtain ⟨fu, rfl⟩ : ∃ k, fu = k + 1 := ⟨fu - 1, by omega⟩
      rw [LX6_doAdvance_20, if_pos (nI_le (by omega) (by omega)), add0]
  | succ d ih =>
    intro i T f s hR hG hT hi
    obtain ⟨S, t1, t2, t3⟩ := tick (N := N) hR hG (by omega)
    have h4 := t2.t4
    obtain ⟨c1, f1, s1, k1, k2, k3, k4, ⟨n1, y1, z1⟩, w1⟩ := inner (T := T + 1) hN (by omega) (tw (SX4_runTaps (upd f 0 (f 0 + 1)))) 0 _ _ t1 t2 (by omega)
    obtain ⟨c2, f2, s2, j1, j2, j3, j4, ⟨n2, y2, z2⟩, w2⟩ := ih (i + 1) (T + 1) f1 s1 k3 k4 (by omega) (by omega)
    refine ⟨c1 + c2, f2, s2, fun acc fu hf => ?_, fun acc fu hf => ?_, j3, j4.mono (by omega), ⟨n1 + n2, by omega, by rw [z1, z2, nI_add]⟩, fun j a b c e => by rw [w2 j a b c e, w1 j b e, taps_e b c, upd_ne _ _ a]⟩
    · obtain ⟨fu, rfl⟩ : ∃ k, fu = k + 1 := ⟨fu - 1, by omega⟩
      rw [LX4_pass_4, if_neg (nI_ge (by omega) (by omega)), add_0, lt_v, lt_v]
      refine (k1 _ acc N (by omega)).trans ?_
      dsimp only
      rw [nI_1, j1 _ fu (by omega), Int32.add_assoc]
    · obtain ⟨fu, rfl⟩ : ∃ k, fu = k + 1 := ⟨fu - 1, by omega⟩
      rw [LX6_doAdvance_20, if_neg (nI_ge (by omega) (by omega)), t3, show LX6_minute_58 N N S 0 0 = _ from k2 0 N (by omega), bnd_v]
      dsimp only
      rw [nI_1, j2 _ fu (by omega), Int32.zero_add, Int32.add_assoc]
theorem o_adv (hN : 62 ≤ N) (hR : Rel f s) (hG : Good T f) (hT : T + 60 ≤ 1000000) {n : Nat} (hn : n ≤ 60) (k : SX6_in (nI n) 1 60 = 1) : ∃ r f' s', SX4_pass N f (nI n) = some (r, f') ∧ SX6_doAdvance N 0 s (nI n) = some (r, s', 0) ∧ Rel f' s' ∧ Good (T + 60) f' ∧ (∃ m : Nat, m ≤ 240 ∧ r = nI m) ∧ (∀ j, j ≠ 0 → j ≠ 1 → j ≠ 4 → j < 45 → f' j = f j) := by
  obtain ⟨c, f', s', j1, j2, j3, j4, ⟨m, y, z⟩, w⟩ := outer (N := N) (by omega) hn n 0 T f s hR hG (by omega) (by omega)
  refine ⟨0 + c, f', s', j1 0 N (by omega), ?_, j3, j4.mono (by omega), ⟨m, by omega, by rw [z, Int32.zero_add]⟩, w⟩
  unfold SX6_doAdvance
  rw [k, if_neg (by decide)]
  exact j2 0 N (by omega)
theorem x_adv {a : Int32} (k : SX6_in a 1 60 = 0) : SX6_doAdvance N 0 s a = some (0, s, 1) := by
  unfold SX6_doAdvance SX6_fails
  rw [k, if_pos rfl, lt_v]
end PX
