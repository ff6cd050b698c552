/-! eclipses to come -/
theorem pl_eq {f : Nat → Int32} {j : Nat} (h : gMoon f j) (i : Nat) : pl f j i = (pl f j 0 + (ag f j % pr f j + i) / pr f j) % 12 := by
  obtain ⟨p1, p2, -⟩ := pr_b h
  have e := Nat.div_add_mod (ag f j) (pr f j)
  unfold pl
  have e2 : (ag f j + i) / pr f j = (ag f j % pr f j + i) / pr f j + ag f j / pr f j := by
    have e3 : ag f j + i = (ag f j % pr f j + i) + pr f j * (ag f j / pr f j) := by omega
    rw [e3, Nat.add_mul_div_left _ _ (by omega)]
  rw [e2, Nat.add_zero]
  omega
/-- moves that are wanted -/
def mv (f : Nat → Int32) (j : Nat) : Nat := ((q f 5).toNat + 18 - pl f j 0) % 12
def ec (f : Nat → Int32) (j : Nat) : Nat := if mv f j = 0 then 0 else um f j 0 + (mv f j - 1) * pr f j
theorem mul_le12 {a b : Nat} (ha : a ≤ 11) (hb : b ≤ 12) : a * b ≤ 132 := Nat.le_trans (Nat.mul_le_mul ha hb) (by omega)
theorem ec_b {f : Nat → Int32} {j : Nat} (h : gMoon f j) : ec f j ≤ 144 := by
  obtain ⟨p1, p2, -⟩ := pr_b h
  have u := um_b h 0
  have hm : mv f j < 12 := Nat.mod_lt _ (by omega)
  unfold ec
  split
  · omega
  · have := mul_le12 (a := mv f j - 1) (b := pr f j) (by omega) p2
    omega
theorem ec_sh {f : Nat → Int32} {j : Nat} (h : gMoon f j) (h5 : 0 ≤ q f 5 ∧ q f 5 ≤ 11) (i : Nat) (hi : i ≤ ec f j) : sh f (pl f j i) = true ↔ i = ec f j := by
  obtain ⟨p1, p2, -⟩ := pr_b h
  have hl := pl_lt f j 0
  have hm : mv f j < 12 := Nat.mod_lt _ (by omega)
  have hr := Nat.mod_lt (ag f j) (show 0 < pr f j by omega)
  have hP : (q f 5).toNat ≤ 11 := by omega
  rw [sh_t, pl_eq h i]
  generalize hk : (ag f j % pr f j + i) / pr f j = k
  have hu : um f j 0 = pr f j - ag f j % pr f j := by unfold um; rw [Nat.add_zero]
  have key : k ≤ mv f j ∧ (k = mv f j ↔ i = ec f j) := by
    by_cases h0 : mv f j = 0
    · have e : ec f j = 0 := if_pos h0
      have : i = 0 := by omega
      subst this
      rw [Nat.add_zero, Nat.div_eq_of_lt hr] at hk
      omega
    · have e : ec f j = um f j 0 + (mv f j - 1) * pr f j := if_neg h0
      rw [e, hu] at hi ⊢
      have e2 : mv f j * pr f j = (mv f j - 1) * pr f j + pr f j := by
        have : mv f j = (mv f j - 1) + 1 := by omega
        rw [this, Nat.add_mul, Nat.one_mul, Nat.add_sub_cancel]
      have c1 : k < mv f j ↔ ag f j % pr f j + i < mv f j * pr f j := by
        rw [← hk]
        exact Nat.div_lt_iff_lt_mul (by omega)
      have c2 : k < mv f j + 1 := by
        rw [← hk, Nat.div_lt_iff_lt_mul (by omega), Nat.add_mul, Nat.one_mul]
        omega
      omega
  unfold mv at key hm
  omega
theorem irm12 {a : Nat} (ha : a < 2147483648) : irm (nI a) 12 = nI (a % 12) := nI_irm (b := 12) ha (by omega) (by omega)
theorem ecl_v {f : Nat → Int32} (hG : TG f) {j : Nat} (hj : j < mo f) (h5 : 0 ≤ q f 5) : SX0_eclipse f (nI j) = nI (ec f j) := by
  have h9 := hG.mo5
  have h := hG.2.2.2 j hj
  have hp := hG.2.1
  obtain ⟨p1, p2, p3⟩ := pr_b h
  have u := um_b h 0
  have hl := pl_lt f j 0
  have hm : mv f j < 12 := Nat.mod_lt _ (by omega)
  have e5 : f 5 = nI (q f 5).toNat := q_n h5
  have e1 : SX4_plug f + 6 + 12 - SX4_placeAfter f (nI j) 0 = nI ((q f 5).toNat + 18 - pl f j 0) := by
    rw [plug_v, e5, show SX4_placeAfter f (nI j) 0 = _ from pl_c hG.1 (Int.le_refl _) h (by omega) (m := 0) (by omega), show nI (q f 5).toNat + 6 + 12 = nI ((q f 5).toNat + 18) by
      rw [show nI (q f 5).toNat + 6 = nI ((q f 5).toNat + 6) from nI_add _ 6]
      exact nI_add _ 12]
    rw [iI_n, iI_n, iI_sub, iI_n]
    congr 1; omega
  unfold SX0_eclipse
  rw [e1, irm12 (by omega), lt_v]
  show (if nI (mv f j) = 0 then 0 else SX0_untilMove f (nI j) 0 + (nI (mv f j) - 1) * SX4_periodOf f (nI j)) = _
  have hz : nI (mv f j) = 0 ↔ mv f j = 0 := nI_0eq (by omega)
  unfold ec
  by_cases h0 : mv f j = 0
  · rw [if_pos (hz.mpr h0), if_pos h0]
    rfl
  · rw [if_neg (fun c => h0 (hz.mp c)), if_neg h0, show SX0_untilMove f (nI j) 0 = _ from um_c hG hj (m := 0) (by omega), per_v f (by omega), p3]
    have e2 : nI (mv f j) - 1 = nI (mv f j - 1) := by
      rw [iI_n, show (1 : Int32) = iI 1 from iI_n 1, iI_sub, iI_n]
      congr 1; omega
    rw [e2, nI_mul, nI_add]
theorem ecl_s {f s : Nat → Int32} (hR : Rel f s) (hG : TG f) {j : Nat} (hj : j < mo f) (h5 : 0 ≤ q f 5) : ∀ (d i fu : Nat), i + d = ec f j → d + 1 ≤ fu → LX6_eclipseIn_33 0 s (nI j) fu (nI i) = some (nI (ec f j), 0) := by
  have h9 := hG.mo5
  have h := hG.2.2.2 j hj
  have hb := ec_b h
  intro d
  induction d with
  | zero =>
    intro i fu hi hf
    obtain ⟨fu, rfl⟩ : ∃ k, fu = k + 1 := ⟨fu - 1, by omega⟩
    have hs := (ec_sh h ⟨h5, hG.2.1.2⟩ i (by omega)).mpr (by omega)
    rw [LX6_eclipseIn_33, if_pos rfl, shade_s hR hG hj (by omega), bnd_v, if_pos hs, if_neg (by decide), show i = ec f j by omega]
  | succ d ih =>
    intro i fu hi hf
    obtain ⟨fu, rfl⟩ : ∃ k, fu = k + 1 := ⟨fu - 1, by omega⟩
    have hs : ¬ sh f (pl f j i) = true := fun c => by
      have := (ec_sh h ⟨h5, hG.2.1.2⟩ i (by omega)).mp c
      omega
    rw [LX6_eclipseIn_33, if_pos rfl, shade_s hR hG hj (by omega), bnd_v, if_neg hs, if_pos rfl, nI_1]
    exact ih (i + 1) fu (by omega) (by omega)
/-! tides by steps -/
def StR (f A P M : Nat → Int32) (t : Nat) (j : Nat) : Prop := A j = nI (ag f j + t) ∧ P j = nI (pl f j t) ∧ M j = nI (ma f j t)
theorem at5 (f : Nat → Int32) {k : Nat} (hk : k < 5) : SX2_at 5 f (nI k) = f k := at_n (n := 5) f hk (by omega)
theorem put5 (f : Nat → Int32) {k : Nat} (x : Int32) (hk : k < 5) : SX2_put 5 f (nI k) x = upd f k x := put_n (n := 5) f x hk (by omega)
theorem add5 (f : Nat → Int32) {k : Nat} (x : Int32) (hk : k < 5) : SX2_add 5 f (nI k) x = upd f k (f k + x) := add_n (n := 5) f x hk (by omega)
theorem pl_succ {f : Nat → Int32} {j : Nat} (h : gMoon f j) (t : Nat) : pl f j (t + 1) = if (ag f j + (t + 1)) % pr f j = 0 then (pl f j t + 1) % 12 else pl f j t := by
  obtain ⟨p1, p2, -⟩ := pr_b h
  have hs := @Nat.succ_div (ag f j + t) (pr f j)
  unfold pl
  rw [show ag f j + (t + 1) = ag f j + t + 1 by omega, hs]
  by_cases c : pr f j ∣ ag f j + t + 1
  · rw [if_pos c, if_pos (Nat.mod_eq_zero_of_dvd c)]
    omega
  · rw [if_neg c, if_neg (fun z => c (Nat.dvd_of_mod_eq_zero z))]
    omega
theorem step_v {f A P M : Nat → Int32} (hG : TG f) {j : Nat} (hj : j < mo f) {t : Nat} (ht : t ≤ 2000) (hS : StR f A P M t j) : ∃ A' P' M', SX0_step A P M f (nI j) = (A', P', M') ∧ StR f A' P' M' (t + 1) j ∧ ∀ k, k ≠ j → A' k = A k ∧ P' k = P k ∧ M' k = M k := by
  have h9 := hG.mo5
  have h := hG.2.2.2 j hj
  have ha := ag_le hG.1 (Int.le_refl _) h
  obtain ⟨p1, p2, p3⟩ := pr_b h
  obtain ⟨k1, k2⟩ := kd_b h
  obtain ⟨c1, c2, c3⟩ := m1_b h
  have hl := pl_lt f j t
  obtain ⟨s1, s2, s3⟩ := hS
  have hml := ma_le h t
  have eA : A j + 1 = nI (ag f j + (t + 1)) := by rw [s1, nI_1]; rfl
  have hlt : SX4_periodOf f (nI j) = nI (pr f j) := by rw [per_v f (by omega), p3]
  have hkd : SX4_kindOf f (nI j) = nI (kd f j) := by rw [kind_v f (by omega), k2]
  have hm1 : SX4_firstMassOf f (nI j) = nI (m1 f j) := by rw [mass1_v f (by omega), c3]
  have n1 : ¬ nI (pr f j) < 1 := nI_nlt (b := 1) p1 (by omega)
  have e10 : irm (nI (ag f j + (t + 1))) 10 = nI ((ag f j + (t + 1)) % 10) := nI_irm (b := 10) (by omega) (by omega) (by omega)
  have hz10 : nI ((ag f j + (t + 1)) % 10) = 0 ↔ (ag f j + (t + 1)) % 10 = 0 := nI_0eq (by omega)
  have hz2 : nI ((ag f j + (t + 1)) % 2) = 0 ↔ (ag f j + (t + 1)) % 2 = 0 := nI_0eq (by omega)
  have hpl : (ag f j + (t + 1)) % pr f j < pr f j := Nat.mod_lt _ (by omega)
  have hzp : nI ((ag f j + (t + 1)) % pr f j) = 0 ↔ (ag f j + (t + 1)) % pr f j = 0 := nI_0eq (by omega)
  have hk1 : nI (kd f j) = 1 ↔ kd f j = 1 := nI_1eq (by omega)
  have hk2 : nI (kd f j) = 2 ↔ kd f j = 2 := nI_2eq (by omega)
  have hM0 : nI (ma f j t) ≤ 0 ↔ ma f j t ≤ 0 := nI_leI (b := 0) (by omega) (by omega)
  have eP : (if nI (pr f j) < 1 then P else if irm (nI (ag f j + (t + 1))) (nI (pr f j)) = 0 then upd P j (irm (P j + 1) 12) else P) j = nI (pl f j (t + 1)) := by
    rw [if_neg n1, nI_irm (by omega) (by omega) (by omega), pl_succ h t]
    by_cases c : (ag f j + (t + 1)) % pr f j = 0
    · rw [if_pos (hzp.mpr c), if_pos c, upd_same, s2, nI_1, irm12 (by omega)]
    · rw [if_neg (fun z => c (hzp.mp z)), if_neg c, s2]
  have oP : ∀ k, k ≠ j → (if nI (pr f j) < 1 then P else if irm (nI (ag f j + (t + 1))) (nI (pr f j)) = 0 then upd P j (irm (P j + 1) 12) else P) k = P k := by
    intro k hk
    split
    · rfl
    · split
      · exact upd_ne _ _ hk
      · rfl
  generalize eQ : (if nI (pr f j) < 1 then P else if irm (nI (ag f j + (t + 1))) (nI (pr f j)) = 0 then upd P j (irm (P j + 1) 12) else P) = P1 at eP oP
  have eM : ∃ M1, (if nI (kd f j) = 1 then if irm (nI (ag f j + (t + 1))) 10 = 0 then if M j ≤ 0 then M else upd M j (M j + -1) else M else M) = M1 ∧ (kd f j ≠ 2 → M1 j = nI (ma f j (t + 1))) ∧ ∀ k, k ≠ j → M1 k = M k := by
    refine ⟨_, rfl, ?_, ?_⟩
    · intro hn2
      unfold ma at s3 hM0 ⊢
      rw [e10, s3]
      by_cases h1 : kd f j = 1
      · rw [if_pos (hk1.mpr h1), if_pos h1, if_pos h1] at *
        by_cases hc : (ag f j + (t + 1)) % 10 = 0
        · rw [if_pos (hz10.mpr hc)]
          by_cases hm : m1 f j - (ag f j + t) / 10 ≤ 0
          · rw [if_pos (hM0.mpr hm), s3]
            congr 1; omega
          · rw [if_neg (fun z => hm (hM0.mp z)), upd_same, show (-1 : Int32) = iI (-1) from rfl, iI_n, iI_add, iI_n]
            congr 1; omega
        · rw [if_neg (fun z => hc (hz10.mp z)), s3]
          congr 1; omega
      · rw [if_neg (fun z => h1 (hk1.mp z)), s3, if_neg h1, if_neg hn2, if_neg h1, if_neg hn2]
    · intro k hk
      repeat' split
      all_goals first | rfl | exact upd_ne _ _ hk
  obtain ⟨M1, eM1, hMj, oM⟩ := eM
  have hst : SX0_step A P M f (nI j) = if nI (kd f j) = 2 then (upd A j (nI (ag f j + (t + 1))), P1, upd M1 j (if irm (nI (ag f j + (t + 1))) 2 = 0 then nI (m1 f j) else nI (m1 f j) / 2)) else (upd A j (nI (ag f j + (t + 1))), P1, M1) := by
    unfold SX0_step
    rw [add5 A 1 (by omega), eA, lt_v, hlt, hkd, hm1, at5 _ (by omega), upd_same, at5 _ (by omega), at5 _ (by omega), put5 _ _ (by omega), add5 _ _ (by omega)]
    simp only [lt_v]
    rw [eQ, eM1, put5 _ _ (by omega)]
  rw [hst]
  by_cases h2 : kd f j = 2
  · rw [if_pos (hk2.mpr h2)]
    refine ⟨_, _, _, rfl, ⟨upd_same _ _ _, eP, ?_⟩, fun k hk => ⟨upd_ne _ _ hk, oP k hk, (upd_ne _ _ hk).trans (oM k hk)⟩⟩
    rw [upd_same, nI_par (by omega), nI_half (by omega)]
    unfold ma
    rw [if_neg (show ¬ kd f j = 1 by omega), if_pos h2]
    by_cases c : (ag f j + (t + 1)) % 2 = 0
    · rw [if_pos (hz2.mpr c), if_pos c]
    · rw [if_neg (fun z => c (hz2.mp z)), if_neg c]
  · rw [if_neg (fun z => h2 (hk2.mp z))]
    exact ⟨_, _, _, rfl, ⟨upd_same _ _ _, eP, hMj h2⟩, fun k hk => ⟨upd_ne _ _ hk, oP k hk, oM k hk⟩⟩
theorem steps_in {f : Nat → Int32} (hG : TG f) {t : Nat} (ht : t ≤ 2000) {K : (Int32 × (Nat → Int32) × (Nat → Int32) × (Nat → Int32)) → Option (Int32 × (Nat → Int32) × (Nat → Int32) × (Nat → Int32))} : ∀ (d i fu : Nat) (A P M : Nat → Int32), i + d = mo f → d + 1 ≤ fu → (∀ k, k < i → StR f A P M (t + 1) k) → (∀ k, i ≤ k → k < mo f → StR f A P M t k) → ∃ A' P' M' x, LX0_steppedTide_77 K f fu A P M (nI i) = K (x, A', P', M') ∧ ∀ k, k < mo f → StR f A' P' M' (t + 1) k := by
  have h5 := hG.mo5
  intro d
  induction d with
  | zero =>
    intro i fu A P M hi hf h1 h2
    obtain ⟨fu, rfl⟩ : ∃ k, fu = k + 1 := ⟨fu - 1, by omega⟩
    refine ⟨A, P, M, nI i, ?_, fun k hk => h1 k (by omega)⟩
    rw [LX0_steppedTide_77, moons_v, hG.f6, if_pos (nI_le (by omega) (by omega))]
  | succ d ih =>
    intro i fu A P M hi hf h1 h2
    obtain ⟨fu, rfl⟩ : ∃ k, fu = k + 1 := ⟨fu - 1, by omega⟩
    obtain ⟨A1, P1, M1, e1, e2, e3⟩ := step_v hG (j := i) (by omega) ht (h2 i (Nat.le_refl _) (by omega))
    rw [LX0_steppedTide_77, moons_v, hG.f6, if_neg (nI_ge (by omega) (by omega)), e1, lt_v, nI_1]
    refine ih (i + 1) fu A1 P1 M1 (by omega) (by omega) (fun k hk => ?_) (fun k hk hk2 => ?_)
    · by_cases c : k = i
      · subst c; exact e2
      · obtain ⟨z1, z2, z3⟩ := e3 k c
        have := h1 k (by omega)
        exact ⟨z1.trans this.1, z2.trans this.2.1, z3.trans this.2.2⟩
    · obtain ⟨z1, z2, z3⟩ := e3 k (by omega)
      have := h2 k (by omega) hk2
      exact ⟨z1.trans this.1, z2.trans this.2.1, z3.trans this.2.2⟩
theorem steps_sum {f : Nat → Int32} (hG : TG f) {p : Nat} (hp : p < 12) {m : Nat} {A P M : Nat → Int32} (hS : ∀ k, k < mo f → StR f A P M m k) : ∀ (d i fu : Nat) (acc : Int), i + d = mo f → d + 1 ≤ fu → -(18 * (i : Int)) ≤ acc ∧ acc ≤ 18 * (i : Int) → LX0_steppedTide_111 f (nI p) A P M fu (iI acc) (nI i) = some (iI (dm f p (acc + SU f p m i d)), A, P, M) := by
  have h5 := hG.mo5
  intro d
  induction d with
  | zero =>
    intro i fu acc hi hf ha
    obtain ⟨fu, rfl⟩ : ∃ k, fu = k + 1 := ⟨fu - 1, by omega⟩
    rw [LX0_steppedTide_111, moons_v, hG.f6, if_pos (nI_le (by omega) (by omega)), damped_c hp (by omega)]
    simp only [SU, Int.add_zero]
  | succ d ih =>
    intro i fu acc hi hf ha
    obtain ⟨fu, rfl⟩ : ∃ k, fu = k + 1 := ⟨fu - 1, by omega⟩
    have hb := pu_b (hG.2.2.2 i (by omega)) m hp
    obtain ⟨-, s2, s3⟩ := hS i (by omega)
    have e : SX4_pull f (nI (ma f i m)) (nI (pl f i m)) (nI p) = iI (pu f i m p) := by
      unfold SX4_pull pu
      rw [ecl_c hG.2.1 (pl_lt f i m), dist_v _ (pl_lt f i m) p hp]
      by_cases h : sh f (pl f i m) = true
      · rw [if_pos h, if_pos h, if_neg (by decide), z_iI]
      · rw [if_neg h, if_neg h, if_pos rfl, mul3]
    rw [LX0_steppedTide_111, moons_v, hG.f6, if_neg (nI_ge (by omega) (by omega)), lt_v, at5 _ (by omega), at5 _ (by omega), s2, s3, e, iI_add, nI_1, ih (i + 1) fu _ (by omega) (by omega) (by omega)]
    simp only [SU, Int.add_assoc]
theorem steps_out {f : Nat → Int32} (hG : TG f) {p : Nat} (hp : p < 12) {m : Nat} (hm : m ≤ 2000) {N : Nat} (hN : 6 ≤ N) : ∀ (d t fu : Nat) (A P M : Nat → Int32), t + d = m → d + 1 ≤ fu → (∀ k, k < mo f → StR f A P M t k) → ∃ A' P' M', LX0_steppedTide_68 N (nI m) f (nI p) fu A P M (nI t) = some (iI (TI f p m), A', P', M') := by
  have h5 := hG.mo5
  intro d
  induction d with
  | zero =>
    intro t fu A P M ht hf hS
    obtain ⟨fu, rfl⟩ : ∃ k, fu = k + 1 := ⟨fu - 1, by omega⟩
    have e : t = m := by omega
    subst e
    refine ⟨A, P, M, ?_⟩
    rw [LX0_steppedTide_68, if_pos (nI_le (by omega) (by omega))]
    have h := steps_sum hG hp hS (mo f) 0 N 0 (by omega) (by omega) (by omega)
    rw [← z_iI, Int.zero_add] at h
    exact h
  | succ d ih =>
    intro t fu A P M ht hf hS
    obtain ⟨fu, rfl⟩ : ∃ k, fu = k + 1 := ⟨fu - 1, by omega⟩
    rw [LX0_steppedTide_68, if_neg (nI_ge (by omega) (by omega))]
    obtain ⟨A1, P1, M1, x, e1, e2⟩ := steps_in hG (t := t) (by omega) (K := fun o5 : Int32 × (Nat → Int32) × (Nat → Int32) × (Nat → Int32) => LX0_steppedTide_68 N (nI m) f (nI p) fu o5.2.1 o5.2.2.1 o5.2.2.2 (nI t + 1)) (mo f) 0 N A P M (by omega) (by omega) (fun k hk => by omega) (fun k _ hk => hS k hk)
    obtain ⟨A2, P2, M2, e3⟩ := ih (t + 1) fu A1 P1 M1 (by omega) (by omega) e2
    refine ⟨A2, P2, M2, ?_⟩
    rw [show (0 : Int32) = nI 0 from rfl, e1]
    dsimp only
    rw [nI_1, e3]
theorem steps_init {f : Nat → Int32} (hG : TG f) {p : Nat} (hp : p < 12) {m : Nat} (hm : m ≤ 2000) {N : Nat} (hN : m + 6 ≤ N) : ∀ (d i fu : Nat) (A P M : Nat → Int32), i + d = mo f → d + 1 ≤ fu → (∀ k, k < i → StR f A P M 0 k) → ∃ A' P' M', LX0_steppedTide_3 N f (nI m) (nI p) fu A P M (nI i) = some (iI (TI f p m), A', P', M') := by
  have h5 := hG.mo5
  intro d
  induction d with
  | zero =>
    intro i fu A P M hi hf hS
    obtain ⟨fu, rfl⟩ : ∃ k, fu = k + 1 := ⟨fu - 1, by omega⟩
    rw [LX0_steppedTide_3, moons_v, hG.f6, if_pos (nI_le (by omega) (by omega))]
    exact steps_out hG hp hm (by omega) m 0 N A P M (by omega) (by omega) (fun k hk => hS k (by omega))
  | succ d ih =>
    intro i fu A P M hi hf hS
    obtain ⟨fu, rfl⟩ : ∃ k, fu = k + 1 := ⟨fu - 1, by omega⟩
    have hg := hG.2.2.2 i (by omega)
    rw [LX0_steppedTide_3, moons_v, hG.f6, if_neg (nI_ge (by omega) (by omega)), put5 _ _ (by omega), lt_v, put5 _ _ (by omega), lt_v, put5 _ _ (by omega), lt_v, nI_1, age_n hG.1 (Int.le_refl _) hg (by omega), show SX4_placeAfter f (nI i) 0 = _ from pl_c hG.1 (Int.le_refl _) hg (by omega) (m := 0) (by omega), show SX4_massAfter f (nI i) 0 = _ from ma_c hG.1 (Int.le_refl _) hg (by omega) (m := 0) (by omega)]
    refine ih (i + 1) fu _ _ _ (by omega) (by omega) (fun k hk => ?_)
    by_cases c : k = i
    · subst c
      exact ⟨upd_same _ _ _, upd_same _ _ _, upd_same _ _ _⟩
    · have := hS k (by omega)
      exact ⟨(upd_ne _ _ c).trans this.1, (upd_ne _ _ c).trans this.2.1, (upd_ne _ _ c).trans this.2.2⟩
theorem steps_c {f : Nat → Int32} (hG : TG f) {p : Nat} (hp : p < 12) {m : Nat} (hm : m ≤ 2000) {N : Nat} (hN : m + 6 ≤ N) (A P M : Nat → Int32) : ∃ A' P' M', SX0_steppedTide N A P M f (nI p) (nI m) = some (iI (TI f p m), A', P', M') := by
  have h5 := hG.mo5
  exact steps_init hG hp hm hN (mo f) 0 N A P M (by omega) (by omega) (fun k hk => by omega)
