/-! towels -/
theorem i_eq {P : Int32 → Int32 → Int32 → Int32 → Int32 → Prop} (h : ∀ a b c d e : Int, P (iI a) (iI b) (iI c) (iI d) (iI e)) (a b c d e : Int32) : P a b c d e := by
  rw [iI_of a, iI_of b, iI_of c, iI_of d, iI_of e]
  exact h _ _ _ _ _
theorem wr_sum (a m c b S : Int32) : (a + m) + (c + (b - m)) + (S + 0 - b) = a + c + S := by
  refine i_eq (P := fun a m c b S => (a + m) + (c + (b - m)) + (S + 0 - b) = a + c + S) ?_ a m c b S
  intro a m c b S
  simp only [z_iI, iI_add, iI_sub]
  congr 1; omega
theorem so_sum (a c S x : Int32) : (a - 1) + c + (S + (x + 1) - x) = a + c + S := by
  refine i_eq (P := fun a c S x _ => (a - 1) + c + (S + (x + 1) - x) = a + c + S) ?_ a c S x 0
  intro a c S x _
  simp only [show (1 : Int32) = iI 1 from iI_n 1, iI_add, iI_sub]
  congr 1; omega
theorem tap_sum (a c S g b : Int32) (h : a + c + S = 20 + g) : b + c + S = 20 + (g + (b - a)) := by
  have e : b + c + S = (a + c + S) + (b - a) := by
    refine i_eq (P := fun a c S b _ => b + c + S = (a + c + S) + (b - a)) ?_ a c S b 0
    intro a c S b _
    simp only [iI_add, iI_sub]
    congr 1; omega
  rw [e, h, Int32.add_assoc]
theorem add0 (x : Int32) : x + 0 = x := by
  rw [iI_of x, z_iI, iI_add, Int.add_zero]
theorem sub_add_c (S x y : Int32) : S + x - y + 0 = S + x - y := add0 _
theorem add_sub_r (S x y z : Int32) : S + x - y + z = S + z + x - y := by
  refine i_eq (P := fun S x y z _ => S + x - y + z = S + z + x - y) ?_ S x y z 0
  intro S x y z _
  simp only [iI_add, iI_sub]
  congr 1; omega
theorem add_sub_s (S x y : Int32) : S + x = S + y + x - y := by
  refine i_eq (P := fun S x y _ _ => S + x = S + y + x - y) ?_ S x y 0 0
  intro S x y _ _
  simp only [iI_add, iI_sub]
  congr 1; omega
theorem absS_u {f : Nat → Int32} {t : Nat} (x : Int32) : ∀ n : Nat, absS (upd f (45 + 4 * t + 2) x) n = if t < n then absS f n + x - f (45 + 4 * t + 2) else absS f n := by
  intro n
  induction n with
  | zero => rfl
  | succ n ih =>
    simp only [absS]
    rw [ih]
    by_cases c : t = n
    · subst c
      rw [if_neg (by omega), if_pos (by omega), upd_same]
      exact add_sub_s _ _ _
    · rw [upd_ne f x (show 45 + 4 * n + 2 ≠ 45 + 4 * t + 2 by omega)]
      by_cases c2 : t < n
      · rw [if_pos c2, if_pos (by omega)]
        exact add_sub_r _ _ _ _
      · rw [if_neg c2, if_neg (by omega)]
section PW
variable {T : Int} {f s : Nat → Int32} {N : Nat}
def lat (f : Nat → Int32) (x : Int32) : Nat → Nat → Bool
  | 0, _ => false
  | d + 1, i => decide (f (45 + 4 * i + 0) = x) || lat f x d (i + 1)
theorem lat_c (hG : Good T f) (x : Int32) : ∀ (d i fu : Nat), i + d = tw f → d + 1 ≤ fu → LX4_isTowelAt_2 f x fu (nI i) = some (if lat f x d i then 1 else 0) := by
  have h4 := hG.t4
  intro d
  induction d with
  | zero =>
    intro i fu hi hf
    obtain ⟨fu, rfl⟩ : ∃ k, fu = k + 1 := ⟨fu - 1, by omega⟩
    rw [LX4_isTowelAt_2, towels_v, hG.f7, if_pos (nI_le (by omega) (by omega))]
    rfl
  | succ d ih =>
    intro i fu hi hf
    obtain ⟨fu, rfl⟩ : ∃ k, fu = k + 1 := ⟨fu - 1, by omega⟩
    rw [LX4_isTowelAt_2, towels_v, hG.f7, if_neg (nI_ge (by omega) (by omega)), show SX4_ofTowel f (nI i) 0 = _ from tow_v f (t := i) (k := 0) (by omega) (by omega)]
    by_cases c : f (45 + 4 * i + 0) = x
    · have el : lat f x (d + 1) i = true := by
        simp only [lat]
        rw [decide_eq_true c]
        rfl
      rw [if_pos c, el]
      rfl
    · have el : lat f x (d + 1) i = lat f x d (i + 1) := by
        simp only [lat]
        rw [decide_eq_false c]
        rfl
      rw [if_neg c, nI_1, ih (i + 1) fu (by omega) (by omega), el]
theorem lat_s (hR : Rel f s) (hG : Good T f) (x : Int32) : ∀ (d i fu : Nat) (b : Bool), i + d = tw f → d + 1 ≤ fu → LX6_isLaid_4 s x fu (if b then 1 else 0) (nI i) = some (if b || lat f x d i then 1 else 0) := by
  have h4 := hG.t4
  intro d
  induction d with
  | zero =>
    intro i fu b hi hf
    obtain ⟨fu, rfl⟩ : ∃ k, fu = k + 1 := ⟨fu - 1, by omega⟩
    rw [LX6_isLaid_4, hR.r1, hG.f7, if_pos (nI_le (by omega) (by omega))]
    cases b
    · exact gd_p nar_0
    · exact gd_p nar_1
  | succ d ih =>
    intro i fu b hi hf
    obtain ⟨fu, rfl⟩ : ∃ k, fu = k + 1 := ⟨fu - 1, by omega⟩
    rw [LX6_isLaid_4, hR.r1, hG.f7, if_neg (nI_ge (by omega) (by omega)), show SX6_ofTowel s (nI i) 0 = _ from ofTow_v hR (j := i) (k := 0) (by omega) (by omega), bnd_v]
    simp only [lat]
    have e : (if (if b then (1 : Int32) else 0) = 0 then (if f (45 + 4 * i + 0) = x then some (1 : Int32) else some 0) else some 1) = some (if b || decide (f (45 + 4 * i + 0) = x) then 1 else 0) := by
      by_cases c : f (45 + 4 * i + 0) = x
      · rw [if_pos c, decide_eq_true c]
        cases b <;> rfl
      · rw [if_neg c, decide_eq_false c]
        cases b <;> rfl
    rw [e, bnd_v, nI_1, ih (i + 1) fu _ (by omega) (by omega)]
    cases b
    · rfl
    · rfl
theorem canTow (hN : 62 ≤ N) (hR : Rel f s) (hG : Good T f) (x : Int32) : (tw f < 4 ∧ SX4_canPutTowel N f x = some 1 ∧ SX6_isLaid N s x = some 0) ∨ (SX4_canPutTowel N f x = some 0 ∧ ((tw f = 4 ∧ SX6_isLaid N s x = some 0) ∨ SX6_isLaid N s x = some 1)) := by
  have h4 := hG.t4
  have e1 : SX4_isTowelAt N f x = _ := lat_c hG x (tw f) 0 N (by omega) (by omega)
  have e2 : SX6_isLaid N s x = _ := lat_s hR hG x (tw f) 0 N false (by omega) (by omega)
  unfold SX4_canPutTowel
  rw [e1, e2, bnd_v, towels_v, hG.f7]
  cases lat f x (tw f) 0
  · by_cases c : tw f < 4
    · refine Or.inl ⟨c, ?_, rfl⟩
      rw [if_pos (by decide), if_neg (show ¬ (4 : Int32) ≤ nI (tw f) from nI_ge (b := 4) c (by omega))]
    · refine Or.inr ⟨?_, Or.inl ⟨by omega, rfl⟩⟩
      rw [if_pos (by decide), if_pos (show (4 : Int32) ≤ nI (tw f) from nI_le (a := 4) (by omega) (by omega))]
  · refine Or.inr ⟨?_, Or.inr rfl⟩
    rw [if_neg (by decide)]
def to3 (f : Nat → Int32) (t : Nat) (x1 x2 : Int32) : Nat → Int32 := upd (upd (upd (upd f (45 + 4 * t + 0) x1) (45 + 4 * t + 1) x2) (45 + 4 * t + 2) 0) (45 + 4 * t + 3) 0
theorem to3_e (f : Nat → Int32) (t : Nat) (x1 x2 : Int32) {i : Nat} (h : ¬ (45 + 4 * t ≤ i ∧ i < 49 + 4 * t)) : to3 f t x1 x2 i = f i := by
  unfold to3
  rw [upd_ne _ _ (by omega), upd_ne _ _ (by omega), upd_ne _ _ (by omega), upd_ne _ _ (by omega)]
theorem to3_0 (f : Nat → Int32) (t : Nat) (x1 x2 : Int32) : to3 f t x1 x2 (45 + 4 * t + 0) = x1 := by
  unfold to3
  rw [upd_ne _ _ (by omega), upd_ne _ _ (by omega), upd_ne _ _ (by omega), upd_same]
theorem to3_1 (f : Nat → Int32) (t : Nat) (x1 x2 : Int32) : to3 f t x1 x2 (45 + 4 * t + 1) = x2 := by
  unfold to3
  rw [upd_ne _ _ (by omega), upd_ne _ _ (by omega), upd_same]
theorem to3_2 (f : Nat → Int32) (t : Nat) (x1 x2 : Int32) : to3 f t x1 x2 (45 + 4 * t + 2) = 0 := by
  unfold to3
  rw [upd_ne _ _ (by omega), upd_same]
theorem putTow_v (hG : Good T f) (h : tw f < 4) (x1 x2 : Int32) : SX4_putTowel f x1 x2 = (nI (tw f), upd (to3 f (tw f) x1 x2) 7 (nI (tw f + 1))) := by
  generalize hj : tw f = j at h
  have a0 : nI (45 + 4 * j) + 0 = nI (45 + 4 * j + 0) := nI_add _ 0
  have a1 : nI (45 + 4 * j) + 1 = nI (45 + 4 * j + 1) := nI_add _ 1
  have a2 : nI (45 + 4 * j) + 2 = nI (45 + 4 * j + 2) := nI_add _ 2
  have a3 : nI (45 + 4 * j) + 3 = nI (45 + 4 * j + 3) := nI_add _ 3
  have z : ∀ (F : Nat → Int32) (k : Nat) (x : Int32), k < 4 → SX2_put 61 F (nI (45 + 4 * j + k)) x = upd F (45 + 4 * j + k) x := fun F k x hk => put_n F x (by omega) (by omega)
  have f7 : f 7 = nI j := by rw [← hj]; exact hG.f7
  unfold SX4_putTowel
  rw [towels_v, f7, e_t0, lt_v, a0, a1, a2, a3, z _ 0 _ (by omega), lt_v, z _ 1 _ (by omega), lt_v, z _ 2 _ (by omega), lt_v, z _ 3 _ (by omega), lt_v, put_7, lt_v, nI_1]
  rfl
theorem tw_n {n : Nat} (h : n < 2147483648) (F : Nat → Int32) : tw (upd F 7 (nI n)) = n := by
  unfold tw
  rw [q_same, nI_toInt h]
  rfl
theorem o_tow (hN : 62 ≤ N) (hR : Rel f s) (hG : Good T f) (h : tw f < 4) {p m : Nat} (hp : p < 12) (hm : m ≤ 60) (k1 : SX6_in (nI m) 0 60 = 1) (k2 : SX6_isLaid N s (nI p) = some 0) : ∃ r f' s', SX4_putTowel f (nI p) (nI m) = (r, f') ∧ SX6_doLayTowel N 0 s (nI p) (nI m) = some (r, s', 0) ∧ Rel f' s' ∧ Good T f' := by
  have e : ∀ i, i ≠ 7 → upd (to3 f (tw f) (nI p) (nI m)) 7 (nI (tw f + 1)) i = to3 f (tw f) (nI p) (nI m) i := fun i hi => upd_ne _ _ hi
  refine ⟨_, _, upd (upd (upd (upd (upd s (44 + 4 * tw f) (nI p)) (44 + 4 * tw f + 1) (nI m)) (44 + 4 * tw f + 2) 0) (44 + 4 * tw f + 3) 0) 1 (nI (tw f + 1)), putTow_v hG h _ _, ?_, ?_, ?_⟩
  · have hf7 := hG.f7
    generalize tw f = j at h hf7
    have b1 : nI (44 + 4 * j) + 1 = nI (44 + 4 * j + 1) := nI_add _ 1
    have b2 : nI (44 + 4 * j) + 2 = nI (44 + 4 * j + 2) := nI_add _ 2
    have b3 : nI (44 + 4 * j) + 3 = nI (44 + 4 * j + 3) := nI_add _ 3
    have g : ∀ k, k < 4 → vp_in (nI (44 + 4 * j + k)) 60 := fun k hk => vp_in_nI (by omega) (by omega)
    have c : ∀ k, k < 4 → (nI (44 + 4 * j + k)).toNatClampNeg = 44 + 4 * j + k := fun k hk => nI_clamp (by omega)
    have g0 : vp_in (nI (44 + 4 * j)) 60 := g 0 (by omega)
    have c0 : (nI (44 + 4 * j)).toNatClampNeg = 44 + 4 * j := c 0 (by omega)
    have s1 : s 1 = nI j := by rw [hR.r1, hf7]
    unfold SX6_doLayTowel
    rw [posn_1 hp, bnd_v, if_neg (by decide), k1, if_neg (by decide), k2, bnd_v, if_pos rfl, s1, if_neg (fun z => by have := (nI_eq (a := j) (b := 4) (by omega) (by omega)).mp z; omega), s_t0, b1, b2, b3, gd_p g0, gd_p (g 1 (by omega)), gd_p (g 2 (by omega)), gd_p (g 3 (by omega)), c0, c 1 (by omega), c 2 (by omega), c 3 (by omega), upd_ne (j := 1) _ _ (by omega), upd_ne (j := 1) _ _ (by omega), upd_ne (j := 1) _ _ (by omega), upd_ne (j := 1) _ _ (by omega), s1, lt_v, nI_1]
  · unfold to3
    exact ((((hR.up (nI p) (i := 44 + 4 * tw f) (k := 45 + 4 * tw f + 0) (by rw [tau_ge (by omega)]; omega)).up (nI m) (i := 44 + 4 * tw f + 1) (k := 45 + 4 * tw f + 1) (by rw [tau_ge (by omega)]; omega)).up 0 (i := 44 + 4 * tw f + 2) (k := 45 + 4 * tw f + 2) (by rw [tau_ge (by omega)]; omega)).up 0 (i := 44 + 4 * tw f + 3) (k := 45 + 4 * tw f + 3) (by rw [tau_ge (by omega)]; omega)).up (nI (tw f + 1)) (i := 1) (k := 7) rfl
  · have hw := hG.2.2.2.2.2.2.2.2.2.1
    have hb := hG.2.2.2.2.2.2.2.2.2.2
    have h0 : 0 ≤ q f 0 ∧ q f 0 ≤ T := hG.1
    have h1 : 0 ≤ q f 1 ∧ q f 1 ≤ 40 := hG.2.1
    have ee : ∀ i, i < 45 → i ≠ 7 → upd (to3 f (tw f) (nI p) (nI m)) 7 (nI (tw f + 1)) i = f i := fun i h1 h2 => by rw [e i h2, to3_e _ _ _ _ (by omega)]
    have e7 : q (upd (to3 f (tw f) (nI p) (nI m)) 7 (nI (tw f + 1))) 7 = ((tw f + 1 : Nat) : Int) := by rw [q_same, nI_toInt (by omega)]
    refine hG.water (fun i a b c d e g => ee i a g) (by rw [q_c (ee 0 (by omega) (by omega))]; omega) (by rw [q_c (ee 1 (by omega) (by omega))]; omega) (by rw [e7]; omega) ?_ ?_
    · rw [tw_n (by omega)]
      intro t ht
      by_cases c : t = tw f
      · subst c
        unfold gTow
        rw [q_nI ((e _ (by omega)).trans (to3_0 f (tw f) _ _)) (by omega), q_nI ((e _ (by omega)).trans (to3_1 f (tw f) _ _)) (by omega), q_nI (k := 0) ((e _ (by omega)).trans (to3_2 f (tw f) _ _)) (by omega)]
        exact ⟨by omega, by omega, by omega⟩
      · exact gTow_c (hw t (by omega)) (fun k hk => by rw [e _ (by omega), to3_e _ _ _ _ (by omega)])
    · rw [tw_n (by omega), ee 1 (by omega) (by omega), ee 3 (by omega) (by omega), ee 4 (by omega) (by omega)]
      simp only [absS]
      rw [e _ (by omega), to3_2, add0, absS_c (f := f) (tw f) (fun i hi => by rw [e _ (by omega), to3_e _ _ _ _ (by omega)]), hb]
theorem x_tow4 (hR : Rel f s) (hG : Good T f) (h : tw f = 4) {p : Nat} {m : Int32} (hp : p < 12) (k1 : SX6_in m 0 60 = 1) (k2 : SX6_isLaid N s (nI p) = some 0) : SX6_doLayTowel N 0 s (nI p) m = some (0, s, 3) := by
  have s1 : s 1 = 4 := by rw [hR.r1, hG.f7, h]; rfl
  unfold SX6_doLayTowel SX6_fails
  rw [posn_1 hp, bnd_v, if_neg (by decide), k1, if_neg (by decide), k2, bnd_v, if_pos rfl, s1, if_pos rfl, lt_v]
theorem x_towL {p : Nat} {m : Int32} (hp : p < 12) (k1 : SX6_in m 0 60 = 1) (k2 : SX6_isLaid N s (nI p) = some 1) : SX6_doLayTowel N 0 s (nI p) m = some (0, s, 3) := by
  unfold SX6_doLayTowel SX6_fails
  rw [posn_1 hp, bnd_v, if_neg (by decide), k1, if_neg (by decide), k2, bnd_v, if_neg (by decide), lt_v]
/-! wringing -/
def wA (f : Nat → Int32) (t : Nat) : Int := min (q f (45 + 4 * t + 2)) (40 - q f 1)
def wF (f : Nat → Int32) (t : Nat) : Nat → Int32 := upd (upd (upd f 1 (f 1 + iI (wA f t))) 3 (f 3 + (f (45 + 4 * t + 2) - iI (wA f t)))) (45 + 4 * t + 2) 0
theorem imin_v {a b : Int} (ha : bd a) (hb : bd b) : imin (iI a) (iI b) = iI (min a b) := by
  unfold imin
  by_cases c : b < a
  · rw [if_pos ((iI_lt hb ha).mpr c), Int.min_eq_right (by omega)]
  · rw [if_neg (fun z => c ((iI_lt hb ha).mp z)), Int.min_eq_left (by omega)]
theorem imax_v {a b : Int} (ha : bd a) (hb : bd b) : imax (iI a) (iI b) = iI (max a b) := by
  unfold imax
  by_cases c : a < b
  · rw [if_pos ((iI_lt ha hb).mpr c), Int.max_eq_right (by omega)]
  · rw [if_neg (fun z => c ((iI_lt ha hb).mp z)), Int.max_eq_left (by omega)]
theorem f40 : (40 : Int32) = iI 40 := iI_n 40
theorem wring_c (h1 : 0 ≤ q f 1 ∧ q f 1 ≤ 40) {t : Nat} (ht : t < 4) (hw : gTow f t) : SX4_wring f (nI t) = (f (45 + 4 * t + 2) - iI (wA f t), wF f t) := by
  obtain ⟨w1, w2, w3⟩ := hw
  have a2 : (45 : Int32) + nI t * 4 + 2 = nI (45 + 4 * t + 2) := e_t t 2
  have e : imin (f (45 + 4 * t + 2)) (40 - f 1) = iI (wA f t) := by
    rw [q_i f (45 + 4 * t + 2), q_i f 1, f40, iI_sub, imin_v ⟨by omega, by omega⟩ ⟨by omega, by omega⟩]
    rfl
  unfold SX4_wring
  rw [show SX4_ofTowel f (nI t) 2 = _ from tow_v f (t := t) (k := 2) (by omega) (by omega), at_1, e, lt_v, a2, put_n f 0 (by omega) (by omega), lt_v, add_1, lt_v, add_3, lt_v, upd_ne (j := 1) _ _ (by omega), upd_ne (j := 3) _ _ (by omega), upd_ne (j := 3) _ _ (by omega), upd_comm f 0 _ (by omega), upd_comm (upd f 1 _) 0 _ (by omega)]
  rfl
theorem wring_s (hR : Rel f s) (h1 : 0 ≤ q f 1 ∧ q f 1 ≤ 40) {t : Nat} (ht : t < 4) (hw : gTow f t) : ∃ s', SX6_wrings s (nI t) = some (f (45 + 4 * t + 2) - iI (wA f t), s') ∧ Rel (wF f t) s' := by
  obtain ⟨w1, w2, w3⟩ := hw
  have a2 : (44 : Int32) + 4 * nI t + 2 = nI (44 + 4 * t + 2) := s_t t 2
  have e : imax 0 (f 1 + f (45 + 4 * t + 2) - 40) = f (45 + 4 * t + 2) - iI (wA f t) := by
    rw [q_i f (45 + 4 * t + 2), q_i f 1, f40, iI_add, iI_sub, iI_sub, z_iI, imax_v ⟨by omega, by omega⟩ ⟨by omega, by omega⟩]
    unfold wA
    congr 1
    omega
  have e2 : f 1 + f (45 + 4 * t + 2) - (f (45 + 4 * t + 2) - iI (wA f t)) = f 1 + iI (wA f t) := by
    rw [q_i f (45 + 4 * t + 2), q_i f 1, iI_add, iI_sub, iI_sub, iI_add]
    congr 1
    omega
  refine ⟨upd (upd (upd s 3 (f 1 + iI (wA f t))) 5 (f 3 + (f (45 + 4 * t + 2) - iI (wA f t)))) (44 + 4 * t + 2) 0, ?_, ?_⟩
  · unfold SX6_wrings
    rw [a2, gd_p (vp_in_nI (by omega) (by omega)), nI_clamp (by omega), hR.r3, hR.t ht (k := 2) (by omega), lt_v, e, e2, upd_ne (j := 5) _ _ (by omega), hR.r5, lt_v, gd_p (vp_in_nI (by omega) (by omega))]
  · unfold wF
    exact ((hR.up _ (i := 3) (k := 1) rfl).up _ (i := 5) (k := 3) rfl).up 0 (i := 44 + 4 * t + 2) (k := 45 + 4 * t + 2) (by rw [tau_ge (by omega)]; omega)
theorem wF_e {t i : Nat} (h : i ≠ 1 ∧ i ≠ 3 ∧ i ≠ 45 + 4 * t + 2) : wF f t i = f i := by
  unfold wF
  rw [upd_ne _ _ h.2.2, upd_ne _ _ h.2.1, upd_ne _ _ h.1]
theorem wF_1 {t : Nat} : wF f t 1 = f 1 + iI (wA f t) := by
  unfold wF
  rw [upd_ne _ _ (by omega), upd_ne _ _ (by omega), upd_same]
theorem wF_3 {t : Nat} : wF f t 3 = f 3 + (f (45 + 4 * t + 2) - iI (wA f t)) := by
  unfold wF
  rw [upd_ne _ _ (by omega), upd_same]
theorem wF_t {t : Nat} : wF f t (45 + 4 * t + 2) = 0 := by
  unfold wF
  rw [upd_same]
theorem wF_g (hG : Good T f) {t : Nat} (ht : t < tw f) : Good T (wF f t) := by
  have h4 := hG.t4
  have hw := hG.2.2.2.2.2.2.2.2.2.1
  have hb := hG.2.2.2.2.2.2.2.2.2.2
  have h0 : 0 ≤ q f 0 ∧ q f 0 ≤ T := hG.1
  have h1 : 0 ≤ q f 1 ∧ q f 1 ≤ 40 := hG.2.1
  have h7 : 0 ≤ q f 7 ∧ q f 7 ≤ 4 := hG.2.2.2.2.2.1
  obtain ⟨w1, w2, w3⟩ := hw t ht
  have e1 : q (wF f t) 1 = q f 1 + wA f t := by
    unfold q
    rw [wF_1, iI_of (f 1), iI_add, iI_toInt]
    · rw [← iI_of]
    · have : 0 ≤ (f 1).toInt ∧ (f 1).toInt ≤ 40 := h1
      unfold wA
      exact ⟨by omega, by omega⟩
  have e7 : tw (wF f t) = tw f := tw_c (wF_e ⟨by omega, by omega, by omega⟩)
  refine hG.water (fun i a b c d e g => wF_e ⟨by omega, by omega, by omega⟩) (by rw [q_c (wF_e (f := f) (t := t) (i := 0) ⟨by omega, by omega, by omega⟩)]; omega) (by rw [e1]; unfold wA; omega) (by rw [q_c (wF_e (f := f) (t := t) (i := 7) ⟨by omega, by omega, by omega⟩)]; omega) ?_ ?_
  · rw [e7]
    intro u hu
    by_cases c : u = t
    · subst c
      unfold gTow
      rw [q_c (wF_e (f := f) (t := u) (i := 45 + 4 * u + 0) ⟨by omega, by omega, by omega⟩), q_c (wF_e (f := f) (t := u) (i := 45 + 4 * u + 1) ⟨by omega, by omega, by omega⟩), q_nI (k := 0) wF_t (by omega)]
      exact ⟨w1, w2, by omega⟩
    · exact gTow_c (hw u hu) (fun k hk => wF_e ⟨by omega, by omega, by omega⟩)
  · have ea : absS (wF f t) (tw f) = absS f (tw f) + 0 - f (45 + 4 * t + 2) := by
      unfold wF
      rw [absS_u, if_pos ht, absS_c (f := f) (tw f) (fun i hi => by rw [upd_ne _ _ (by omega), upd_ne _ _ (by omega)]), upd_ne _ _ (by omega), upd_ne _ _ (by omega)]
    rw [e7, ea, wF_1, wF_3, wF_e ⟨by omega, by omega, by omega⟩, wr_sum, hb]
theorem o_wring (hR : Rel f s) (hG : Good T f) {t : Nat} (ht : t < tw f) (h2 : SX6_isTowel s (nI t) = some 1) : ∃ r f' s', SX4_wring f (nI t) = (r, f') ∧ SX6_doWringTowel 0 s (nI t) = some (r, s', 0) ∧ Rel f' s' ∧ Good T f' := by
  have h4 := hG.t4
  have hw := hG.2.2.2.2.2.2.2.2.2.1 t ht
  obtain ⟨s', e1, e2⟩ := wring_s hR hG.2.1 (t := t) (by omega) hw
  refine ⟨_, _, s', wring_c hG.2.1 (by omega) hw, ?_, e2, wF_g hG ht⟩
  unfold SX6_doWringTowel
  rw [h2, bnd_v, if_neg (by decide), e1, bnd_v]
theorem x_wring {a : Int32} (h2 : SX6_isTowel s a = some 0) : SX6_doWringTowel 0 s a = some (0, s, 1) := by
  unfold SX6_doWringTowel SX6_fails
  rw [h2, bnd_v, if_pos rfl, lt_v]
theorem x_dropT {a : Int32} (h2 : SX6_isTowel s a = some 0) : SX6_doRemoveTowel 0 s a = some (0, s, 1) := by
  unfold SX6_doRemoveTowel SX6_fails
  rw [h2, bnd_v, if_pos rfl, lt_v]
def dT (f : Nat → Int32) (t : Nat) : Nat → Int32 := va_cpy f f (45 + 4 * t + 4) (45 + 4 * t) (4 * (tw f - 1 - t))
theorem absS_d {t : Nat} (hz : f (45 + 4 * t + 2) = 0) : ∀ k : Nat, k ≤ tw f - 1 → absS (dT f t) k = if t ≤ k then absS f (k + 1) else absS f k := by
  intro k
  induction k with
  | zero =>
    intro _
    by_cases c : t ≤ 0
    · rw [if_pos c]
      have : t = 0 := by omega
      subst this
      show (0 : Int32) = 0 + f 47
      rw [show f 47 = 0 from hz]
      rfl
    · rw [if_neg c]
      rfl
  | succ k ih =>
    intro hk
    simp only [absS]
    rw [ih (by omega)]
    by_cases c : t ≤ k
    · rw [if_pos c, if_pos (by omega)]
      simp only [absS]
      congr 1
      unfold dT
      rw [cpy_in (by omega)]
      congr 1; omega
    · rw [if_neg c]
      have e : dT f t (45 + 4 * k + 2) = f (45 + 4 * k + 2) := cpy_out (by omega)
      rw [e]
      by_cases c2 : t ≤ k + 1
      · have : t = k + 1 := by omega
        subst this
        rw [if_pos (by omega), hz, add0]
      · rw [if_neg c2]
theorem o_dropT (hN : 62 ≤ N) (hR : Rel f s) (hG : Good T f) {t : Nat} (ht : t < tw f) (h2 : SX6_isTowel s (nI t) = some 1) : ∃ r f' s', SX4_dropTowel N f (nI t) = some (r, f') ∧ SX6_doRemoveTowel 0 s (nI t) = some (r, s', 0) ∧ Rel f' s' ∧ Good T f' := by
  have h4 := hG.t4
  have hw := hG.2.2.2.2.2.2.2.2.2.1 t ht
  obtain ⟨s1, e1, hR1⟩ := wring_s hR hG.2.1 (t := t) (by omega) hw
  have ec := wring_c hG.2.1 (t := t) (by omega) hw
  have hG1 := wF_g hG ht
  have ez : wF f t (45 + 4 * t + 2) = 0 := wF_t
  have et : tw (wF f t) = tw f := tw_c (wF_e ⟨by omega, by omega, by omega⟩)
  generalize wF f t = F at *
  have f7 : F 7 = nI (tw f) := by rw [← et]; exact hG1.f7
  have e0 : nI (tw f) - 1 = nI (tw f - 1) := nI_sub (b := 1) (by omega)
  have e4 : (45 : Int32) + nI t * 4 + 4 = nI (45 + 4 * t + 4) := e_t t 4
  have e5 : (nI (tw f - 1) - nI t) * 4 = nI (4 * (tw f - 1 - t)) := by
    rw [nI_sub (by omega), show nI (tw f - 1 - t) * 4 = nI ((tw f - 1 - t) * 4) from nI_mul _ 4, Nat.mul_comm]
  have e6 : (4 : Int32) * (nI (tw f - 1) - nI t) = nI (4 * (tw f - 1 - t)) := by
    rw [nI_sub (by omega), show (4 : Int32) * nI (tw f - 1 - t) = nI (4 * (tw f - 1 - t)) from nI_mul 4 _]
  have e7 : nI (44 + 4 * t) + 4 = nI (44 + 4 * t + 4) := nI_add _ 4
  have ed : va_cpy F F (45 + 4 * t + 4) (45 + 4 * t) (4 * (tw f - 1 - t)) = dT F t := by unfold dT; rw [et]
  refine ⟨nI (tw f - 1), upd (dT F t) 7 (nI (tw f - 1)), upd (va_cpy s1 s1 (44 + 4 * t + 4) (44 + 4 * t) (4 * (tw f - 1 - t))) 1 (nI (tw f - 1)), ?_, ?_, ?_, ?_⟩
  · unfold SX4_dropTowel
    rw [ec, lt_v]
    dsimp only
    rw [towels_v, f7, e0, e4, e5, e_t0, copyo_c (by omega) F (by omega) (by omega) (by omega), bnd_v, put_7, lt_v, ed]
  · have s11 : s1 1 = nI (tw f) := by rw [hR1.r1, f7]
    unfold SX6_doRemoveTowel
    rw [h2, bnd_v, if_neg (by decide), e1, bnd_v]
    dsimp only
    rw [s11, e0, e6, s_t0, e7, nI_clamp (by omega), nI_clamp (by omega), nI_clamp (by omega), gd_p ⟨nI_pos (by omega), nI_pos (by omega), nI_pos (by omega), by omega, by omega⟩]
  · intro i hi
    by_cases c0 : i = 1
    · subst c0
      rw [upd_same]
      exact (upd_same _ 7 _).symm
    · have htn : tau i ≠ 7 := fun z => c0 (tau_inj (j := 1) z)
      rw [upd_ne _ _ c0, upd_ne _ _ htn, ← ed]
      by_cases c : 44 + 4 * t ≤ i ∧ i < 44 + 4 * t + 4 * (tw f - 1 - t)
      · rw [cpy_in c, tau_ge (by omega), cpy_in (by omega), hR1 _ (by omega), tau_ge (by omega)]
        congr 1; omega
      · rw [cpy_out c, hR1 i hi]
        have h7 : 7 ≤ i → tau i = i + 1 := tau_ge
        have h8 : i < 7 → tau i < 8 := by
          intro h
          unfold tau
          repeat' split
          all_goals omega
        rw [cpy_out (by omega)]
  · have hw := hG1.2.2.2.2.2.2.2.2.2.1
    have hb := hG1.2.2.2.2.2.2.2.2.2.2
    have h0 : 0 ≤ q F 0 ∧ q F 0 ≤ T := hG1.1
    have h1 : 0 ≤ q F 1 ∧ q F 1 ≤ 40 := hG1.2.1
    have e : ∀ i, i ≠ 7 → upd (dT F t) 7 (nI (tw f - 1)) i = dT F t i := fun i hi => upd_ne _ _ hi
    have ee : ∀ i, i < 45 → i ≠ 7 → upd (dT F t) 7 (nI (tw f - 1)) i = F i := fun i h1 h2 => by
      rw [e i h2]
      exact cpy_out (by omega)
    have eq7 : q (upd (dT F t) 7 (nI (tw f - 1))) 7 = ((tw f - 1 : Nat) : Int) := by rw [q_same, nI_toInt (by omega)]
    refine hG1.water (fun i a b c d e g => ee i a g) (by rw [q_c (ee 0 (by omega) (by omega))]; omega) (by rw [q_c (ee 1 (by omega) (by omega))]; omega) (by rw [eq7]; omega) ?_ ?_
    · rw [tw_n (by omega)]
      intro u hu
      by_cases c : u < t
      · refine gTow_c (hw u (by omega)) (fun k hk => ?_)
        rw [e _ (by omega)]
        exact cpy_out (by omega)
      · refine gTow_c (hw (u + 1) (by omega)) (fun k hk => ?_)
        rw [e _ (by omega), ← ed, cpy_in (by omega)]
        congr 1; omega
    · have ea : absS (upd (dT F t) 7 (nI (tw f - 1))) (tw f - 1) = absS F (tw F) := by
        rw [absS_c (f := dT F t) (tw f - 1) (fun i hi => e _ (by omega)), absS_d ez (tw f - 1) (by omega), if_pos (by omega), et]
        congr 1; omega
      rw [tw_n (by omega), ea, ee 1 (by omega) (by omega), ee 3 (by omega) (by omega), ee 4 (by omega) (by omega), hb]
end PW
