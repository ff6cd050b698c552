/-! the line: characters and numbers on both sides -/
theorem nrc' : ∀ x : Nat, x < 128 → (nI x).toUInt32.toUInt16.toUInt32.toInt32 = nI x := by decide +kernel
theorem nrb' : ∀ x : Nat, x < 128 → (nI x).toInt8.toInt32 = nI x := by decide +kernel
theorem nrc {x : Nat} (h : x < 128) : narrow .char (.int (nI x)) = .int (nI x) := congrArg Value.int (nrc' x h)
theorem vnc {x : Nat} (h : x < 128) : vp_nar .char (nI x) = nI x := nrc' x h
theorem vnb {x : Nat} (h : x < 128) : vp_nar .byte (nI x) = nI x := nrb' x h
theorem i2b_v : ∀ x : Nat, x < 128 → i2b (nI x) = nI x := by decide +kernel
theorem i2c_v : ∀ x : Nat, x < 128 → i2c (nI x) = nI x := by decide +kernel
theorem i2c_w : ∀ x : Nat, x < 128 → i2c (nI x &&& 255) = nI x := by decide +kernel
theorem fit_b : ∀ x : Nat, x < 128 → fits .byte (.int (nI x)) = true := by decide +kernel
def CapN (n : Nat) : Prop := n = 16 ∨ n = 34 ∨ n = 70 ∨ n = 142
def BY (n : Nat) (lf : Nat → Int32) : Prop := ∀ j, j < n → ∃ x, x < 128 ∧ lf j = nI x
def LR (m q n : Nat) (lf ln : Nat → Int32) : Prop := CapN n ∧ q ≤ n ∧ q ≤ m ∧ BY n lf ∧ ∀ j, j < q → ∃ x, 32 ≤ x ∧ x < 127 ∧ lf j = nI x ∧ ln j = nI x
theorem BY.up {n : Nat} {lf : Nat → Int32} (h : BY n lf) (k : Nat) {x : Nat} (hx : x < 128) : BY n (upd lf k (nI x)) := by
  intro j hj
  by_cases c : j = k
  · subst c
    exact ⟨x, hx, upd_same _ _ _⟩
  · obtain ⟨y, h1, h2⟩ := h j hj
    exact ⟨y, h1, (upd_ne _ _ c).trans h2⟩
theorem ens {n q m : Nat} {lf : Nat → Int32} (hn : CapN n) (hq : q ≤ n) (hm : m ≤ q + 3) (h91 : m ≤ 93) (hB : BY n lf) : ∃ n' lf', SJ5_ensureCapacityInternal_d00df n lf (nI m) = some (lf', n') ∧ CapN n' ∧ m ≤ n' ∧ BY n' lf' ∧ ∀ j, j < n → lf' j = lf j := by
  have hn' : n ≤ 142 := by rcases hn with h | h | h | h <;> omega
  have e0 : nI m - nI n = iI ((m : Int) - n) := by rw [iI_n, iI_n, iI_sub]
  have z : nI m - nI n ≤ 0 ↔ m ≤ n := by
    rw [e0, z_iI, iI_le ⟨by omega, by omega⟩ ⟨by omega, by omega⟩]
    omega
  by_cases c : m ≤ n
  · exact ⟨n, lf, if_pos (z.mpr c), hn, c, hB, fun j _ => rfl⟩
  · have hn7 : n ≤ 70 := by rcases hn with h | h | h | h <;> omega
    have hn16 : 16 ≤ n := by rcases hn with h | h | h | h <;> omega
    have e1 : imax (nI m - nI n) (nI n + 2) = nI (n + 2) := by
      rw [e0, show nI n + 2 = nI (n + 2) from nI_add n 2, iI_n (n + 2), imax_v ⟨by omega, by omega⟩ ⟨by omega, by omega⟩]
      congr 1; omega
    have e2 : nI n + nI (n + 2) = nI (2 * n + 2) := by
      rw [nI_add]
      congr 1; omega
    have e3 : imin (nI n) (nI (2 * n + 2)) = nI n := by
      rw [iI_n, iI_n, imin_v ⟨by omega, by omega⟩ ⟨by omega, by omega⟩]
      congr 1; omega
    have hc : SJ5_newCapacity_0f7a4 n (nI m) = some (nI (2 * n + 2)) := by
      unfold SJ5_newCapacity_0f7a4 SJ8_newLength_cabcc
      rw [e1, e2, gd_p (show ¬ nI (2 * n + 2) ≤ 0 from nI_ge (b := 2 * n + 2) (a := 0) (by omega) (by omega)), gd_p (show ¬ (2147483639 : Int32) < nI (2 * n + 2) from nI_nlt (a := 2147483639) (by omega) (by omega)), bnd_v, gd_p (fun z => by have := (nI_eq (a := 2 * n + 2) (b := 2147483647) (by omega) (by omega)).mp z; omega)]
    have hf : ∀ i9, i9 < n → fits .byte (.int (lf (0 + i9))) = true := fun i hi => by
      obtain ⟨x, h1, h2⟩ := hB i hi
      rw [Nat.zero_add, h2]
      exact fit_b x h1
    refine ⟨2 * n + 2, va_cpy lf (fun _ => 0) 0 0 n, ?_, ?_, by omega, ?_, ?_⟩
    · unfold SJ5_ensureCapacityInternal_d00df SJ7_copyOf_9075b
      rw [if_neg (fun h => c (z.mp h)), hc, bnd_v, gd_p (fun z => by have := (nI_eq (a := 2 * n + 2) (b := n) (by omega) (by omega)).mp z; omega), e3, nI_clamp (by omega), nI_clamp (by omega), gd_p ⟨nI_pos (by omega), by omega⟩, gd_p ⟨nI_pos (by omega), by omega, by omega, hf⟩, bnd_v]
    · rcases hn with h | h | h | h
      · exact Or.inr (Or.inl (by omega))
      · exact Or.inr (Or.inr (Or.inl (by omega)))
      · exact Or.inr (Or.inr (Or.inr (by omega)))
      · omega
    · intro j hj
      by_cases c2 : j < n
      · obtain ⟨x, h1, h2⟩ := hB j c2
        exact ⟨x, h1, by rw [cpy_in (by omega), show 0 + (j - 0) = j by omega, h2]⟩
      · exact ⟨0, by omega, by rw [cpy_out (by omega)]; rfl⟩
    · intro j hj
      rw [cpy_in (by omega)]
      congr 1; omega
/-- one character, in the class -/
theorem app1 {m q n : Nat} {lf ln : Nat → Int32} (h : LR m q n lf ln) (hm : m ≤ 90) {x : Nat} (hx : x < 128) : ∃ n' lf', SJ4_append_cf468 n lf (nI q) (nI x) = some (nI (q + 1), lf', n') ∧ CapN n' ∧ q + 1 ≤ n' ∧ BY n' lf' ∧ lf' q = nI x ∧ ∀ j, j < q → lf' j = lf j := by
  obtain ⟨h1, h2, h3, h4, h5⟩ := h
  obtain ⟨n', lf', e1, e2, e3, e4, e5⟩ := ens (m := q + 1) h1 h2 (by omega) (by omega) h4
  have hc : ¬ SJ1_canEncode_fc78d (nI x) = 0 := by
    unfold SJ1_canEncode_fc78d
    rw [if_neg (show ¬ (255 : Int32) < nI x from nI_nlt (a := 255) (by omega) (by omega))]
    decide
  have hn' : n' ≤ 142 := by rcases e2 with h | h | h | h <;> omega
  refine ⟨n', upd lf' q (nI x), ?_, e2, e3, e4.up q hx, upd_same _ _ _, fun j hj => by rw [upd_ne _ _ (by omega), e5 j (by omega)]⟩
  unfold SJ4_append_cf468 SJ5_append_3fe6f SJ5_isLatin1_aae02
  rw [nI_1, e1, bnd_v, lt_v, gd_p hc, gd_p (vp_in_nI (by omega) (by omega)), bnd_v, nI_clamp (by omega), i2b_v x hx, vnb hx]
theorem says1 {q x : Nat} (ln : Nat → Int32) (hq : q < 90) (hx : x < 128) : SX6_says (nI q) ln (nI x) = some (upd ln q (nI x), nI (q + 1)) := by
  unfold SX6_says
  rw [gd_p (vp_in_nI (by omega) (by omega)), nI_clamp (by omega), vnc hx, nI_1]
theorem LR.one {m q n n' : Nat} {lf ln lf' : Nat → Int32} (h : LR m q n lf ln) {x : Nat} (hx : 32 ≤ x ∧ x < 127) (hm : q + 1 ≤ m) (e2 : CapN n') (e3 : q + 1 ≤ n') (e4 : BY n' lf') (e5 : lf' q = nI x) (e6 : ∀ j, j < q → lf' j = lf j) : LR m (q + 1) n' lf' (upd ln q (nI x)) := by
  obtain ⟨h1, h2, h3, h4, h5⟩ := h
  refine ⟨e2, e3, hm, e4, fun j hj => ?_⟩
  by_cases c : j = q
  · subst c
    exact ⟨x, hx.1, hx.2, e5, upd_same _ _ _⟩
  · obtain ⟨y, y1, y2, y3, y4⟩ := h5 j (by omega)
    exact ⟨y, y1, y2, (e6 j (by omega)).trans y3, (upd_ne _ _ c).trans y4⟩
theorem jchar {m q n : Nat} {lf ln : Nat → Int32} (h : LR m q n lf ln) (hm : m ≤ 90) (hq : q + 1 ≤ m) {x : Nat} (hx : 32 ≤ x ∧ x < 127) : ∃ n' lf' ln', SJ4_append_cf468 n lf (nI q) (nI x) = some (nI (q + 1), lf', n') ∧ SX6_says (nI q) ln (nI x) = some (ln', nI (q + 1)) ∧ LR m (q + 1) n' lf' ln' := by
  obtain ⟨n', lf', e1, e2, e3, e4, e5, e6⟩ := app1 h hm (x := x) (by omega)
  exact ⟨n', lf', _, e1, says1 ln (by omega) (by omega), h.one hx hq e2 e3 e4 e5 e6⟩
/-- a letter that may stand there -/
theorem jlet {m q n : Nat} {lf ln : Nat → Int32} (h : LR m q n lf ln) (hm : m ≤ 90) (hq : q + 1 ≤ m) {x : Nat} (hx : 32 ≤ x ∧ x < 127) (b : Int32) : ∃ k n' lf' ln', k ≤ 1 ∧ SX5_writeLetter n lf (nI q) b (nI x) = some (nI (q + k), lf', n') ∧ SX6_saysIf (nI q) ln b (nI x) = some (ln', nI (q + k)) ∧ LR m (q + k) n' lf' ln' := by
  by_cases c : b = 0
  · exact ⟨0, n, lf, ln, by omega, if_pos c, if_pos c, h⟩
  · obtain ⟨n', lf', ln', e1, e2, e3⟩ := jchar h hm hq hx
    refine ⟨1, n', lf', ln', by omega, ?_, ?_, e3⟩
    · unfold SX5_writeLetter
      rw [if_neg c, e1, bnd_v]
    · unfold SX6_saysIf
      rw [if_neg c, e2, bnd_v]
/-! numbers -/
theorem neg_n (v : Nat) : -nI v = iI (-(v : Int)) := by
  have e : -nI v = 0 - nI v := by rw [Int32.zero_sub]
  rw [e, iI_n, z_iI, iI_sub, Int.zero_sub]
def nd (v : Nat) : Nat := if v < 10 then 1 else if v < 100 then 2 else 3
theorem size_v {N v : Nat} (hN : 4 ≤ N) (hv : v < 1000) : SJ6_stringSize_0f7a4 N (nI v) = some (nI (nd v)) := by
  obtain ⟨k, rfl⟩ : ∃ k, N = k + 4 := ⟨N - 4, by omega⟩
  have z1 : iI (-(v : Int)) ≤ -10 ↔ 10 ≤ v := by
    rw [show (-10 : Int32) = iI (-10) from rfl, iI_le ⟨by omega, by omega⟩ ⟨by omega, by omega⟩]
    omega
  have z2 : iI (-(v : Int)) ≤ -100 ↔ 100 ≤ v := by
    rw [show (-100 : Int32) = iI (-100) from rfl, iI_le ⟨by omega, by omega⟩ ⟨by omega, by omega⟩]
    omega
  have z3 : ¬ iI (-(v : Int)) ≤ -1000 := by
    rw [show (-1000 : Int32) = iI (-1000) from rfl, iI_le ⟨by omega, by omega⟩ ⟨by omega, by omega⟩]
    omega
  unfold SJ6_stringSize_0f7a4 nd
  rw [gd_p (nI_pos (by omega)), LJ6_stringSize_0f7a4_16, if_neg (by decide), neg_n]
  by_cases c1 : v < 10
  · rw [if_neg (fun z => by have := z1.mp z; omega), if_pos c1]
    rfl
  · rw [if_pos (z1.mpr (by omega)), if_neg c1, LJ6_stringSize_0f7a4_16, if_neg (by decide), neg_n, show (10 : Int32) * -10 = -100 from by decide]
    by_cases c2 : v < 100
    · rw [if_neg (fun z => by have := z2.mp z; omega), if_pos c2]
      rfl
    · rw [if_pos (z2.mpr (by omega)), if_neg c2, LJ6_stringSize_0f7a4_16, if_neg (by decide), neg_n, show (10 : Int32) * -100 = -1000 from by decide, if_neg z3]
      rfl
theorem div100 {v : Nat} (hv : v < 1000) : iI (-(v : Int)) / 100 = iI (-((v / 100 : Nat) : Int)) := by
  apply Int32.toInt_inj.mp
  rw [Int32.toInt_div_of_ne_right _ _ (by decide), iI_toInt ⟨by omega, by omega⟩, iI_toInt ⟨by omega, by omega⟩, show (100 : Int32).toInt = 100 from rfl, Int.neg_tdiv, Int.tdiv_eq_ediv_of_nonneg (by omega)]
  omega
theorem ones_v {n v N p : Nat} (F : Nat → Int32) (hN : 1 ≤ N) (hv : v < 10) (hp : p < n) (hn : n ≤ 142) : LJ6_getChars_ba4f3_22 n N F (iI (-(v : Int))) (nI (p + 1)) = some (nI p, upd F p (nI (48 + v))) := by
  obtain ⟨k, rfl⟩ : ∃ k, N = k + 1 := ⟨N - 1, by omega⟩
  have e0 : - iI (-(v : Int)) = nI v := by rw [← neg_n, Int32.neg_neg]
  have e1 : nI (p + 1) + -1 = nI p := by
    rw [← Int32.sub_eq_add_neg, show nI (p + 1) - 1 = nI (p + 1 - 1) from nI_sub (b := 1) (by omega)]
    rfl
  have e2 : jOnes v = nI (48 + v) := by
    unfold jOnes
    rw [Nat.mod_eq_of_lt hv]
  have z1 : (-100 : Int32) < iI (-(v : Int)) := by
    rw [show (-100 : Int32) = iI (-100) from rfl, iI_lt ⟨by omega, by omega⟩ ⟨by omega, by omega⟩]
    omega
  have z2 : (-9 : Int32) ≤ iI (-(v : Int)) := by
    rw [show (-9 : Int32) = iI (-9) from rfl, iI_le ⟨by omega, by omega⟩ ⟨by omega, by omega⟩]
    omega
  rw [LJ6_getChars_ba4f3_22, if_pos z1, e0, e1, gd_p (vp_in_nI (by omega) (by omega)), nI_clamp (by omega), lt_v, gd_p (vp_in_nI (by omega) (by omega)), if_pos z2, bnd_v, nI_clamp (by omega), e2, vnb (by omega)]
theorem twos_v {n v N p : Nat} (F : Nat → Int32) (hN : 1 ≤ N) (h10 : 10 ≤ v) (hv : v < 100) (hp : p + 1 < n) (hn : n ≤ 142) : LJ6_getChars_ba4f3_22 n N F (iI (-(v : Int))) (nI (p + 2)) = some (nI p, upd (upd F (p + 1) (nI (48 + v % 10))) p (nI (48 + v / 10))) := by
  obtain ⟨k, rfl⟩ : ∃ k, N = k + 1 := ⟨N - 1, by omega⟩
  have e0 : - iI (-(v : Int)) = nI v := by rw [← neg_n, Int32.neg_neg]
  have e1 : nI (p + 2) + -1 = nI (p + 1) := by
    rw [← Int32.sub_eq_add_neg, show nI (p + 2) - 1 = nI (p + 2 - 1) from nI_sub (b := 1) (by omega)]
    rfl
  have e1' : nI (p + 1) + -1 = nI p := by
    rw [← Int32.sub_eq_add_neg, show nI (p + 1) - 1 = nI (p + 1 - 1) from nI_sub (b := 1) (by omega)]
    rfl
  have z1 : (-100 : Int32) < iI (-(v : Int)) := by
    rw [show (-100 : Int32) = iI (-100) from rfl, iI_lt ⟨by omega, by omega⟩ ⟨by omega, by omega⟩]
    omega
  have z2 : ¬ (-9 : Int32) ≤ iI (-(v : Int)) := by
    rw [show (-9 : Int32) = iI (-9) from rfl, iI_le ⟨by omega, by omega⟩ ⟨by omega, by omega⟩]
    omega
  rw [LJ6_getChars_ba4f3_22, if_pos z1, e0, e1, e1', gd_p (vp_in_nI (by omega) (by omega)), nI_clamp (by omega), lt_v, gd_p (vp_in_nI (by omega) (by omega)), if_neg z2, gd_p (vp_in_nI (by omega) (by omega)), lt_v, gd_p (vp_in_nI (by omega) (by omega)), bnd_v, nI_clamp (by omega), nI_clamp (by omega)]
  unfold jOnes jTens
  rw [vnb (by omega), vnb (by omega)]
theorem three_v {n v N p : Nat} (F : Nat → Int32) (hN : 2 ≤ N) (h10 : 100 ≤ v) (hv : v < 1000) (hp : p + 2 < n) (hn : n ≤ 142) : LJ6_getChars_ba4f3_22 n N F (iI (-(v : Int))) (nI (p + 3)) = some (nI p, upd (upd (upd F (p + 2) (nI (48 + v % 10))) (p + 1) (nI (48 + v / 10 % 10))) p (nI (48 + v / 100))) := by
  obtain ⟨k, rfl⟩ : ∃ k, N = k + 1 := ⟨N - 1, by omega⟩
  have e1 : nI (p + 3) + -1 = nI (p + 2) := by
    rw [← Int32.sub_eq_add_neg, show nI (p + 3) - 1 = nI (p + 3 - 1) from nI_sub (b := 1) (by omega)]
    rfl
  have e1' : nI (p + 2) + -1 = nI (p + 1) := by
    rw [← Int32.sub_eq_add_neg, show nI (p + 2) - 1 = nI (p + 2 - 1) from nI_sub (b := 1) (by omega)]
    rfl
  have z1 : ¬ (-100 : Int32) < iI (-(v : Int)) := by
    rw [show (-100 : Int32) = iI (-100) from rfl, iI_lt ⟨by omega, by omega⟩ ⟨by omega, by omega⟩]
    omega
  have e3 : iI (-((v / 100 : Nat) : Int)) * 100 - iI (-(v : Int)) = nI (v % 100) := by
    rw [show (100 : Int32) = iI 100 from rfl, iI_mul, iI_sub, iI_n]
    congr 1; omega
  rw [LJ6_getChars_ba4f3_22, if_neg z1, div100 hv, e3, e1, e1', lt_v, gd_p (vp_in_nI (by omega) (by omega)), nI_clamp (by omega), lt_v, gd_p (vp_in_nI (by omega) (by omega)), gd_p (vp_in_nI (by omega) (by omega)), lt_v, gd_p (vp_in_nI (by omega) (by omega)), nI_clamp (by omega), nI_clamp (by omega), ones_v _ (by omega) (by omega) (by omega) hn]
  unfold jOnes jTens
  rw [vnb (by omega), vnb (by omega), show v % 100 % 10 = v % 10 by omega, show v % 100 / 10 = v / 10 % 10 by omega]
theorem app_n {m q n v N : Nat} {lf ln : Nat → Int32} (h : LR m q n lf ln) (hm : m ≤ 90) (hN : 4 ≤ N) (hv : v < 1000) : ∃ n' lf', SJ4_append_bf812 N n lf (nI q) (nI v) = some (nI (q + nd v), lf', n') ∧ CapN n' ∧ q + nd v ≤ n' ∧ BY n' lf' ∧ (∀ j, j < q → lf' j = lf j) ∧ (v < 10 → lf' q = nI (48 + v)) ∧ (10 ≤ v → v < 100 → lf' q = nI (48 + v / 10) ∧ lf' (q + 1) = nI (48 + v % 10)) ∧ (100 ≤ v → lf' q = nI (48 + v / 100) ∧ lf' (q + 1) = nI (48 + v / 10 % 10) ∧ lf' (q + 2) = nI (48 + v % 10)) := by
  obtain ⟨h1, h2, h3, h4, h5⟩ := h
  have hd : nd v ≤ 3 := by unfold nd; split <;> (try split) <;> omega
  obtain ⟨n', lf', e1, e2, e3, e4, e5⟩ := ens (m := q + nd v) h1 h2 (by omega) (by omega) h4
  have hn' : n' ≤ 142 := by rcases e2 with h | h | h | h <;> omega
  have hap : ∀ F, LJ6_getChars_ba4f3_22 n' N lf' (iI (-(v : Int))) (nI (q + nd v)) = some (nI q, F) → SJ4_append_bf812 N n lf (nI q) (nI v) = some (nI (q + nd v), F, n') := by
    intro F hF
    unfold SJ4_append_bf812 SJ5_append_c97b9 SJ5_isLatin1_aae02 SJ6_getChars_ba4f3
    rw [size_v hN hv, bnd_v, nI_add, e1, bnd_v, lt_v, gd_p (show (0 : Int32) ≤ nI v from nI_le (a := 0) (by omega) (by omega)), neg_n, hF, bnd_v, bnd_v]
  by_cases c1 : v < 10
  · have ed : nd v = 1 := if_pos c1
    rw [ed] at e3 hap ⊢
    refine ⟨n', _, hap _ (ones_v lf' (by omega) c1 (by omega) hn'), e2, e3, e4.up q (by omega), fun j hj => by rw [upd_ne _ _ (by omega), e5 j (by omega)], fun _ => upd_same _ _ _, fun _ => by omega, fun _ => by omega⟩
  · by_cases c2 : v < 100
    · have ed : nd v = 2 := by
        unfold nd
        rw [if_neg c1, if_pos c2]
      rw [ed] at e3 hap ⊢
      refine ⟨n', _, hap _ (twos_v lf' (by omega) (by omega) c2 (by omega) hn'), e2, e3, (e4.up _ (by omega)).up q (by omega), fun j hj => by rw [upd_ne _ _ (by omega), upd_ne _ _ (by omega), e5 j (by omega)], fun _ => by omega, fun _ _ => ⟨upd_same _ _ _, by rw [upd_ne _ _ (by omega), upd_same]⟩, fun _ => by omega⟩
    · have ed : nd v = 3 := by
        unfold nd
        rw [if_neg c1, if_neg c2]
      rw [ed] at e3 hap ⊢
      refine ⟨n', _, hap _ (three_v lf' (by omega) (by omega) hv (by omega) hn'), e2, e3, ((e4.up _ (by omega)).up _ (by omega)).up q (by omega), fun j hj => by rw [upd_ne _ _ (by omega), upd_ne _ _ (by omega), upd_ne _ _ (by omega), e5 j (by omega)], fun _ => by omega, fun _ => by omega, fun _ => ⟨upd_same _ _ _, by rw [upd_ne _ _ (by omega), upd_same], by rw [upd_ne _ _ (by omega), upd_ne _ _ (by omega), upd_same]⟩⟩
theorem dig_s {v : Nat} (hv : v < 1000) : i2c (48 + irm (nI v) 10) = nI (48 + v % 10) := by
  rw [show irm (nI v) 10 = nI (v % 10) from nI_irm (b := 10) (by omega) (by omega) (by omega), show (48 : Int32) + nI (v % 10) = nI (48 + v % 10) from nI_add 48 _, i2c_v _ (by omega)]
theorem le9 {v : Nat} (hv : v < 1000) : nI v ≤ 9 ↔ v < 10 := by
  rw [iI_n, show (9 : Int32) = iI 9 from rfl, iI_le ⟨by omega, by omega⟩ ⟨by omega, by omega⟩]
  omega
theorem num0 {q v : Nat} (ln : Nat → Int32) (hq : q < 90) (hv : v < 10) : SX6_saysNumber_0 (nI q) ln (nI v) = some (nI (q + 1), upd ln q (nI (48 + v))) := by
  unfold SX6_saysNumber_0
  rw [gd_p ((le9 (by omega)).mpr hv), dig_s (by omega), Nat.mod_eq_of_lt hv, says1 ln hq (by omega), bnd_v]
theorem num1 {q v : Nat} (ln : Nat → Int32) (hq : q + 1 < 90) (hv : v < 100) : SX6_saysNumber_1 (nI q) ln (nI v) = if v < 10 then some (nI (q + 1), upd ln q (nI (48 + v))) else some (nI (q + 2), upd (upd ln q (nI (48 + v / 10))) (q + 1) (nI (48 + v % 10))) := by
  unfold SX6_saysNumber_1
  rw [dig_s (by omega), nI_ten (by omega)]
  by_cases c : v < 10
  · rw [if_pos ((le9 (by omega)).mpr c), if_pos c, bnd_v, Nat.mod_eq_of_lt c, says1 ln (by omega) (by omega), bnd_v]
  · rw [if_neg (fun z => c ((le9 (by omega)).mp z)), if_neg c, num0 ln (by omega) (by omega), bnd_v, bnd_v, says1 _ (by omega) (by omega), bnd_v]
theorem num2 {q v : Nat} (ln : Nat → Int32) (hq : q + 2 < 90) (hv : v < 1000) : ∃ ln', SX6_saysNumber_2 (nI q) ln (nI v) = some (nI (q + nd v), ln') ∧ (∀ j, j < q → ln' j = ln j) ∧ (v < 10 → ln' q = nI (48 + v)) ∧ (10 ≤ v → v < 100 → ln' q = nI (48 + v / 10) ∧ ln' (q + 1) = nI (48 + v % 10)) ∧ (100 ≤ v → ln' q = nI (48 + v / 100) ∧ ln' (q + 1) = nI (48 + v / 10 % 10) ∧ ln' (q + 2) = nI (48 + v % 10)) := by
  unfold SX6_saysNumber_2
  rw [dig_s (by omega), nI_ten (by omega)]
  by_cases c : v < 10
  · have ed : nd v = 1 := if_pos c
    rw [ed, if_pos ((le9 (by omega)).mpr c), bnd_v, Nat.mod_eq_of_lt c, says1 ln (by omega) (by omega), bnd_v]
    exact ⟨_, rfl, fun j hj => upd_ne _ _ (by omega), fun _ => upd_same _ _ _, fun _ => by omega, fun _ => by omega⟩
  · rw [if_neg (fun z => c ((le9 (by omega)).mp z)), num1 ln (by omega) (by omega)]
    by_cases c2 : v < 100
    · have ed : nd v = 2 := by
        unfold nd
        rw [if_neg c, if_pos c2]
      rw [ed, if_pos (by omega), bnd_v, bnd_v, says1 _ (by omega) (by omega), bnd_v]
      exact ⟨upd (upd ln q (nI (48 + v / 10))) (q + 1) (nI (48 + v % 10)), rfl, fun j hj => by rw [upd_ne _ _ (by omega), upd_ne _ _ (by omega)], fun _ => by omega, fun _ _ => ⟨by rw [upd_ne _ _ (by omega), upd_same], upd_same _ _ _⟩, fun _ => by omega⟩
    · have ed : nd v = 3 := by
        unfold nd
        rw [if_neg c, if_neg c2]
      rw [ed, if_neg (by omega), bnd_v, bnd_v, says1 _ (by omega) (by omega), bnd_v]
      exact ⟨upd (upd (upd ln q (nI (48 + v / 10 / 10))) (q + 1) (nI (48 + v / 10 % 10))) (q + 2) (nI (48 + v % 10)), rfl, fun j hj => by rw [upd_ne _ _ (by omega), upd_ne _ _ (by omega), upd_ne _ _ (by omega)], fun _ => by omega, fun _ => by omega, fun _ => ⟨by rw [upd_ne _ _ (by omega), upd_ne _ _ (by omega), upd_same, Nat.div_div_eq_div_mul], by rw [upd_ne _ _ (by omega), upd_same], upd_same _ _ _⟩⟩
theorem jnum {m q n v N : Nat} {lf ln : Nat → Int32} (h : LR m q n lf ln) (hm : m ≤ 90) (hq : q + 3 ≤ m) (hN : 4 ≤ N) (hv : v < 1000) : ∃ k n' lf' ln', k ≤ 3 ∧ SJ4_append_bf812 N n lf (nI q) (nI v) = some (nI (q + k), lf', n') ∧ SX6_saysNumber_2 (nI q) ln (nI v) = some (nI (q + k), ln') ∧ LR m (q + k) n' lf' ln' := by
  obtain ⟨n', lf', a1, a2, a3, a4, a5, a6, a7, a8⟩ := app_n h hm hN hv
  obtain ⟨ln', b1, b5, b6, b7, b8⟩ := num2 (q := q) ln (by omega) hv
  have hd : nd v ≤ 3 := by unfold nd; split <;> (try split) <;> omega
  obtain ⟨h1, h2, h3, h4, h5⟩ := h
  refine ⟨nd v, n', lf', ln', hd, a1, b1, a2, a3, by omega, a4, fun j hj => ?_⟩
  by_cases cq : j < q
  · obtain ⟨y, y1, y2, y3, y4⟩ := h5 j cq
    exact ⟨y, y1, y2, (a5 j cq).trans y3, (b5 j cq).trans y4⟩
  · by_cases c : v < 10
    · have ed : nd v = 1 := if_pos c
      have : j = q := by omega
      subst this
      exact ⟨48 + v, by omega, by omega, a6 c, b6 c⟩
    · by_cases c2 : v < 100
      · have ed : nd v = 2 := by
          unfold nd
          rw [if_neg c, if_pos c2]
        obtain ⟨x1, x2⟩ := a7 (by omega) c2
        obtain ⟨z1, z2⟩ := b7 (by omega) c2
        by_cases cj : j = q
        · subst cj
          exact ⟨48 + v / 10, by omega, by omega, x1, z1⟩
        · have : j = q + 1 := by omega
          subst this
          exact ⟨48 + v % 10, by omega, by omega, x2, z2⟩
      · have ed : nd v = 3 := by
          unfold nd
          rw [if_neg c, if_neg c2]
        obtain ⟨x1, x2, x3⟩ := a8 (by omega)
        obtain ⟨z1, z2, z3⟩ := b8 (by omega)
        by_cases cj : j = q
        · subst cj
          exact ⟨48 + v / 100, by omega, by omega, x1, z1⟩
        · by_cases cj1 : j = q + 1
          · subst cj1
            exact ⟨48 + v / 10 % 10, by omega, by omega, x2, z2⟩
          · have : j = q + 2 := by omega
            subst this
            exact ⟨48 + v % 10, by omega, by omega, x3, z3⟩
