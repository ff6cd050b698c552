/-! ===== the pure part: what the functions answer ===== -/
theorem bnd_v {α β : Type} (a : α) (k : α → Option β) : bnd (some a) k = k a := rfl
theorem lt_v {α β : Type} (x : α) (k : α → β) : lt_ x k = k x := rfl
/-- whole numbers as ints -/
def iI (k : Int) : Int32 := Int32.ofInt k
def bd (k : Int) : Prop := -2147483648 ≤ k ∧ k < 2147483648
theorem iI_toInt {k : Int} (h : bd k) : (iI k).toInt = k := Int32.toInt_ofInt_of_le (by unfold bd at h; omega) (by unfold bd at h; omega)
theorem iI_of (x : Int32) : x = iI x.toInt := (Int32.ofInt_toInt x).symm
theorem bd_of (x : Int32) : bd x.toInt := ⟨by have := x.le_toInt; omega, by have := x.toInt_lt; omega⟩
theorem iI_add (a b : Int) : iI a + iI b = iI (a + b) := (Int32.ofInt_add a b).symm
theorem iI_sub (a b : Int) : iI a - iI b = iI (a - b) := (Int32.ofInt_sub a b).symm
theorem iI_mul (a b : Int) : iI a * iI b = iI (a * b) := (Int32.ofInt_mul a b).symm
theorem iI_n (n : Nat) : nI n = iI (n : Int) := Int32.ofInt_eq_ofNat.symm
theorem nI_mul (a b : Nat) : nI a * nI b = nI (a * b) := (Int32.ofNat_mul a b).symm
theorem iI_lt {a b : Int} (ha : bd a) (hb : bd b) : iI a < iI b ↔ a < b := by rw [Int32.lt_iff_toInt_lt, iI_toInt ha, iI_toInt hb]
theorem iI_le {a b : Int} (ha : bd a) (hb : bd b) : iI a ≤ iI b ↔ a ≤ b := by rw [Int32.le_iff_toInt_le, iI_toInt ha, iI_toInt hb]
theorem iI_eq {a b : Int} (ha : bd a) (hb : bd b) : iI a = iI b ↔ a = b := by rw [← Int32.toInt_inj, iI_toInt ha, iI_toInt hb]
theorem iI_tN {a : Int} (h : bd a) : (iI a).toNatClampNeg = a.toNat := congrArg Int.toNat (iI_toInt h)
theorem iI_div {a b : Int} (ha : 0 ≤ a) (h1 : bd a) (hb : 0 < b) (h2 : bd b) : iI a / iI b = iI (a / b) := by
  have e1 : a / b ≤ a := Int.ediv_le_self b ha
  have e2 : 0 ≤ a / b := Int.ediv_nonneg ha (by omega)
  have e3 : bd (a / b) := ⟨by unfold bd at h1; omega, by unfold bd at h1; omega⟩
  have hm : bd (-1) := ⟨by omega, by omega⟩
  apply Int32.toInt_inj.mp
  rw [Int32.toInt_div_of_ne_right _ _ (fun e => by have := (iI_eq h2 hm).mp e; omega), iI_toInt h1, iI_toInt h2, iI_toInt e3, Int.tdiv_eq_ediv_of_nonneg ha]
theorem iI_irm {a b : Int} (ha : 0 ≤ a) (h1 : bd a) (hb : 0 < b) (h2 : bd b) : irm (iI a) (iI b) = iI (a % b) := by
  unfold irm
  rw [iI_div ha h1 hb h2, iI_mul, iI_sub]
  congr 1
  have := Int.emod_def a b
  rw [Int.mul_comm (a / b) b]
  omega
theorem nI_div {a b : Nat} (ha : a < 2147483648) (h0 : 0 < b) (hb : b < 2147483648) : nI a / nI b = nI (a / b) := by
  rw [iI_n, iI_n, iI_n, iI_div (by omega) ⟨by omega, by omega⟩ (by omega) ⟨by omega, by omega⟩]
  rfl
theorem nI_irm {a b : Nat} (ha : a < 2147483648) (h0 : 0 < b) (hb : b < 2147483648) : irm (nI a) (nI b) = nI (a % b) := by
  rw [iI_n, iI_n, iI_n, iI_irm (by omega) ⟨by omega, by omega⟩ (by omega) ⟨by omega, by omega⟩]
  rfl
theorem i_asc (a b c : Int32) : a + c - b = a - b + c := by
  rw [Int32.sub_eq_add_neg, Int32.sub_eq_add_neg, Int32.add_assoc, Int32.add_comm c, ← Int32.add_assoc]
/-! rows -/
theorem at_n {n : Nat} (f : Nat → Int32) {k : Nat} (hk : k < n) (hn : n < 2147483648) : SX2_at n f (nI k) = f k := by
  unfold SX2_at
  rw [if_neg (nI_pos (by omega)), if_pos (nI_lt hk (by omega)), nI_clamp (by omega)]
theorem put_n {n : Nat} (f : Nat → Int32) {k : Nat} (x : Int32) (hk : k < n) (hn : n < 2147483648) : SX2_put n f (nI k) x = upd f k x := by
  unfold SX2_put
  rw [if_neg (nI_pos (by omega)), if_neg (nI_ge hk (by omega)), nI_clamp (by omega)]
theorem add_n {n : Nat} (f : Nat → Int32) {k : Nat} (x : Int32) (hk : k < n) (hn : n < 2147483648) : SX2_add n f (nI k) x = upd f k (f k + x) := by
  unfold SX2_add
  rw [at_n f hk hn, put_n f _ hk hn, lt_v]
theorem upd_same (f : Nat → Int32) (k : Nat) (x : Int32) : upd f k x k = x := if_pos rfl
theorem upd_ne (f : Nat → Int32) {k j : Nat} (x : Int32) (h : j ≠ k) : upd f k x j = f j := if_neg h
theorem at_0 (f : Nat → Int32) : SX2_at 61 f 0 = f 0 := at_n (n := 61) f (k := 0) (by omega) (by omega)
theorem at_1 (f : Nat → Int32) : SX2_at 61 f 1 = f 1 := at_n (n := 61) f (k := 1) (by omega) (by omega)
theorem at_2 (f : Nat → Int32) : SX2_at 61 f 2 = f 2 := at_n (n := 61) f (k := 2) (by omega) (by omega)
theorem at_3 (f : Nat → Int32) : SX2_at 61 f 3 = f 3 := at_n (n := 61) f (k := 3) (by omega) (by omega)
theorem at_4 (f : Nat → Int32) : SX2_at 61 f 4 = f 4 := at_n (n := 61) f (k := 4) (by omega) (by omega)
theorem at_5 (f : Nat → Int32) : SX2_at 61 f 5 = f 5 := at_n (n := 61) f (k := 5) (by omega) (by omega)
theorem at_6 (f : Nat → Int32) : SX2_at 61 f 6 = f 6 := at_n (n := 61) f (k := 6) (by omega) (by omega)
theorem at_7 (f : Nat → Int32) : SX2_at 61 f 7 = f 7 := at_n (n := 61) f (k := 7) (by omega) (by omega)
theorem put_5 (f : Nat → Int32) (x : Int32) : SX2_put 61 f 5 x = upd f 5 x := put_n (n := 61) f (k := 5) x (by omega) (by omega)
theorem put_6 (f : Nat → Int32) (x : Int32) : SX2_put 61 f 6 x = upd f 6 x := put_n (n := 61) f (k := 6) x (by omega) (by omega)
theorem put_7 (f : Nat → Int32) (x : Int32) : SX2_put 61 f 7 x = upd f 7 x := put_n (n := 61) f (k := 7) x (by omega) (by omega)
theorem put_1 (f : Nat → Int32) (x : Int32) : SX2_put 61 f 1 x = upd f 1 x := put_n (n := 61) f (k := 1) x (by omega) (by omega)
theorem put_2 (f : Nat → Int32) (x : Int32) : SX2_put 61 f 2 x = upd f 2 x := put_n (n := 61) f (k := 2) x (by omega) (by omega)
theorem add_0 (f : Nat → Int32) (x : Int32) : SX2_add 61 f 0 x = upd f 0 (f 0 + x) := add_n (n := 61) f (k := 0) x (by omega) (by omega)
theorem add_1 (f : Nat → Int32) (x : Int32) : SX2_add 61 f 1 x = upd f 1 (f 1 + x) := add_n (n := 61) f (k := 1) x (by omega) (by omega)
theorem add_3 (f : Nat → Int32) (x : Int32) : SX2_add 61 f 3 x = upd f 3 (f 3 + x) := add_n (n := 61) f (k := 3) x (by omega) (by omega)
theorem add_4 (f : Nat → Int32) (x : Int32) : SX2_add 61 f 4 x = upd f 4 (f 4 + x) := add_n (n := 61) f (k := 4) x (by omega) (by omega)
theorem e_m (j k : Nat) : (20 : Int32) + nI j * 5 + nI k = nI (20 + 5 * j + k) := by
  show nI 20 + nI j * nI 5 + nI k = _
  rw [nI_mul, nI_add, nI_add, Nat.mul_comm j 5]
theorem e_m0 (j : Nat) : (20 : Int32) + nI j * 5 = nI (20 + 5 * j) := by
  show nI 20 + nI j * nI 5 = _
  rw [nI_mul, nI_add, Nat.mul_comm j 5]
theorem e_t (j k : Nat) : (45 : Int32) + nI j * 4 + nI k = nI (45 + 4 * j + k) := by
  show nI 45 + nI j * nI 4 + nI k = _
  rw [nI_mul, nI_add, nI_add, Nat.mul_comm j 4]
theorem e_t0 (j : Nat) : (45 : Int32) + nI j * 4 = nI (45 + 4 * j) := by
  show nI 45 + nI j * nI 4 = _
  rw [nI_mul, nI_add, Nat.mul_comm j 4]
theorem e_p (j : Nat) : (8 : Int32) + nI j = nI (8 + j) := nI_add 8 j
theorem s_m (j k : Nat) : (19 : Int32) + 5 * nI j + nI k = nI (19 + 5 * j + k) := by
  show nI 19 + nI 5 * nI j + nI k = _
  rw [nI_mul, nI_add, nI_add]
theorem s_m0 (j : Nat) : (19 : Int32) + 5 * nI j = nI (19 + 5 * j) := by
  show nI 19 + nI 5 * nI j = _
  rw [nI_mul, nI_add]
theorem s_t (j k : Nat) : (44 : Int32) + 4 * nI j + nI k = nI (44 + 4 * j + k) := by
  show nI 44 + nI 4 * nI j + nI k = _
  rw [nI_mul, nI_add, nI_add]
theorem s_t0 (j : Nat) : (44 : Int32) + 4 * nI j = nI (44 + 4 * j) := by
  show nI 44 + nI 4 * nI j = _
  rw [nI_mul, nI_add]
theorem s_p (j : Nat) : (7 : Int32) + nI j = nI (7 + j) := nI_add 7 j
/-! the state -/
def q (f : Nat → Int32) (i : Nat) : Int := (f i).toInt
theorem q_i (f : Nat → Int32) (i : Nat) : f i = iI (q f i) := iI_of (f i)
theorem q_bd (f : Nat → Int32) (i : Nat) : bd (q f i) := bd_of (f i)
theorem q_n {f : Nat → Int32} {i : Nat} (h : 0 ≤ q f i) : f i = nI (q f i).toNat := by
  rw [iI_n, Int.toNat_of_nonneg h]
  exact q_i f i
def mo (f : Nat → Int32) : Nat := (q f 6).toNat
def tw (f : Nat → Int32) : Nat := (q f 7).toNat
def gMoon (f : Nat → Int32) (j : Nat) : Prop := (0 ≤ q f (20 + 5 * j + 0) ∧ q f (20 + 5 * j + 0) ≤ 2) ∧ (1 ≤ q f (20 + 5 * j + 1) ∧ q f (20 + 5 * j + 1) ≤ 6) ∧ (0 ≤ q f (20 + 5 * j + 2) ∧ q f (20 + 5 * j + 2) ≤ 11) ∧ (1 ≤ q f (20 + 5 * j + 3) ∧ q f (20 + 5 * j + 3) ≤ 12) ∧ (0 ≤ q f (20 + 5 * j + 4) ∧ q f (20 + 5 * j + 4) ≤ q f 0)
def gTow (f : Nat → Int32) (t : Nat) : Prop := (0 ≤ q f (45 + 4 * t + 0) ∧ q f (45 + 4 * t + 0) ≤ 11) ∧ (0 ≤ q f (45 + 4 * t + 1) ∧ q f (45 + 4 * t + 1) ≤ 60) ∧ (0 ≤ q f (45 + 4 * t + 2) ∧ q f (45 + 4 * t + 2) ≤ 5)
def toeS (f : Nat → Int32) : Nat → Int
  | 0 => 0
  | n + 1 => toeS f n + q f (8 + n)
def absS (f : Nat → Int32) : Nat → Int32
  | 0 => 0
  | n + 1 => absS f n + f (45 + 4 * n + 2)
def Good (T : Int) (f : Nat → Int32) : Prop :=
  (0 ≤ q f 0 ∧ q f 0 ≤ T) ∧ (0 ≤ q f 1 ∧ q f 1 ≤ 40) ∧ (-3 ≤ q f 2 ∧ q f 2 ≤ 3) ∧ (-1 ≤ q f 5 ∧ q f 5 ≤ 11) ∧ (0 ≤ q f 6 ∧ q f 6 ≤ 5) ∧ (0 ≤ q f 7 ∧ q f 7 ≤ 4) ∧
  (∀ i, i < 12 → q f (8 + i) = 0 ∨ q f (8 + i) = 1) ∧ toeS f 12 ≤ 4 ∧ (∀ j, j < mo f → gMoon f j) ∧ (∀ t, t < tw f → gTow f t) ∧ f 1 + f 3 + absS f (tw f) = 20 + f 4
def tau (i : Nat) : Nat := if i = 0 then 6 else if i = 1 then 7 else if i = 2 then 0 else if i = 3 then 1 else if i = 4 then 2 else if i = 5 then 3 else if i = 6 then 5 else i + 1
def Rel (f s : Nat → Int32) : Prop := ∀ i, i < 60 → s i = f (tau i)
theorem tau_ge {i : Nat} (h : 7 ≤ i) : tau i = i + 1 := by
  unfold tau
  rw [if_neg (by omega), if_neg (by omega), if_neg (by omega), if_neg (by omega), if_neg (by omega), if_neg (by omega), if_neg (by omega)]
theorem Rel.m {f s : Nat → Int32} (h : Rel f s) {j k : Nat} (hj : j < 5) (hk : k < 5) : s (19 + 5 * j + k) = f (20 + 5 * j + k) := by
  rw [h _ (by omega), tau_ge (by omega)]
  congr 1; omega
theorem Rel.t {f s : Nat → Int32} (h : Rel f s) {j k : Nat} (hj : j < 4) (hk : k < 4) : s (44 + 4 * j + k) = f (45 + 4 * j + k) := by
  rw [h _ (by omega), tau_ge (by omega)]
  congr 1; omega
theorem Rel.p {f s : Nat → Int32} (h : Rel f s) {j : Nat} (hj : j < 12) : s (7 + j) = f (8 + j) := by
  rw [h _ (by omega), tau_ge (by omega)]
  congr 1; omega
theorem Rel.r0 {f s : Nat → Int32} (h : Rel f s) : s 0 = f 6 := h 0 (by omega)
theorem Rel.r1 {f s : Nat → Int32} (h : Rel f s) : s 1 = f 7 := h 1 (by omega)
theorem Rel.r2 {f s : Nat → Int32} (h : Rel f s) : s 2 = f 0 := h 2 (by omega)
theorem Rel.r3 {f s : Nat → Int32} (h : Rel f s) : s 3 = f 1 := h 3 (by omega)
theorem Rel.r4 {f s : Nat → Int32} (h : Rel f s) : s 4 = f 2 := h 4 (by omega)
theorem Rel.r5 {f s : Nat → Int32} (h : Rel f s) : s 5 = f 3 := h 5 (by omega)
theorem Rel.r6 {f s : Nat → Int32} (h : Rel f s) : s 6 = f 5 := h 6 (by omega)
/-! reads of the class -/
theorem kind_v (f : Nat → Int32) {j : Nat} (hj : j < 5) : SX4_kindOf f (nI j) = f (20 + 5 * j + 0) := (congrArg (SX2_at 61 f) (e_m j 0)).trans (at_n f (by omega) (by omega))
theorem mass1_v (f : Nat → Int32) {j : Nat} (hj : j < 5) : SX4_firstMassOf f (nI j) = f (20 + 5 * j + 1) := (congrArg (SX2_at 61 f) (e_m j 1)).trans (at_n f (by omega) (by omega))
theorem start_v (f : Nat → Int32) {j : Nat} (hj : j < 5) : SX2_at 61 f ((20 + nI j * 5) + 2) = f (20 + 5 * j + 2) := (congrArg (SX2_at 61 f) (e_m j 2)).trans (at_n f (by omega) (by omega))
theorem per_v (f : Nat → Int32) {j : Nat} (hj : j < 5) : SX4_periodOf f (nI j) = f (20 + 5 * j + 3) := (congrArg (SX2_at 61 f) (e_m j 3)).trans (at_n f (by omega) (by omega))
theorem born_v (f : Nat → Int32) {j : Nat} (hj : j < 5) : SX2_at 61 f ((20 + nI j * 5) + 4) = f (20 + 5 * j + 4) := (congrArg (SX2_at 61 f) (e_m j 4)).trans (at_n f (by omega) (by omega))
theorem age_v (f : Nat → Int32) {j : Nat} (hj : j < 5) : SX4_ageNow f (nI j) = f 0 - f (20 + 5 * j + 4) := by
  unfold SX4_ageNow
  rw [at_0, born_v f hj]
theorem tow_v (f : Nat → Int32) {t k : Nat} (ht : t < 4) (hk : k < 4) : SX4_ofTowel f (nI t) (nI k) = f (45 + 4 * t + k) := (congrArg (SX2_at 61 f) (e_t t k)).trans (at_n f (by omega) (by omega))
theorem toe_v (f : Nat → Int32) {p : Nat} (hp : p < 12) : SX2_at 61 f (8 + nI p) = f (8 + p) := (congrArg (SX2_at 61 f) (e_p p)).trans (at_n f (by omega) (by omega))
theorem moons_v (f : Nat → Int32) : SX4_moons f = f 6 := at_6 f
theorem towels_v (f : Nat → Int32) : SX4_towels f = f 7 := at_7 f
theorem plug_v (f : Nat → Int32) : SX4_plug f = f 5 := at_5 f
/-! reads of the model -/
theorem ofMoon_v {f s : Nat → Int32} (h : Rel f s) {j k : Nat} (hj : j < 5) (hk : k < 5) : SX6_ofMoon s (nI j) (nI k) = some (f (20 + 5 * j + k)) := by
  unfold SX6_ofMoon
  rw [s_m, gd_p (vp_in_nI (by omega) (by omega)), nI_clamp (by omega), h.m hj hk]
theorem ofTow_v {f s : Nat → Int32} (h : Rel f s) {j k : Nat} (hj : j < 4) (hk : k < 4) : SX6_ofTowel s (nI j) (nI k) = some (f (45 + 4 * j + k)) := by
  unfold SX6_ofTowel
  rw [s_t, gd_p (vp_in_nI (by omega) (by omega)), nI_clamp (by omega), h.t hj hk]
/-! moons in numbers -/
def ag (f : Nat → Int32) (j : Nat) : Nat := (q f 0 - q f (20 + 5 * j + 4)).toNat
def pr (f : Nat → Int32) (j : Nat) : Nat := (q f (20 + 5 * j + 3)).toNat
def sp (f : Nat → Int32) (j : Nat) : Nat := (q f (20 + 5 * j + 2)).toNat
def m1 (f : Nat → Int32) (j : Nat) : Nat := (q f (20 + 5 * j + 1)).toNat
def kd (f : Nat → Int32) (j : Nat) : Nat := (q f (20 + 5 * j + 0)).toNat
def pl (f : Nat → Int32) (j m : Nat) : Nat := (sp f j + (ag f j + m) / pr f j) % 12
def ma (f : Nat → Int32) (j m : Nat) : Nat := if kd f j = 1 then m1 f j - (ag f j + m) / 10 else if kd f j = 2 then (if (ag f j + m) % 2 = 0 then m1 f j else m1 f j / 2) else m1 f j
theorem age_n {T : Int} {f : Nat → Int32} {j : Nat} (h0 : 0 ≤ q f 0 ∧ q f 0 ≤ T) (hT : T ≤ 1000000) (h : gMoon f j) (hj : j < 5) : SX4_ageNow f (nI j) = nI (ag f j) := by
  obtain ⟨-, -, -, -, h5, h6⟩ := h
  rw [age_v f hj, q_i f 0, q_i f (20 + 5 * j + 4), iI_sub, iI_n]
  unfold ag
  rw [Int.toNat_of_nonneg (by omega)]
theorem ag_le {T : Int} {f : Nat → Int32} {j : Nat} (h0 : 0 ≤ q f 0 ∧ q f 0 ≤ T) (hT : T ≤ 1000000) (h : gMoon f j) : ag f j ≤ 1000000 := by
  obtain ⟨-, -, -, -, h5, h6⟩ := h
  unfold ag
  omega
theorem pr_b {f : Nat → Int32} {j : Nat} (h : gMoon f j) : 1 ≤ pr f j ∧ pr f j ≤ 12 ∧ f (20 + 5 * j + 3) = nI (pr f j) := by
  obtain ⟨-, -, -, h5, -⟩ := h
  refine ⟨by unfold pr; omega, by unfold pr; omega, q_n (by omega)⟩
theorem sp_b {f : Nat → Int32} {j : Nat} (h : gMoon f j) : sp f j ≤ 11 ∧ f (20 + 5 * j + 2) = nI (sp f j) := by
  obtain ⟨-, -, h5, -⟩ := h
  exact ⟨by unfold sp; omega, q_n (by omega)⟩
theorem m1_b {f : Nat → Int32} {j : Nat} (h : gMoon f j) : 1 ≤ m1 f j ∧ m1 f j ≤ 6 ∧ f (20 + 5 * j + 1) = nI (m1 f j) := by
  obtain ⟨-, h5, -⟩ := h
  exact ⟨by unfold m1; omega, by unfold m1; omega, q_n (by omega)⟩
theorem kd_b {f : Nat → Int32} {j : Nat} (h : gMoon f j) : kd f j ≤ 2 ∧ f (20 + 5 * j + 0) = nI (kd f j) := by
  obtain ⟨h5, -⟩ := h
  exact ⟨by unfold kd; omega, q_n (by omega)⟩
theorem pl_lt (f : Nat → Int32) (j m : Nat) : pl f j m < 12 := Nat.mod_lt _ (by omega)
theorem pl_c {T : Int} {f : Nat → Int32} {j : Nat} (h0 : 0 ≤ q f 0 ∧ q f 0 ≤ T) (hT : T ≤ 1000000) (h : gMoon f j) (hj : j < 5) {m : Nat} (hm : m ≤ 3000) : SX4_placeAfter f (nI j) (nI m) = nI (pl f j m) := by
  have ha := ag_le h0 hT h
  obtain ⟨p1, p2, p3⟩ := pr_b h
  obtain ⟨s1, s2⟩ := sp_b h
  have hd : (ag f j + m) / pr f j ≤ ag f j + m := Nat.div_le_self _ _
  unfold SX4_placeAfter
  rw [per_v f hj, p3, if_pos (show (1 : Int32) ≤ nI (pr f j) from nI_le (a := 1) p1 (by omega)), lt_v, age_n h0 hT h hj, start_v f hj, s2, nI_add, nI_div (by omega) (by omega) (by omega), nI_add]
  exact nI_irm (b := 12) (by omega) (by omega) (by omega)
theorem pl_s {T : Int} {f s : Nat → Int32} (hR : Rel f s) {j : Nat} (h0 : 0 ≤ q f 0 ∧ q f 0 ≤ T) (hT : T ≤ 1000000) (h : gMoon f j) (hj : j < 5) {m : Nat} (hm : m ≤ 3000) : SX6_placeIn s (nI j) (nI m) = some (nI (pl f j m)) := by
  have ha := ag_le h0 hT h
  obtain ⟨p1, p2, p3⟩ := pr_b h
  obtain ⟨s1, s2⟩ := sp_b h
  have hd : (ag f j + m) / pr f j ≤ ag f j + m := Nat.div_le_self _ _
  have e := age_v f hj
  rw [age_n h0 hT h hj] at e
  unfold SX6_placeIn SX6_ageIn
  rw [show SX6_ofMoon s (nI j) 2 = _ from ofMoon_v hR hj (k := 2) (by omega), bnd_v, show SX6_ofMoon s (nI j) 4 = _ from ofMoon_v hR hj (k := 4) (by omega), bnd_v, bnd_v, show SX6_ofMoon s (nI j) 3 = _ from ofMoon_v hR hj (k := 3) (by omega), bnd_v, p3, gd_p (nI_ne0 (by omega) (by omega)), hR.r2, i_asc, ← e, s2, nI_add, nI_div (by omega) (by omega) (by omega), nI_add]
  exact congrArg some (nI_irm (b := 12) (by omega) (by omega) (by omega))
theorem nI_half {m : Nat} (h : m < 2147483648) : nI m / 2 = nI (m / 2) := nI_div (b := 2) h (by omega) (by omega)
theorem nI_ten {m : Nat} (h : m < 2147483648) : nI m / 10 = nI (m / 10) := nI_div (b := 10) h (by omega) (by omega)
theorem nI_par {m : Nat} (h : m < 2147483648) : irm (nI m) 2 = nI (m % 2) := nI_irm (b := 2) h (by omega) (by omega)
theorem sub_max {a b : Nat} (ha : a < 2147483648) (hb : b < 2147483648) : imax 0 (nI a - nI b) = nI (a - b) := by
  unfold imax
  rw [iI_n, iI_n, iI_sub]
  have hz : (0 : Int32) = iI 0 := iI_n 0
  rw [hz]
  by_cases h : (0 : Int) < (a : Int) - b
  · rw [if_pos ((iI_lt ⟨by omega, by omega⟩ ⟨by omega, by omega⟩).mpr h), iI_n]
    congr 1; omega
  · rw [if_neg (fun c => h ((iI_lt ⟨by omega, by omega⟩ ⟨by omega, by omega⟩).mp c)), iI_n]
    congr 1; omega
theorem nI_1eq {a : Nat} (ha : a < 2147483648) : nI a = 1 ↔ a = 1 := nI_eq (b := 1) ha (by omega)
theorem nI_2eq {a : Nat} (ha : a < 2147483648) : nI a = 2 ↔ a = 2 := nI_eq (b := 2) ha (by omega)
theorem nI_0eq {a : Nat} (ha : a < 2147483648) : nI a = 0 ↔ a = 0 := nI_eq (b := 0) ha (by omega)
theorem ma_c {T : Int} {f : Nat → Int32} {j : Nat} (h0 : 0 ≤ q f 0 ∧ q f 0 ≤ T) (hT : T ≤ 1000000) (h : gMoon f j) (hj : j < 5) {m : Nat} (hm : m ≤ 3000) : SX4_massAfter f (nI j) (nI m) = nI (ma f j m) := by
  have ha := ag_le h0 hT h
  obtain ⟨k1, k2⟩ := kd_b h
  obtain ⟨c1, c2, c3⟩ := m1_b h
  unfold SX4_massAfter ma
  rw [kind_v f hj, k2, mass1_v f hj, c3, age_n h0 hT h hj, nI_add, nI_half (by omega), nI_ten (by omega), nI_par (by omega), sub_max (by omega) (by omega)]
  simp only [nI_1eq (a := kd f j) (by omega), nI_2eq (a := kd f j) (by omega), nI_0eq (a := (ag f j + m) % 2) (by omega)]
  repeat' split
  all_goals rfl
theorem ma_s {T : Int} {f s : Nat → Int32} (hR : Rel f s) {j : Nat} (h0 : 0 ≤ q f 0 ∧ q f 0 ≤ T) (hT : T ≤ 1000000) (h : gMoon f j) (hj : j < 5) {m : Nat} (hm : m ≤ 3000) : SX6_massIn s (nI j) (nI m) = some (nI (ma f j m)) := by
  have ha := ag_le h0 hT h
  obtain ⟨k1, k2⟩ := kd_b h
  obtain ⟨c1, c2, c3⟩ := m1_b h
  have e := age_v f hj
  rw [age_n h0 hT h hj] at e
  unfold SX6_massIn SX6_ageIn ma
  rw [show SX6_ofMoon s (nI j) 1 = _ from ofMoon_v hR hj (k := 1) (by omega), bnd_v, show SX6_ofMoon s (nI j) 4 = _ from ofMoon_v hR hj (k := 4) (by omega), bnd_v, bnd_v, show SX6_ofMoon s (nI j) 0 = _ from ofMoon_v hR hj (k := 0) (by omega), bnd_v, k2, c3, hR.r2, i_asc, ← e, nI_add, nI_half (by omega), nI_ten (by omega), nI_par (by omega), sub_max (by omega) (by omega)]
  simp only [nI_1eq (a := kd f j) (by omega), nI_0eq (a := kd f j) (by omega), nI_0eq (a := (ag f j + m) % 2) (by omega)]
  have hk : kd f j = 0 ∨ kd f j = 1 ∨ kd f j = 2 := by omega
  rcases hk with e | e | e
  · rw [if_pos e, if_neg (by omega), if_neg (by omega)]
  · rw [if_neg (by omega), if_pos e, if_pos e]
  · simp only [e, if_neg (show ¬ (2 : Nat) = 0 by decide), if_neg (show ¬ (2 : Nat) = 1 by decide), if_pos (show (2 : Nat) = 2 from rfl)]
    split <;> rfl
theorem ma_le {f : Nat → Int32} {j : Nat} (h : gMoon f j) (m : Nat) : ma f j m ≤ 6 := by
  obtain ⟨c1, c2, c3⟩ := m1_b h
  unfold ma
  repeat' split
  all_goals omega
