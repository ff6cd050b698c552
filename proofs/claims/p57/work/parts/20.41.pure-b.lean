/-! tides -/
def TG (f : Nat → Int32) : Prop := (0 ≤ q f 0 ∧ q f 0 ≤ 1000000) ∧ (-1 ≤ q f 5 ∧ q f 5 ≤ 11) ∧ (0 ≤ q f 6 ∧ q f 6 ≤ 5) ∧ (∀ j, j < mo f → gMoon f j)
theorem Good.tg {T : Int} {f : Nat → Int32} (h : Good T f) (hT : T ≤ 1000000) : TG f := by
  obtain ⟨h0, h1, h2, h5, h6, h7, ht, hs, hm, hw, hb⟩ := h
  exact ⟨⟨h0.1, by omega⟩, h5, h6, hm⟩
theorem TG.mo5 {f : Nat → Int32} (h : TG f) : mo f ≤ 5 := by
  obtain ⟨-, -, h6, -⟩ := h
  unfold mo
  omega
theorem TG.f6 {f : Nat → Int32} (h : TG f) : f 6 = nI (mo f) := q_n h.2.2.1.1
def ds (a b : Nat) : Nat := if a ≤ b then (if b - a ≤ 6 then b - a else 12 - (b - a)) else (if a - b ≤ 6 then a - b else 12 - (a - b))
theorem dist_v : ∀ a, a < 12 → ∀ b, b < 12 → SX4_distance (nI a) (nI b) = nI (ds a b) := by decide +kernel
theorem far_v : ∀ a, a < 12 → ∀ b, b < 12 → SX6_far (nI a) (nI b) = nI (ds b a) := by decide +kernel
theorem ds_6 : ∀ a, a < 12 → ∀ b, b < 12 → (nI (ds a b) = 6 ↔ (a + 6) % 12 = b) := by decide +kernel
theorem ds_le : ∀ a, a < 12 → ∀ b, b < 12 → ds a b ≤ 6 := by decide +kernel
def sh (f : Nat → Int32) (a : Nat) : Bool := decide (0 ≤ q f 5 ∧ (a + 6) % 12 = (q f 5).toNat)
theorem sh_t {f : Nat → Int32} {a : Nat} : sh f a = true ↔ 0 ≤ q f 5 ∧ (a + 6) % 12 = (q f 5).toNat := decide_eq_true_iff
theorem m1_q {f : Nat → Int32} {i : Nat} : f i = -1 ↔ q f i = -1 := by
  unfold q
  rw [← Int32.toInt_inj]
  exact Iff.rfl
theorem n1_q {f : Nat → Int32} {i : Nat} : f i = 1 ↔ q f i = 1 := by
  unfold q
  rw [← Int32.toInt_inj]
  exact Iff.rfl
theorem n0_q {f : Nat → Int32} {i : Nat} : f i = 0 ↔ q f i = 0 := by
  unfold q
  rw [← Int32.toInt_inj]
  exact Iff.rfl
theorem lt0_q {f : Nat → Int32} {i : Nat} : f i < 0 ↔ q f i < 0 := Int32.lt_iff_toInt_lt
theorem ge0_q {f : Nat → Int32} {i : Nat} : 0 ≤ f i ↔ 0 ≤ q f i := Int32.le_iff_toInt_le
theorem ecl_c {f : Nat → Int32} (h5 : -1 ≤ q f 5 ∧ q f 5 ≤ 11) {a : Nat} (ha : a < 12) : SX4_eclipsesAt f (nI a) = if sh f a then 1 else 0 := by
  unfold SX4_eclipsesAt
  rw [at_5]
  by_cases hn : q f 5 = -1
  · rw [if_pos (m1_q.mpr hn), if_neg (fun h => by have := (sh_t.mp h).1; omega)]
  · rw [if_neg (fun c => hn (m1_q.mp c))]
    have e : f 5 = nI (q f 5).toNat := q_n (by omega)
    rw [e, dist_v a ha _ (by omega)]
    have hz := ds_6 a ha (q f 5).toNat (by omega)
    by_cases h : sh f a = true
    · rw [if_pos h, if_pos (hz.mpr (sh_t.mp h).2)]
    · rw [if_neg h, if_neg (fun c => h (sh_t.mpr ⟨by omega, hz.mp c⟩))]
theorem shade_s {f s : Nat → Int32} (hR : Rel f s) (hG : TG f) {j : Nat} (hj : j < mo f) {m : Nat} (hm : m ≤ 3000) : SX6_isShaded s (nI j) (nI m) = some (if sh f (pl f j m) then 1 else 0) := by
  have h5 := hG.mo5
  obtain ⟨h0, hp, h6, hg⟩ := hG
  have hl := pl_lt f j m
  unfold SX6_isShaded
  rw [hR.r6]
  by_cases hn : q f 5 < 0
  · rw [if_pos (lt0_q.mpr hn), if_neg (fun h => by have := (sh_t.mp h).1; omega)]
  · rw [if_neg (fun c => hn (lt0_q.mp c)), pl_s hR h0 (Int.le_refl _) (hg j hj) (by omega) hm, bnd_v]
    have e : f 5 = nI (q f 5).toNat := q_n (by omega)
    have e2 : irm (nI (pl f j m) + 6) 12 = nI ((pl f j m + 6) % 12) := by
      rw [show nI (pl f j m) + 6 = nI (pl f j m + 6) from nI_add _ 6]
      exact nI_irm (b := 12) (by omega) (by omega) (by omega)
    rw [e2, e]
    have hz := nI_eq (a := (pl f j m + 6) % 12) (b := (q f 5).toNat) (by omega) (by omega)
    by_cases h : sh f (pl f j m) = true
    · rw [if_pos h, if_pos (hz.mpr (sh_t.mp h).2)]
    · rw [if_neg h, if_neg (fun c => h (sh_t.mpr ⟨by omega, hz.mp c⟩))]
def pu (f : Nat → Int32) (j m p : Nat) : Int := if sh f (pl f j m) then 0 else (ma f j m : Int) * (3 - (ds (pl f j m) p : Int))
theorem pull_b : ∀ a : Nat, a < 7 → ∀ d : Nat, d < 7 → -18 ≤ (a : Int) * (3 - (d : Int)) ∧ (a : Int) * (3 - (d : Int)) ≤ 18 := by decide +kernel
theorem pu_b {f : Nat → Int32} {j : Nat} (h : gMoon f j) (m : Nat) {p : Nat} (hp : p < 12) : -18 ≤ pu f j m p ∧ pu f j m p ≤ 18 := by
  unfold pu
  split
  · omega
  · have h1 := ma_le h m
    have h2 := ds_le _ (pl_lt f j m) p hp
    exact pull_b _ (by omega) _ (by omega)
theorem mul3 (a d : Nat) : nI a * (3 - nI d) = iI ((a : Int) * (3 - (d : Int))) := by
  rw [iI_n, iI_n, show (3 : Int32) = iI 3 from iI_n 3, iI_sub, iI_mul]
theorem z_iI : (0 : Int32) = iI 0 := iI_n 0
theorem pull_c {f : Nat → Int32} (hG : TG f) {j : Nat} (hj : j < mo f) {m : Nat} (hm : m ≤ 3000) {p : Nat} (hp : p < 12) : SX4_pull f (SX4_massAfter f (nI j) (nI m)) (SX4_placeAfter f (nI j) (nI m)) (nI p) = iI (pu f j m p) := by
  have h5 := hG.mo5
  obtain ⟨h0, hpl, h6, hg⟩ := hG
  unfold SX4_pull pu
  rw [ma_c h0 (Int.le_refl _) (hg j hj) (by omega) hm, pl_c h0 (Int.le_refl _) (hg j hj) (by omega) hm, ecl_c hpl (pl_lt f j m), dist_v _ (pl_lt f j m) p hp]
  by_cases h : sh f (pl f j m) = true
  · rw [if_pos h, if_pos h, if_neg (by decide), z_iI]
  · rw [if_neg h, if_neg h, if_pos rfl, mul3]
def SU (f : Nat → Int32) (p m : Nat) : Nat → Nat → Int
  | _, 0 => 0
  | i, d + 1 => pu f i m p + SU f p m (i + 1) d
theorem SU_b {f : Nat → Int32} (hg : ∀ j, j < mo f → gMoon f j) {p : Nat} (hp : p < 12) (m : Nat) : ∀ (d i : Nat), i + d ≤ mo f → -(18 * (d : Int)) ≤ SU f p m i d ∧ SU f p m i d ≤ 18 * (d : Int) := by
  intro d
  induction d with
  | zero => intro i _; simp [SU]
  | succ d ih =>
    intro i hi
    have h1 := ih (i + 1) (by omega)
    have h2 := pu_b (hg i (by omega)) m hp
    simp only [SU]
    omega
def dm (f : Nat → Int32) (p : Nat) (x : Int) : Int := if q f (8 + p) = 1 then x.tdiv 2 else x
theorem tdiv2_b (x : Int) (b : Int) (h : -b ≤ x ∧ x ≤ b) : -b ≤ x.tdiv 2 ∧ x.tdiv 2 ≤ b := by
  rcases Int.le_total 0 x with h0 | h0
  · rw [Int.tdiv_eq_ediv_of_nonneg h0]
    omega
  · have e : x.tdiv 2 = -((-x).tdiv 2) := by rw [Int.neg_tdiv, Int.neg_neg]
    rw [e, Int.tdiv_eq_ediv_of_nonneg (by omega)]
    omega
theorem iI_half {x : Int} (h : -1000000 ≤ x ∧ x ≤ 1000000) : iI x / 2 = iI (x.tdiv 2) := by
  have hb := tdiv2_b x 1000000 h
  apply Int32.toInt_inj.mp
  rw [Int32.toInt_div_of_ne_right _ _ (by decide), iI_toInt ⟨by omega, by omega⟩, iI_toInt ⟨by omega, by omega⟩]
  rfl
theorem damped_c {f : Nat → Int32} {p : Nat} (hp : p < 12) {x : Int} (h : -1000000 ≤ x ∧ x ≤ 1000000) : SX4_damped f (iI x) (nI p) = iI (dm f p x) := by
  have e : SX4_isPosition (nI p) = 1 := by
    unfold SX4_isPosition
    rw [if_neg (nI_pos (by omega)), if_neg (show ¬ (12 : Int32) ≤ nI p from nI_ge (b := 12) hp (by omega))]
  unfold SX4_damped SX4_isToeAt dm
  rw [e, if_neg (show ¬ (1 : Int32) = 0 by decide), toe_v f hp]
  by_cases h1 : q f (8 + p) = 1
  · rw [if_pos (n1_q.mpr h1), if_pos h1, if_neg (by decide), iI_half h]
  · rw [if_neg (fun c => h1 (n1_q.mp c)), if_neg h1, if_pos rfl]
theorem tide_loop_c {f : Nat → Int32} (hG : TG f) {p : Nat} (hp : p < 12) {m : Nat} (hm : m ≤ 3000) : ∀ (d i fu : Nat) (acc : Int), i + d = mo f → d + 1 ≤ fu → -(18 * (i : Int)) ≤ acc ∧ acc ≤ 18 * (i : Int) → LX4_tideAfter_5 f (nI p) (nI m) fu (iI acc) (nI i) = some (iI (dm f p (acc + SU f p m i d))) := by
  have h5 := hG.mo5
  intro d
  induction d with
  | zero =>
    intro i fu acc hi hf ha
    obtain ⟨fu, rfl⟩ : ∃ k, fu = k + 1 := ⟨fu - 1, by omega⟩
    rw [LX4_tideAfter_5, moons_v, hG.f6, if_pos (nI_le (by omega) (by omega)), damped_c hp (by omega)]
    simp only [SU, Int.add_zero]
  | succ d ih =>
    intro i fu acc hi hf ha
    obtain ⟨fu, rfl⟩ : ∃ k, fu = k + 1 := ⟨fu - 1, by omega⟩
    have hb := pu_b (hG.2.2.2 i (by omega)) m hp
    rw [LX4_tideAfter_5, moons_v, hG.f6, if_neg (nI_ge (by omega) (by omega)), lt_v, pull_c hG (by omega) hm hp, iI_add, nI_1, ih (i + 1) fu _ (by omega) (by omega) (by omega)]
    simp only [SU, Int.add_assoc]
/-- the tide -/
def TI (f : Nat → Int32) (p m : Nat) : Int := dm f p (SU f p m 0 (mo f))
theorem tide_c {f : Nat → Int32} (hG : TG f) {p : Nat} (hp : p < 12) {m : Nat} (hm : m ≤ 3000) {N : Nat} (hN : 6 ≤ N) : SX4_tideAfter N f (nI p) (nI m) = some (iI (TI f p m)) := by
  have h5 := hG.mo5
  have h := tide_loop_c hG hp hm (mo f) 0 N 0 (by omega) (by omega) (by omega)
  rw [← z_iI, Int.zero_add] at h
  exact h
theorem TI_b {f : Nat → Int32} (hG : TG f) {p : Nat} (hp : p < 12) (m : Nat) : -90 ≤ TI f p m ∧ TI f p m ≤ 90 := by
  have h5 := hG.mo5
  have h := SU_b hG.2.2.2 hp m (mo f) 0 (by omega)
  unfold TI dm
  split
  · exact tdiv2_b _ _ (by omega)
  · omega
theorem tide_loop_s {f s : Nat → Int32} (hR : Rel f s) (hG : TG f) {p : Nat} (hp : p < 12) {m : Nat} (hm : m ≤ 3000) : ∀ (d i fu : Nat) (acc : Int), i + d = mo f → d + 1 ≤ fu → -(18 * (i : Int)) ≤ acc ∧ acc ≤ 18 * (i : Int) → LX6_tide_5 s (nI p) (nI m) fu (iI acc) (nI i) = some (iI (dm f p (acc + SU f p m i d))) := by
  have h5 := hG.mo5
  intro d
  induction d with
  | zero =>
    intro i fu acc hi hf ha
    obtain ⟨fu, rfl⟩ : ∃ k, fu = k + 1 := ⟨fu - 1, by omega⟩
    rw [LX6_tide_5, hR.r0, hG.f6, if_pos (nI_le (by omega) (by omega)), s_p, gd_p (vp_in_nI (by omega) (by omega)), nI_clamp (by omega), hR.p hp]
    simp only [SU, Int.add_zero]
    unfold dm
    by_cases h1 : q f (8 + p) = 1
    · rw [if_pos (n1_q.mpr h1), if_pos h1, iI_half (by omega)]
    · rw [if_neg (fun c => h1 (n1_q.mp c)), if_neg h1]
  | succ d ih =>
    intro i fu acc hi hf ha
    obtain ⟨fu, rfl⟩ : ∃ k, fu = k + 1 := ⟨fu - 1, by omega⟩
    have hb := pu_b (hG.2.2.2 i (by omega)) m hp
    have hi5 : i < 5 := by omega
    have e : (if (if sh f (pl f i m) then (1 : Int32) else 0) = 0 then iI ((ma f i m : Int) * (3 - (ds (pl f i m) p : Int))) else 0) = iI (pu f i m p) := by
      unfold pu
      by_cases h : sh f (pl f i m) = true
      · rw [if_pos h, if_pos h, if_neg (by decide), z_iI]
      · rw [if_neg h, if_neg h, if_pos rfl]
    rw [LX6_tide_5, hR.r0, hG.f6, if_neg (nI_ge (by omega) (by omega)), ma_s hR hG.1 (Int.le_refl _) (hG.2.2.2 i (by omega)) hi5 hm, bnd_v, pl_s hR hG.1 (Int.le_refl _) (hG.2.2.2 i (by omega)) hi5 hm, bnd_v, lt_v, shade_s hR hG (by omega) hm, bnd_v, lt_v, far_v p hp _ (pl_lt f i m), mul3, e, iI_add, nI_1, ih (i + 1) fu _ (by omega) (by omega) (by omega)]
    simp only [SU, Int.add_assoc]
theorem tide_s {f s : Nat → Int32} (hR : Rel f s) (hG : TG f) {p : Nat} (hp : p < 12) {m : Nat} (hm : m ≤ 3000) {N : Nat} (hN : 6 ≤ N) : SX6_tide N s (nI p) (nI m) = some (iI (TI f p m)) := by
  have h5 := hG.mo5
  have h := tide_loop_s hR hG hp hm (mo f) 0 N 0 (by omega) (by omega) (by omega)
  rw [← z_iI, Int.zero_add] at h
  exact h
/-! levels -/
def LV (f : Nat → Int32) (p : Nat) : Nat := (q f 1 + TI f p 0).toNat
theorem imax0 {x : Int} (h : bd x) : imax 0 (iI x) = nI x.toNat := by
  unfold imax
  rw [z_iI, iI_n]
  by_cases c : 0 < x
  · rw [if_pos ((iI_lt ⟨by omega, by omega⟩ h).mpr c)]
    congr 1; omega
  · rw [if_neg (fun d => c ((iI_lt ⟨by omega, by omega⟩ h).mp d))]
    congr 1; omega
theorem level_c {f : Nat → Int32} (hG : TG f) (h1 : 0 ≤ q f 1 ∧ q f 1 ≤ 40) {p : Nat} (hp : p < 12) {N : Nat} (hN : 6 ≤ N) : SX4_level N f (nI p) = some (nI (LV f p)) := by
  have hb := TI_b hG hp 0
  unfold SX4_level
  rw [show SX4_tideAfter N f (nI p) 0 = _ from tide_c hG hp (m := 0) (by omega) hN, bnd_v, at_1, q_i f 1, iI_add, imax0 ⟨by omega, by omega⟩]
  rfl
theorem level_s {f s : Nat → Int32} (hR : Rel f s) (hG : TG f) (h1 : 0 ≤ q f 1 ∧ q f 1 ≤ 40) {p : Nat} (hp : p < 12) {N : Nat} (hN : 6 ≤ N) : SX6_level N s (nI p) = some (nI (LV f p)) := by
  have hb := TI_b hG hp 0
  unfold SX6_level
  rw [show SX6_tide N s (nI p) 0 = _ from tide_s hR hG hp (m := 0) (by omega) hN, bnd_v, hR.r3, q_i f 1, iI_add, imax0 ⟨by omega, by omega⟩]
  rfl
theorem LV_b {f : Nat → Int32} (hG : TG f) (h1 : 0 ≤ q f 1 ∧ q f 1 ≤ 40) {p : Nat} (hp : p < 12) : LV f p ≤ 130 := by
  have hb := TI_b hG hp 0
  unfold LV
  omega
