/-! highest and lowest tides -/
def ex (f : Nat → Int32) (p : Nat) (sg : Int) : Nat → Nat → Nat → Nat
  | 0, _, w => w
  | d + 1, i, w => ex f p sg d (i + 1) (if sg * (TI f p i - TI f p w) ≤ 0 then w else i)
theorem high_c {f : Nat → Int32} (hG : TG f) {p : Nat} (hp : p < 12) {N : Nat} (hN : 6 ≤ N) : ∀ (d i fu w : Nat), i + d = 145 → d + 1 ≤ fu → w ≤ 144 → LX0_highest_12 N f (nI p) fu (nI w) (iI (TI f p w)) (nI i) = some (nI (ex f p 1 d i w)) := by
  intro d
  induction d with
  | zero =>
    intro i fu w hi hf hw
    obtain ⟨fu, rfl⟩ : ∃ k, fu = k + 1 := ⟨fu - 1, by omega⟩
    rw [LX0_highest_12, if_pos (show (144 : Int32) < nI i from nI_lt (a := 144) (by omega) (by omega))]
    rfl
  | succ d ih =>
    intro i fu w hi hf hw
    obtain ⟨fu, rfl⟩ : ∃ k, fu = k + 1 := ⟨fu - 1, by omega⟩
    have b1 := TI_b hG hp i
    have b2 := TI_b hG hp w
    rw [LX0_highest_12, if_neg (show ¬ (144 : Int32) < nI i from nI_nlt (a := 144) (by omega) (by omega)), tide_c hG hp (by omega) hN, bnd_v, lt_v, nI_1]
    have hz : iI (TI f p i) ≤ iI (TI f p w) ↔ TI f p i ≤ TI f p w := iI_le ⟨by omega, by omega⟩ ⟨by omega, by omega⟩
    simp only [ex]
    by_cases c : TI f p i ≤ TI f p w
    · rw [if_pos (hz.mpr c), if_pos (by omega)]
      exact ih (i + 1) fu w (by omega) (by omega) hw
    · rw [if_neg (fun x => c (hz.mp x)), if_neg (by omega)]
      exact ih (i + 1) fu i (by omega) (by omega) (by omega)
theorem low_c {f : Nat → Int32} (hG : TG f) {p : Nat} (hp : p < 12) {N : Nat} (hN : 6 ≤ N) : ∀ (d i fu w : Nat), i + d = 145 → d + 1 ≤ fu → w ≤ 144 → LX0_lowest_12 N f (nI p) fu (nI w) (iI (TI f p w)) (nI i) = some (nI (ex f p (-1) d i w)) := by
  intro d
  induction d with
  | zero =>
    intro i fu w hi hf hw
    obtain ⟨fu, rfl⟩ : ∃ k, fu = k + 1 := ⟨fu - 1, by omega⟩
    rw [LX0_lowest_12, if_pos (show (144 : Int32) < nI i from nI_lt (a := 144) (by omega) (by omega))]
    rfl
  | succ d ih =>
    intro i fu w hi hf hw
    obtain ⟨fu, rfl⟩ : ∃ k, fu = k + 1 := ⟨fu - 1, by omega⟩
    have b1 := TI_b hG hp i
    have b2 := TI_b hG hp w
    rw [LX0_lowest_12, if_neg (show ¬ (144 : Int32) < nI i from nI_nlt (a := 144) (by omega) (by omega)), tide_c hG hp (by omega) hN, bnd_v, lt_v, nI_1]
    have hz : iI (TI f p w) ≤ iI (TI f p i) ↔ TI f p w ≤ TI f p i := iI_le ⟨by omega, by omega⟩ ⟨by omega, by omega⟩
    simp only [ex]
    by_cases c : TI f p w ≤ TI f p i
    · rw [if_pos (hz.mpr c), if_pos (by omega)]
      exact ih (i + 1) fu w (by omega) (by omega) hw
    · rw [if_neg (fun x => c (hz.mp x)), if_neg (by omega)]
      exact ih (i + 1) fu i (by omega) (by omega) (by omega)
theorem posn_1 {p : Nat} (hp : p < 12) : SX6_isPosition (nI p) = some 1 := by
  rcases posn (nI p) with ⟨_, _, _, _, h⟩ | ⟨h, _⟩
  · exact h
  · unfold SX4_isPosition at h
    rw [if_neg (nI_pos (by omega)), if_neg (show ¬ (12 : Int32) ≤ nI p from nI_ge (b := 12) hp (by omega))] at h
    exact absurd h (by decide)
theorem ext_s {f s : Nat → Int32} (hR : Rel f s) (hG : TG f) {p : Nat} (hp : p < 12) {N : Nat} (hN : 6 ≤ N) {sg : Int} (hs : sg = 1 ∨ sg = -1) : ∀ (d i fu w : Nat) (v6 : Int32), i + d = 145 → d + 1 ≤ fu → w ≤ 144 → (v6 = 0 ∨ 0 < d) → LX6_extreme_5 N (nI p) s (iI sg) fu v6 (nI w) (nI i) = some (nI (ex f p sg d i w), 0) := by
  intro d
  induction d with
  | zero =>
    intro i fu w v6 hi hf hw hv
    obtain ⟨fu, rfl⟩ : ∃ k, fu = k + 1 := ⟨fu - 1, by omega⟩
    have hv0 : v6 = 0 := by rcases hv with h | h; exact h; omega
    rw [LX6_extreme_5, if_pos (show (144 : Int32) < nI i from nI_lt (a := 144) (by omega) (by omega)), hv0]
    rfl
  | succ d ih =>
    intro i fu w v6 hi hf hw hv
    obtain ⟨fu, rfl⟩ : ∃ k, fu = k + 1 := ⟨fu - 1, by omega⟩
    have b1 := TI_b hG hp i
    have b2 := TI_b hG hp w
    rw [LX6_extreme_5, if_neg (show ¬ (144 : Int32) < nI i from nI_nlt (a := 144) (by omega) (by omega)), posn_1 hp, bnd_v, isThere_1, bnd_v, if_neg (by decide), tide_s hR hG hp (by omega) hN, bnd_v, tide_s hR hG hp (by omega) hN, bnd_v, lt_v, nI_1, iI_sub, iI_mul]
    have hb : bd (sg * (TI f p i - TI f p w)) := by
      rcases hs with rfl | rfl
      · exact ⟨by omega, by omega⟩
      · exact ⟨by omega, by omega⟩
    have hz : iI (sg * (TI f p i - TI f p w)) ≤ 0 ↔ sg * (TI f p i - TI f p w) ≤ 0 := by
      rw [z_iI]
      exact iI_le hb ⟨by omega, by omega⟩
    simp only [ex]
    by_cases c : sg * (TI f p i - TI f p w) ≤ 0
    · rw [if_pos (hz.mpr c), if_pos c]
      exact ih (i + 1) fu w 0 (by omega) (by omega) hw (Or.inl rfl)
    · rw [if_neg (fun x => c (hz.mp x)), if_neg c]
      exact ih (i + 1) fu i 0 (by omega) (by omega) (by omega) (Or.inl rfl)
/-! conjunctions -/
def mt (f : Nat → Int32) (a b : Nat) : Nat → Nat → Option Nat
  | 0, _ => none
  | d + 1, i => if pl f a i = pl f b i then some i else mt f a b d (i + 1)
def mtc (o : Option Nat) : Int32 := match o with | some k => nI k | none => -1
def mts (o : Option Nat) : Int32 × Int32 := match o with | some k => (nI k, 0) | none => (0, 2)
theorem mt_le {f : Nat → Int32} {a b : Nat} : ∀ (d i k : Nat), mt f a b d i = some k → i ≤ k ∧ k < i + d := by
  intro d
  induction d with
  | zero => intro i k h; cases h
  | succ d ih =>
    intro i k h
    simp only [mt] at h
    split at h
    · cases h; omega
    · have := ih _ _ h; omega
theorem meet_c {f : Nat → Int32} (hG : TG f) {a b : Nat} (ha : a < mo f) (hb : b < mo f) : ∀ (d i fu : Nat), i + d = 2001 → d + 1 ≤ fu → LX0_meetingByMinutes_2 f (nI a) (nI b) fu (nI i) = some (mtc (mt f a b d i)) := by
  have h5 := hG.mo5
  intro d
  induction d with
  | zero =>
    intro i fu hi hf
    obtain ⟨fu, rfl⟩ : ∃ k, fu = k + 1 := ⟨fu - 1, by omega⟩
    rw [LX0_meetingByMinutes_2, if_pos (show (2000 : Int32) < nI i from nI_lt (a := 2000) (by omega) (by omega))]
    rfl
  | succ d ih =>
    intro i fu hi hf
    obtain ⟨fu, rfl⟩ : ∃ k, fu = k + 1 := ⟨fu - 1, by omega⟩
    rw [LX0_meetingByMinutes_2, if_neg (show ¬ (2000 : Int32) < nI i from nI_nlt (a := 2000) (by omega) (by omega)), pl_c hG.1 (Int.le_refl _) (hG.2.2.2 a ha) (by omega) (by omega), pl_c hG.1 (Int.le_refl _) (hG.2.2.2 b hb) (by omega) (by omega)]
    have l1 := pl_lt f a i
    have l2 := pl_lt f b i
    have hz : nI (pl f a i) = nI (pl f b i) ↔ pl f a i = pl f b i := nI_eq (by omega) (by omega)
    simp only [mt]
    by_cases c : pl f a i = pl f b i
    · rw [if_pos (hz.mpr c), if_pos c]
      rfl
    · rw [if_neg (fun x => c (hz.mp x)), if_neg c, nI_1]
      exact ih (i + 1) fu (by omega) (by omega)
theorem meet_s {f s : Nat → Int32} (hR : Rel f s) (hG : TG f) {a b : Nat} (ha : a < mo f) (hb : b < mo f) : ∀ (d i fu : Nat), i + d = 2001 → d + 1 ≤ fu → LX6_conjunctionIn_24 s (nI a) (nI b) fu (nI i) = some (mts (mt f a b d i)) := by
  have h5 := hG.mo5
  intro d
  induction d with
  | zero =>
    intro i fu hi hf
    obtain ⟨fu, rfl⟩ : ∃ k, fu = k + 1 := ⟨fu - 1, by omega⟩
    rw [LX6_conjunctionIn_24, if_pos (show (2000 : Int32) < nI i from nI_lt (a := 2000) (by omega) (by omega)), lt_v]
    rfl
  | succ d ih =>
    intro i fu hi hf
    obtain ⟨fu, rfl⟩ : ∃ k, fu = k + 1 := ⟨fu - 1, by omega⟩
    rw [LX6_conjunctionIn_24, if_neg (show ¬ (2000 : Int32) < nI i from nI_nlt (a := 2000) (by omega) (by omega)), pl_s hR hG.1 (Int.le_refl _) (hG.2.2.2 a ha) (by omega) (by omega), bnd_v, pl_s hR hG.1 (Int.le_refl _) (hG.2.2.2 b hb) (by omega) (by omega), bnd_v]
    have l1 := pl_lt f a i
    have l2 := pl_lt f b i
    have hz : nI (pl f a i) = nI (pl f b i) ↔ pl f a i = pl f b i := nI_eq (by omega) (by omega)
    simp only [mt]
    by_cases c : pl f a i = pl f b i
    · rw [if_pos (hz.mpr c), if_pos c]
      rfl
    · rw [if_neg (fun x => c (hz.mp x)), if_neg c, nI_1]
      exact ih (i + 1) fu (by omega) (by omega)
/-- minutes until a moon moves -/
def um (f : Nat → Int32) (j m : Nat) : Nat := pr f j - (ag f j + m) % pr f j
theorem um_b {f : Nat → Int32} {j : Nat} (h : gMoon f j) (m : Nat) : 1 ≤ um f j m ∧ um f j m ≤ 12 := by
  obtain ⟨p1, p2, -⟩ := pr_b h
  have := Nat.mod_lt (ag f j + m) (show 0 < pr f j by omega)
  unfold um
  omega
theorem um_c {f : Nat → Int32} (hG : TG f) {j : Nat} (hj : j < mo f) {m : Nat} (hm : m ≤ 3000) : SX0_untilMove f (nI j) (nI m) = nI (um f j m) := by
  have h5 := hG.mo5
  have h := hG.2.2.2 j hj
  have ha := ag_le hG.1 (Int.le_refl _) h
  obtain ⟨p1, p2, p3⟩ := pr_b h
  have hlt := Nat.mod_lt (ag f j + m) (show 0 < pr f j by omega)
  unfold SX0_untilMove um
  rw [per_v f (by omega), p3, if_pos (show (1 : Int32) ≤ nI (pr f j) from nI_le (a := 1) p1 (by omega)), age_n hG.1 (Int.le_refl _) h (by omega), nI_add, nI_irm (by omega) (by omega) (by omega), iI_n, iI_n, iI_sub, iI_n]
  congr 1; omega
theorem pl_const {f : Nat → Int32} {j : Nat} (h : gMoon f j) (m : Nat) {k : Nat} (hk : k < um f j m) : pl f j (m + k) = pl f j m := by
  obtain ⟨p1, p2, -⟩ := pr_b h
  have hlt := Nat.mod_lt (ag f j + m) (show 0 < pr f j by omega)
  have e := Nat.div_add_mod (ag f j + m) (pr f j)
  unfold um at hk
  unfold pl
  have e2 : (ag f j + (m + k)) / pr f j = (ag f j + m) / pr f j := by
    have e3 : ag f j + (m + k) = ((ag f j + m) % pr f j + k) + pr f j * ((ag f j + m) / pr f j) := by omega
    rw [e3, Nat.add_mul_div_left _ _ (by omega), Nat.div_eq_of_lt (by omega), Nat.zero_add]
  rw [e2]
theorem mt_skip {f : Nat → Int32} {a b : Nat} (ha : gMoon f a) (hb : gMoon f b) : ∀ (k d i m : Nat), pl f a m ≠ pl f b m → i = m + k → k ≤ um f a m → k ≤ um f b m → mt f a b d m = mt f a b (d - k) i := by
  intro k
  induction k with
  | zero => intro d i m _ hi _ _; subst hi; rfl
  | succ k ih =>
    intro d i m hn hi h1 h2
    rw [ih d (m + k) m hn rfl (by omega) (by omega)]
    subst hi
    cases hd : d - k with
    | zero => rw [show d - (k + 1) = 0 by omega]; rfl
    | succ e =>
      rw [show d - (k + 1) = e by omega]
      simp only [mt]
      rw [if_neg (by rw [pl_const ha m (by omega), pl_const hb m (by omega)]; exact hn)]
      rfl
theorem imin_n {a b : Nat} (ha : a < 2147483648) (hb : b < 2147483648) : imin (nI a) (nI b) = nI (if b < a then b else a) := by
  unfold imin
  by_cases c : b < a
  · rw [if_pos (nI_lt c (by omega)), if_pos c]
  · rw [if_neg (nI_nlt (by omega) (by omega)), if_neg c]
theorem moves_c {f : Nat → Int32} (hG : TG f) {a b : Nat} (ha : a < mo f) (hb : b < mo f) : ∀ (fu i t : Nat), t ≤ i → i ≤ 2012 → 2014 ≤ fu + i → 1 ≤ fu → LX0_meetingByMoves_5 f (nI a) (nI b) fu (nI i) (nI t) = some (mtc (mt f a b (2001 - i) i)) := by
  have h5 := hG.mo5
  intro fu
  induction fu with
  | zero => intro i t _ _ _ h; omega
  | succ fu ih =>
    intro i t ht hi hf h1
    rw [LX0_meetingByMoves_5]
    by_cases c1 : 2000 < t
    · rw [if_pos (show (2000 : Int32) < nI t from nI_lt (a := 2000) c1 (by omega)), show 2001 - i = 0 by omega]
      rfl
    · rw [if_neg (show ¬ (2000 : Int32) < nI t from nI_nlt (a := 2000) (by omega) (by omega))]
      by_cases c2 : 2000 < i
      · rw [if_pos (show (2000 : Int32) < nI i from nI_lt (a := 2000) c2 (by omega)), show 2001 - i = 0 by omega]
        rfl
      · rw [if_neg (show ¬ (2000 : Int32) < nI i from nI_nlt (a := 2000) (by omega) (by omega)), pl_c hG.1 (Int.le_refl _) (hG.2.2.2 a ha) (by omega) (by omega), pl_c hG.1 (Int.le_refl _) (hG.2.2.2 b hb) (by omega) (by omega)]
        have l1 := pl_lt f a i
        have l2 := pl_lt f b i
        have hz : nI (pl f a i) = nI (pl f b i) ↔ pl f a i = pl f b i := nI_eq (by omega) (by omega)
        by_cases c : pl f a i = pl f b i
        · rw [if_pos (hz.mpr c)]
          have e : 2001 - i = (2000 - i) + 1 := by omega
          rw [e]
          simp only [mt]
          rw [if_pos c]
          rfl
        · have u1 := um_b (hG.2.2.2 a ha) i
          have u2 := um_b (hG.2.2.2 b hb) i
          rw [if_neg (fun x => c (hz.mp x)), lt_v, um_c hG ha (by omega), um_c hG hb (by omega), imin_n (by omega) (by omega), nI_add, nI_1]
          have hk : ∃ k, k = (if um f b i < um f a i then um f b i else um f a i) ∧ 1 ≤ k ∧ k ≤ um f a i ∧ k ≤ um f b i := by
            refine ⟨_, rfl, ?_, ?_, ?_⟩ <;> (split <;> omega)
          obtain ⟨k, ek, k1, k2, k3⟩ := hk
          rw [← ek, mt_skip (hG.2.2.2 a ha) (hG.2.2.2 b hb) k (2001 - i) (i + k) i c rfl k2 k3, show 2001 - i - k = 2001 - (i + k) by omega]
          exact ih (i + k) (t + 1) (by omega) (by omega) (by omega) (by omega)
