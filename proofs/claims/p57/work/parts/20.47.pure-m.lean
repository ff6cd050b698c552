/-! ===== the pure part: calls that change the state ===== -/
theorem cpy_in {g f : Nat → Int32} {a b c j : Nat} (h : b ≤ j ∧ j < b + c) : va_cpy g f a b c j = g (a + (j - b)) := if_pos h
theorem cpy_out {g f : Nat → Int32} {a b c j : Nat} (h : ¬ (b ≤ j ∧ j < b + c)) : va_cpy g f a b c j = f j := if_neg h
theorem cpy_0 (g f : Nat → Int32) (a b : Nat) : va_cpy g f a b 0 = f := by
  funext j
  exact cpy_out (by omega)
theorem cpy_s (g f : Nat → Int32) (a b i : Nat) : upd (va_cpy g f a b i) (b + i) (g (a + i)) = va_cpy g f a b (i + 1) := by
  funext j
  by_cases e : j = b + i
  · subst e
    rw [upd_same, cpy_in (by omega)]
    congr 1; omega
  · rw [upd_ne _ _ e]
    by_cases h : b ≤ j ∧ j < b + i
    · rw [cpy_in h, cpy_in (by omega)]
    · rw [cpy_out h, cpy_out (by omega)]
theorem copy_l {n k a b c : Nat} (hn : n < 2147483648) (hk : k < 2147483648) (g f : Nat → Int32) (h1 : a + c ≤ k) (h2 : b + c ≤ n) : ∀ (d i fu : Nat), i + d = c → d + 1 ≤ fu → LX2_copy_3 (nI c) n (nI b) k g (nI a) fu (va_cpy g f a b i) (nI i) = some (va_cpy g f a b c) := by
  intro d
  induction d with
  | zero =>
    intro i fu hi hf
    obtain ⟨fu, rfl⟩ : ∃ k, fu = k + 1 := ⟨fu - 1, by omega⟩
    rw [LX2_copy_3, if_pos (nI_le (by omega) (by omega)), show i = c by omega]
  | succ d ih =>
    intro i fu hi hf
    obtain ⟨fu, rfl⟩ : ∃ k, fu = k + 1 := ⟨fu - 1, by omega⟩
    rw [LX2_copy_3, if_neg (nI_ge (by omega) (by omega)), nI_add, nI_add, at_n g (by omega) hk, put_n _ _ (by omega) hn, lt_v, cpy_s, nI_1]
    exact ih (i + 1) fu (by omega) (by omega)
theorem copy_c {n k a b c N : Nat} (hn : n < 2147483648) (hk : k < 2147483648) (g f : Nat → Int32) (h1 : a + c ≤ k) (h2 : b + c ≤ n) (hN : c + 1 ≤ N) : SX2_copy N n f k g (nI a) (nI b) (nI c) = some (va_cpy g f a b c) := by
  have h := copy_l hn hk g f h1 h2 c 0 N (by omega) (by omega)
  rw [cpy_0] at h
  exact h
theorem copyo_l {n a b c : Nat} (hn : n < 2147483648) (f : Nat → Int32) (h0 : b ≤ a) (h1 : a + c ≤ n) : ∀ (d i fu : Nat), i + d = c → d + 1 ≤ fu → LX2_copy_own_3 (nI c) n (nI b) (nI a) fu (va_cpy f f a b i) (nI i) = some (va_cpy f f a b c) := by
  intro d
  induction d with
  | zero =>
    intro i fu hi hf
    obtain ⟨fu, rfl⟩ : ∃ k, fu = k + 1 := ⟨fu - 1, by omega⟩
    rw [LX2_copy_own_3, if_pos (nI_le (by omega) (by omega)), show i = c by omega]
  | succ d ih =>
    intro i fu hi hf
    obtain ⟨fu, rfl⟩ : ∃ k, fu = k + 1 := ⟨fu - 1, by omega⟩
    rw [LX2_copy_own_3, if_neg (nI_ge (by omega) (by omega)), nI_add, nI_add, at_n _ (by omega) hn, put_n _ _ (by omega) hn, lt_v, cpy_out (j := a + i) (by omega), cpy_s, nI_1]
    exact ih (i + 1) fu (by omega) (by omega)
theorem copyo_c {n a b c N : Nat} (hn : n < 2147483648) (f : Nat → Int32) (h0 : b ≤ a) (h1 : a + c ≤ n) (hN : c + 1 ≤ N) : SX2_copy_own N n f (nI a) (nI b) (nI c) = some (va_cpy f f a b c) := by
  have h := copyo_l hn f h0 h1 c 0 N (by omega) (by omega)
  rw [cpy_0] at h
  exact h
/-! what a change keeps -/
theorem q_same (f : Nat → Int32) (k : Nat) (x : Int32) : q (upd f k x) k = x.toInt := congrArg Int32.toInt (upd_same f k x)
theorem q_ne (f : Nat → Int32) {k j : Nat} (x : Int32) (h : j ≠ k) : q (upd f k x) j = q f j := congrArg Int32.toInt (upd_ne f x h)
theorem q_c {f f' : Nat → Int32} {j k : Nat} (h : f' j = f k) : q f' j = q f k := congrArg Int32.toInt h
theorem q_nI {f : Nat → Int32} {j k : Nat} (h : f j = nI k) (hk : k < 2147483648) : q f j = (k : Int) := by
  unfold q
  rw [h, iI_n, iI_toInt ⟨by omega, by omega⟩]
theorem tau_inj {i j : Nat} (h : tau i = tau j) : i = j := by
  unfold tau at h
  repeat' split at h
  all_goals omega
theorem tau_le {i : Nat} (h : i < 60) : tau i < 61 := by
  unfold tau
  repeat' split
  all_goals omega
theorem tau_4 (i : Nat) : tau i ≠ 4 := by
  unfold tau
  repeat' split
  all_goals omega
theorem Rel.up {f s : Nat → Int32} (h : Rel f s) {i k : Nat} (x : Int32) (e : tau i = k) : Rel (upd f k x) (upd s i x) := by
  subst e
  intro j hj
  by_cases c : j = i
  · subst c
    rw [upd_same, upd_same]
  · rw [upd_ne _ _ c, upd_ne _ _ (fun z => c (tau_inj z)), h j hj]
theorem Rel.free {f s : Nat → Int32} (h : Rel f s) (x : Int32) : Rel (upd f 4 x) s := by
  intro j hj
  rw [upd_ne _ _ (tau_4 j), h j hj]
theorem Rel.cpy {f b : Nat → Int32} (h : Rel f b) (s : Nat → Int32) : Rel f (va_cpy b s 0 0 60) := by
  intro j hj
  rw [cpy_in (by omega), show 0 + (j - 0) = j by omega, h j hj]
theorem upd_comm (f : Nat → Int32) {a b : Nat} (x y : Int32) (h : a ≠ b) : upd (upd f a x) b y = upd (upd f b y) a x := by
  funext j
  by_cases e : j = b
  · subst e
    rw [upd_same, upd_ne _ _ (fun z => h z.symm), upd_same]
  · rw [upd_ne _ _ e]
    by_cases e2 : j = a
    · subst e2
      rw [upd_same, upd_same]
    · rw [upd_ne _ _ e2, upd_ne _ _ e2, upd_ne _ _ e]
theorem gMoon_c {f f' : Nat → Int32} {j j' : Nat} (h : gMoon f j) (e : ∀ k, k < 5 → f' (20 + 5 * j' + k) = f (20 + 5 * j + k)) (e0 : q f 0 ≤ q f' 0) : gMoon f' j' := by
  obtain ⟨a, b, c, d, e5⟩ := h
  unfold gMoon
  rw [q_c (e 0 (by omega)), q_c (e 1 (by omega)), q_c (e 2 (by omega)), q_c (e 3 (by omega)), q_c (e 4 (by omega))]
  exact ⟨a, b, c, d, by omega⟩
theorem gTow_c {f f' : Nat → Int32} {j j' : Nat} (h : gTow f j) (e : ∀ k, k < 3 → f' (45 + 4 * j' + k) = f (45 + 4 * j + k)) : gTow f' j' := by
  obtain ⟨a, b, c⟩ := h
  unfold gTow
  rw [q_c (e 0 (by omega)), q_c (e 1 (by omega)), q_c (e 2 (by omega))]
  exact ⟨a, b, c⟩
theorem toeS_c {f f' : Nat → Int32} : ∀ n : Nat, (∀ i, i < n → f' (8 + i) = f (8 + i)) → toeS f' n = toeS f n := by
  intro n
  induction n with
  | zero => intro _; rfl
  | succ n ih =>
    intro h
    simp only [toeS]
    rw [ih (fun i hi => h i (by omega)), q_c (h n (by omega))]
theorem absS_c {f f' : Nat → Int32} : ∀ n : Nat, (∀ i, i < n → f' (45 + 4 * i + 2) = f (45 + 4 * i + 2)) → absS f' n = absS f n := by
  intro n
  induction n with
  | zero => intro _; rfl
  | succ n ih =>
    intro h
    simp only [absS]
    rw [ih (fun i hi => h i (by omega)), h n (by omega)]
theorem mo_c {f f' : Nat → Int32} (h : f' 6 = f 6) : mo f' = mo f := by
  unfold mo
  rw [q_c h]
theorem tw_c {f f' : Nat → Int32} (h : f' 7 = f 7) : tw f' = tw f := by
  unfold tw
  rw [q_c h]
theorem Good.congr {T : Int} {f f' : Nat → Int32} (h : Good T f) (e : ∀ i, i < 61 → f' i = f i) : Good T f' := by
  obtain ⟨h0, h1, h2, h5, h6, h7, ht, hs, hm, hw, hb⟩ := h
  have l6 : mo f ≤ 5 := by unfold mo; omega
  have l7 : tw f ≤ 4 := by unfold tw; omega
  unfold Good
  rw [mo_c (e 6 (by omega)), tw_c (e 7 (by omega)), toeS_c 12 (fun i hi => e _ (by omega)), absS_c (tw f) (fun i hi => e _ (by omega)), q_c (e 0 (by omega)), q_c (e 1 (by omega)), q_c (e 2 (by omega)), q_c (e 5 (by omega)), q_c (e 6 (by omega)), q_c (e 7 (by omega)), e 1 (by omega), e 3 (by omega), e 4 (by omega)]
  refine ⟨h0, h1, h2, h5, h6, h7, fun i hi => ?_, hs, fun j hj => ?_, fun t ht => ?_, hb⟩
  · rw [q_c (e _ (by omega))]
    exact ht i hi
  · exact gMoon_c (hm j hj) (fun k hk => e _ (by omega)) (by rw [q_c (e 0 (by omega))]; omega)
  · exact gTow_c (hw t ht) (fun k hk => e _ (by omega))
theorem Good.mono {T T' : Int} {f : Nat → Int32} (h : Good T f) (hT : T ≤ T') : Good T' f := by
  obtain ⟨h0, h1⟩ := h
  exact ⟨⟨h0.1, by omega⟩, h1⟩
theorem Good.m5 {T : Int} {f : Nat → Int32} (h : Good T f) : mo f ≤ 5 := by
  obtain ⟨h0, h1, h2, h5, h6, h7, ht, hs, hm, hw, hb⟩ := h
  unfold mo; omega
theorem Good.t4 {T : Int} {f : Nat → Int32} (h : Good T f) : tw f ≤ 4 := by
  obtain ⟨h0, h1, h2, h5, h6, h7, ht, hs, hm, hw, hb⟩ := h
  unfold tw; omega
theorem Good.f6 {T : Int} {f : Nat → Int32} (h : Good T f) : f 6 = nI (mo f) := by
  obtain ⟨h0, h1, h2, h5, h6, h7, ht, hs, hm, hw, hb⟩ := h
  exact q_n h6.1
theorem Good.f7 {T : Int} {f : Nat → Int32} (h : Good T f) : f 7 = nI (tw f) := by
  obtain ⟨h0, h1, h2, h5, h6, h7, ht, hs, hm, hw, hb⟩ := h
  exact q_n h7.1
/-! the histories -/
def RH (T : Int) (v1 v2 : Int32) (g : Nat → Int32) (v5 : Int32) (pp : Nat → Int32) : Prop := ∃ p k, p < 8 ∧ k ≤ 8 ∧ v1 = nI p ∧ v2 = nI k ∧ v5 = nI k ∧ ∀ j, j < k → (∀ i, i < 60 → pp (60 * j + i) = g (61 * ((p + 8 - k + j) % 8) + tau i)) ∧ Good T (fun i => g (61 * ((p + 8 - k + j) % 8) + i))
theorem RH.mono {T T' : Int} {v1 v2 v5 : Int32} {g pp : Nat → Int32} (h : RH T v1 v2 g v5 pp) (hT : T ≤ T') : RH T' v1 v2 g v5 pp := by
  obtain ⟨p, k, hp, hk, e1, e2, e5, hj⟩ := h
  exact ⟨p, k, hp, hk, e1, e2, e5, fun j h => ⟨(hj j h).1, (hj j h).2.mono hT⟩⟩
theorem keep_c {f g : Nat → Int32} {p k N : Nat} (hp : p < 8) (hk : k ≤ 8) (hN : 62 ≤ N) : SX1_keep N (nI p) (nI k) g f = some (va_cpy f g 0 (61 * p) 61, nI ((p + 1) % 8), nI (if k = 8 then 8 else k + 1)) := by
  have e1 : nI p * 61 = nI (61 * p) := by
    rw [show nI p * 61 = nI (p * 61) from nI_mul p 61, Nat.mul_comm]
  have e2 : imin (nI k + 1) 8 = nI (if k = 8 then 8 else k + 1) := by
    unfold imin
    rw [show nI k + 1 = nI (k + 1) from nI_1 k]
    by_cases c : k = 8
    · rw [if_pos c, if_pos (show (8 : Int32) < nI (k + 1) from nI_lt (a := 8) (by omega) (by omega))]
      rfl
    · rw [if_neg c, if_neg (show ¬ (8 : Int32) < nI (k + 1) from nI_nlt (a := 8) (by omega) (by omega))]
  have e3 : irm (nI p + 1) 8 = nI ((p + 1) % 8) := by
    rw [show nI p + 1 = nI (p + 1) from nI_1 p]
    exact nI_irm (b := 8) (by omega) (by omega) (by omega)
  unfold SX1_keep
  rw [e1, e2, e3, show SX2_copy N 488 g 61 f 0 (nI (61 * p)) 61 = _ from copy_c (n := 488) (k := 61) (a := 0) (b := 61 * p) (c := 61) (by omega) (by omega) f g (by omega) (by omega) (by omega), bnd_v]
theorem ends_n {ss b pp : Nat → Int32} {k : Nat} {x : Int32} (hk : k < 8) : SX6_ends (nI k) 0 ss b pp x = some (x, ss, va_cpy b pp 0 (60 * k) 60, nI (k + 1)) := by
  have e : ¬ nI k = 8 := fun c => by have := (nI_eq (a := k) (b := 8) (by omega) (by omega)).mp c; omega
  have e1 : (60 : Int32) * nI k = nI (60 * k) := nI_mul 60 k
  unfold SX6_ends
  rw [if_pos (by decide), if_neg e, lt_v, e1, gd_p ⟨nI_pos (by omega), by rw [nI_clamp (by omega)]; omega⟩, nI_clamp (by omega)]
  show some (x, ss, _, nI k + 1) = _
  rw [show nI k + 1 = nI (k + 1) from nI_1 k]
theorem ends_8 {ss b pp : Nat → Int32} {x : Int32} : SX6_ends (nI 8) 0 ss b pp x = some (x, ss, va_cpy b (va_cpy pp pp 60 0 420) 0 420 60, nI 8) := by
  unfold SX6_ends
  rw [if_pos (by decide), if_pos (show nI 8 = 8 from rfl), lt_v, gd_p ⟨show ¬ (60 : Int32) * (nI 8 - 1) < 0 by decide, show ((60 : Int32) * (nI 8 - 1)).toNatClampNeg + 60 ≤ 480 by decide⟩]
  rfl
theorem keep_r {T : Int} {v1 v2 v5 : Int32} {f b g pp : Nat → Int32} {N : Nat} (hH : RH T v1 v2 g v5 pp) (hR : Rel f b) (hG : Good T f) (hN : 62 ≤ N) : ∃ g' a c, SX1_keep N v1 v2 g f = some (g', a, c) ∧ ∃ pp' e, RH T a c g' e pp' ∧ ∀ ss x, SX6_ends v5 0 ss b pp x = some (x, ss, pp', e) := by
  obtain ⟨p, k, hp, hk, rfl, rfl, rfl, hj⟩ := hH
  refine ⟨_, _, _, keep_c hp hk hN, ?_⟩
  by_cases c : k = 8
  · subst c
    refine ⟨_, _, ?_, fun ss x => ends_8⟩
    refine ⟨(p + 1) % 8, 8, by omega, by omega, rfl, by rw [if_pos rfl], rfl, fun j h => ?_⟩
    by_cases c7 : j = 7
    · subst c7
      have e : ((p + 1) % 8 + 8 - 8 + 7) % 8 = p := by omega
      rw [e]
      refine ⟨fun i hi => ?_, hG.congr (fun i hi => ?_)⟩
      · have := tau_le hi
        rw [cpy_in (by omega), cpy_in (by omega), show 0 + (60 * 7 + i - 420) = i by omega, hR i hi]
        congr 1; omega
      · show va_cpy f g 0 (61 * p) 61 (61 * p + i) = f i
        rw [cpy_in (by omega)]
        congr 1; omega
    · obtain ⟨h1, h2⟩ := hj (j + 1) (by omega)
      have e : ((p + 1) % 8 + 8 - 8 + j) % 8 = (p + 8 - 8 + (j + 1)) % 8 := by omega
      rw [e]
      have hne : (p + 8 - 8 + (j + 1)) % 8 ≠ p := by omega
      refine ⟨fun i hi => ?_, h2.congr (fun i hi => ?_)⟩
      · have := tau_le hi
        rw [cpy_out (by omega), cpy_in (by omega), cpy_out (by omega), ← h1 i hi]
        congr 1; omega
      · exact cpy_out (by omega)
  · refine ⟨_, _, ?_, fun ss x => ends_n (by omega)⟩
    refine ⟨(p + 1) % 8, k + 1, by omega, by omega, rfl, by rw [if_neg c], rfl, fun j h => ?_⟩
    by_cases c7 : j = k
    · subst c7
      have e : ((p + 1) % 8 + 8 - (j + 1) + j) % 8 = p := by omega
      rw [e]
      refine ⟨fun i hi => ?_, hG.congr (fun i hi => ?_)⟩
      · have := tau_le hi
        rw [cpy_in (by omega), cpy_in (by omega), show 0 + (60 * j + i - 60 * j) = i by omega, hR i hi]
        congr 1; omega
      · show va_cpy f g 0 (61 * p) 61 (61 * p + i) = f i
        rw [cpy_in (by omega)]
        congr 1; omega
    · obtain ⟨h1, h2⟩ := hj j (by omega)
      have e : ((p + 1) % 8 + 8 - (k + 1) + j) % 8 = (p + 8 - k + j) % 8 := by omega
      rw [e]
      have hne : (p + 8 - k + j) % 8 ≠ p := by omega
      refine ⟨fun i hi => ?_, h2.congr (fun i hi => ?_)⟩
      · have := tau_le hi
        rw [cpy_out (by omega), cpy_out (by omega), ← h1 i hi]
      · exact cpy_out (by omega)
theorem ends_x {v5 c x : Int32} {ss b pp : Nat → Int32} (h : ¬ c ≤ 0) : SX6_ends v5 c ss b pp x = some (0, va_cpy b ss 0 0 60, pp, v5) := if_neg h
/-! the end of a call that changes the state -/
theorem fin3 {α : Type} {P : α → Prop} {t k : Int32} {a b : Int64} {X : α} (h1 : t = k) (h2 : k = 0 → a = b) (hP : P X) : ∃ r, (if SX6_thrown t = k then (if k = 0 then (if lg_cmp a b = 0 then some X else none) else some X) else none) = some r ∧ P r := by
  subst h1
  rw [if_pos (show SX6_thrown t = t from rfl)]
  by_cases h0 : t = 0
  · rw [if_pos h0, if_pos (by rw [h2 h0]; exact lg_self _)]
    exact ⟨_, rfl, hP⟩
  · rw [if_neg h0]
    exact ⟨_, rfl, hP⟩
theorem fin3b {α : Type} {P : α → Prop} {t k v : Int32} {a : Int64} {X : α} (h1 : t = k) (h2 : k = 0 → a = if v = 0 then 0 else 1) (hP : P X) : ∃ r, (if SX6_thrown t = k then (if k = 0 then (lt_ (if v = 0 then (0 : Int64) else 1) (fun o10 : Int64 => if lg_cmp a o10 = 0 then some X else none)) else some X) else none) = some r ∧ P r := by
  subst h1
  rw [if_pos (show SX6_thrown t = t from rfl)]
  by_cases h0 : t = 0
  · rw [if_pos h0, h2 h0, lt_v, if_pos (lg_self _)]
    exact ⟨_, rfl, hP⟩
  · rw [if_neg h0]
    exact ⟨_, rfl, hP⟩
