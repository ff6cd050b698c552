/-! reading a text -/
def wB : List (List Nat) := [[104, 97, 114, 100], [115, 111, 102, 116], [98, 117, 98, 98, 108, 101], [114, 101, 109, 111, 118, 101], [116, 111, 101], [115, 104, 97, 118, 101], [112, 108, 117, 103], [112, 117, 108, 108], [116, 111, 119, 101, 108], [119, 114, 105, 110, 103], [102, 108, 111, 119], [119, 97, 105, 116], [32], [45]]
def wb (k i : Nat) : Nat := (wB.getD k []).getD i 0
def wl (k : Nat) : Nat := jLen.getD k 0
theorem wl_b : ∀ k, k < 14 → 1 ≤ wl k ∧ wl k ≤ 6 := by decide +kernel
theorem wb_b : ∀ k, k < 14 → ∀ i, i < 6 → wb k i < 128 ∧ (jByt.getD k []).getD i 0 = nI (wb k i) := by decide +kernel
theorem len_v (k : Nat) : SJ0_length_8abf5 k = nI (wl k) := rfl
theorem wch_v {k i : Nat} (hk : k < 14) (hi : i < wl k) : SJ0_charAt_5068e k (nI i) = some (nI (wb k i)) := by
  have h6 := (wl_b k hk).2
  obtain ⟨h1, h2⟩ := wb_b k hk i (by omega)
  have e : jLen.getD k 0 = wl k := rfl
  unfold SJ0_charAt_5068e SJ1_charAt_3b067 SJ0_checkIndex_df160 SJ3_checkIndex_8e157_n
  rw [lt_v, e, gd_p (nI_pos (by omega)), gd_p (nI_lt hi (by omega)), bnd_v, bnd_v, gd_p (vp_in_nI hi (by omega)), nI_clamp (by omega), h2, i2c_w _ h1, gd_p (nrc h1), bnd_v, gd_p (nrc h1)]
def cg (q : Nat) (tf : Nat → Int32) (p : Nat) : Int32 := if p < q then tf p else 0
section PG
variable {q n : Nat} {tf tx : Nat → Int32} {N : Nat}
theorem cg_ne {p : Nat} {x : Int32} (h : cg q tf p = x) (hx : x ≠ 0) : p < q := by
  apply Classical.byContradiction
  intro c
  unfold cg at h
  rw [if_neg c] at h
  exact hx h.symm
theorem sign_v (hl : LR 60 q n tf tx) {p : Nat} (hp : p < 1000) : SX3_signAt n tf (nI q) (nI p) = some (cg q tf p) := by
  obtain ⟨h1, h2, h3, h4, h5⟩ := hl
  have hn := h1.le
  unfold SX3_signAt cg SJ4_length_8abf5 SJ5_length_8abf5
  rw [if_neg (nI_pos (by omega))]
  by_cases c : p < q
  · obtain ⟨x, x1, x2, x3, x4⟩ := h5 p c
    have em : imin (nI q) (nI n) = nI q := by
      rw [iI_n, iI_n, imin_v ⟨by omega, by omega⟩ ⟨by omega, by omega⟩]
      congr 1; omega
    rw [if_neg (show ¬ nI q ≤ nI p from nI_ge (by omega) (by omega)), if_pos c]
    unfold SJ4_charAt_5068e SJ5_charAt_5068e SJ0_checkIndex_df160 SJ3_checkIndex_8e157_n
    rw [em, gd_p (nI_pos (by omega)), gd_p (nI_lt c (by omega)), bnd_v, bnd_v, gd_p (vp_in_nI (by omega) (by omega)), nI_clamp (by omega), x3, i2c_w x (by omega), gd_p (nrc (by omega)), bnd_v, gd_p (nrc (by omega)), bnd_v, gd_p (nrc (by omega))]
  · rw [if_pos (show nI q ≤ nI p from nI_le (by omega) (by omega)), if_neg c]
theorem behind_v (hl : LR 60 q n tf tx) {p x : Nat} (hp : p + x < 1000) : SX6_behind (nI q) (nI p) tx (nI x) = some (cg q tf (p + x)) := by
  obtain ⟨h1, h2, h3, h4, h5⟩ := hl
  unfold SX6_behind cg
  rw [nI_add]
  by_cases c : p + x < q
  · obtain ⟨y, x1, x2, x3, x4⟩ := h5 (p + x) c
    rw [if_neg (show ¬ nI q ≤ nI (p + x) from nI_ge (by omega) (by omega)), if_pos c, gd_p (vp_in_nI (by omega) (by omega)), nI_clamp (by omega), x4, x3, gd_p (nrc (by omega))]
  · rw [if_pos (show nI q ≤ nI (p + x) from nI_le (by omega) (by omega)), if_neg c]
theorem behind0 (hl : LR 60 q n tf tx) {p : Nat} (hp : p < 1000) : SX6_behind (nI q) (nI p) tx 0 = some (cg q tf p) := behind_v hl (x := 0) (by omega)
def pm (c : Nat → Int32) (k p : Nat) : Nat → Nat → Nat
  | 0, i => i
  | d + 1, i => if c (p + i) = nI (wb k i) then pm c k p d (i + 1) else i
def MM (c : Nat → Int32) (k p : Nat) : Nat := pm c k p (wl k) 0
theorem pm_p (c : Nat → Int32) (k p : Nat) : ∀ d i : Nat, i ≤ pm c k p d i ∧ pm c k p d i ≤ i + d ∧ (∀ j, i ≤ j → j < pm c k p d i → c (p + j) = nI (wb k j)) ∧ (pm c k p d i < i + d → c (p + pm c k p d i) ≠ nI (wb k (pm c k p d i))) := by
  intro d
  induction d with
  | zero => intro i; exact ⟨Nat.le_refl _, Nat.le_refl _, fun j a b => absurd b (by simp only [pm]; omega), fun h => absurd h (by simp only [pm]; omega)⟩
  | succ d ih =>
    intro i
    obtain ⟨h1, h2, h3, h4⟩ := ih (i + 1)
    simp only [pm]
    by_cases e : c (p + i) = nI (wb k i)
    · rw [if_pos e]
      refine ⟨by omega, by omega, fun j a b => ?_, fun h => h4 (by omega)⟩
      by_cases ej : j = i
      · subst ej
        exact e
      · exact h3 j (by omega) b
    · rw [if_neg e]
      exact ⟨Nat.le_refl _, by omega, fun j a b => absurd b (by omega), fun _ => e⟩
theorem MM_p (c : Nat → Int32) (k p : Nat) : MM c k p ≤ wl k ∧ (∀ j, j < MM c k p → c (p + j) = nI (wb k j)) ∧ (MM c k p < wl k → c (p + MM c k p) ≠ nI (wb k (MM c k p))) := by
  obtain ⟨h1, h2, h3, h4⟩ := pm_p c k p (wl k) 0
  exact ⟨by unfold MM; omega, fun j h => h3 j (by omega) h, fun h => h4 (by unfold MM at h; omega)⟩
theorem MM_ge {c : Nat → Int32} {k p m : Nat} (h : ∀ i, i < m → c (p + i) = nI (wb k i)) (hm : m ≤ wl k) : m ≤ MM c k p := by
  obtain ⟨h1, h2, h3⟩ := MM_p c k p
  apply Classical.byContradiction
  intro z
  exact h3 (by omega) (h _ (by omega))
theorem MM_le {c : Nat → Int32} {k p m : Nat} (h : c (p + m) ≠ nI (wb k m)) : MM c k p ≤ m := by
  obtain ⟨h1, h2, h3⟩ := MM_p c k p
  apply Classical.byContradiction
  intro z
  exact h (h2 _ (by omega))
def Wd (c0 c1 c2 : Int32) : Nat := if c0 = 98 then 2 else if c0 = 104 then 0 else if c0 = 112 then (if c1 = 117 then 7 else 6) else if c0 = 114 then 3 else if c0 = 115 then (if c1 = 104 then 5 else 1) else if c0 = 116 then (if c2 = 119 then 8 else 4) else if c0 = 119 then (if c1 = 114 then 9 else 11) else 10
theorem solo {c : Nat → Int32} {p w : Nat} (h : ∀ k, k < 12 → k ≠ w → c p ≠ nI (wb k 0)) : ∀ k, k < 12 → MM c k p ≤ MM c w p ∧ (MM c k p = wl k → k = w) := by
  intro k hk
  by_cases e : k = w
  · subst e
    exact ⟨Nat.le_refl _, fun _ => rfl⟩
  · have := MM_le (k := k) (m := 0) (h k hk e)
    have := (wl_b k (by omega)).1
    exact ⟨by omega, fun z => by omega⟩
theorem duo {c : Nat → Int32} {p w v : Nat} (h : ∀ k, k < 12 → k ≠ w → k ≠ v → c p ≠ nI (wb k 0)) (hv : MM c v p ≤ MM c w p) (hv2 : MM c v p ≠ wl v) : ∀ k, k < 12 → MM c k p ≤ MM c w p ∧ (MM c k p = wl k → k = w) := by
  intro k hk
  by_cases e : k = w
  · subst e
    exact ⟨Nat.le_refl _, fun _ => rfl⟩
  · by_cases e2 : k = v
    · subst e2
      exact ⟨hv, fun z => absurd z hv2⟩
    · have := MM_le (k := k) (m := 0) (h k hk e e2)
      have := (wl_b k (by omega)).1
      exact ⟨by omega, fun z => by omega⟩
theorem one_ge {c : Nat → Int32} {k p : Nat} (hk : k < 12) (h : c p = nI (wb k 0)) : 1 ≤ MM c k p := by
  refine MM_ge (fun i hi => ?_) (wl_b k (by omega)).1
  have : i = 0 := by omega
  subst this
  exact h
theorem Wd_lt (c0 c1 c2 : Int32) : Wd c0 c1 c2 < 12 := by
  unfold Wd
  repeat' split
  all_goals omega
theorem wfact (c : Nat → Int32) (p : Nat) : ∀ k, k < 12 → MM c k p ≤ MM c (Wd (c p) (c (p + 1)) (c (p + 2))) p ∧ (MM c k p = wl k → k = Wd (c p) (c (p + 1)) (c (p + 2))) := by
  unfold Wd
  by_cases h98 : c p = 98
  · rw [if_pos h98]
    exact solo (fun k hk e => by rw [h98]; revert k; decide)
  rw [if_neg h98]
  by_cases h104 : c p = 104
  · rw [if_pos h104]
    exact solo (fun k hk e => by rw [h104]; revert k; decide)
  rw [if_neg h104]
  by_cases h112 : c p = 112
  · rw [if_pos h112]
    by_cases g : c (p + 1) = 117
    · rw [if_pos g]
      have l : MM c 6 p ≤ 1 := MM_le (k := 6) (m := 1) (by rw [g]; decide)
      have r := one_ge (c := c) (k := 7) (p := p) (by omega) (by rw [h112]; decide)
      exact duo (v := 6) (fun k hk e e2 => by rw [h112]; revert k; decide) (by omega) (by rw [show wl 6 = 4 from rfl]; omega)
    · rw [if_neg g]
      have l : MM c 7 p ≤ 1 := MM_le (k := 7) (m := 1) g
      have r := one_ge (c := c) (k := 6) (p := p) (by omega) (by rw [h112]; decide)
      exact duo (v := 7) (fun k hk e e2 => by rw [h112]; revert k; decide) (by omega) (by rw [show wl 7 = 4 from rfl]; omega)
  rw [if_neg h112]
  by_cases h114 : c p = 114
  · rw [if_pos h114]
    exact solo (fun k hk e => by rw [h114]; revert k; decide)
  rw [if_neg h114]
  by_cases h115 : c p = 115
  · rw [if_pos h115]
    by_cases g : c (p + 1) = 104
    · rw [if_pos g]
      have l : MM c 1 p ≤ 1 := MM_le (k := 1) (m := 1) (by rw [g]; decide)
      have r := one_ge (c := c) (k := 5) (p := p) (by omega) (by rw [h115]; decide)
      exact duo (v := 1) (fun k hk e e2 => by rw [h115]; revert k; decide) (by omega) (by rw [show wl 1 = 4 from rfl]; omega)
    · rw [if_neg g]
      have l : MM c 5 p ≤ 1 := MM_le (k := 5) (m := 1) g
      have r := one_ge (c := c) (k := 1) (p := p) (by omega) (by rw [h115]; decide)
      exact duo (v := 5) (fun k hk e e2 => by rw [h115]; revert k; decide) (by omega) (by rw [show wl 5 = 5 from rfl]; omega)
  rw [if_neg h115]
  by_cases h116 : c p = 116
  · rw [if_pos h116]
    have two : ∀ k, k = 4 ∨ k = 8 → c (p + 1) = 111 → 2 ≤ MM c k p := fun k hk e => by
      refine MM_ge (fun i hi => ?_) (by rcases hk with rfl | rfl <;> decide)
      have hi' : i = 0 ∨ i = 1 := by omega
      rcases hi' with rfl | rfl
      · rw [Nat.add_zero, h116]
        rcases hk with rfl | rfl <;> decide
      · rw [e]
        rcases hk with rfl | rfl <;> decide
    have r4 := one_ge (c := c) (k := 4) (p := p) (by omega) (by rw [h116]; decide)
    have r8 := one_ge (c := c) (k := 8) (p := p) (by omega) (by rw [h116]; decide)
    by_cases g : c (p + 2) = 119
    · rw [if_pos g]
      have l : MM c 4 p ≤ 2 := MM_le (k := 4) (m := 2) (by rw [g]; decide)
      refine duo (v := 4) (fun k hk e e2 => by rw [h116]; revert k; decide) ?_ (by rw [show wl 4 = 3 from rfl]; omega)
      by_cases g1 : c (p + 1) = 111
      · have := two 8 (Or.inr rfl) g1
        omega
      · have : MM c 4 p ≤ 1 := MM_le (k := 4) (m := 1) g1
        omega
    · rw [if_neg g]
      have l : MM c 8 p ≤ 2 := MM_le (k := 8) (m := 2) g
      refine duo (v := 8) (fun k hk e e2 => by rw [h116]; revert k; decide) ?_ (by rw [show wl 8 = 5 from rfl]; omega)
      by_cases g1 : c (p + 1) = 111
      · have := two 4 (Or.inl rfl) g1
        omega
      · have : MM c 8 p ≤ 1 := MM_le (k := 8) (m := 1) g1
        omega
  rw [if_neg h116]
  by_cases h119 : c p = 119
  · rw [if_pos h119]
    by_cases g : c (p + 1) = 114
    · rw [if_pos g]
      have l : MM c 11 p ≤ 1 := MM_le (k := 11) (m := 1) (by rw [g]; decide)
      have r := one_ge (c := c) (k := 9) (p := p) (by omega) (by rw [h119]; decide)
      exact duo (v := 11) (fun k hk e e2 => by rw [h119]; revert k; decide) (by omega) (by rw [show wl 11 = 4 from rfl]; omega)
    · rw [if_neg g]
      have l : MM c 9 p ≤ 1 := MM_le (k := 9) (m := 1) g
      have r := one_ge (c := c) (k := 11) (p := p) (by omega) (by rw [h119]; decide)
      exact duo (v := 9) (fun k hk e e2 => by rw [h119]; revert k; decide) (by omega) (by rw [show wl 9 = 5 from rfl]; omega)
  rw [if_neg h119]
  refine solo (fun k hk e z => ?_)
  have hd : ∀ k, k < 12 → k ≠ 10 → nI (wb k 0) = 98 ∨ nI (wb k 0) = 104 ∨ nI (wb k 0) = 112 ∨ nI (wb k 0) = 114 ∨ nI (wb k 0) = 115 ∨ nI (wb k 0) = 116 ∨ nI (wb k 0) = 119 := by decide
  rcases hd k hk e with y | y | y | y | y | y | y
  · exact h98 (z.trans y)
  · exact h104 (z.trans y)
  · exact h112 (z.trans y)
  · exact h114 (z.trans y)
  · exact h115 (z.trans y)
  · exact h116 (z.trans y)
  · exact h119 (z.trans y)
theorem word_v (hl : LR 60 q n tf tx) {p : Nat} (hp : p < 900) : SX6_word (nI q) (nI p) tx = some (nI (Wd (cg q tf p) (cg q tf (p + 1)) (cg q tf (p + 2)))) := by
  unfold SX6_word
  rw [show SX6_behind (nI q) (nI p) tx 1 = _ from behind_v hl (x := 1) (by omega), bnd_v, behind0 hl (by omega), bnd_v, show SX6_behind (nI q) (nI p) tx 2 = _ from behind_v hl (x := 2) (by omega), bnd_v]
  generalize cg q tf p = c0
  generalize cg q tf (p + 1) = c1
  generalize cg q tf (p + 2) = c2
  unfold Wd
  by_cases h98 : c0 = 98
  · simp [h98]; rfl
  by_cases h104 : c0 = 104
  · simp [h104]; rfl
  by_cases h112 : c0 = 112
  · by_cases g : c1 = 117
    · simp [h112, g]; rfl
    · simp [h112, g]; rfl
  by_cases h114 : c0 = 114
  · simp [h114]; rfl
  by_cases h115 : c0 = 115
  · by_cases g : c1 = 104
    · simp [h115, g]; rfl
    · simp [h115, g]; rfl
  by_cases h116 : c0 = 116
  · by_cases g : c2 = 119
    · simp [h116, g]; rfl
    · simp [h116, g]; rfl
  by_cases h119 : c0 = 119
  · by_cases g : c1 = 114
    · simp [h119, g]; rfl
    · simp [h119, g]; rfl
  simp [h98, h104, h112, h114, h115, h116, h119]
  rfl
theorem same_v (hl : LR 60 q n tf tx) {k p : Nat} (hk : k < 14) (hp : p < 900) : ∀ d i fu : Nat, i + d = wl k → d + 1 ≤ fu → LX3_sameSigns_2 k n tf (nI q) (nI p) fu (nI i) = some (nI (pm (cg q tf) k p d i)) := by
  have h6 := (wl_b k hk).2
  intro d
  induction d with
  | zero =>
    intro i fu hi hf
    obtain ⟨fu, rfl⟩ : ∃ k, fu = k + 1 := ⟨fu - 1, by omega⟩
    rw [LX3_sameSigns_2, len_v, if_pos (nI_le (by omega) (by omega))]
    rfl
  | succ d ih =>
    intro i fu hi hf
    obtain ⟨fu, rfl⟩ : ∃ k, fu = k + 1 := ⟨fu - 1, by omega⟩
    rw [LX3_sameSigns_2, len_v, if_neg (nI_ge (by omega) (by omega)), nI_add, sign_v hl (by omega), bnd_v, wch_v hk (by omega), bnd_v]
    simp only [pm]
    by_cases c : cg q tf (p + i) = nI (wb k i)
    · rw [if_pos c, if_pos c, nI_1]
      exact ih (i + 1) fu (by omega) (by omega)
    · rw [if_neg c, if_neg c]
theorem skip_v (hl : LR 60 q n tf tx) {k p : Nat} (hk : k < 14) (hp : p < 900) : ∀ d i fu : Nat, i + d = wl k → d + 2 ≤ fu → LX6_skip_2 k (nI q) tx fu (nI (p + i)) 0 (nI i) = some (nI (p + pm (cg q tf) k p d i), if pm (cg q tf) k p d i = wl k then 0 else 1) := by
  have h6 := (wl_b k hk).2
  intro d
  induction d with
  | zero =>
    intro i fu hi hf
    obtain ⟨fu, rfl⟩ : ∃ k, fu = k + 1 := ⟨fu - 1, by omega⟩
    rw [LX6_skip_2, len_v, if_pos (nI_le (by omega) (by omega))]
    have e0 : pm (cg q tf) k p 0 i = i := rfl
    rw [e0, if_pos (by omega)]
  | succ d ih =>
    intro i fu hi hf
    obtain ⟨fu, rfl⟩ : ∃ k, fu = k + 1 := ⟨fu - 1, by omega⟩
    rw [LX6_skip_2, len_v, if_neg (nI_ge (by omega) (by omega)), if_pos rfl, behind0 hl (by omega), bnd_v, wch_v hk (by omega), bnd_v]
    by_cases c : cg q tf (p + i) = nI (wb k i)
    · have ep : pm (cg q tf) k p (d + 1) i = pm (cg q tf) k p d (i + 1) := if_pos c
      rw [ep, if_pos c, lt_v, gd_p ⟨nar_0, rfl⟩, if_pos rfl, lt_v, nI_1, nI_1, Nat.add_assoc]
      exact ih (i + 1) fu (by omega) (by omega)
    · have ep : pm (cg q tf) k p (d + 1) i = i := if_neg c
      rw [ep, if_neg c, lt_v, gd_p ⟨nar_1, rfl⟩, if_neg (by decide), lt_v, nI_1, add0, if_neg (by omega)]
      obtain ⟨fu, rfl⟩ : ∃ k, fu = k + 1 := ⟨fu - 1, by omega⟩
      rw [LX6_skip_2, if_neg (show ¬ (1 : Int32) = 0 by decide)]
      split <;> rfl
theorem skip_1 {k : Nat} {v10 v11 : Int32} (hk : k < 14) (hN : 1 ≤ N) : SX6_skip N k v10 v11 1 tx = some (v11, 1) := by
  obtain ⟨m, rfl⟩ : ∃ m, N = m + 1 := ⟨N - 1, by omega⟩
  unfold SX6_skip
  rw [LX6_skip_2, if_neg (show ¬ (1 : Int32) = 0 by decide)]
  split <;> rfl
end PG
