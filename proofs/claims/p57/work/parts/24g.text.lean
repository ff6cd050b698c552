/-! ===== the law's pure part: texts ===== -/
theorem ones_w {n v N p : Nat} (F : Nat → Int32) (hN : 1 ≤ N) (hv : v < 10) (hp : p < n) (hn : n ≤ 1000) : LJ6_getChars_ba4f3_22 n N F (iI (-(v : Int))) (nI (p + 1)) = some (nI p, upd F p (nI (48 + v))) := by
  obtain ⟨k, rfl⟩ : ∃ k, N = k + 1 := ⟨N - 1, by omega⟩
  have e0 : - iI (-(v : Int)) = nI v := by rw [← neg_n, Int32.neg_neg]
  have e1 : nI (p + 1) + -1 = nI p := by
    rw [← Int32.sub_eq_add_neg, show nI (p + 1) - 1 = nI (p + 1 - 1) from nI_sub (b := 1) (by omega)]
    rfl
  have e2 : jOnes v = nI (48 + v) := by
    unfold jOnes
    rw [Nat.mod_eq_of_lt hv]
  have z1 : (-100 : Int32) < iI (-(v : Int)) := by
    rw [show (-100 : Int32) = iI (-100) from rfl, iI_lt ⟨by omega, by omega⟩ ⟨by omega, by omega⟩]
    omega
  have z2 : (-9 : Int32) ≤ iI (-(v : Int)) := by
    rw [show (-9 : Int32) = iI (-9) from rfl, iI_le ⟨by omega, by omega⟩ ⟨by omega, by omega⟩]
    omega
  rw [LJ6_getChars_ba4f3_22, if_pos z1, e0, e1, gd_p (vp_in_nI (by omega) (by omega)), nI_clamp (by omega), lt_v, gd_p (vp_in_nI (by omega) (by omega)), if_pos z2, bnd_v, nI_clamp (by omega), e2, vnb (by omega)]
theorem twos_w {n v N p : Nat} (F : Nat → Int32) (hN : 1 ≤ N) (h10 : 10 ≤ v) (hv : v < 100) (hp : p + 1 < n) (hn : n ≤ 1000) : LJ6_getChars_ba4f3_22 n N F (iI (-(v : Int))) (nI (p + 2)) = some (nI p, upd (upd F (p + 1) (nI (48 + v % 10))) p (nI (48 + v / 10))) := by
  obtain ⟨k, rfl⟩ : ∃ k, N = k + 1 := ⟨N - 1, by omega⟩
  have e0 : - iI (-(v : Int)) = nI v := by rw [← neg_n, Int32.neg_neg]
  have e1 : nI (p + 2) + -1 = nI (p + 1) := by
    rw [← Int32.sub_eq_add_neg, show nI (p + 2) - 1 = nI (p + 2 - 1) from nI_sub (b := 1) (by omega)]
    rfl
  have e1' : nI (p + 1) + -1 = nI p := by
    rw [← Int32.sub_eq_add_neg, show nI (p + 1) - 1 = nI (p + 1 - 1) from nI_sub (b := 1) (by omega)]
    rfl
  have z1 : (-100 : Int32) < iI (-(v : Int)) := by
    rw [show (-100 : Int32) = iI (-100) from rfl, iI_lt ⟨by omega, by omega⟩ ⟨by omega, by omega⟩]
    omega
  have z2 : ¬ (-9 : Int32) ≤ iI (-(v : Int)) := by
    rw [show (-9 : Int32) = iI (-9) from rfl, iI_le ⟨by omega, by omega⟩ ⟨by omega, by omega⟩]
    omega
  rw [LJ6_getChars_ba4f3_22, if_pos z1, e0, e1, e1', gd_p (vp_in_nI (by omega) (by omega)), nI_clamp (by omega), lt_v, gd_p (vp_in_nI (by omega) (by omega)), if_neg z2, gd_p (vp_in_nI (by omega) (by omega)), lt_v, gd_p (vp_in_nI (by omega) (by omega)), bnd_v, nI_clamp (by omega), nI_clamp (by omega)]
  unfold jOnes jTens
  rw [vnb (by omega), vnb (by omega)]
theorem three_w {n v N p : Nat} (F : Nat → Int32) (hN : 2 ≤ N) (h10 : 100 ≤ v) (hv : v < 1000) (hp : p + 2 < n) (hn : n ≤ 1000) : LJ6_getChars_ba4f3_22 n N F (iI (-(v : Int))) (nI (p + 3)) = some (nI p, upd (upd (upd F (p + 2) (nI (48 + v % 10))) (p + 1) (nI (48 + v / 10 % 10))) p (nI (48 + v / 100))) := by
  obtain ⟨k, rfl⟩ : ∃ k, N = k + 1 := ⟨N - 1, by omega⟩
  have e1 : nI (p + 3) + -1 = nI (p + 2) := by
    rw [← Int32.sub_eq_add_neg, show nI (p + 3) - 1 = nI (p + 3 - 1) from nI_sub (b := 1) (by omega)]
    rfl
  have e1' : nI (p + 2) + -1 = nI (p + 1) := by
    rw [← Int32.sub_eq_add_neg, show nI (p + 2) - 1 = nI (p + 2 - 1) from nI_sub (b := 1) (by omega)]
    rfl
  have z1 : ¬ (-100 : Int32) < iI (-(v : Int)) := by
    rw [show (-100 : Int32) = iI (-100) from rfl, iI_lt ⟨by omega, by omega⟩ ⟨by omega, by omega⟩]
    omega
  have e3 : iI (-((v / 100 : Nat) : Int)) * 100 - iI (-(v : Int)) = nI (v % 100) := by
    rw [show (100 : Int32) = iI 100 from rfl, iI_mul, iI_sub, iI_n]
    congr 1; omega
  rw [LJ6_getChars_ba4f3_22, if_neg z1, div100 hv, e3, e1, e1', lt_v, gd_p (vp_in_nI (by omega) (by omega)), nI_clamp (by omega), lt_v, gd_p (vp_in_nI (by omega) (by omega)), gd_p (vp_in_nI (by omega) (by omega)), lt_v, gd_p (vp_in_nI (by omega) (by omega)), nI_clamp (by omega), nI_clamp (by omega), ones_w _ (by omega) (by omega) (by omega) hn]
  unfold jOnes jTens
  rw [vnb (by omega), vnb (by omega), show v % 100 % 10 = v % 10 by omega, show v % 100 / 10 = v / 10 % 10 by omega]

section LG
variable {N n : Nat} {l m : List Nat} {lf w : Nat → Int32}
def AT (l : List Nat) (lf : Nat → Int32) : Prop := ∀ (j x : Nat), l[j]? = some x → lf j = nI x
def PR (l : List Nat) : Prop := ∀ x, x ∈ l → 32 ≤ x ∧ x < 127
theorem PR.app (h : PR l) (h2 : PR m) : PR (l ++ m) := by
  intro x hx
  rcases List.mem_append.mp hx with e | e
  · exact h x e
  · exact h2 x e
theorem PR.one {x : Nat} (h : 32 ≤ x ∧ x < 127) : PR [x] := by
  intro y hy
  rw [List.mem_singleton.mp hy]
  exact h
theorem PR.nil : PR [] := fun x hx => absurd hx (by simp)
theorem PR.ite {c : Prop} [Decidable c] {x : Nat} (h : 32 ≤ x ∧ x < 127) : PR (if c then [x] else []) := by
  by_cases d : c
  · rw [if_pos d]
    exact PR.one h
  · rw [if_neg d]
    exact PR.nil
theorem AT.app {lf' : Nat → Int32} (h : AT l lf) (e : ∀ j, j < l.length → lf' j = lf j) (h2 : ∀ (j x : Nat), m[j]? = some x → lf' (l.length + j) = nI x) : AT (l ++ m) lf' := by
  intro j x hj
  rw [List.getElem?_append] at hj
  by_cases c : j < l.length
  · rw [if_pos c] at hj
    rw [e j c]
    exact h j x hj
  · rw [if_neg c] at hj
    have := h2 _ x hj
    rwa [show l.length + (j - l.length) = j by omega] at this
theorem AT.nil : AT [] lf := fun j x h => by simp at h
theorem at_1x {q x : Nat} (h : lf q = nI x) : ∀ (j y : Nat), [x][j]? = some y → lf (q + j) = nI y := by
  intro j y hj
  rcases j with _ | j
  · simp at hj
    subst hj
    exact h
  · simp at hj
/-- digits -/
def dg (v : Nat) : List Nat := if v < 10 then [48 + v] else if v < 100 then [48 + v / 10, 48 + v % 10] else [48 + v / 100, 48 + v / 10 % 10, 48 + v % 10]
theorem dg_len (v : Nat) : (dg v).length = nd v := by
  unfold dg nd
  by_cases c : v < 10
  · rw [if_pos c, if_pos c]
    rfl
  · rw [if_neg c, if_neg c]
    by_cases d : v < 100
    · rw [if_pos d, if_pos d]
      rfl
    · rw [if_neg d, if_neg d]
      rfl
theorem nd_le (v : Nat) : nd v ≤ 3 := by unfold nd; split <;> (try split) <;> omega
theorem dg_pr {v : Nat} (hv : v < 1000) : PR (dg v) := by
  unfold dg
  intro x hx
  by_cases c : v < 10
  · rw [if_pos c] at hx
    simp at hx
    omega
  · rw [if_neg c] at hx
    by_cases d : v < 100
    · rw [if_pos d] at hx
      simp at hx
      omega
    · rw [if_neg d] at hx
      simp at hx
      omega
theorem dg_at {q v : Nat} (h1 : v < 10 → lf q = nI (48 + v)) (h2 : 10 ≤ v → v < 100 → lf q = nI (48 + v / 10) ∧ lf (q + 1) = nI (48 + v % 10)) (h3 : 100 ≤ v → lf q = nI (48 + v / 100) ∧ lf (q + 1) = nI (48 + v / 10 % 10) ∧ lf (q + 2) = nI (48 + v % 10)) : ∀ (j x : Nat), (dg v)[j]? = some x → lf (q + j) = nI x := by
  intro j x hj
  unfold dg at hj
  by_cases c : v < 10
  · rw [if_pos c] at hj
    exact at_1x (h1 c) j x hj
  · rw [if_neg c] at hj
    by_cases d : v < 100
    · rw [if_pos d] at hj
      obtain ⟨a, b⟩ := h2 (by omega) d
      rcases j with _ | _ | j
      · simp at hj
        subst hj
        exact a
      · simp at hj
        subst hj
        exact b
      · simp at hj
    · rw [if_neg d] at hj
      obtain ⟨a, b, e⟩ := h3 (by omega)
      rcases j with _ | _ | _ | j
      · simp at hj
        subst hj
        exact a
      · simp at hj
        subst hj
        exact b
      · simp at hj
        subst hj
        exact e
      · simp at hj
/-- the class's line tells a text -/
def CL (l : List Nat) (n : Nat) (lf : Nat → Int32) : Prop := CapN n ∧ l.length ≤ n ∧ l.length ≤ 90 ∧ BY n lf ∧ AT l lf ∧ PR l
theorem get_some {j : Nat} (h : j < l.length) : ∃ x, l[j]? = some x ∧ x ∈ l := ⟨l[j], List.getElem?_eq_getElem h, List.getElem_mem h⟩
theorem CL.lr (h : CL l n lf) : LR 90 l.length n lf lf := by
  obtain ⟨h1, h2, h3, h4, h5, h6⟩ := h
  refine ⟨h1, h2, h3, h4, fun j hj => ?_⟩
  obtain ⟨x, hx, hm⟩ := get_some hj
  exact ⟨x, (h6 x hm).1, (h6 x hm).2, h5 j x hx, h5 j x hx⟩
theorem cl_c (h : CL l n lf) (h9 : l.length + 1 ≤ 90) {x : Nat} (hx : 32 ≤ x ∧ x < 127) : ∃ n' lf', SJ4_append_cf468 n lf (nI l.length) (nI x) = some (nI (l ++ [x]).length, lf', n') ∧ CL (l ++ [x]) n' lf' := by
  obtain ⟨n', lf', e1, e2, e3, e4, e5, e6⟩ := app1 h.lr (by omega) (x := x) (by omega)
  have hl : (l ++ [x]).length = l.length + 1 := by simp
  exact ⟨n', lf', by rw [hl]; exact e1, e2, by omega, by omega, e4, h.2.2.2.2.1.app e6 (at_1x e5), h.2.2.2.2.2.app (PR.one hx)⟩
theorem cl_n (h : CL l n lf) {v : Nat} (hv : v < 1000) (h9 : l.length + 3 ≤ 90) (hN : 4 ≤ N) : ∃ n' lf', SJ4_append_bf812 N n lf (nI l.length) (nI v) = some (nI (l ++ dg v).length, lf', n') ∧ CL (l ++ dg v) n' lf' := by
  obtain ⟨n', lf', e1, e2, e3, e4, e5, e6, e7, e8⟩ := app_n h.lr (by omega) hN hv
  have hl : (l ++ dg v).length = l.length + nd v := by rw [List.length_append, dg_len]
  have hd := nd_le v
  exact ⟨n', lf', by rw [hl]; exact e1, e2, by omega, by omega, e4, h.2.2.2.2.1.app e5 (dg_at e6 e7 e8), h.2.2.2.2.2.app (dg_pr hv)⟩
theorem cl_if (h : CL l n lf) (h9 : l.length + 1 ≤ 90) {x : Nat} (hx : 32 ≤ x ∧ x < 127) (c : Prop) [Decidable c] : ∃ n' lf', SX5_writeLetter n lf (nI l.length) (if c then 1 else 0) (nI x) = some (nI (l ++ if c then [x] else []).length, lf', n') ∧ CL (l ++ if c then [x] else []) n' lf' := by
  by_cases d : c
  · obtain ⟨n', lf', e, h'⟩ := cl_c h h9 hx
    rw [if_pos d, if_pos d]
    refine ⟨n', lf', ?_, h'⟩
    unfold SX5_writeLetter
    rw [if_neg (by decide), e, bnd_v]
  · rw [if_neg d, if_neg d, List.append_nil]
    exact ⟨n, lf, if_pos rfl, h⟩
theorem cl_0 (h : CL l n lf) {ml : Int32} : ∃ ml', SJ4_setLength_d00df n lf ml (nI l.length) 0 = some (ml', 0, lf, n) ∧ CL [] n lf := by
  obtain ⟨ml', e⟩ := setl (ml := ml) (lf := lf) h.1 h.2.1
  exact ⟨ml', e, h.1, Nat.zero_le _, Nat.zero_le _, h.2.2.2.1, AT.nil, PR.nil⟩
/-- the law's builder tells a text -/
def SB (l : List Nat) (n : Nat) (lf : Nat → Int32) : Prop := l.length ≤ n ∧ n ≤ 168 ∧ BY n lf ∧ AT l lf
def WS (l : List Nat) (w : Nat → Int32) : Prop := BY l.length w ∧ AT l w
theorem ens2 {q p : Nat} (hq : q ≤ n) (hn : n ≤ 168) (hp : p ≤ 83) (hB : BY n lf) : ∃ n' lf', SJ5_ensureCapacityInternal_d00df n lf (nI p) = some (lf', n') ∧ n' ≤ 168 ∧ p ≤ n' ∧ n ≤ n' ∧ BY n' lf' ∧ ∀ j, j < n → lf' j = lf j := by
  have e0 : nI p - nI n = iI ((p : Int) - n) := by rw [iI_n, iI_n, iI_sub]
  have z : nI p - nI n ≤ 0 ↔ p ≤ n := by
    rw [e0, z_iI, iI_le ⟨by omega, by omega⟩ ⟨by omega, by omega⟩]
    omega
  by_cases c : p ≤ n
  · exact ⟨n, lf, if_pos (z.mpr c), hn, c, Nat.le_refl _, hB, fun j _ => rfl⟩
  · obtain ⟨g, hg, eg⟩ : ∃ g, n + g = (if 2 * n + 2 < p then p else 2 * n + 2) ∧ imax (nI p - nI n) (nI n + 2) = nI g := by
      refine ⟨(if 2 * n + 2 < p then p else 2 * n + 2) - n, by split <;> omega, ?_⟩
      rw [e0, show nI n + 2 = nI (n + 2) from nI_add n 2, iI_n (n + 2), imax_v ⟨by omega, by omega⟩ ⟨by omega, by omega⟩, iI_n]
      congr 1
      split <;> omega
    have hM : n + g ≤ 168 ∧ p ≤ n + g ∧ n + 2 ≤ n + g := by
      rw [hg]
      split <;> omega
    obtain ⟨hM1, hM2, hM3⟩ := hM
    have e3 : imin (nI n) (nI (n + g)) = nI n := by
      rw [iI_n, iI_n, imin_v ⟨by omega, by omega⟩ ⟨by omega, by omega⟩]
      congr 1
      omega
    have hc : SJ5_newCapacity_0f7a4 n (nI p) = some (nI (n + g)) := by
      unfold SJ5_newCapacity_0f7a4 SJ8_newLength_cabcc
      rw [eg, nI_add, gd_p (show ¬ nI (n + g) ≤ 0 from nI_ge (b := n + g) (a := 0) (by omega) (by omega)), gd_p (show ¬ (2147483639 : Int32) < nI (n + g) from nI_nlt (a := 2147483639) (by omega) (by omega)), bnd_v, gd_p (fun z => by have := (nI_eq (a := n + g) (b := 2147483647) (by omega) (by omega)).mp z; omega)]
    have hf : ∀ i9, i9 < n → fits .byte (.int (lf (0 + i9))) = true := fun i hi => by
      obtain ⟨x, h1, h2⟩ := hB i hi
      rw [Nat.zero_add, h2]
      exact fit_b x h1
    refine ⟨n + g, va_cpy lf (fun _ => 0) 0 0 n, ?_, hM1, hM2, by omega, ?_, ?_⟩
    · unfold SJ5_ensureCapacityInternal_d00df SJ7_copyOf_9075b
      rw [if_neg (fun h => c (z.mp h)), hc, bnd_v, gd_p (fun z => by have := (nI_eq (a := n + g) (b := n) (by omega) (by omega)).mp z; omega), e3, nI_clamp (by omega), nI_clamp (by omega), gd_p ⟨nI_pos (by omega), by omega⟩, gd_p ⟨nI_pos (by omega), by omega, by omega, hf⟩, bnd_v]
    · intro j hj
      by_cases c2 : j < n
      · obtain ⟨x, h1, h2⟩ := hB j c2
        exact ⟨x, h1, by rw [cpy_in (by omega), show 0 + (j - 0) = j by omega, h2]⟩
      · exact ⟨0, by omega, by rw [cpy_out (by omega)]; rfl⟩
    · intro j hj
      rw [cpy_in (by omega), show 0 + (j - 0) = j by omega]
theorem BY.cpy {n k q : Nat} {lf w : Nat → Int32} (h : BY n lf) (hw : BY k w) : BY n (va_cpy w lf 0 q k) := by
  intro j hj
  by_cases c : q ≤ j ∧ j < q + k
  · rw [cpy_in c]
    exact hw _ (by omega)
  · rw [cpy_out c]
    exact h j hj
theorem cpy_at {q : Nat} (h : AT m w) : ∀ (j x : Nat), m[j]? = some x → va_cpy w lf 0 q m.length (q + j) = nI x := by
  intro j x hj
  have hl : j < m.length := (List.getElem?_eq_some_iff.mp hj).1
  rw [cpy_in ⟨by omega, by omega⟩, show 0 + (q + j - q) = j by omega]
  exact h j x hj
theorem sb_0 : SB [] 16 (fun _ => 0) := ⟨by decide, by decide, fun j _ => ⟨0, by omega, rfl⟩, AT.nil⟩
theorem sb_w (h : SB l n lf) (hw : WS m w) (h9 : l.length + m.length ≤ 83) : ∃ n' lf', SJ4_append_15ec4_w n lf (nI l.length) m.length w = some (nI (l ++ m).length, lf', n') ∧ SB (l ++ m) n' lf' := by
  obtain ⟨h1, h2, h3, h4⟩ := h
  obtain ⟨n', lf', e1, e2, e3, e4, e5, e6⟩ := ens2 (p := l.length + m.length) h1 h2 h9 h3
  have hf : ∀ i9, i9 < m.length → fits .byte (.int (w (0 + i9))) = true := fun i hi => by
    obtain ⟨x, h1, h2⟩ := hw.1 i hi
    rw [Nat.zero_add, h2]
    exact fit_b x h1
  refine ⟨n', va_cpy w lf' 0 l.length m.length, ?_, by rw [List.length_append]; omega, e2, e5.cpy hw.1, h4.app (fun j hj => ?_) (cpy_at hw.2)⟩
  · unfold SJ4_append_15ec4_w SJ5_append_cf1ce_w SJ0_length_8abf5_w SJ5_putStringAt_47b60_w SJ5_inflateIfNeededFor_a7421_w SJ0_getBytes_840e7_w SJ0_coder_7d493_w
    simp only [lt_v]
    rw [nI_add, e1, bnd_v, nI_clamp (by omega), nI_clamp (by omega), gd_p ⟨nI_pos (by omega), nI_pos (by omega), by omega, by omega, hf⟩, bnd_v, bnd_v, bnd_v, List.length_append]
  · rw [cpy_out (by omega), e6 j (by omega)]
def KW (m : List Nat) (k : Nat) : Prop := jLen.getD k 0 = m.length ∧ (∀ j, j < m.length → (jByt.getD k []).getD j 0 = nI (m.getD j 0)) ∧ (∀ j, j < m.length → 32 ≤ m.getD j 0 ∧ m.getD j 0 < 127)
theorem KW.ws {k : Nat} (h : KW m k) : WS m (fun j => (jByt.getD k []).getD j 0) := by
  obtain ⟨h1, h2, h3⟩ := h
  refine ⟨fun j hj => ⟨_, Nat.lt_of_lt_of_le (h3 j hj).2 (by omega), h2 j hj⟩, fun j x hx => ?_⟩
  have hl := List.getElem?_eq_some_iff.mp hx
  obtain ⟨hl, hv⟩ := hl
  have e : m.getD j 0 = x := by rw [List.getD_eq_getElem?_getD, hx]; rfl
  show (jByt.getD k []).getD j 0 = nI x
  rw [h2 j hl, e]
theorem sb_s {k : Nat} (h : SB l n lf) (hw : KW m k) (h9 : l.length + m.length ≤ 83) : ∃ n' lf', SJ4_append_15ec4 k n lf (nI l.length) = some (nI (l ++ m).length, lf', n') ∧ SB (l ++ m) n' lf' := by
  obtain ⟨h1, h2, h3, h4⟩ := h
  obtain ⟨n', lf', e1, e2, e3, e4, e5, e6⟩ := ens2 (p := l.length + m.length) h1 h2 h9 h3
  have hws := hw.ws
  have hf : ∀ i9, i9 < m.length → fits .byte (.int ((fun j => (jByt.getD k []).getD j 0) (0 + i9))) = true := fun i hi => by
    obtain ⟨x, h1, h2⟩ := hws.1 i hi
    rw [Nat.zero_add, h2]
    exact fit_b x h1
  refine ⟨n', va_cpy (fun j => (jByt.getD k []).getD j 0) lf' 0 l.length m.length, ?_, by rw [List.length_append]; omega, e2, e5.cpy hws.1, h4.app (fun j hj => ?_) (cpy_at hws.2)⟩
  · unfold SJ4_append_15ec4 SJ5_append_cf1ce SJ0_length_8abf5 SJ5_putStringAt_47b60 SJ5_inflateIfNeededFor_a7421 SJ0_getBytes_840e7 SJ0_coder_7d493
    simp only [lt_v]
    rw [hw.1, nI_add, e1, bnd_v, nI_clamp (by omega), nI_clamp (by omega), gd_p ⟨nI_pos (by omega), nI_pos (by omega), by omega, by omega, hf⟩, bnd_v, bnd_v, bnd_v, List.length_append]
  · rw [cpy_out (by omega), e6 j (by omega)]
theorem sb_c (h : SB l n lf) (h9 : l.length + 1 ≤ 83) {x : Nat} (hx : 32 ≤ x ∧ x < 127) : ∃ n' lf', SJ4_append_cf468 n lf (nI l.length) (nI x) = some (nI (l ++ [x]).length, lf', n') ∧ SB (l ++ [x]) n' lf' := by
  obtain ⟨h1, h2, h3, h4⟩ := h
  obtain ⟨n', lf', e1, e2, e3, e4, e5, e6⟩ := ens2 (p := l.length + 1) h1 h2 h9 h3
  have hc : ¬ SJ1_canEncode_fc78d (nI x) = 0 := by
    unfold SJ1_canEncode_fc78d
    rw [if_neg (show ¬ (255 : Int32) < nI x from nI_nlt (a := 255) (by omega) (by omega))]
    decide
  have hl : (l ++ [x]).length = l.length + 1 := by simp
  refine ⟨n', upd lf' l.length (nI x), ?_, by omega, e2, e5.up _ (by omega), h4.app (fun j hj => by rw [upd_ne _ _ (by omega), e6 j (by omega)]) (at_1x (upd_same _ _ _))⟩
  unfold SJ4_append_cf468 SJ5_append_3fe6f SJ5_isLatin1_aae02
  rw [nI_1, e1, bnd_v, lt_v, gd_p hc, gd_p (vp_in_nI (by omega) (by omega)), bnd_v, nI_clamp (by omega), i2b_v x (by omega), vnb (by omega), hl]
theorem sb_n (h : SB l n lf) {v : Nat} (hv : v < 1000) (h9 : l.length + nd v ≤ 83) (hN : 4 ≤ N) : ∃ n' lf', SJ4_append_bf812 N n lf (nI l.length) (nI v) = some (nI (l ++ dg v).length, lf', n') ∧ SB (l ++ dg v) n' lf' := by
  obtain ⟨h1, h2, h3, h4⟩ := h
  obtain ⟨n', lf', e1, e2, e3, e4, e5, e6⟩ := ens2 (p := l.length + nd v) h1 h2 h9 h3
  have hl : (l ++ dg v).length = l.length + nd v := by rw [List.length_append, dg_len]
  have hap : ∀ F, LJ6_getChars_ba4f3_22 n' N lf' (iI (-(v : Int))) (nI (l.length + nd v)) = some (nI l.length, F) → SJ4_append_bf812 N n lf (nI l.length) (nI v) = some (nI (l ++ dg v).length, F, n') := by
    intro F hF
    unfold SJ4_append_bf812 SJ5_append_c97b9 SJ5_isLatin1_aae02 SJ6_getChars_ba4f3
    rw [size_v hN hv, bnd_v, nI_add, e1, bnd_v, lt_v, gd_p (show (0 : Int32) ≤ nI v from nI_le (a := 0) (by omega) (by omega)), neg_n, hF, bnd_v, bnd_v, hl]
  by_cases c1 : v < 10
  · have ed : nd v = 1 := if_pos c1
    rw [ed] at e3 hap hl
    refine ⟨n', _, hap _ (ones_w lf' (by omega) c1 (by omega) (by omega)), by omega, e2, e5.up _ (by omega), h4.app (fun j hj => by rw [upd_ne _ _ (by omega), e6 j (by omega)]) (dg_at (fun _ => upd_same _ _ _) (fun _ => by omega) (fun _ => by omega))⟩
  · by_cases c2 : v < 100
    · have ed : nd v = 2 := by
        unfold nd
        rw [if_neg c1, if_pos c2]
      rw [ed] at e3 hap hl
      refine ⟨n', _, hap _ (twos_w lf' (by omega) (by omega) c2 (by omega) (by omega)), by omega, e2, (e5.up _ (by omega)).up _ (by omega), h4.app (fun j hj => by rw [upd_ne _ _ (by omega), upd_ne _ _ (by omega), e6 j (by omega)]) (dg_at (fun _ => by omega) (fun _ _ => ⟨upd_same _ _ _, by rw [upd_ne _ _ (by omega), upd_same]⟩) (fun _ => by omega))⟩
    · have ed : nd v = 3 := by
        unfold nd
        rw [if_neg c1, if_neg c2]
      rw [ed] at e3 hap hl
      refine ⟨n', _, hap _ (three_w lf' (by omega) (by omega) hv (by omega) (by omega)), by omega, e2, ((e5.up _ (by omega)).up _ (by omega)).up _ (by omega), h4.app (fun j hj => by rw [upd_ne _ _ (by omega), upd_ne _ _ (by omega), upd_ne _ _ (by omega), e6 j (by omega)]) (dg_at (fun _ => by omega) (fun _ => by omega) (fun _ => ⟨upd_same _ _ _, by rw [upd_ne _ _ (by omega), upd_same], by rw [upd_ne _ _ (by omega), upd_ne _ _ (by omega), upd_same]⟩))⟩
theorem sb_t (h : SB l n lf) (h9 : l.length ≤ 83) : ∃ w, SJ4_toString_0e30d n lf (nI l.length) = some (w, l.length) ∧ WS l w := by
  obtain ⟨h1, h2, h3, h4⟩ := h
  have hf : ∀ i9, i9 < n → fits .byte (.int (lf i9)) = true := fun i hi => by
    obtain ⟨x, h1, h2⟩ := h3 i hi
    rw [h2]
    exact fit_b x h1
  by_cases c : l.length = n
  · refine ⟨lf, ?_, fun j hj => h3 j (by omega), h4⟩
    unfold SJ4_toString_0e30d SJ0_init_81219 SJ0_init_db425 SJ5_getValue_6d5f1 SJ5_isLatin1_aae02 SJ4_length_8abf5 SJ5_length_8abf5 SJ7_copyOfRange_39247
    simp only [lt_v]
    rw [if_pos True.intro, c, if_pos rfl, gd_p ⟨by omega, hf⟩, bnd_v, bnd_v, bnd_v]
  · have e0 : nI l.length - 0 = nI l.length := Int32.sub_zero _
    have e1 : nI n - 0 = nI n := Int32.sub_zero _
    have e2 : imin (nI n) (nI l.length) = nI l.length := by
      rw [imin_n (by omega) (by omega), if_pos (by omega)]
    have e3 : Int32.toNatClampNeg 0 = 0 := by decide
    refine ⟨va_cpy lf (fun _ => 0) 0 0 l.length, ?_, fun j hj => ?_, fun j x hj => ?_⟩
    · unfold SJ4_toString_0e30d SJ0_init_81219 SJ0_init_db425 SJ5_getValue_6d5f1 SJ5_isLatin1_aae02 SJ4_length_8abf5 SJ5_length_8abf5 SJ7_copyOfRange_39247 SJ7_copyOfRangeByte_39247 SJ7_checkLength_df160
      simp only [lt_v]
      rw [if_pos True.intro, if_neg (fun e => c ((nI_eq (by omega) (by omega)).mp e)), gd_p (show (0 : Int32) ≤ nI l.length from nI_le (a := 0) (by omega) (by omega)), bnd_v, e0, e1, e2, e3, nI_clamp (by omega), gd_p ⟨nI_pos (by omega), by omega⟩, gd_p ⟨by decide, nI_pos (by omega), by omega, by omega, fun i hi => by rw [Nat.zero_add]; exact hf i (by omega)⟩, bnd_v, bnd_v, bnd_v, bnd_v]
    · rw [cpy_in (by omega), show 0 + (j - 0) = j by omega]
      exact h3 j (by omega)
    · have hl : j < l.length := (List.getElem?_eq_some_iff.mp hj).1
      rw [cpy_in (by omega), show 0 + (j - 0) = j by omega]
      exact h4 j x hj
theorem len_w (k : Nat) : SJ0_length_8abf5_w k = nI k := rfl
theorem wcharAt (h : WS l w) (h9 : l.length ≤ 83) {j x : Nat} (hj : l[j]? = some x) (hx : x < 128) : SJ0_charAt_5068e_w l.length w (nI j) = some (nI x) := by
  have hl : j < l.length := (List.getElem?_eq_some_iff.mp hj).1
  unfold SJ0_charAt_5068e_w SJ0_isLatin1_aae02_w SJ1_charAt_3b067_w SJ0_checkIndex_df160 SJ3_checkIndex_8e157_n
  rw [lt_v, gd_p (nI_pos (by omega)), gd_p (nI_lt hl (by omega)), bnd_v, bnd_v, gd_p (vp_in_nI hl (by omega)), nI_clamp (by omega), h.2 j x hj, i2c_w _ hx, gd_p (nrc hx), bnd_v, gd_p (nrc hx)]
theorem llineAt (h : CL l n lf) {j x : Nat} (hj : l[j]? = some x) (hx : x < 128) : SL_lineAt n lf (nI l.length) (nI j) = some (nI x) := by
  have hl : j < l.length := (List.getElem?_eq_some_iff.mp hj).1
  obtain ⟨h1, h2, h3, h4, h5, h6⟩ := h
  have hn := h1.le
  unfold SL_lineAt SX5_lineAt SJ4_length_8abf5 SJ5_length_8abf5 SJ4_charAt_5068e SJ5_charAt_5068e SJ0_checkIndex_df160 SJ3_checkIndex_8e157_n
  rw [if_neg (nI_pos (by omega)), if_pos (nI_lt hl (by omega)), imin_n (by omega) (by omega), if_neg (by omega), gd_p (nI_pos (by omega)), gd_p (nI_lt hl (by omega)), bnd_v, bnd_v, gd_p (vp_in_nI (by omega) (by omega)), nI_clamp (by omega), h5 j x hj, i2c_w _ hx, gd_p (nrc hx), bnd_v, gd_p (nrc hx), bnd_v, gd_p (nrc hx), bnd_v, if_pos rfl]
theorem lline_x (h : CL l n lf) : SL_lineAt n lf (nI l.length) (nI l.length) = some (-11) := by
  have h3 := h.2.2.1
  unfold SL_lineAt SX5_lineAt SJ4_length_8abf5 SJ5_length_8abf5
  rw [if_neg (nI_pos (by omega)), if_neg (nI_nlt (by omega) (by omega))]
  rfl
theorem spells_l (h : CL l n lf) (hw : WS l w) (h9 : l.length ≤ 83) {K : Int32 → Option Unit} : ∀ (d i fu : Nat), i + d = l.length → d + 1 ≤ fu → LL_spells_17 K l.length n lf (nI l.length) w fu 1 (nI i) = K 1 := by
  intro d
  induction d with
  | zero =>
    intro i fu hi hf
    obtain ⟨fu, rfl⟩ : ∃ k, fu = k + 1 := ⟨fu - 1, by omega⟩
    rw [LL_spells_17, len_w, if_pos (nI_le (by omega) (by omega))]
  | succ d ih =>
    intro i fu hi hf
    obtain ⟨fu, rfl⟩ : ∃ k, fu = k + 1 := ⟨fu - 1, by omega⟩
    obtain ⟨x, hx, hm⟩ := get_some (l := l) (j := i) (by omega)
    have hp := h.2.2.2.2.2 x hm
    rw [LL_spells_17, len_w, if_neg (nI_ge (by omega) (by omega)), if_neg (show ¬ (1 : Int32) = 0 by decide), llineAt h hx (by omega), bnd_v, wcharAt hw h9 hx (by omega), bnd_v, if_pos rfl, lt_v, nI_1]
    exact ih (i + 1) fu (by omega) (by omega)
theorem spells_c (h : CL l n lf) (hw : WS l w) (h9 : l.length ≤ 83) : SL_spells n lf (nI l.length) l.length w (nI l.length) = some () := by
  unfold SL_spells
  rw [len_w, if_pos rfl, lt_v]
  refine (spells_l h hw h9 l.length 0 101 (by omega) (by omega)).trans ?_
  rw [if_neg (show ¬ (1 : Int32) = 0 by decide), lline_x h, bnd_v, if_pos rfl]
end LG
