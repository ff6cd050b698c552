/-! the start: statics and strings -/
def zIx : List Nat := [314, 383, 305, 319, 321, 330, 341, 346, 348, 381, 385, 387]
def zTm (i : Nat) : Term := if i < 12 then .string RX3 (98 + 2 * i) else .string RL (zIx.getD (i - 12) 0)
def zPos : List Nat := [976, 984, 992, 1002, 1012, 1019, 1028, 1036, 1044, 1053, 1062, 1070, 658, 889, 654, 663, 668, 706, 828, 835, 840, 880, 894, 904]
theorem zs_lt : ∀ i, i < 24 → jLen.getD i 0 < 2 ^ 31 := by decide +kernel
theorem zs_ex : ∀ i, i < 24 → zF[zPos.getD i 0]? = some (.exactly (zTm i) "java/lang/String") := by decide +kernel
theorem zs_co : ∀ i, i < 24 → zF[zPos.getD i 0 + 1]? = some (.eq (.field (zTm i) "java/lang/String" "coder" "B") (.int 0)) := by decide +kernel
theorem zs_ar : ∀ i, i < 24 → zF[zPos.getD i 0 + 2]? = some (.arrayOf (.field (zTm i) "java/lang/String" "value" "[B") .byte) := by decide +kernel
theorem zs_le : ∀ i, i < 24 → zF[zPos.getD i 0 + 3]? = some (.eq (.length (.field (zTm i) "java/lang/String" "value" "[B")) (.int (Int32.ofNat (jLen.getD i 0)))) := by decide +kernel
theorem zs_el : ∀ i, i < 24 → ∀ j, j < jLen.getD i 0 → zF[zPos.getD i 0 + 4 + j]? = some (.eq (.elem (.field (zTm i) "java/lang/String" "value" "[B") (.int (Int32.ofNat j))) (.int ((jByt.getD i []).getD j 0))) := by decide +kernel
theorem zs_ne : ∀ i, i < 24 → ∀ j, j < 24 → Int32.ofNat (jLen.getD i 0) = Int32.ofNat (jLen.getD j 0) → (∀ k, k < jLen.getD i 0 → (jByt.getD i []).getD k 0 = (jByt.getD j []).getD k 0) → i = j := by decide +kernel
theorem zs {args : Array Value} {s : State} {A : Nat → Prop} (hf : ∀ w ∈ zF, w.before args s = true) (hA : ∀ a : Nat, a < s.heap.size → ¬ A a) (i : Nat) (hi : i < 24) : ∃ a v : Nat, (zTm i).eval args s none [] s = some (.ref a) ∧ va_O "java/lang/String" a A s s.heap ∧ va_OF "java/lang/String" "coder" "B" (.int 0) a A s s.heap ∧ va_OF "java/lang/String" "value" "[B" (.ref v) a A s s.heap ∧ va_T .byte v (jLen.getD i 0) (fun j => .int ((jByt.getD i []).getD j 0)) A s s.heap := by
  obtain ⟨adK, adV, h, e⟩ := vk_Sof (N := 1) (tm := fun _ => zTm i) (len := [jLen.getD i 0]) (byt := [jByt.getD i []]) (A := A) (s := s) (args := args)
    (fun k hk => by obtain rfl : k = 0 := by omega
                    exact zs_lt i hi)
    (fun _ _ => zf_at hf (zs_ex i hi)) (fun _ _ => zf_at hf (zs_co i hi)) (fun _ _ => zf_at hf (zs_ar i hi))
    (fun k hk => by obtain rfl : k = 0 := by omega
                    exact zf_at hf (zs_le i hi))
    (fun k hk j hj => by obtain rfl : k = 0 := by omega
                         exact zf_at hf (zs_el i hi j hj))
    (fun i j hi hj h => absurd (by omega) h) hA
  obtain ⟨h0, h1, h2, h3⟩ := h.1 0 (by omega)
  exact ⟨adK 0, adV 0, e 0 (by omega), h0, h1, h2, h3⟩
theorem zOF_eq {o n d : String} {v w : Value} {t : Nat} {A : Nat → Prop} {U : State} {H : Heap} (h : va_OF o n d v t A U H) (g : va_OF o n d w t A U H) : v = w := by
  obtain ⟨cf, k, i, f, cell, h1, -, h3, -, h5, -⟩ := h
  obtain ⟨cf', k', i', f', cell', g1, -, g3, -, g5, -⟩ := g
  cases h1.symm.trans g1
  cases h3.symm.trans g3
  exact Option.some.inj (h5.symm.trans g5)
theorem zT_eq {ty : FieldType} {t N M : Nat} {f g : Nat → Int32} {A : Nat → Prop} {U : State} {H : Heap} (h : va_T ty t N (fun j => .int (f j)) A U H) (k : va_T ty t M (fun j => .int (g j)) A U H) : Int32.ofNat N = Int32.ofNat M ∧ ∀ j, j < N → j < M → f j = g j := by
  obtain ⟨cell, h1, -, -, -, h5, h6, -⟩ := h
  obtain ⟨cell', k1, -, -, -, k5, k6, -⟩ := k
  cases h1.symm.trans k1
  refine ⟨h5.symm.trans k5, fun j hj hk => ?_⟩
  have e : Value.int (f j) = Value.int (g j) := Option.some.inj ((h6 j hj).symm.trans (k6 j hk))
  exact Value.int.inj e
theorem zs_len : ∀ i, i < 24 → ∀ j, j < 24 → Int32.ofNat (jLen.getD i 0) = Int32.ofNat (jLen.getD j 0) → jLen.getD i 0 = jLen.getD j 0 := by decide +kernel
theorem zS {args : Array Value} {s : State} {A : Nat → Prop} (hf : ∀ w ∈ zF, w.before args s = true) (hA : ∀ a : Nat, a < s.heap.size → ¬ A a) : ∃ adK adV : Nat → Nat, vk_S 24 jLen jByt adK adV A s s.heap ∧ ∀ i, i < 24 → (zTm i).eval args s none [] s = some (.ref (adK i)) := by
  have h0 : ∀ i : Nat, ∃ q : Nat × Nat, i < 24 → (zTm i).eval args s none [] s = some (.ref q.1) ∧ va_O "java/lang/String" q.1 A s s.heap ∧ va_OF "java/lang/String" "coder" "B" (.int 0) q.1 A s s.heap ∧ va_OF "java/lang/String" "value" "[B" (.ref q.2) q.1 A s s.heap ∧ va_T .byte q.2 (jLen.getD i 0) (fun j => .int ((jByt.getD i []).getD j 0)) A s s.heap := by
    intro i
    by_cases hi : i < 24
    · obtain ⟨a, v, h⟩ := zs hf hA i hi
      exact ⟨(a, v), fun _ => h⟩
    · exact ⟨(0, 0), fun h => absurd h hi⟩
  obtain ⟨ad, had⟩ := Classical.axiomOfChoice h0
  refine ⟨fun i => (ad i).1, fun i => (ad i).2, ⟨fun i hi => (had i hi).2, fun i j hi hj e => ?_⟩, fun i hi => (had i hi).1⟩
  have e : (ad i).1 = (ad j).1 := e
  have hi2 := (had i hi).2.2.2
  have hj2 := (had j hj).2.2.2
  rw [e] at hi2
  have e2 := zOF_eq hi2.1 hj2.1
  have e3 : (ad i).2 = (ad j).2 := Value.ref.inj e2
  have hi3 := hi2.2
  rw [e3] at hi3
  obtain ⟨e4, e5⟩ := zT_eq hi3 hj2.2
  have e6 := zs_len i hi j hj e4
  exact zs_ne i hi j hj e4 (fun k hk => e5 k hk (by rw [← e6]; exact hk))
theorem zj_in : ∀ q ∈ jStr, q.2.2.2 < 24 ∧ (Term.string q.1 q.2.1 = zTm q.2.2.2 ∨ Cond.eq (zTm q.2.2.2) (.string q.1 q.2.1) ∈ zF) := by decide +kernel
theorem zj {args : Array Value} {s : State} {adK : Nat → Nat} (hts : ∀ w ∈ lw_tbl, w.before args s = true) (hf : ∀ w ∈ zF, w.before args s = true) (h : ∀ i, i < 24 → (zTm i).eval args s none [] s = some (.ref (adK i))) : ∀ q ∈ jStr, vk_R q.1 q.2.1 q.2.2.1 (adK q.2.2.2) s := by
  intro q hq
  obtain ⟨hi, h1⟩ := zj_in q hq
  refine vk_R.of (A := args) (zm_t hts z_jS _ (List.mem_map.mpr ⟨q, hq, rfl⟩)) ?_
  have e : (Term.string q.1 q.2.1).eval args s none [] s = some (.ref (adK q.2.2.2)) := by
    rcases h1 with h1 | h1
    · rw [h1]
      exact h _ hi
    · exact va_eqR (hf _ h1) (h _ hi)
  exact e
def zXp : List Nat := [271, 312, 386, 845, 544, 441, 464, 523, 333, 589, 1123, 564, 680, 357, 611, 807, 913, 939, 1078, 1103]
theorem zx_in : ∀ i, i < 20 → zF[zXp.getD i 0]? = some (.exactly (.string RX5 (xStr.getD i (0, "")).1) "java/lang/String") := by decide +kernel
theorem zx {args : Array Value} {s : State} (hts : ∀ w ∈ lw_tbl, w.before args s = true) (hf : ∀ w ∈ zF, w.before args s = true) : ∀ q ∈ xStr, ∃ sa : Nat, vk_R RX5 q.1 q.2 sa s := by
  intro q hq
  obtain ⟨i, hi⟩ := List.getElem?_of_mem hq
  have hl : i < 20 := (List.getElem?_eq_some_iff.mp hi).1
  have e : xStr.getD i (0, "") = q := by rw [List.getD_eq_getElem?_getD, hi]; rfl
  have h := zf_at hf (zx_in i hl)
  rw [e] at h
  obtain ⟨a, c, cA, kA, q1, -⟩ := Cond.exactly_spec (args := args) (first := s) (o := none) (s := s) (idx := []) (t := .string RX5 q.1) (cls := "java/lang/String") h
  exact ⟨a, vk_R.of (A := args) (zm_t hts z_xS _ (List.mem_map.mpr ⟨q, hq, rfl⟩)) q1⟩
theorem zOne_a : zF[12]? = some (.arrayOf (.static "java/lang/Integer" "DigitOnes" "[B") .byte) := by decide +kernel
theorem zOne_l : zF[13]? = some (.eq (.length (.static "java/lang/Integer" "DigitOnes" "[B")) (.int (Int32.ofNat 100))) := by decide +kernel
theorem zOne_e : ∀ j, j < 100 → zF[14 + j]? = some (.eq (.elem (.static "java/lang/Integer" "DigitOnes" "[B") (.int (Int32.ofNat j))) (.int (jOnes j))) := by decide +kernel
theorem zOne {args : Array Value} {s : State} {A : Nat → Prop} (hts : ∀ w ∈ lw_tbl, w.before args s = true) (hf : ∀ w ∈ zF, w.before args s = true) (hA : ∀ a : Nat, a < s.heap.size → ¬ A a) : ∃ t : Nat, va_Z "java/lang/Integer" "DigitOnes" "[B" (.ref t) A s s.heap ∧ va_T .byte t 100 (fun j => .int (jOnes j)) A s s.heap := by
  obtain ⟨t, ht, hT⟩ := va_Tof (N := 100) (f := fun j => .int (jOnes j)) (A := A) (by decide) (zf_at hf zOne_a) (va_eqt (zf_at hf zOne_l)) (fun j hj => va_eqt (zf_at hf (zOne_e j hj))) hA
  exact ⟨t, va_Zof (zw hts (w := .laysStatic "java/lang/Integer" "DigitOnes" "[B") 2 rfl) (zw hts (w := .initialized "java/lang/Integer") 7 rfl) ht hA, hT⟩
theorem zTen_a : zF[115]? = some (.arrayOf (.static "java/lang/Integer" "DigitTens" "[B") .byte) := by decide +kernel
theorem zTen_l : zF[116]? = some (.eq (.length (.static "java/lang/Integer" "DigitTens" "[B")) (.int (Int32.ofNat 100))) := by decide +kernel
theorem zTen_e : ∀ j, j < 100 → zF[117 + j]? = some (.eq (.elem (.static "java/lang/Integer" "DigitTens" "[B") (.int (Int32.ofNat j))) (.int (jTens j))) := by decide +kernel
theorem zTen {args : Array Value} {s : State} {A : Nat → Prop} (hts : ∀ w ∈ lw_tbl, w.before args s = true) (hf : ∀ w ∈ zF, w.before args s = true) (hA : ∀ a : Nat, a < s.heap.size → ¬ A a) : ∃ t : Nat, va_Z "java/lang/Integer" "DigitTens" "[B" (.ref t) A s s.heap ∧ va_T .byte t 100 (fun j => .int (jTens j)) A s s.heap := by
  obtain ⟨t, ht, hT⟩ := va_Tof (N := 100) (f := fun j => .int (jTens j)) (A := A) (by decide) (zf_at hf zTen_a) (va_eqt (zf_at hf zTen_l)) (fun j hj => va_eqt (zf_at hf (zTen_e j hj))) hA
  exact ⟨t, va_Zof (zw hts (w := .laysStatic "java/lang/Integer" "DigitTens" "[B") 1 rfl) (zw hts (w := .initialized "java/lang/Integer") 7 rfl) ht hA, hT⟩
theorem zcs : zF[4]? = some (.eq (.static "java/lang/String" "COMPACT_STRINGS" "Z") (.int 1)) := by decide +kernel
theorem zpr : zF[7]? = some (.isRef (.static "jdk/internal/util/Preconditions" "SIOOBE_FORMATTER" "Ljava/util/function/BiFunction;")) := by decide +kernel
theorem zu1 : zF[5]? = some (.isRef (.static Bundle.tN "UNASSIGNED_STACK" Bundle.steD)) := by decide +kernel
theorem zu2 : zF[6]? = some (.isRef (.static Bundle.tN "SUPPRESSED_SENTINEL" Bundle.listD)) := by decide +kernel
theorem zE {args : Array Value} {s : State} {A : Nat → Prop} (hts : ∀ w ∈ lw_tbl, w.before args s = true) (hf : ∀ w ∈ zF, w.before args s = true) (hA : ∀ a : Nat, a < s.heap.size → ¬ A a) : ∃ G : eG, eX G A s s.heap := by
  obtain ⟨adK, adV, hS, hJ⟩ := zS (A := A) hf hA
  obtain ⟨tt, ht1, ht2⟩ := zTen (A := A) hts hf hA
  obtain ⟨to, ho1, ho2⟩ := zOne (A := A) hts hf hA
  refine ⟨(adK, adV, tt, to), ⟨?_, ?_, zx hts hf, ?_, ?_⟩, ?_, ht1, ho1, ht2, ho2, ?_, hS, zj hts hf hJ, va_Nw.of rfl (zw hts (w := .castable "[B" "java/lang/Cloneable") 27 rfl)⟩
  · exact vx_Zqof (zw hts (w := .laysStatic Bundle.tN "UNASSIGNED_STACK" Bundle.steD) 4 rfl) (zw hts (w := .initialized Bundle.tN) 9 rfl) (zf_at hf zu1) hA
  · exact vx_Zqof (zw hts (w := .laysStatic Bundle.tN "SUPPRESSED_SENTINEL" Bundle.listD) 5 rfl) (zw hts (w := .initialized Bundle.tN) 9 rfl) (zf_at hf zu2) hA
  · exact fun x hx => va_Nw.of rfl (zm_t hts z_xB (.declares x) (List.mem_append_left _ (List.mem_map.mpr ⟨x, hx, rfl⟩)))
  · exact fun x hx => va_Nw.of rfl (zm_t hts z_xB (.castable x x) (List.mem_append_right _ (List.mem_map.mpr ⟨x, hx, rfl⟩)))
  · exact va_Zof (zw hts (w := .laysStatic "java/lang/String" "COMPACT_STRINGS" "Z") 0 rfl) (zw hts (w := .initialized "java/lang/String") 6 rfl) (va_eqi (zf_at hf zcs)) hA
  · exact va_Zqof (zw hts (w := .laysStatic "jdk/internal/util/Preconditions" "SIOOBE_FORMATTER" "Ljava/util/function/BiFunction;") 3 rfl) (zw hts (w := .initialized "jdk/internal/util/Preconditions") 8 rfl) (zf_at hf zpr) hA
