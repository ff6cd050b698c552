/-! the start: what the Statement gives of it -/
theorem zm_r {big : List Cond} (ws : List Cond) (ps : List Nat) (hp : ws = ps.filterMap (fun i => big[i]?)) : ∀ w ∈ ws, w ∈ big := by
  intro w hw
  rw [hp] at hw
  obtain ⟨i, -, hi⟩ := List.mem_filterMap.mp hw
  exact List.mem_of_getElem? hi
theorem zm_t {args : Array Value} {s : State} {ws : List Cond} (hts : ∀ w ∈ lw_tbl, w.before args s = true) (h : ∀ w ∈ ws, w ∈ tables_1) : ∀ w ∈ ws, w.before args s = true := fun w hw => hts w (List.mem_append_right _ (h w hw))
def zF : List Cond := flatC (Jvm.Cond.and given_1 narrow_1)
theorem zf_at {args : Array Value} {s : State} (hf : ∀ w ∈ zF, w.before args s = true) {k : Nat} {w : Cond} (h : zF[k]? = some w) : w.before args s = true := hf w (List.mem_of_getElem? h)
theorem z_lWs : ∀ w ∈ lWs, w ∈ tables_1 := zm_r _ [212, 213, 451, 577] (by decide +kernel)
theorem z_xB : ∀ w ∈ xB, w ∈ tables_1 := zm_r _ [232, 234, 236, 230, 310, 485, 592, 677] (by decide +kernel)
theorem z_xS : ∀ w ∈ xStr.map (fun q => Cond.stringRef RX5 q.1 q.2), w ∈ tables_1 := zm_r _ [273, 317, 504, 1266, 599, 519, 528, 558, 365, 684, 1446, 626, 1079, 492, 837, 1178, 1315, 1321, 1393, 1422] (by decide +kernel)
theorem z_jS : ∀ w ∈ jStr.map (fun q => Cond.stringRef q.1 q.2.1 q.2.2.1), w ∈ tables_1 := zm_r _ [1349, 1350, 1351, 1352, 1353, 1354, 1355, 1356, 1357, 1358, 1359, 1360, 971, 1302, 852, 997, 998, 1081, 1211, 1213, 1214, 1301, 1303, 1304] (by decide +kernel)
def zW : List Cond := [.laysStatic "java/lang/String" "COMPACT_STRINGS" "Z", .laysStatic "java/lang/Integer" "DigitTens" "[B", .laysStatic "java/lang/Integer" "DigitOnes" "[B", .laysStatic "jdk/internal/util/Preconditions" "SIOOBE_FORMATTER" "Ljava/util/function/BiFunction;", .laysStatic "java/lang/Throwable" "UNASSIGNED_STACK" "[Ljava/lang/StackTraceElement;", .laysStatic "java/lang/Throwable" "SUPPRESSED_SENTINEL" "Ljava/util/List;", .initialized "java/lang/String", .initialized "java/lang/Integer", .initialized "jdk/internal/util/Preconditions", .initialized "java/lang/Throwable", .arrayClass .int, .arrayClass .byte, .arrayClass .long, .instantiable RJ0 4, .instantiable RJ4 4, .instantiable RJx00060 6, .instantiable RJx7c733 6, .instantiable RX0 3, .instantiable RX1 3, .instantiable RX2 1, .instantiable RX3 5, .instantiable RX4 1, .instantiable RX5 10, .methodLinkNest RX5 18 yX0_init "BathtubTides", .methodLinkNest RX5 25 yX1_init "BathtubTides", .methodLinkNest RX5 32 yX3_init "BathtubTides", .arrayOver (.array .int), .castable "[B" "java/lang/Cloneable"]
theorem zW_t : ∀ w ∈ zW, w ∈ tables_1 := zm_r _ [118, 988, 986, 915, 255, 257, 9, 27, 24, 11, 56, 140, 1451, 470, 109, 452, 1094, 67, 85, 47, 103, 41, 33, 68, 86, 104, 1453, 891] (by decide +kernel)
theorem zw {args : Array Value} {s : State} (hts : ∀ w ∈ lw_tbl, w.before args s = true) (k : Nat) {w : Cond} (h : zW[k]? = some w) : w.before args s = true := zm_t hts zW_t w (List.mem_of_getElem? h)
theorem zk_arr {args : Array Value} {s : State} {ty : FieldType} (h : (Cond.arrayClass ty).before args s = true) : ∃ cA : ClassId, ArrOfT s cA ty ∧ s.vm.findClass ("[" ++ ty.toString) = some cA := by
  obtain ⟨cA, kA, comp, h1, h2, h3⟩ := Cond.arrayClass_spec h
  exact ⟨cA, fun n z => ⟨fun k h => (by cases h), kA, h2, comp, h3⟩, h1⟩
theorem zk_tys {args : Array Value} {s : State} (hts : ∀ w ∈ lw_tbl, w.before args s = true) : ∃ cA : Nat → ClassId, ∀ (k : Nat) (q : ClassId × FieldType), (atys cA)[k]? = some q → ArrOfT s q.1 q.2 ∧ va_RA s q.1 q.2 := by
  obtain ⟨c0, a0, b0⟩ := zk_arr (zw hts (w := .arrayClass .int) 10 rfl)
  obtain ⟨c1, a1, b1⟩ := zk_arr (zw hts (w := .arrayClass .byte) 11 rfl)
  obtain ⟨c2, a2, b2⟩ := zk_arr (zw hts (w := .arrayClass .long) 12 rfl)
  obtain ⟨comp, c9, k9, h1, -, h3, h4, h5⟩ := arrayOverA_spec (zw hts (w := .arrayOver (.array .int)) 26 rfl)
  refine ⟨fun k => if k = 0 then c0 else if k = 1 then c1 else if k = 2 then c9 else c2, fun k q hk => ?_⟩
  match k, hk with
  | 0, hk => cases hk; exact ⟨a0, b0⟩
  | 1, hk => cases hk; exact ⟨a1, b1⟩
  | 2, hk => cases hk; exact ⟨fun n z => ⟨fun k h => (by cases h), k9, h3, comp, h4⟩, h5⟩
  | 3, hk => cases hk; exact ⟨a2, b2⟩
  | k + 4, hk => simp [atys] at hk
theorem zk_cls {args : Array Value} {s : State} (hts : ∀ w ∈ lw_tbl, w.before args s = true) : ∃ D : va_G, ∀ (c : Nat) (q : vw_C), vwCl[c]? = some q → u_Kn s q.1 q.2.1 q.2.2 (D.1 c) (D.2 c) := by
  obtain ⟨c0, i0, h0⟩ := u_known (C := RJ0) (T := TJ0) (N := 4) (n := 4) (wl_law hts) inlJ0 (zw hts (w := .instantiable RJ0 4) 13 rfl)
  obtain ⟨c1, i1, h1⟩ := u_known (C := RJ4) (T := TJ4) (N := 4) (n := 4) (wl_law hts) inlJ4 (zw hts (w := .instantiable RJ4 4) 14 rfl)
  obtain ⟨c2, i2, h2⟩ := u_known (C := RJx00060) (T := TJx00060) (N := 6) (n := 6) (wl_law hts) inlJx00060 (zw hts (w := .instantiable RJx00060 6) 15 rfl)
  obtain ⟨c3, i3, h3⟩ := u_known (C := RJx7c733) (T := TJx7c733) (N := 6) (n := 6) (wl_law hts) inlJx7c733 (zw hts (w := .instantiable RJx7c733 6) 16 rfl)
  obtain ⟨c4, i4, h4⟩ := u_known (C := RX0) (T := TX0) (N := 3) (n := 3) (wl_law hts) inlX0 (zw hts (w := .instantiable RX0 3) 17 rfl)
  obtain ⟨c5, i5, h5⟩ := u_known (C := RX1) (T := TX1) (N := 3) (n := 3) (wl_law hts) inlX1 (zw hts (w := .instantiable RX1 3) 18 rfl)
  obtain ⟨c6, i6, h6⟩ := u_known (C := RX2) (T := TX2) (N := 1) (n := 1) (wl_law hts) inlX2 (zw hts (w := .instantiable RX2 1) 19 rfl)
  obtain ⟨c7, i7, h7⟩ := u_known (C := RX3) (T := TX3) (N := 5) (n := 5) (wl_law hts) inlX3 (zw hts (w := .instantiable RX3 5) 20 rfl)
  obtain ⟨c8, i8, h8⟩ := u_known (C := RX4) (T := TX4) (N := 1) (n := 1) (wl_law hts) inlX4 (zw hts (w := .instantiable RX4 1) 21 rfl)
  obtain ⟨c9, i9, h9⟩ := u_known (C := RX5) (T := TX5) (N := 10) (n := 10) (wl_law hts) inlX5 (zw hts (w := .instantiable RX5 10) 22 rfl)
  refine ⟨(fun k => if k = 0 then c0 else if k = 1 then c1 else if k = 2 then c2 else if k = 3 then c3 else if k = 4 then c4 else if k = 5 then c5 else if k = 6 then c6 else if k = 7 then c7 else if k = 8 then c8 else c9, fun k => if k = 0 then i0 else if k = 1 then i1 else if k = 2 then i2 else if k = 3 then i3 else if k = 4 then i4 else if k = 5 then i5 else if k = 6 then i6 else if k = 7 then i7 else if k = 8 then i8 else i9), fun k q hk => ?_⟩
  match k, hk with
  | 0, hk => cases hk; exact h0
  | 1, hk => cases hk; exact h1
  | 2, hk => cases hk; exact h2
  | 3, hk => cases hk; exact h3
  | 4, hk => cases hk; exact h4
  | 5, hk => cases hk; exact h5
  | 6, hk => cases hk; exact h6
  | 7, hk => cases hk; exact h7
  | 8, hk => cases hk; exact h8
  | 9, hk => cases hk; exact h9
  | k + 10, hk => simp [vwCl] at hk
theorem zK {args : Array Value} {s : State} (hts : ∀ w ∈ lw_tbl, w.before args s = true) : ∃ (D : va_G) (cA : Nat → ClassId), va_K D vwCl (atys cA) s := by
  obtain ⟨D, h1⟩ := zk_cls hts
  obtain ⟨cA, h2⟩ := zk_tys hts
  exact ⟨D, cA, h1, h2⟩
theorem zN {args : Array Value} {s : State} (hts : ∀ w ∈ lw_tbl, w.before args s = true) : nX s := ⟨va_Nw.of rfl (zw hts (w := .methodLinkNest RX5 18 yX0_init "BathtubTides") 23 rfl), va_Nw.of rfl (zw hts (w := .methodLinkNest RX5 25 yX1_init "BathtubTides") 24 rfl), va_Nw.of rfl (zw hts (w := .methodLinkNest RX5 32 yX3_init "BathtubTides") 25 rfl)⟩
theorem zl_0 : zF[224]? = some (.not (.castable "java/lang/IllegalStateException" "java/lang/IllegalArgumentException")) := by decide +kernel
theorem zl_1 : zF[252]? = some (.not (.castable "java/lang/IllegalArgumentException" "java/lang/IndexOutOfBoundsException")) := by decide +kernel
theorem zl_2 : zF[253]? = some (.not (.castable "java/lang/IllegalStateException" "java/lang/IndexOutOfBoundsException")) := by decide +kernel
theorem zl_3 : zF[254]? = some (.not (.castable "java/util/NoSuchElementException" "java/lang/IndexOutOfBoundsException")) := by decide +kernel
theorem zL {args : Array Value} {s : State} (hts : ∀ w ∈ lw_tbl, w.before args s = true) (hf : ∀ w ∈ zF, w.before args s = true) : lX s := ⟨⟨va_Nc.of (zf_at hf zl_0), va_Nc.of (zf_at hf zl_1), va_Nc.of (zf_at hf zl_2), va_Nc.of (zf_at hf zl_3)⟩, fun w hw => word_at (State.WarmedH.refl s) (Or.inl (lW_good w hw)) (zm_t hts z_lWs w hw)⟩
theorem zFl {l : Launch} (h : l.flags = flags0) : l.stackTraces = false := by
  unfold Launch.stackTraces
  rw [h]
  decide +kernel
