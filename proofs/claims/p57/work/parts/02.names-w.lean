/-! the words of the law among the tables, by their places (written by wip/whole/words.py) -/
theorem wl_selp {C : String} {y y0 : MethodName} {s : State} {args : Array Value} {n : Nat} (hy : y.cls ≠ "java/lang/invoke/MethodHandle" ∧ y.cls ≠ "java/lang/invoke/VarHandle")
    (hins : (Cond.instantiable C n).before args s = true) (hpriv : (Cond.privateMethod y).before args s = true) (hinst : (Cond.instanceMethod y).before args s = true)
    (h0 : (Cond.selects C y0 y0).before args s = true) (e0 : y0.cls = y.cls) : (Cond.selects C y y).before args s = true := by
  obtain ⟨c, k, hc, hk, -, hniab, -, -⟩ := Cond.instantiable_spec hins
  obtain ⟨mk, methM, hnamed, hmethM, -, -⟩ := Cond.instanceMethod_spec hinst
  obtain ⟨c0, r0, m0, -, -, hm0, -, k0, hk0, hi0⟩ := Cond.selects_spec h0
  have hfound : s.methodFound? y.cls y.name y.desc = some mk := State.methodFound?_of_named hnamed hy
  have hsel : selectMethod {} s.vm c mk = .method mk := selectMethod_private hmethM (Cond.privateMethod_at hpriv mk methM hnamed hmethM)
  have e1 : s.vm.findClass y.cls = some m0.cls := by rw [← e0]; exact findClass_of_methodNamed hm0
  have e2 : m0.cls = mk.cls := Option.some.inj (e1.symm.trans (findClass_of_methodNamed hnamed))
  rw [e2] at hk0
  simp only [Cond.before, Cond.holds, Cond.value, hc, hfound, hnamed, hsel, hk0]
  simp [hi0]
def wl_sp : List Cond := [.selects RJ4 yJ5_ensureCapacityInternal_d00df yJ5_ensureCapacityInternal_d00df, .selects RJ4 yJ5_newCapacity_0f7a4 yJ5_newCapacity_0f7a4, .selects RJ4 yJ5_inflate_da8c8 yJ5_inflate_da8c8, .selects RJ4 yJ5_putStringAt_47b60 yJ5_putStringAt_47b60, .selects RJ4 yJ5_inflateIfNeededFor_a7421 yJ5_inflateIfNeededFor_a7421, .selects RJ4 yJ5_appendNull_278bc yJ5_appendNull_278bc]
def wl_segs : List (List Cond) := [wl_sp, k2_sels lw_privs, tables_1_1, tables_1_2, tables_1_3, tables_1_4, tables_1_5, tables_1_6, tables_1_7]
def wl_lk (q : Nat × Nat) : Option Cond := (wl_segs[q.1]?).bind (fun g => g[q.2]?)
def wl_In (w : Cond) : Prop := ∃ g ∈ wl_segs, w ∈ g
theorem wl_r (L : List Cond) (ps : List (Nat × Nat)) (h : L.map some = ps.map wl_lk) : ∀ w ∈ L, wl_In w := by
  intro w hw
  have h1 : some w ∈ ps.map wl_lk := by rw [← h]; exact List.mem_map.mpr ⟨w, hw, rfl⟩
  obtain ⟨q, -, hq⟩ := List.mem_map.mp h1
  unfold wl_lk at hq
  obtain ⟨g, hg, hgw⟩ := Option.bind_eq_some_iff.mp hq
  exact ⟨g, List.mem_of_getElem? hg, List.mem_of_getElem? hgw⟩
theorem wl_ap {a b : List Cond} (ha : ∀ w ∈ a, wl_In w) (hb : ∀ w ∈ b, wl_In w) : ∀ w ∈ a ++ b, wl_In w := fun w h => (List.mem_append.mp h).elim (ha w) (hb w)
theorem wl_c1 : ∀ w ∈ wsL_law0_r1, wl_In w := wl_r _ [(8, 12), (2, 29), (2, 30), (2, 0), (2, 31), (2, 32), (2, 33), (2, 1), (2, 56), (2, 34), (2, 35), (2, 36), (2, 37), (2, 38), (2, 39), (2, 40), (2, 41), (2, 2), (2, 163), (2, 66), (2, 67), (2, 4), (2, 164), (2, 84)] (by decide +kernel)
theorem wl_c2 : ∀ w ∈ wsL_law0_r2, wl_In w := wl_r _ [(2, 85), (2, 5), (2, 165), (2, 102), (2, 103), (2, 6), (2, 166), (2, 159), (2, 109), (2, 8), (2, 167), (2, 161), (2, 47), (2, 3), (2, 168), (2, 169), (2, 170), (2, 171), (2, 172), (2, 42), (2, 43), (2, 44), (2, 45), (2, 46)] (by decide +kernel)
theorem wl_c3 : ∀ w ∈ wsL_law0_r3, wl_In w := wl_r _ [(2, 61), (2, 48), (2, 49), (2, 50), (2, 51), (2, 52), (2, 57), (2, 58), (2, 59), (2, 60), (2, 69), (2, 70), (2, 71), (2, 72), (2, 74), (2, 75), (2, 76), (2, 73), (2, 87), (2, 88), (2, 89), (2, 90), (2, 92), (2, 93)] (by decide +kernel)
theorem wl_c4 : ∀ w ∈ wsL_law0_r4, wl_In w := wl_r _ [(2, 94), (2, 91), (2, 105), (2, 106), (2, 107), (2, 108), (2, 143), (2, 141), (2, 144), (2, 145), (2, 146), (2, 147), (2, 110), (2, 111), (2, 112), (2, 113), (2, 114), (2, 7), (2, 115), (2, 116), (2, 117), (2, 140), (2, 126), (2, 127)] (by decide +kernel)
theorem wl_c5 : ∀ w ∈ wsL_law0_r5, wl_In w := wl_r _ [(2, 119), (2, 120), (2, 10), (2, 121), (2, 122), (2, 123), (2, 124), (2, 125), (2, 142), (2, 160), (2, 162), (2, 194), (2, 195), (2, 196), (2, 197), (2, 198), (2, 199), (2, 200), (2, 201), (2, 62), (2, 202), (2, 203), (2, 204), (2, 205)] (by decide +kernel)
theorem wl_c6 : ∀ w ∈ wsL_law0_r6, wl_In w := wl_r _ [(2, 206), (2, 207), (2, 208), (2, 209), (2, 210), (2, 211), (2, 212), (2, 214), (2, 215), (2, 216), (2, 217), (2, 218), (2, 220), (1, 0), (2, 221), (2, 228), (2, 14), (3, 68), (2, 15), (2, 222), (2, 223), (2, 224), (2, 225), (2, 226)] (by decide +kernel)
theorem wl_c7 : ∀ w ∈ wsL_law0_r7, wl_In w := wl_r _ [(2, 227), (3, 59), (3, 60), (3, 61), (3, 62), (3, 63), (3, 64), (3, 65), (3, 66), (3, 67), (3, 84), (3, 85), (3, 86), (3, 87), (3, 94), (3, 95), (2, 16), (3, 96), (3, 88), (3, 89), (3, 90), (3, 91), (3, 92), (3, 93)] (by decide +kernel)
theorem wl_c8 : ∀ w ∈ wsL_law0_r8, wl_In w := wl_r _ [(3, 97), (3, 98), (3, 99), (3, 100), (3, 101), (3, 102), (3, 103), (3, 104), (3, 105), (3, 106), (3, 107), (3, 108), (3, 109), (3, 110), (3, 111), (3, 112), (3, 113), (3, 114), (3, 115), (3, 116), (3, 117), (3, 118), (3, 119), (3, 120)] (by decide +kernel)
theorem wl_c9 : ∀ w ∈ wsL_law0_r9, wl_In w := wl_r _ [(3, 121), (3, 122), (3, 123), (3, 124), (3, 126), (3, 127), (3, 128), (3, 129), (3, 130), (3, 131), (3, 132), (3, 133), (3, 134), (3, 136), (1, 2), (3, 137), (3, 138), (3, 139), (3, 140), (3, 141), (3, 142), (3, 143), (3, 144), (3, 145)] (by decide +kernel)
theorem wl_c10 : ∀ w ∈ wsL_law0_r10, wl_In w := wl_r _ [(3, 146), (3, 147), (3, 148), (3, 149), (3, 150), (3, 151), (3, 152), (3, 153), (3, 154), (3, 155), (3, 156), (3, 157), (3, 158), (3, 159), (3, 160), (3, 161), (3, 162), (3, 163), (3, 164), (3, 165), (3, 166), (3, 167), (3, 168), (3, 169)] (by decide +kernel)
theorem wl_c11 : ∀ w ∈ wsL_law0_r11, wl_In w := wl_r _ [(3, 170), (3, 171), (3, 172), (3, 173), (3, 174), (3, 175), (3, 176), (3, 177), (3, 178), (3, 179), (3, 180), (3, 181), (3, 182), (3, 183), (3, 184), (3, 185), (3, 186), (3, 187), (3, 188), (3, 189), (3, 190), (3, 191), (3, 192), (3, 193)] (by decide +kernel)
theorem wl_c12 : ∀ w ∈ wsL_law0_r12, wl_In w := wl_r _ [(3, 194), (3, 195), (3, 196), (3, 197), (3, 198), (3, 199), (3, 200), (3, 202), (1, 3), (3, 203), (3, 204), (3, 206), (1, 4), (3, 207), (3, 208), (3, 209), (3, 210), (3, 211), (3, 235), (3, 236), (3, 237), (3, 238), (3, 239), (4, 0)] (by decide +kernel)
theorem wl_c13 : ∀ w ∈ wsL_law0_r13, wl_In w := wl_r _ [(4, 1), (4, 3), (2, 17), (4, 2), (4, 16), (4, 17), (4, 18), (4, 19), (4, 20), (4, 21), (4, 22), (4, 23), (4, 25), (4, 26), (4, 27), (4, 28), (4, 29), (4, 30), (4, 31), (4, 32), (4, 33), (4, 34), (4, 35), (4, 36)] (by decide +kernel)
theorem wl_c14 : ∀ w ∈ wsL_law0_r14, wl_In w := wl_r _ [(4, 37), (4, 38), (4, 40), (4, 41), (4, 42), (4, 43), (4, 44), (4, 45), (4, 46), (4, 47), (4, 49), (4, 50), (4, 51), (4, 52), (4, 53), (4, 54), (4, 55), (4, 56), (4, 57), (4, 58), (4, 59), (4, 60), (4, 61), (4, 62)] (by decide +kernel)
theorem wl_c15 : ∀ w ∈ wsL_law0_r15, wl_In w := wl_r _ [(4, 63), (4, 64), (4, 65), (4, 66), (4, 67), (4, 68), (4, 69), (4, 70), (4, 71), (4, 72), (4, 73), (4, 74), (4, 75), (4, 76), (4, 77), (4, 79), (4, 80), (4, 81), (4, 82), (4, 83), (4, 84), (4, 85), (4, 86), (4, 87)] (by decide +kernel)
theorem wl_c16 : ∀ w ∈ wsL_law0_r16, wl_In w := wl_r _ [(4, 88), (4, 89), (4, 90), (4, 91), (4, 92), (4, 93), (4, 130), (4, 94), (4, 95), (4, 96), (4, 97), (4, 98), (4, 99), (4, 100), (4, 101), (4, 102), (4, 104), (1, 5), (4, 105), (4, 110), (2, 19), (4, 106), (4, 107), (4, 108)] (by decide +kernel)
theorem wl_c17 : ∀ w ∈ wsL_law0_r17, wl_In w := wl_r _ [(4, 109), (4, 126), (4, 127), (4, 128), (4, 129), (4, 131), (4, 132), (4, 133), (4, 134), (4, 135), (4, 136), (4, 137), (4, 138), (4, 140), (1, 6), (4, 141), (4, 142), (4, 143), (4, 144), (4, 145), (4, 147), (4, 148), (4, 149), (4, 150)] (by decide +kernel)
theorem wl_c18 : ∀ w ∈ wsL_law0_r18, wl_In w := wl_r _ [(4, 151), (4, 152), (4, 153), (4, 154), (4, 155), (4, 156), (4, 157), (4, 158), (4, 159), (4, 160), (4, 161), (4, 162), (4, 163), (4, 164), (4, 165), (4, 166), (4, 167), (4, 168), (4, 169), (4, 170), (4, 171), (4, 172), (4, 173), (4, 174)] (by decide +kernel)
theorem wl_c19 : ∀ w ∈ wsL_law0_r19, wl_In w := wl_r _ [(4, 175), (4, 176), (4, 177), (4, 178), (4, 179), (4, 180), (4, 181), (4, 182), (4, 183), (4, 184), (4, 185), (4, 186), (4, 187), (4, 188), (4, 189), (4, 190), (4, 191), (4, 192), (4, 193), (4, 194), (4, 195), (2, 20), (4, 211), (4, 212)] (by decide +kernel)
theorem wl_c20 : ∀ w ∈ wsL_law0_r20, wl_In w := wl_r _ [(4, 213), (4, 226), (5, 73), (4, 214), (4, 215), (4, 216), (4, 217), (4, 218), (4, 219), (4, 220), (4, 221), (4, 222), (4, 223), (4, 224), (4, 225), (4, 227), (4, 228), (4, 229), (4, 230), (4, 231), (4, 232), (4, 233), (4, 234), (4, 235)] (by decide +kernel)
theorem wl_c21 : ∀ w ∈ wsL_law0_r21, wl_In w := wl_r _ [(4, 236), (4, 237), (4, 238), (4, 239), (5, 0), (5, 1), (5, 2), (5, 3), (5, 4), (5, 5), (5, 6), (5, 7), (5, 8), (5, 9), (5, 10), (5, 11), (5, 12), (5, 13), (5, 14), (5, 16), (1, 7), (5, 17), (5, 18), (5, 19)] (by decide +kernel)
theorem wl_c22 : ∀ w ∈ wsL_law0_r22, wl_In w := wl_r _ [(5, 20), (5, 21), (5, 22), (5, 23), (5, 24), (5, 25), (5, 26), (5, 27), (5, 28), (5, 29), (5, 30), (5, 31), (5, 32), (5, 33), (5, 34), (5, 35), (5, 36), (5, 37), (5, 38), (5, 39), (5, 40), (5, 41), (5, 42), (5, 43)] (by decide +kernel)
theorem wl_c23 : ∀ w ∈ wsL_law0_r23, wl_In w := wl_r _ [(5, 44), (5, 45), (5, 46), (5, 47), (5, 48), (5, 49), (5, 50), (5, 51), (5, 52), (5, 53), (5, 54), (5, 55), (5, 56), (5, 57), (5, 58), (5, 59), (5, 60), (5, 61), (5, 62), (5, 63), (5, 64), (5, 65), (5, 66), (5, 67)] (by decide +kernel)
theorem wl_c24 : ∀ w ∈ wsL_law0_r24, wl_In w := wl_r _ [(5, 68), (5, 69), (5, 70), (5, 71), (5, 72), (5, 74), (5, 75), (5, 76), (5, 77), (5, 78), (5, 79), (5, 80), (5, 81), (5, 82), (5, 83), (5, 84), (5, 85), (5, 86), (5, 87), (5, 88), (5, 89), (5, 90), (5, 91), (5, 92)] (by decide +kernel)
theorem wl_c25 : ∀ w ∈ wsL_law0_r25, wl_In w := wl_r _ [(5, 93), (5, 94), (5, 95), (5, 96), (5, 97), (5, 98), (5, 99), (5, 100), (5, 101), (5, 102), (5, 103), (5, 104), (5, 105), (5, 106), (5, 107), (5, 108), (5, 109), (5, 110), (5, 111), (5, 112), (5, 113), (5, 114), (5, 115), (5, 116)] (by decide +kernel)
theorem wl_c26 : ∀ w ∈ wsL_law0_r26, wl_In w := wl_r _ [(5, 118), (5, 119), (5, 120), (5, 121), (5, 122), (5, 123), (5, 124), (5, 125), (5, 126), (5, 127), (5, 128), (5, 129), (5, 130), (5, 131), (5, 133), (5, 134), (5, 135), (5, 136), (5, 137), (5, 138), (5, 139), (8, 15), (2, 139), (5, 140)] (by decide +kernel)
theorem wl_c27 : ∀ w ∈ wsL_law0_r27, wl_In w := wl_r _ [(5, 141), (2, 130), (5, 142), (8, 16), (0, 5), (5, 144), (5, 145), (5, 146), (8, 17), (0, 0), (5, 148), (5, 149), (5, 150), (8, 18), (0, 1), (5, 152), (5, 153), (5, 162), (5, 154), (5, 155), (2, 21), (5, 156), (5, 157), (5, 158)] (by decide +kernel)
theorem wl_c28 : ∀ w ∈ wsL_law0_r28, wl_In w := wl_r _ [(5, 159), (5, 160), (5, 161), (5, 163), (5, 164), (2, 22), (5, 165), (5, 166), (5, 167), (5, 168), (5, 169), (5, 170), (5, 172), (5, 173), (5, 174), (5, 176), (5, 175), (2, 23), (5, 177), (5, 179), (5, 180), (5, 178), (5, 181), (5, 182)] (by decide +kernel)
theorem wl_c29 : ∀ w ∈ wsL_law0_r29, wl_In w := wl_r _ [(5, 183), (5, 184), (5, 202), (5, 185), (5, 186), (5, 187), (5, 188), (5, 189), (5, 190), (5, 191), (5, 192), (2, 9), (5, 193), (5, 194), (5, 196), (5, 197), (2, 24), (5, 198), (5, 199), (5, 200), (5, 201), (5, 204), (5, 206), (5, 208)] (by decide +kernel)
theorem wl_c30 : ∀ w ∈ wsL_law0_r30, wl_In w := wl_r _ [(5, 209), (5, 210), (5, 211), (6, 95), (5, 212), (5, 213), (5, 214), (5, 215), (5, 216), (6, 96), (5, 217), (8, 19), (0, 3), (5, 219), (5, 220), (5, 221), (8, 20), (0, 4), (5, 223), (5, 224), (5, 225), (5, 226), (8, 21), (0, 2)] (by decide +kernel)
theorem wl_c31 : ∀ w ∈ wsL_law0_r31, wl_In w := wl_r _ [(5, 228), (5, 229), (5, 230), (5, 231), (2, 25), (5, 232), (5, 233), (5, 234), (5, 235), (5, 236), (5, 237), (5, 238), (5, 239), (6, 0), (6, 1), (6, 2), (6, 3), (6, 4), (6, 5), (6, 6), (6, 7), (6, 8), (6, 9), (6, 10)] (by decide +kernel)
theorem wl_c32 : ∀ w ∈ wsL_law0_r32, wl_In w := wl_r _ [(6, 12), (6, 13), (6, 14), (6, 15), (6, 16), (8, 22), (6, 17), (6, 18), (6, 19), (6, 20), (2, 27), (6, 21), (6, 22), (6, 23), (6, 24), (6, 25), (6, 27), (6, 29), (6, 30), (6, 31), (6, 32), (6, 33), (6, 34), (6, 35)] (by decide +kernel)
theorem wl_c33 : ∀ w ∈ wsL_law0_r33, wl_In w := wl_r _ [(6, 36), (6, 39), (6, 40), (6, 41), (6, 42), (6, 43), (3, 230), (6, 44), (6, 45), (6, 46), (6, 47), (6, 48), (6, 49), (6, 50), (2, 129), (6, 51), (6, 53), (6, 54), (6, 52), (6, 55), (6, 56), (6, 58), (6, 57), (6, 59)] (by decide +kernel)
theorem wl_c34 : ∀ w ∈ wsL_law0_r34, wl_In w := wl_r _ [(6, 60), (6, 61), (6, 62), (6, 57), (6, 63), (6, 64), (6, 65), (6, 66), (6, 67), (6, 68), (6, 69), (6, 70), (6, 71), (6, 72), (6, 73), (6, 75), (6, 82), (6, 83), (6, 84), (6, 85), (6, 86), (6, 87), (6, 88), (6, 89)] (by decide +kernel)
theorem wl_c35 : ∀ w ∈ wsL_law0_r35, wl_In w := wl_r _ [(6, 90), (6, 91), (6, 92), (6, 93), (6, 94), (6, 102), (6, 103), (6, 104), (6, 105), (6, 106), (6, 107), (6, 108), (6, 109), (6, 110), (6, 111), (6, 113), (1, 8), (6, 114), (6, 115), (6, 116), (6, 117), (6, 118), (6, 120), (6, 122)] (by decide +kernel)
theorem wl_c36 : ∀ w ∈ wsL_law0_r36, wl_In w := wl_r _ [(6, 123), (6, 124), (6, 125), (6, 126), (6, 127), (6, 128), (6, 129), (6, 130), (8, 23), (6, 131), (6, 132), (6, 133), (6, 134), (2, 28), (2, 128), (6, 152), (6, 153), (6, 154), (6, 155), (6, 156), (6, 157), (6, 158), (6, 159), (6, 160)] (by decide +kernel)
theorem wl_c37 : ∀ w ∈ wsL_law0_r37, wl_In w := wl_r _ [(6, 164), (3, 212), (2, 18), (6, 174), (6, 175), (6, 176), (6, 177), (6, 178), (6, 179), (6, 180), (6, 181), (6, 182), (8, 24), (6, 183), (6, 184), (6, 185), (6, 186), (6, 187), (6, 188), (6, 189), (6, 190), (6, 191), (6, 192), (6, 193)] (by decide +kernel)
theorem wl_c38 : ∀ w ∈ wsL_law0_r38, wl_In w := wl_r _ [(6, 194), (6, 195), (6, 196), (6, 197), (6, 198), (6, 199), (6, 200), (6, 201), (6, 203), (1, 9), (6, 204), (6, 205), (6, 206), (8, 25), (6, 207), (6, 208), (6, 209), (6, 210), (6, 211), (6, 212), (6, 213), (6, 214), (6, 215), (6, 216)] (by decide +kernel)
theorem wl_c39 : ∀ w ∈ wsL_law0_r39, wl_In w := wl_r _ [(6, 217), (6, 219), (6, 220), (6, 221), (6, 222), (6, 223), (8, 26), (6, 224), (6, 225), (6, 226), (6, 227), (6, 228), (6, 229), (6, 230), (6, 231), (6, 232), (6, 233), (6, 234), (6, 235), (6, 236), (6, 237), (6, 238), (6, 239), (7, 0)] (by decide +kernel)
theorem wl_c40 : ∀ w ∈ wsL_law0_r40, wl_In w := wl_r _ [(7, 1), (7, 2), (7, 3), (7, 4), (7, 5), (7, 6), (7, 7), (7, 8), (7, 9), (7, 10), (7, 12), (7, 15), (7, 16), (7, 17), (8, 11), (7, 18), (7, 19), (7, 20), (7, 21), (7, 22), (7, 31), (7, 32), (7, 41), (7, 46)] (by decide +kernel)
theorem wl_c41 : ∀ w ∈ wsL_law0_r41, wl_In w := wl_r _ [(7, 23), (7, 24), (7, 25), (7, 26), (7, 27), (7, 28), (7, 29), (7, 30), (7, 33), (7, 34), (7, 35), (7, 36), (7, 37), (7, 38), (7, 39), (7, 40), (7, 42), (7, 43), (7, 44), (7, 45), (7, 47), (7, 48), (7, 49), (7, 50)] (by decide +kernel)
theorem wl_c42 : ∀ w ∈ wsL_law0_r42, wl_In w := wl_r _ [(7, 51), (7, 52), (7, 53), (7, 54), (7, 55), (7, 56), (7, 57), (7, 58), (7, 59), (7, 60), (7, 61), (7, 62), (7, 63), (7, 64), (7, 65), (7, 67), (7, 68), (7, 69), (7, 70), (7, 71), (7, 72), (7, 73), (2, 213), (7, 74)] (by decide +kernel)
theorem wl_c43 : ∀ w ∈ wsL_law0_r43, wl_In w := wl_r _ [(7, 75), (7, 76), (7, 77), (7, 78), (7, 79), (7, 80), (7, 81), (7, 82), (7, 83), (7, 84), (7, 85), (7, 86), (7, 87), (7, 88), (7, 89), (7, 90), (7, 91), (7, 92), (7, 93), (7, 94), (7, 95), (7, 96), (7, 97), (7, 98)] (by decide +kernel)
theorem wl_c44 : ∀ w ∈ wsL_law0_r44, wl_In w := wl_r _ [(7, 99), (7, 100), (7, 105), (7, 106), (7, 107), (7, 108), (7, 109), (7, 110), (7, 111), (7, 112), (7, 113), (7, 114), (7, 116), (7, 117), (7, 118), (7, 119), (7, 120), (7, 122), (7, 123), (7, 124), (7, 125), (7, 126), (7, 127), (7, 128)] (by decide +kernel)
theorem wl_c45 : ∀ w ∈ wsL_law0_r45, wl_In w := wl_r _ [(7, 129), (7, 130), (7, 131), (7, 132), (7, 133), (7, 134), (7, 135), (7, 136), (7, 137), (7, 138), (7, 140), (1, 10), (7, 141), (7, 142), (7, 144), (1, 11), (7, 145), (7, 172), (7, 146), (7, 147), (7, 148), (7, 161), (7, 163), (1, 12)] (by decide +kernel)
theorem wl_c46 : ∀ w ∈ wsL_law0_r46, wl_In w := wl_r _ [(7, 164), (7, 165), (7, 166), (7, 168), (1, 13), (7, 169), (7, 170), (7, 171), (7, 173), (7, 174), (7, 175), (7, 176), (7, 177), (7, 179), (1, 14), (7, 180), (7, 181), (7, 182), (7, 183), (7, 184), (7, 185), (7, 186), (7, 187), (7, 188)] (by decide +kernel)
theorem wl_c47 : ∀ w ∈ wsL_law0_r47, wl_In w := wl_r _ [(7, 189), (7, 190), (7, 191), (7, 192), (7, 194), (7, 195), (7, 196), (7, 197), (7, 198), (7, 199), (7, 200), (7, 201), (7, 202), (7, 203), (7, 204), (7, 205), (7, 206), (7, 207), (7, 208), (7, 209), (7, 210), (7, 211), (7, 212), (7, 213)] (by decide +kernel)
theorem wl_c48 : ∀ w ∈ wsL_law0_r48, wl_In w := wl_r _ [(7, 214), (7, 215), (7, 216), (7, 217), (7, 218), (7, 219), (7, 220), (7, 221), (7, 223), (7, 224), (7, 225), (7, 226), (7, 227), (7, 228), (7, 229), (7, 230), (7, 231), (7, 232), (7, 233), (7, 234), (7, 235), (7, 236), (7, 237), (7, 238)] (by decide +kernel)
theorem wl_c49 : ∀ w ∈ wsL_law0_r49, wl_In w := wl_r _ [(7, 239), (8, 0), (8, 1), (8, 2), (8, 3), (8, 4), (8, 5), (8, 7), (8, 8), (8, 9), (8, 10)] (by decide +kernel)
theorem wl_u_wsX50 : ∀ w ∈ wsX50, wl_In w := wl_r _ [(2, 173), (2, 175), (2, 177), (2, 179), (2, 181), (2, 183), (2, 185), (2, 187), (2, 189), (2, 191)] (by decide +kernel)
theorem wl_u_wsX40 : ∀ w ∈ wsX40, wl_In w := wl_r _ [(2, 63)] (by decide +kernel)
theorem wl_u_wsX00 : ∀ w ∈ wsX00, wl_In w := wl_r _ [(2, 77), (2, 79), (2, 81)] (by decide +kernel)
theorem wl_u_wsX10 : ∀ w ∈ wsX10, wl_In w := wl_r _ [(2, 95), (2, 97), (2, 99)] (by decide +kernel)
theorem wl_u_wsX30 : ∀ w ∈ wsX30, wl_In w := wl_r _ [(2, 148), (2, 150), (2, 152), (2, 154), (2, 156)] (by decide +kernel)
theorem wl_u_wsJ40 : ∀ w ∈ wsJ40, wl_In w := wl_r _ [(2, 131), (2, 133), (2, 135), (2, 137)] (by decide +kernel)
theorem wl_u_wsX20 : ∀ w ∈ wsX20, wl_In w := wl_r _ [(2, 53)] (by decide +kernel)
theorem wl_u_wsJ00 : ∀ w ∈ wsJ00, wl_In w := wl_r _ [(3, 231), (3, 233), (6, 97), (6, 99)] (by decide +kernel)
theorem wl_u_wsJx7c7330 : ∀ w ∈ wsJx7c7330, wl_In w := wl_r _ [(6, 145), (6, 146), (6, 147), (6, 148), (6, 149), (6, 150)] (by decide +kernel)
theorem wl_u_wsJx000600 : ∀ w ∈ wsJx000600, wl_In w := wl_r _ [(3, 219), (3, 220), (3, 221), (3, 222), (3, 223), (3, 224)] (by decide +kernel)
theorem wl_law0 : ∀ w ∈ wsL_law0, wl_In w := wl_ap (wl_ap (wl_ap (wl_ap (wl_ap (wl_ap (wl_ap (wl_ap (wl_ap (wl_ap (wl_ap (wl_ap wl_c1 (wl_ap wl_c2 (wl_ap wl_c3 (wl_ap wl_c4 (wl_ap wl_c5 (wl_ap wl_c6 (wl_ap wl_c7 (wl_ap wl_c8 (wl_ap wl_c9 (wl_ap wl_c10 (wl_ap wl_c11 (wl_ap wl_c12 (wl_ap wl_c13 (wl_ap wl_c14 (wl_ap wl_c15 (wl_ap wl_c16 (wl_ap wl_c17 (wl_ap wl_c18 (wl_ap wl_c19 (wl_ap wl_c20 (wl_ap wl_c21 (wl_ap wl_c22 (wl_ap wl_c23 (wl_ap wl_c24 (wl_ap wl_c25 (wl_ap wl_c26 (wl_ap wl_c27 (wl_ap wl_c28 (wl_ap wl_c29 (wl_ap wl_c30 (wl_ap wl_c31 (wl_ap wl_c32 (wl_ap wl_c33 (wl_ap wl_c34 (wl_ap wl_c35 (wl_ap wl_c36 (wl_ap wl_c37 (wl_ap wl_c38 (wl_ap wl_c39 (wl_ap wl_c40 (wl_ap wl_c41 (wl_ap wl_c42 (wl_ap wl_c43 (wl_ap wl_c44 (wl_ap wl_c45 (wl_ap wl_c46 (wl_ap wl_c47 (wl_ap wl_c48 wl_c49)))))))))))))))))))))))))))))))))))))))))))))))) wl_u_wsX50) wl_u_wsX40) wl_u_wsX00) wl_u_wsX10) wl_u_wsX30) wl_u_wsJ40) wl_u_wsX20) wl_u_wsJ00) wl_u_wsJx7c7330) wl_u_wsJx000600) (fun _ h => absurd h List.not_mem_nil)
theorem wl_hts {A : Array Value} {s : State} (hts : ∀ w ∈ lw_tbl, w.before A s = true) : ∀ w, wl_In w → w.before A s = true := by
  have hin : ∀ w, w ∈ tables_1 → w.before A s = true := fun w h => hts w (List.mem_append_right _ h)
  have hI : (Cond.instantiable RJ4 4).before A s = true := hts _ (by decide +kernel)
  have h0 : (Cond.selects RJ4 ⟨RJ5, "isLatin1", "()Z"⟩ ⟨RJ5, "isLatin1", "()Z"⟩).before A s = true := hts _ (by decide +kernel)
  have sp : ∀ w ∈ wl_sp, w.before A s = true := by
    intro w hw
    simp only [wl_sp, List.mem_cons, List.not_mem_nil, or_false] at hw
    rcases hw with rfl | rfl | rfl | rfl | rfl | rfl
    · exact wl_selp ⟨by decide +kernel, by decide +kernel⟩ hI (hts (.privateMethod yJ5_ensureCapacityInternal_d00df) (by decide +kernel)) (hts (.instanceMethod yJ5_ensureCapacityInternal_d00df) (by decide +kernel)) h0 rfl
    · exact wl_selp ⟨by decide +kernel, by decide +kernel⟩ hI (hts (.privateMethod yJ5_newCapacity_0f7a4) (by decide +kernel)) (hts (.instanceMethod yJ5_newCapacity_0f7a4) (by decide +kernel)) h0 rfl
    · exact wl_selp ⟨by decide +kernel, by decide +kernel⟩ hI (hts (.privateMethod yJ5_inflate_da8c8) (by decide +kernel)) (hts (.instanceMethod yJ5_inflate_da8c8) (by decide +kernel)) h0 rfl
    · exact wl_selp ⟨by decide +kernel, by decide +kernel⟩ hI (hts (.privateMethod yJ5_putStringAt_47b60) (by decide +kernel)) (hts (.instanceMethod yJ5_putStringAt_47b60) (by decide +kernel)) h0 rfl
    · exact wl_selp ⟨by decide +kernel, by decide +kernel⟩ hI (hts (.privateMethod yJ5_inflateIfNeededFor_a7421) (by decide +kernel)) (hts (.instanceMethod yJ5_inflateIfNeededFor_a7421) (by decide +kernel)) h0 rfl
    · exact wl_selp ⟨by decide +kernel, by decide +kernel⟩ hI (hts (.privateMethod yJ5_appendNull_278bc) (by decide +kernel)) (hts (.instanceMethod yJ5_appendNull_278bc) (by decide +kernel)) h0 rfl
  intro w hw
  obtain ⟨g, hg, hgw⟩ := hw
  simp only [wl_segs, List.mem_cons, List.not_mem_nil, or_false] at hg
  rcases hg with rfl | rfl | rfl | rfl | rfl | rfl | rfl | rfl | rfl
  · exact sp w hgw
  · exact hts w (List.mem_append_left _ hgw)
  all_goals
    refine hin w ?_
    unfold tables_1
    simp only [List.mem_append]
    simp only [hgw, true_or, or_true]
