noncomputable def SX6_saysNumber_0 (v8 : Int32) (ln : Nat → Int32) (x1 : Int32) : Option (Int32 × (Nat → Int32)) := gd (x1 ≤ 9) (bnd (SX6_says v8 ln (i2c (48 + (irm x1 10)))) (fun o3 : (Nat → Int32) × Int32 => some ((o3.2, o3.1))))
abbrev RM_X6_saysNumber_0 : Room := { frames := 1, cells := 0, slots := 0, locals := 21 }
set_option maxHeartbeats 4000000 in
theorem kX6_saysNumber_0 (l : Launch) (D : va_G) (cA : Nat → ClassId) (m0 q0 q1 q2 q4 q7 q9 q15 : Nat) (v3 : Int32) (v5 : Int32) (v6 : Int32) (v8 : Int32) (v10 : Int32) (v11 : Int32) (v12 : Int32) (v13 : Int32) (v14 : Int32) (v16 : Int32) (ln : Nat → Int32) (x1 : Int32) {r : Int32 × (Nat → Int32)} (hr : SX6_saysNumber_0 v8 ln x1 = some r) {sz : Nat} : Met l yX6_saysNumber wsX6_saysNumber RM_X6_saysNumber_0 (va_Pc [.ref m0, .int x1] (gqB D cA [(m0, .inr (10, [.ref q0, .ref q1, .ref q2, .int v3, .ref q4, .int v5, .int v6, .ref q7, .int v8, .ref q9, .int v10, .int v11, .int v12, .int v13, .int v14, .ref q15, .int v16])), (q7, .inl (cA 2, 90, .inl ln))] sz)) (gqQ D (fun as => none) (fun as => [(m0, .inr (10, [.ref q0, .ref q1, .ref q2, .int v3, .ref q4, .int v5, .int v6, .ref q7, .int r.1, .ref q9, .int v10, .int v11, .int v12, .int v13, .int v14, .ref q15, .int v16])), (q7, .inl (cA 2, 90, .inl r.2))]) (va_A [(m0, .inr (10, [.ref q0, .ref q1, .ref q2, .int v3, .ref q4, .int v5, .int v6, .ref q7, .int v8, .ref q9, .int v10, .int v11, .int v12, .int v13, .int v14, .ref q15, .int v16])), (q7, .inl (cA 2, 90, .inl ln))] sz)) 0 0 (va_A [(m0, .inr (10, [.ref q0, .ref q1, .ref q2, .int v3, .ref q4, .int v5, .int v6, .ref q7, .int v8, .ref q9, .int v10, .int v11, .int v12, .int v13, .int v14, .ref q15, .int v16])), (q7, .inl (cA 2, 90, .inl ln))] sz) := by
  refine gq_ofW (cc := cX6_saysNumber) (maxL := 2) (ret := none) (by decide) rfl (Nat.le_of_ble_eq_true rfl) (fun p e s m args below meth c ls Q A hx hb hml hts hfc hmn hK hP hD hS hA hl hend => ?_)
  have hfc : s.vm.findClass RX6 = some m.cls := hfc
  have hl : lv_has ls 2 [(0, .ref m0), (1, .int x1)] := hl
  have h := hr
  clear hr
  unfold SX6_saysNumber_0 at h
  refine lv_iload_n hx hb dX6_saysNumber_0 rfl (lv_at hl 1 rfl) ?_
  refine lv_bipush (v := 9) hx hb dX6_saysNumber_1 (by decide) ?_
  obtain ⟨g2, h⟩ := gd_i h
  refine lv_icmp_le (tgt := 14) hx hb dX6_saysNumber_3 (by decide) (fun _ => ?_) (fun c => absurd g2 c)
  refine lv_aload_n hx hb dX6_saysNumber_14 rfl (lv_at hl 0 rfl) ?_
  refine lv_bipush (v := 48) hx hb dX6_saysNumber_15 (by decide) ?_
  refine lv_iload_n hx hb dX6_saysNumber_17 rfl (lv_at hl 1 rfl) ?_
  refine lv_bipush (v := 10) hx hb dX6_saysNumber_18 (by decide) ?_
  refine lv_irem hx hb dX6_saysNumber_20 (by decide) ?_
  refine lv_iadd hx hb dX6_saysNumber_21 ?_
  refine lv_i2c (v := i2c (48 + (irm x1 10))) hx hb dX6_saysNumber_22 rfl ?_
  obtain ⟨o3, ho3, h⟩ := bnd_i h
  refine gq_V (v := (fun as => none)) (As := [.int (i2c (48 + (irm x1 10)))]) (rest := []) (wc := [(m0, .inr (10, [.ref q0, .ref q1, .ref q2, .int v3, .ref q4, .int v5, .int v6, .ref q7, .int v8, .ref q9, .int v10, .int v11, .int v12, .int v13, .int v14, .ref q15, .int v16])), (q7, .inl (cA 2, 90, .inl ln))]) (wr := []) (w1 := (fun as => [(m0, .inr (10, [.ref q0, .ref q1, .ref q2, .int v3, .ref q4, .int v5, .int v6, .ref q7, .int o3.2, .ref q9, .int v10, .int v11, .int v12, .int v13, .int v14, .ref q15, .int v16])), (q7, .inl (cA 2, 90, .inl o3.1))])) (ws2 := (fun as => [(m0, .inr (10, [.ref q0, .ref q1, .ref q2, .int v3, .ref q4, .int v5, .int v6, .ref q7, .int o3.2, .ref q9, .int v10, .int v11, .int v12, .int v13, .int v14, .ref q15, .int v16])), (q7, .inl (cA 2, 90, .inl o3.1))])) (st1 := (fun as => [])) ⟨hx, hb, hml, hfc, hts⟩ hK hP hD hS hA (kX6_says l D cA m0 q0 q1 q2 q4 q7 q9 q15 v3 v5 v6 v8 v10 v11 v12 v13 v14 v16 ln (i2c (48 + (irm x1 10))) ho3) (cwV 1 hts gX6_saysNumber_X6_says rfl rfl rfl (by decide +kernel) ⟨(Nat.le_of_ble_eq_true rfl), (Nat.le_of_ble_eq_true rfl)⟩) [0, 1] [] [0, 1] rfl rfl rfl rfl (by decide) (fun _ => rfl) rfl 0 10 rfl rfl rfl rfl (fun _ => rfl) rfl hl.1 (Nat.le_of_ble_eq_true rfl) dX6_saysNumber_23 ⟨(Nat.le_of_ble_eq_true rfl), (Nat.le_of_ble_eq_true rfl)⟩ (fun as4 H locs hP hD hS => ?_)
  have hP : va_P D vwCl [(m0, .inr (10, [.ref q0, .ref q1, .ref q2, .int v3, .ref q4, .int v5, .int v6, .ref q7, .int o3.2, .ref q9, .int v10, .int v11, .int v12, .int v13, .int v14, .ref q15, .int v16])), (q7, .inl (cA 2, 90, .inl o3.1))] H := hP
  have hD : va_D A [(m0, .inr (10, [.ref q0, .ref q1, .ref q2, .int v3, .ref q4, .int v5, .int v6, .ref q7, .int o3.2, .ref q9, .int v10, .int v11, .int v12, .int v13, .int v14, .ref q15, .int v16])), (q7, .inl (cA 2, 90, .inl o3.1))] := hD
  have h := Option.some.inj h
  subst h
  exact hend (adr []) _ _ _ _ _ _ _ rfl rfl (rtn_v) hP hD hS dX6_saysNumber_26

noncomputable def SX6_saysNumber_1 (v8 : Int32) (ln : Nat → Int32) (x1 : Int32) : Option (Int32 × (Nat → Int32)) := bnd (if x1 ≤ 9 then (some ((v8, ln))) else (bnd (SX6_saysNumber_0 v8 ln (x1 / 10)) (fun o3 : Int32 × (Nat → Int32) => some ((o3.1, o3.2))))) (fun o2 : Int32 × (Nat → Int32) => bnd (SX6_says o2.1 o2.2 (i2c (48 + (irm x1 10)))) (fun o5 : (Nat → Int32) × Int32 => some ((o5.2, o5.1))))
abbrev RM_X6_saysNumber_1 : Room := { frames := 2, cells := 0, slots := 0, locals := 42 }
set_option maxHeartbeats 4000000 in
theorem kX6_saysNumber_1 (l : Launch) (D : va_G) (cA : Nat → ClassId) (m0 q0 q1 q2 q4 q7 q9 q15 : Nat) (v3 : Int32) (v5 : Int32) (v6 : Int32) (v8 : Int32) (v10 : Int32) (v11 : Int32) (v12 : Int32) (v13 : Int32) (v14 : Int32) (v16 : Int32) (ln : Nat → Int32) (x1 : Int32) {r : Int32 × (Nat → Int32)} (hr : SX6_saysNumber_1 v8 ln x1 = some r) {sz : Nat} : Met l yX6_saysNumber wsX6_saysNumber RM_X6_saysNumber_1 (va_Pc [.ref m0, .int x1] (gqB D cA [(m0, .inr (10, [.ref q0, .ref q1, .ref q2, .int v3, .ref q4, .int v5, .int v6, .ref q7, .int v8, .ref q9, .int v10, .int v11, .int v12, .int v13, .int v14, .ref q15, .int v16])), (q7, .inl (cA 2, 90, .inl ln))] sz)) (gqQ D (fun as => none) (fun as => [(m0, .inr (10, [.ref q0, .ref q1, .ref q2, .int v3, .ref q4, .int v5, .int v6, .ref q7, .int r.1, .ref q9, .int v10, .int v11, .int v12, .int v13, .int v14, .ref q15, .int v16])), (q7, .inl (cA 2, 90, .inl r.2))]) (va_A [(m0, .inr (10, [.ref q0, .ref q1, .ref q2, .int v3, .ref q4, .int v5, .int v6, .ref q7, .int v8, .ref q9, .int v10, .int v11, .int v12, .int v13, .int v14, .ref q15, .int v16])), (q7, .inl (cA 2, 90, .inl ln))] sz)) 0 0 (va_A [(m0, .inr (10, [.ref q0, .ref q1, .ref q2, .int v3, .ref q4, .int v5, .int v6, .ref q7, .int v8, .ref q9, .int v10, .int v11, .int v12, .int v13, .int v14, .ref q15, .int v16])), (q7, .inl (cA 2, 90, .inl ln))] sz) := by
  refine gq_ofW (cc := cX6_saysNumber) (maxL := 2) (ret := none) (by decide) rfl (Nat.le_of_ble_eq_true rfl) (fun p e s m args below meth c ls Q A hx hb hml hts hfc hmn hK hP hD hS hA hl hend => ?_)
  have hfc : s.vm.findClass RX6 = some m.cls := hfc
  have hl : lv_has ls 2 [(0, .ref m0), (1, .int x1)] := hl
  have h := hr
  clear hr
  unfold SX6_saysNumber_1 at h
  refine lv_iload_n hx hb dX6_saysNumber_0 rfl (lv_at hl 1 rfl) ?_
  refine lv_bipush (v := 9) hx hb dX6_saysNumber_1 (by decide) ?_
  obtain ⟨o2, ho2, h⟩ := bnd_i h
  have ko2 : ∀ (ls : Array Slot) (H : Heap) (locs : List Loc), lv_has ls 2 [(0, .ref m0), (1, .int x1)] → va_P D vwCl [(m0, .inr (10, [.ref q0, .ref q1, .ref q2, .int v3, .ref q4, .int v5, .int v6, .ref q7, .int o2.1, .ref q9, .int v10, .int v11, .int v12, .int v13, .int v14, .ref q15, .int v16])), (q7, .inl (cA 2, 90, .inl o2.2))] H → va_D A [(m0, .inr (10, [.ref q0, .ref q1, .ref q2, .int v3, .ref q4, .int v5, .int v6, .ref q7, .int o2.1, .ref q9, .int v10, .int v11, .int v12, .int v13, .int v14, .ref q15, .int v16])), (q7, .inl (cA 2, 90, .inl o2.2))] → va_S A s.heap H locs → W p l e RM_X6_saysNumber_1 s m args below meth c H locs 0 0 Q (F0 m 14 ls []) := by
    intro ls H locs hl hP hD hS
    refine lv_aload_n hx hb dX6_saysNumber_14 rfl (lv_at hl 0 rfl) ?_
    refine lv_bipush (v := 48) hx hb dX6_saysNumber_15 (by decide) ?_
    refine lv_iload_n hx hb dX6_saysNumber_17 rfl (lv_at hl 1 rfl) ?_
    refine lv_bipush (v := 10) hx hb dX6_saysNumber_18 (by decide) ?_
    refine lv_irem hx hb dX6_saysNumber_20 (by decide) ?_
    refine lv_iadd hx hb dX6_saysNumber_21 ?_
    refine lv_i2c (v := i2c (48 + (irm x1 10))) hx hb dX6_saysNumber_22 rfl ?_
    obtain ⟨o5, ho5, h⟩ := bnd_i h
    refine gq_V (v := (fun as => none)) (As := [.int (i2c (48 + (irm x1 10)))]) (rest := []) (wc := [(m0, .inr (10, [.ref q0, .ref q1, .ref q2, .int v3, .ref q4, .int v5, .int v6, .ref q7, .int o2.1, .ref q9, .int v10, .int v11, .int v12, .int v13, .int v14, .ref q15, .int v16])), (q7, .inl (cA 2, 90, .inl o2.2))]) (wr := []) (w1 := (fun as => [(m0, .inr (10, [.ref q0, .ref q1, .ref q2, .int v3, .ref q4, .int v5, .int v6, .ref q7, .int o5.2, .ref q9, .int v10, .int v11, .int v12, .int v13, .int v14, .ref q15, .int v16])), (q7, .inl (cA 2, 90, .inl o5.1))])) (ws2 := (fun as => [(m0, .inr (10, [.ref q0, .ref q1, .ref q2, .int v3, .ref q4, .int v5, .int v6, .ref q7, .int o5.2, .ref q9, .int v10, .int v11, .int v12, .int v13, .int v14, .ref q15, .int v16])), (q7, .inl (cA 2, 90, .inl o5.1))])) (st1 := (fun as => [])) ⟨hx, hb, hml, hfc, hts⟩ hK hP hD hS hA (kX6_says l D cA m0 q0 q1 q2 q4 q7 q9 q15 v3 v5 v6 o2.1 v10 v11 v12 v13 v14 v16 o2.2 (i2c (48 + (irm x1 10))) ho5) (cwV 1 hts gX6_saysNumber_X6_says rfl rfl rfl (by decide +kernel) ⟨(Nat.le_of_ble_eq_true rfl), (Nat.le_of_ble_eq_true rfl)⟩) [0, 1] [] [0, 1] rfl rfl rfl rfl (by decide) (fun _ => rfl) rfl 0 10 rfl rfl rfl rfl (fun _ => rfl) rfl hl.1 (Nat.le_of_ble_eq_true rfl) dX6_saysNumber_23 ⟨(Nat.le_of_ble_eq_true rfl), (Nat.le_of_ble_eq_true rfl)⟩ (fun as6 H locs hP hD hS => ?_)
    have hP : va_P D vwCl [(m0, .inr (10, [.ref q0, .ref q1, .ref q2, .int v3, .ref q4, .int v5, .int v6, .ref q7, .int o5.2, .ref q9, .int v10, .int v11, .int v12, .int v13, .int v14, .ref q15, .int v16])), (q7, .inl (cA 2, 90, .inl o5.1))] H := hP
    have hD : va_D A [(m0, .inr (10, [.ref q0, .ref q1, .ref q2, .int v3, .ref q4, .int v5, .int v6, .ref q7, .int o5.2, .ref q9, .int v10, .int v11, .int v12, .int v13, .int v14, .ref q15, .int v16])), (q7, .inl (cA 2, 90, .inl o5.1))] := hD
    have h := Option.some.inj h
    subst h
    exact hend (adr []) _ _ _ _ _ _ _ rfl rfl (rtn_v) hP hD hS dX6_saysNumber_26
  clear h
  have h := ho2
  clear ho2
  refine lv_icmp_le (tgt := 14) hx hb dX6_saysNumber_3 (by decide) (fun c1 => ?_) (fun c1 => ?_)
  · have h := ite_t c1 h
    have h := Option.some.inj h
    subst h
    exact ko2 _ _ _ (lv_sub hl [0, 1] rfl) hP hD hS
  · have h := ite_f c1 h
    refine lv_aload_n hx hb dX6_saysNumber_6 rfl (lv_at hl 0 rfl) ?_
    refine lv_iload_n hx hb dX6_saysNumber_7 rfl (lv_at hl 1 rfl) ?_
    refine lv_bipush (v := 10) hx hb dX6_saysNumber_8 (by decide) ?_
    refine lv_idiv hx hb dX6_saysNumber_10 (by decide) ?_
    obtain ⟨o3, ho3, h⟩ := bnd_i h
    refine gq_V (v := (fun as => none)) (As := [.int (x1 / 10)]) (rest := []) (wc := [(m0, .inr (10, [.ref q0, .ref q1, .ref q2, .int v3, .ref q4, .int v5, .int v6, .ref q7, .int v8, .ref q9, .int v10, .int v11, .int v12, .int v13, .int v14, .ref q15, .int v16])), (q7, .inl (cA 2, 90, .inl ln))]) (wr := []) (w1 := (fun as => [(m0, .inr (10, [.ref q0, .ref q1, .ref q2, .int v3, .ref q4, .int v5, .int v6, .ref q7, .int o3.1, .ref q9, .int v10, .int v11, .int v12, .int v13, .int v14, .ref q15, .int v16])), (q7, .inl (cA 2, 90, .inl o3.2))])) (ws2 := (fun as => [(m0, .inr (10, [.ref q0, .ref q1, .ref q2, .int v3, .ref q4, .int v5, .int v6, .ref q7, .int o3.1, .ref q9, .int v10, .int v11, .int v12, .int v13, .int v14, .ref q15, .int v16])), (q7, .inl (cA 2, 90, .inl o3.2))])) (st1 := (fun as => [])) ⟨hx, hb, hml, hfc, hts⟩ hK hP hD hS hA (kX6_saysNumber_0 l D cA m0 q0 q1 q2 q4 q7 q9 q15 v3 v5 v6 v8 v10 v11 v12 v13 v14 v16 ln (x1 / 10) ho3) (cwV 1 hts gX6_saysNumber_X6_saysNumber rfl rfl rfl (by decide +kernel) ⟨(Nat.le_of_ble_eq_true rfl), (Nat.le_of_ble_eq_true rfl)⟩) [0, 1] [] [0, 1] rfl rfl rfl rfl (by decide) (fun _ => rfl) rfl 0 10 rfl rfl rfl rfl (fun _ => rfl) rfl hl.1 (Nat.le_of_ble_eq_true rfl) dX6_saysNumber_11 ⟨(Nat.le_of_ble_eq_true rfl), (Nat.le_of_ble_eq_true rfl)⟩ (fun as4 H locs hP hD hS => ?_)
    have hP : va_P D vwCl [(m0, .inr (10, [.ref q0, .ref q1, .ref q2, .int v3, .ref q4, .int v5, .int v6, .ref q7, .int o3.1, .ref q9, .int v10, .int v11, .int v12, .int v13, .int v14, .ref q15, .int v16])), (q7, .inl (cA 2, 90, .inl o3.2))] H := hP
    have hD : va_D A [(m0, .inr (10, [.ref q0, .ref q1, .ref q2, .int v3, .ref q4, .int v5, .int v6, .ref q7, .int o3.1, .ref q9, .int v10, .int v11, .int v12, .int v13, .int v14, .ref q15, .int v16])), (q7, .inl (cA 2, 90, .inl o3.2))] := hD
    have h := Option.some.inj h
    subst h
    exact ko2 _ _ _ (lv_sub hl [0, 1] rfl) hP hD hS

noncomputable def SX6_saysNumber_2 (v8 : Int32) (ln : Nat → Int32) (x1 : Int32) : Option (Int32 × (Nat → Int32)) := bnd (if x1 ≤ 9 then (some ((v8, ln))) else (bnd (SX6_saysNumber_1 v8 ln (x1 / 10)) (fun o3 : Int32 × (Nat → Int32) => some ((o3.1, o3.2))))) (fun o2 : Int32 × (Nat → Int32) => bnd (SX6_says o2.1 o2.2 (i2c (48 + (irm x1 10)))) (fun o5 : (Nat → Int32) × Int32 => some ((o5.2, o5.1))))
abbrev RM_X6_saysNumber_2 : Room := { frames := 3, cells := 0, slots := 0, locals := 63 }
set_option maxHeartbeats 4000000 in
theorem kX6_saysNumber_2 (l : Launch) (D : va_G) (cA : Nat → ClassId) (m0 q0 q1 q2 q4 q7 q9 q15 : Nat) (v3 : Int32) (v5 : Int32) (v6 : Int32) (v8 : Int32) (v10 : Int32) (v11 : Int32) (v12 : Int32) (v13 : Int32) (v14 : Int32) (v16 : Int32) (ln : Nat → Int32) (x1 : Int32) {r : Int32 × (Nat → Int32)} (hr : SX6_saysNumber_2 v8 ln x1 = some r) {sz : Nat} : Met l yX6_saysNumber wsX6_saysNumber RM_X6_saysNumber_2 (va_Pc [.ref m0, .int x1] (gqB D cA [(m0, .inr (10, [.ref q0, .ref q1, .ref q2, .int v3, .ref q4, .int v5, .int v6, .ref q7, .int v8, .ref q9, .int v10, .int v11, .int v12, .int v13, .int v14, .ref q15, .int v16])), (q7, .inl (cA 2, 90, .inl ln))] sz)) (gqQ D (fun as => none) (fun as => [(m0, .inr (10, [.ref q0, .ref q1, .ref q2, .int v3, .ref q4, .int v5, .int v6, .ref q7, .int r.1, .ref q9, .int v10, .int v11, .int v12, .int v13, .int v14, .ref q15, .int v16])), (q7, .inl (cA 2, 90, .inl r.2))]) (va_A [(m0, .inr (10, [.ref q0, .ref q1, .ref q2, .int v3, .ref q4, .int v5, .int v6, .ref q7, .int v8, .ref q9, .int v10, .int v11, .int v12, .int v13, .int v14, .ref q15, .int v16])), (q7, .inl (cA 2, 90, .inl ln))] sz)) 0 0 (va_A [(m0, .inr (10, [.ref q0, .ref q1, .ref q2, .int v3, .ref q4, .int v5, .int v6, .ref q7, .int v8, .ref q9, .int v10, .int v11, .int v12, .int v13, .int v14, .ref q15, .int v16])), (q7, .inl (cA 2, 90, .inl ln))] sz) := by
  refine gq_ofW (cc := cX6_saysNumber) (maxL := 2) (ret := none) (by decide) rfl (Nat.le_of_ble_eq_true rfl) (fun p e s m args below meth c ls Q A hx hb hml hts hfc hmn hK hP hD hS hA hl hend => ?_)
  have hfc : s.vm.findClass RX6 = some m.cls := hfc
  have hl : lv_has ls 2 [(0, .ref m0), (1, .int x1)] := hl
  have h := hr
  clear hr
  unfold SX6_saysNumber_2 at h
  refine lv_iload_n hx hb dX6_saysNumber_0 rfl (lv_at hl 1 rfl) ?_
  refine lv_bipush (v := 9) hx hb dX6_saysNumber_1 (by decide) ?_
  obtain ⟨o2, ho2, h⟩ := bnd_i h
  have ko2 : ∀ (ls : Array Slot) (H : Heap) (locs : List Loc), lv_has ls 2 [(0, .ref m0), (1, .int x1)] → va_P D vwCl [(m0, .inr (10, [.ref q0, .ref q1, .ref q2, .int v3, .ref q4, .int v5, .int v6, .ref q7, .int o2.1, .ref q9, .int v10, .int v11, .int v12, .int v13, .int v14, .ref q15, .int v16])), (q7, .inl (cA 2, 90, .inl o2.2))] H → va_D A [(m0, .inr (10, [.ref q0, .ref q1, .ref q2, .int v3, .ref q4, .int v5, .int v6, .ref q7, .int o2.1, .ref q9, .int v10, .int v11, .int v12, .int v13, .int v14, .ref q15, .int v16])), (q7, .inl (cA 2, 90, .inl o2.2))] → va_S A s.heap H locs → W p l e RM_X6_saysNumber_2 s m args below meth c H locs 0 0 Q (F0 m 14 ls []) := by
    intro ls H locs hl hP hD hS
    refine lv_aload_n hx hb dX6_saysNumber_14 rfl (lv_at hl 0 rfl) ?_
    refine lv_bipush (v := 48) hx hb dX6_saysNumber_15 (by decide) ?_
    refine lv_iload_n hx hb dX6_saysNumber_17 rfl (lv_at hl 1 rfl) ?_
    refine lv_bipush (v := 10) hx hb dX6_saysNumber_18 (by decide) ?_
    refine lv_irem hx hb dX6_saysNumber_20 (by decide) ?_
    refine lv_iadd hx hb dX6_saysNumber_21 ?_
    refine lv_i2c (v := i2c (48 + (irm x1 10))) hx hb dX6_saysNumber_22 rfl ?_
    obtain ⟨o5, ho5, h⟩ := bnd_i h
    refine gq_V (v := (fun as => none)) (As := [.int (i2c (48 + (irm x1 10)))]) (rest := []) (wc := [(m0, .inr (10, [.ref q0, .ref q1, .ref q2, .int v3, .ref q4, .int v5, .int v6, .ref q7, .int o2.1, .ref q9, .int v10, .int v11, .int v12, .int v13, .int v14, .ref q15, .int v16])), (q7, .inl (cA 2, 90, .inl o2.2))]) (wr := []) (w1 := (fun as => [(m0, .inr (10, [.ref q0, .ref q1, .ref q2, .int v3, .ref q4, .int v5, .int v6, .ref q7, .int o5.2, .ref q9, .int v10, .int v11, .int v12, .int v13, .int v14, .ref q15, .int v16])), (q7, .inl (cA 2, 90, .inl o5.1))])) (ws2 := (fun as => [(m0, .inr (10, [.ref q0, .ref q1, .ref q2, .int v3, .ref q4, .int v5, .int v6, .ref q7, .int o5.2, .ref q9, .int v10, .int v11, .int v12, .int v13, .int v14, .ref q15, .int v16])), (q7, .inl (cA 2, 90, .inl o5.1))])) (st1 := (fun as => [])) ⟨hx, hb, hml, hfc, hts⟩ hK hP hD hS hA (kX6_says l D cA m0 q0 q1 q2 q4 q7 q9 q15 v3 v5 v6 o2.1 v10 v11 v12 v13 v14 v16 o2.2 (i2c (48 + (irm x1 10))) ho5) (cwV 1 hts gX6_saysNumber_X6_says rfl rfl rfl (by decide +kernel) ⟨(Nat.le_of_ble_eq_true rfl), (Nat.le_of_ble_eq_true rfl)⟩) [0, 1] [] [0, 1] rfl rfl rfl rfl (by decide) (fun _ => rfl) rfl 0 10 rfl rfl rfl rfl (fun _ => rfl) rfl hl.1 (Nat.le_of_ble_eq_true rfl) dX6_saysNumber_23 ⟨(Nat.le_of_ble_eq_true rfl), (Nat.le_of_ble_eq_true rfl)⟩ (fun as6 H locs hP hD hS => ?_)
    have hP : va_P D vwCl [(m0, .inr (10, [.ref q0, .ref q1, .ref q2, .int v3, .ref q4, .int v5, .int v6, .ref q7, .int o5.2, .ref q9, .int v10, .int v11, .int v12, .int v13, .int v14, .ref q15, .int v16])), (q7, .inl (cA 2, 90, .inl o5.1))] H := hP
    have hD : va_D A [(m0, .inr (10, [.ref q0, .ref q1, .ref q2, .int v3, .ref q4, .int v5, .int v6, .ref q7, .int o5.2, .ref q9, .int v10, .int v11, .int v12, .int v13, .int v14, .ref q15, .int v16])), (q7, .inl (cA 2, 90, .inl o5.1))] := hD
    have h := Option.some.inj h
    subst h
    exact hend (adr []) _ _ _ _ _ _ _ rfl rfl (rtn_v) hP hD hS dX6_saysNumber_26
  clear h
  have h := ho2
  clear ho2
  refine lv_icmp_le (tgt := 14) hx hb dX6_saysNumber_3 (by decide) (fun c1 => ?_) (fun c1 => ?_)
  · have h := ite_t c1 h
    have h := Option.some.inj h
    subst h
    exact ko2 _ _ _ (lv_sub hl [0, 1] rfl) hP hD hS
  · have h := ite_f c1 h
    refine lv_aload_n hx hb dX6_saysNumber_6 rfl (lv_at hl 0 rfl) ?_
    refine lv_iload_n hx hb dX6_saysNumber_7 rfl (lv_at hl 1 rfl) ?_
    refine lv_bipush (v := 10) hx hb dX6_saysNumber_8 (by decide) ?_
    refine lv_idiv hx hb dX6_saysNumber_10 (by decide) ?_
    obtain ⟨o3, ho3, h⟩ := bnd_i h
    refine gq_V (v := (fun as => none)) (As := [.int (x1 / 10)]) (rest := []) (wc := [(m0, .inr (10, [.ref q0, .ref q1, .ref q2, .int v3, .ref q4, .int v5, .int v6, .ref q7, .int v8, .ref q9, .int v10, .int v11, .int v12, .int v13, .int v14, .ref q15, .int v16])), (q7, .inl (cA 2, 90, .inl ln))]) (wr := []) (w1 := (fun as => [(m0, .inr (10, [.ref q0, .ref q1, .ref q2, .int v3, .ref q4, .int v5, .int v6, .ref q7, .int o3.1, .ref q9, .int v10, .int v11, .int v12, .int v13, .int v14, .ref q15, .int v16])), (q7, .inl (cA 2, 90, .inl o3.2))])) (ws2 := (fun as => [(m0, .inr (10, [.ref q0, .ref q1, .ref q2, .int v3, .ref q4, .int v5, .int v6, .ref q7, .int o3.1, .ref q9, .int v10, .int v11, .int v12, .int v13, .int v14, .ref q15, .int v16])), (q7, .inl (cA 2, 90, .inl o3.2))])) (st1 := (fun as => [])) ⟨hx, hb, hml, hfc, hts⟩ hK hP hD hS hA (kX6_saysNumber_1 l D cA m0 q0 q1 q2 q4 q7 q9 q15 v3 v5 v6 v8 v10 v11 v12 v13 v14 v16 ln (x1 / 10) ho3) (cwV 1 hts gX6_saysNumber_X6_saysNumber rfl rfl rfl (by decide +kernel) ⟨(Nat.le_of_ble_eq_true rfl), (Nat.le_of_ble_eq_true rfl)⟩) [0, 1] [] [0, 1] rfl rfl rfl rfl (by decide) (fun _ => rfl) rfl 0 10 rfl rfl rfl rfl (fun _ => rfl) rfl hl.1 (Nat.le_of_ble_eq_true rfl) dX6_saysNumber_11 ⟨(Nat.le_of_ble_eq_true rfl), (Nat.le_of_ble_eq_true rfl)⟩ (fun as4 H locs hP hD hS => ?_)
    have hP : va_P D vwCl [(m0, .inr (10, [.ref q0, .ref q1, .ref q2, .int v3, .ref q4, .int v5, .int v6, .ref q7, .int o3.1, .ref q9, .int v10, .int v11, .int v12, .int v13, .int v14, .ref q15, .int v16])), (q7, .inl (cA 2, 90, .inl o3.2))] H := hP
    have hD : va_D A [(m0, .inr (10, [.ref q0, .ref q1, .ref q2, .int v3, .ref q4, .int v5, .int v6, .ref q7, .int o3.1, .ref q9, .int v10, .int v11, .int v12, .int v13, .int v14, .ref q15, .int v16])), (q7, .inl (cA 2, 90, .inl o3.2))] := hD
    have h := Option.some.inj h
    subst h
    exact ko2 _ _ _ (lv_sub hl [0, 1] rfl) hP hD hS

noncomputable def LX6_writeRim_12 (N : Nat) (ss : Nat → Int32) : Nat → (Nat → Int32) → Int32 → Int32 → Option (Int32 × Int32 × Int32 × (Nat → Int32))
  | 0, _, _, _ => none
  | fu + 1, f2_12, v0_8_12, x1_12 => if 12 ≤ x1_12 then (some ((v0_8_12, 0, v0_8_12, f2_12))) else (lt_ (if x1_12 ≤ 0 then (0) else (1)) (fun o3 : Int32 => bnd (SX6_saysIf v0_8_12 f2_12 o3 32) (fun o4 : (Nat → Int32) × Int32 => bnd (SX6_level N ss x1_12) (fun o6 : Int32 => bnd (SX6_saysNumber_2 o4.2 o4.1 o6) (fun o8 : Int32 × (Nat → Int32) => gd (vp_in (7 + x1_12) 60) (lt_ (if (ss (Int32.toNatClampNeg (7 + x1_12))) = 1 then (1) else (0)) (fun o12 : Int32 => bnd (SX6_saysIf o8.1 o8.2 o12 116) (fun o13 : (Nat → Int32) × Int32 => lt_ (if (ss 6) = x1_12 then (1) else (0)) (fun o16 : Int32 => bnd (SX6_saysIf o13.2 o13.1 o16 112) (fun o17 : (Nat → Int32) × Int32 => bnd (SX6_isLaid N ss x1_12) (fun o19 : Int32 => bnd (SX6_saysIf o17.2 o17.1 o19 119) (fun o21 : (Nat → Int32) × Int32 => LX6_writeRim_12 N ss fu o21.1 o21.2 (x1_12 + 1)))))))))))))
noncomputable def SX6_writeRim (N : Nat) (ss : Nat → Int32) (ln : Nat → Int32) : Option (Int32 × Int32 × Int32 × (Nat → Int32)) := LX6_writeRim_12 N ss N ln 0 0
theorem iX6_writeRim_X6 : ∀ w ∈ wsX60, w ∈ wsX6_writeRim := fun _ h => List.mem_cons_of_mem _ (List.mem_append_left _ (List.mem_append_left _ (List.mem_append_right _ h)))
abbrev RM_X6_writeRim : Room := { frames := 6, cells := 0, slots := 0, locals := 140 }
set_option maxHeartbeats 4000000 in
theorem kX6_writeRim (l : Launch) (D : va_G) (cA : Nat → ClassId) (m0 q0 q1 q2 q4 q7 q9 q15 : Nat) (N : Nat) (v3 : Int32) (v5 : Int32) (v6 : Int32) (v8 : Int32) (v10 : Int32) (v11 : Int32) (v12 : Int32) (v13 : Int32) (v14 : Int32) (v16 : Int32) (ss : Nat → Int32) (ln : Nat → Int32) {r : Int32 × Int32 × Int32 × (Nat → Int32)} (hr : SX6_writeRim N ss ln = some r) {sz : Nat} : Met l yX6_writeRim wsX6_writeRim RM_X6_writeRim (va_Pc [.ref m0] (gqB D cA [(m0, .inr (10, [.ref q0, .ref q1, .ref q2, .int v3, .ref q4, .int v5, .int v6, .ref q7, .int v8, .ref q9, .int v10, .int v11, .int v12, .int v13, .int v14, .ref q15, .int v16])), (q0, .inl (cA 0, 60, .inl ss)), (q7, .inl (cA 2, 90, .inl ln))] sz)) (gqQ D (fun as => (some (.int r.1))) (fun as => [(m0, .inr (10, [.ref q0, .ref q1, .ref q2, .int v3, .ref q4, .int v5, .int r.2.1, .ref q7, .int r.2.2.1, .ref q9, .int v10, .int v11, .int v12, .int v13, .int v14, .ref q15, .int v16])), (q0, .inl (cA 0, 60, .inl ss)), (q7, .inl (cA 2, 90, .inl r.2.2.2))]) (va_A [(m0, .inr (10, [.ref q0, .ref q1, .ref q2, .int v3, .ref q4, .int v5, .int v6, .ref q7, .int v8, .ref q9, .int v10, .int v11, .int v12, .int v13, .int v14, .ref q15, .int v16])), (q0, .inl (cA 0, 60, .inl ss)), (q7, .inl (cA 2, 90, .inl ln))] sz)) 0 0 (va_A [(m0, .inr (10, [.ref q0, .ref q1, .ref q2, .int v3, .ref q4, .int v5, .int v6, .ref q7, .int v8, .ref q9, .int v10, .int v11, .int v12, .int v13, .int v14, .ref q15, .int v16])), (q0, .inl (cA 0, 60, .inl ss)), (q7, .inl (cA 2, 90, .inl ln))] sz) := by
  refine gq_ofW (cc := cX6_writeRim) (maxL := 2) (ret := (some .int)) (by decide) rfl (Nat.le_of_ble_eq_true rfl) (fun p e s m args below meth c ls Q A hx hb hml hts hfc hmn hK hP hD hS hA hl hend => ?_)
  have hfc : s.vm.findClass RX6 = some m.cls := hfc
  have hl : lv_has ls 2 [(0, .ref m0)] := hl
  have h := hr
  clear hr
  unfold SX6_writeRim at h
  refine lv_aload_n hx hb dX6_writeRim_0 rfl (lv_at hl 0 rfl) ?_
  refine lv_iconst (v := 0) hx hb dX6_writeRim_1 (by decide) ?_
  refine va_put (D := D) (ci := 10) (v := .int 0) (ty := .int) (C := RX6) (T := TX6) (N := 17) hx hb hts iX6_writeRim_X6 tyX6 tyX6_ok nmX6 hfc hK hP hD hS 0 rfl rfl 6 (by decide) (hts (.fieldLink RX6 39 "BathtubTidesModel" "thrown" "I") (List.mem_of_getElem? (i := 1) rfl)) (fun _ h9 => h9) rfl (by decide +kernel) rfl rfl (Nat.le_of_ble_eq_true rfl) dX6_writeRim_2 (fun H locs hP hD hS => ?_)
  have hP : va_P D vwCl [(m0, .inr (10, [.ref q0, .ref q1, .ref q2, .int v3, .ref q4, .int v5, .int 0, .ref q7, .int v8, .ref q9, .int v10, .int v11, .int v12, .int v13, .int v14, .ref q15, .int v16])), (q0, .inl (cA 0, 60, .inl ss)), (q7, .inl (cA 2, 90, .inl ln))] H := hP
  have hD : va_D A [(m0, .inr (10, [.ref q0, .ref q1, .ref q2, .int v3, .ref q4, .int v5, .int 0, .ref q7, .int v8, .ref q9, .int v10, .int v11, .int v12, .int v13, .int v14, .ref q15, .int v16])), (q0, .inl (cA 0, 60, .inl ss)), (q7, .inl (cA 2, 90, .inl ln))] := hD
  refine lv_aload_n hx hb dX6_writeRim_5 rfl (lv_at hl 0 rfl) ?_
  refine lv_iconst (v := 0) hx hb dX6_writeRim_6 (by decide) ?_
  refine va_put (D := D) (ci := 10) (v := .int 0) (ty := .int) (C := RX6) (T := TX6) (N := 17) hx hb hts iX6_writeRim_X6 tyX6 tyX6_ok nmX6 hfc hK hP hD hS 0 rfl rfl 8 (by decide) (hts (.fieldLink RX6 175 "BathtubTidesModel" "lineMany" "I") (List.mem_of_getElem? (i := 2) rfl)) (fun _ h9 => h9) rfl (by decide +kernel) rfl rfl (Nat.le_of_ble_eq_true rfl) dX6_writeRim_7 (fun H locs hP hD hS => ?_)
  have hP : va_P D vwCl [(m0, .inr (10, [.ref q0, .ref q1, .ref q2, .int v3, .ref q4, .int v5, .int 0, .ref q7, .int 0, .ref q9, .int v10, .int v11, .int v12, .int v13, .int v14, .ref q15, .int v16])), (q0, .inl (cA 0, 60, .inl ss)), (q7, .inl (cA 2, 90, .inl ln))] H := hP
  have hD : va_D A [(m0, .inr (10, [.ref q0, .ref q1, .ref q2, .int v3, .ref q4, .int v5, .int 0, .ref q7, .int 0, .ref q9, .int v10, .int v11, .int v12, .int v13, .int v14, .ref q15, .int v16])), (q0, .inl (cA 0, 60, .inl ss)), (q7, .inl (cA 2, 90, .inl ln))] := hD
  refine lv_iconst (v := 0) hx hb dX6_writeRim_10 (by decide) ?_
  refine lv_istore_n hx hb dX6_writeRim_11 rfl hl (Nat.le_of_ble_eq_true rfl) rfl (fun ls hl => ?_)
  have hl : lv_has ls 2 [(1, .int 0), (0, .ref m0)] := hl
  have hLX6_writeRim_12 : ∀ (fu : Nat) (f2_12 : Nat → Int32) (v0_8_12 : Int32) (x1_12 : Int32) (ls : Array Slot) (H : Heap) (locs : List Loc), lv_has ls 2 [(0, .ref m0), (1, .int x1_12)] → va_P D vwCl [(m0, .inr (10, [.ref q0, .ref q1, .ref q2, .int v3, .ref q4, .int v5, .int 0, .ref q7, .int v0_8_12, .ref q9, .int v10, .int v11, .int v12, .int v13, .int v14, .ref q15, .int v16])), (q0, .inl (cA 0, 60, .inl ss)), (q7, .inl (cA 2, 90, .inl f2_12))] H → va_D A [(m0, .inr (10, [.ref q0, .ref q1, .ref q2, .int v3, .ref q4, .int v5, .int 0, .ref q7, .int v0_8_12, .ref q9, .int v10, .int v11, .int v12, .int v13, .int v14, .ref q15, .int v16])), (q0, .inl (cA 0, 60, .inl ss)), (q7, .inl (cA 2, 90, .inl f2_12))] → va_S A s.heap H locs → LX6_writeRim_12 N ss fu f2_12 v0_8_12 x1_12 = some r → W p l e RM_X6_writeRim s m args below meth c H locs 0 0 Q (F0 m 12 ls []) := by
    intro fu
    induction fu with
    | zero =>
      intro f2_12 v0_8_12 x1_12 ls H locs hl hP hD hS h
      rw [LX6_writeRim_12] at h
      exact nn h
    | succ fu ih =>
      intro f2_12 v0_8_12 x1_12 ls H locs hl hP hD hS h
      rw [LX6_writeRim_12] at h
      refine lv_iload_n hx hb dX6_writeRim_12 rfl (lv_at hl 1 rfl) ?_
      refine lv_bipush (v := 12) hx hb dX6_writeRim_13 (by decide) ?_
      refine lv_icmp_ge (tgt := 105) hx hb dX6_writeRim_15 (by decide) (fun c1 => ?_) (fun c1 => ?_)
      · have h := ite_t c1 h
        refine lv_aload_n hx hb dX6_writeRim_105 rfl (lv_at hl 0 rfl) ?_
        refine va_get (D := D) (ci := 10) (v := .int v0_8_12) (C := RX6) (T := TX6) (N := 17) hx hb hts iX6_writeRim_X6 hfc hK hP 0 rfl rfl 8 (by decide) (hts (.fieldLink RX6 175 "BathtubTidesModel" "lineMany" "I") (List.mem_of_getElem? (i := 2) rfl)) (fun _ h9 => h9) rfl dX6_writeRim_106 ?_
        have h := Option.some.inj h
        subst h
        exact hend (adr []) _ _ _ _ _ _ _ rfl rfl (rtn_i _) hP hD hS dX6_writeRim_109
      · have h := ite_f c1 h
        refine lv_aload_n hx hb dX6_writeRim_18 rfl (lv_at hl 0 rfl) ?_
        refine lv_iload_n hx hb dX6_writeRim_19 rfl (lv_at hl 1 rfl) ?_
        obtain ⟨o3, ho3, h⟩ := lt_i h
        have ko3 : ∀ (ls : Array Slot) (H : Heap) (locs : List Loc), lv_has ls 2 [(0, .ref m0), (1, .int x1_12)] → va_P D vwCl [(m0, .inr (10, [.ref q0, .ref q1, .ref q2, .int v3, .ref q4, .int v5, .int 0, .ref q7, .int v0_8_12, .ref q9, .int v10, .int v11, .int v12, .int v13, .int v14, .ref q15, .int v16])), (q0, .inl (cA 0, 60, .inl ss)), (q7, .inl (cA 2, 90, .inl f2_12))] H → va_D A [(m0, .inr (10, [.ref q0, .ref q1, .ref q2, .int v3, .ref q4, .int v5, .int 0, .ref q7, .int v0_8_12, .ref q9, .int v10, .int v11, .int v12, .int v13, .int v14, .ref q15, .int v16])), (q0, .inl (cA 0, 60, .inl ss)), (q7, .inl (cA 2, 90, .inl f2_12))] → va_S A s.heap H locs → W p l e RM_X6_writeRim s m args below meth c H locs 0 0 Q (F0 m 28 ls [.int o3, .ref m0]) := by
          intro ls H locs hl hP hD hS
          refine lv_bipush (v := 32) hx hb dX6_writeRim_28 (by decide) ?_
          obtain ⟨o4, ho4, h⟩ := bnd_i h
          refine gq_V (v := (fun as => none)) (As := [.int o3, .int 32]) (rest := []) (wc := [(m0, .inr (10, [.ref q0, .ref q1, .ref q2, .int v3, .ref q4, .int v5, .int 0, .ref q7, .int v0_8_12, .ref q9, .int v10, .int v11, .int v12, .int v13, .int v14, .ref q15, .int v16])), (q7, .inl (cA 2, 90, .inl f2_12))]) (wr := [(q0, .inl (cA 0, 60, .inl ss))]) (w1 := (fun as => [(m0, .inr (10, [.ref q0, .ref q1, .ref q2, .int v3, .ref q4, .int v5, .int 0, .ref q7, .int o4.2, .ref q9, .int v10, .int v11, .int v12, .int v13, .int v14, .ref q15, .int v16])), (q7, .inl (cA 2, 90, .inl o4.1))])) (ws2 := (fun as => [(m0, .inr (10, [.ref q0, .ref q1, .ref q2, .int v3, .ref q4, .int v5, .int 0, .ref q7, .int o4.2, .ref q9, .int v10, .int v11, .int v12, .int v13, .int v14, .ref q15, .int v16])), (q0, .inl (cA 0, 60, .inl ss)), (q7, .inl (cA 2, 90, .inl o4.1))])) (st1 := (fun as => [])) ⟨hx, hb, hml, hfc, hts⟩ hK hP hD hS hA (kX6_saysIf l D cA m0 q0 q1 q2 q4 q7 q9 q15 v3 v5 0 v0_8_12 v10 v11 v12 v13 v14 v16 f2_12 o3 32 ho4) (cwV 2 hts gX6_writeRim_X6_saysIf rfl rfl rfl (by decide +kernel) ⟨(Nat.le_of_ble_eq_true rfl), (Nat.le_of_ble_eq_true rfl)⟩) [0, 2] [1] [1, 0, 2] rfl rfl rfl rfl (by decide) (fun _ => rfl) rfl 0 10 rfl rfl rfl rfl (fun _ => rfl) rfl hl.1 (Nat.le_of_ble_eq_true rfl) dX6_writeRim_30 ⟨(Nat.le_of_ble_eq_true rfl), (Nat.le_of_ble_eq_true rfl)⟩ (fun as5 H locs hP hD hS => ?_)
          have hP : va_P D vwCl [(m0, .inr (10, [.ref q0, .ref q1, .ref q2, .int v3, .ref q4, .int v5, .int 0, .ref q7, .int o4.2, .ref q9, .int v10, .int v11, .int v12, .int v13, .int v14, .ref q15, .int v16])), (q0, .inl (cA 0, 60, .inl ss)), (q7, .inl (cA 2, 90, .inl o4.1))] H := hP
          have hD : va_D A [(m0, .inr (10, [.ref q0, .ref q1, .ref q2, .int v3, .ref q4, .int v5, .int 0, .ref q7, .int o4.2, .ref q9, .int v10, .int v11, .int v12, .int v13, .int v14, .ref q15, .int v16])), (q0, .inl (cA 0, 60, .inl ss)), (q7, .inl (cA 2, 90, .inl o4.1))] := hD
          refine lv_aload_n hx hb dX6_writeRim_33 rfl (lv_at hl 0 rfl) ?_
          refine lv_aload_n hx hb dX6_writeRim_34 rfl (lv_at hl 0 rfl) ?_
          refine lv_iload_n hx hb dX6_writeRim_35 rfl (lv_at hl 1 rfl) ?_
          obtain ⟨o6, ho6, h⟩ := bnd_i h
          refine rq_V (v := (some (.int o6))) (As := [.int x1_12]) (rest := [.ref m0]) (wc := [(m0, .inr (10, [.ref q0, .ref q1, .ref q2, .int v3, .ref q4, .int v5, .int 0, .ref q7, .int o4.2, .ref q9, .int v10, .int v11, .int v12, .int v13, .int v14, .ref q15, .int v16])), (q0, .inl (cA 0, 60, .inl ss))]) ⟨hx, hb, hml, hfc, hts⟩ hK hP (kX6_level l D cA m0 q0 q1 q2 q4 q7 q9 q15 N v3 v5 0 o4.2 v10 v11 v12 v13 v14 v16 ss x1_12 ho6) (cwV 1 hts gX6_writeRim_X6_level rfl rfl rfl (by decide +kernel) ⟨(Nat.le_of_ble_eq_true rfl), (Nat.le_of_ble_eq_true rfl)⟩) [0, 1] rfl 0 10 rfl rfl rfl rfl rfl rfl hl.1 (Nat.le_of_ble_eq_true rfl) dX6_writeRim_36 ⟨(Nat.zero_le _), (Nat.zero_le _)⟩ ?_
          obtain ⟨o8, ho8, h⟩ := bnd_i h
          refine gq_V (v := (fun as => none)) (As := [.int o6]) (rest := []) (wc := [(m0, .inr (10, [.ref q0, .ref q1, .ref q2, .int v3, .ref q4, .int v5, .int 0, .ref q7, .int o4.2, .ref q9, .int v10, .int v11, .int v12, .int v13, .int v14, .ref q15, .int v16])), (q7, .inl (cA 2, 90, .inl o4.1))]) (wr := [(q0, .inl (cA 0, 60, .inl ss))]) (w1 := (fun as => [(m0, .inr (10, [.ref q0, .ref q1, .ref q2, .int v3, .ref q4, .int v5, .int 0, .ref q7, .int o8.1, .ref q9, .int v10, .int v11, .int v12, .int v13, .int v14, .ref q15, .int v16])), (q7, .inl (cA 2, 90, .inl o8.2))])) (ws2 := (fun as => [(m0, .inr (10, [.ref q0, .ref q1, .ref q2, .int v3, .ref q4, .int v5, .int 0, .ref q7, .int o8.1, .ref q9, .int v10, .int v11, .int v12, .int v13, .int v14, .ref q15, .int v16])), (q0, .inl (cA 0, 60, .inl ss)), (q7, .inl (cA 2, 90, .inl o8.2))])) (st1 := (fun as => [])) ⟨hx, hb, hml, hfc, hts⟩ hK hP hD hS hA (kX6_saysNumber_2 l D cA m0 q0 q1 q2 q4 q7 q9 q15 v3 v5 0 o4.2 v10 v11 v12 v13 v14 v16 o4.1 o6 ho8) (cwV 1 hts gX6_writeRim_X6_saysNumber rfl rfl rfl (by decide +kernel) ⟨(Nat.le_of_ble_eq_true rfl), (Nat.le_of_ble_eq_true rfl)⟩) [0, 2] [1] [1, 0, 2] rfl rfl rfl rfl (by decide) (fun _ => rfl) rfl 0 10 rfl rfl rfl rfl (fun _ => rfl) rfl hl.1 (Nat.le_of_ble_eq_true rfl) dX6_writeRim_39 ⟨(Nat.le_of_ble_eq_true rfl), (Nat.le_of_ble_eq_true rfl)⟩ (fun as9 H locs hP hD hS => ?_)
          have hP : va_P D vwCl [(m0, .inr (10, [.ref q0, .ref q1, .ref q2, .int v3, .ref q4, .int v5, .int 0, .ref q7, .int o8.1, .ref q9, .int v10, .int v11, .int v12, .int v13, .int v14, .ref q15, .int v16])), (q0, .inl (cA 0, 60, .inl ss)), (q7, .inl (cA 2, 90, .inl o8.2))] H := hP
          have hD : va_D A [(m0, .inr (10, [.ref q0, .ref q1, .ref q2, .int v3, .ref q4, .int v5, .int 0, .ref q7, .int o8.1, .ref q9, .int v10, .int v11, .int v12, .int v13, .int v14, .ref q15, .int v16])), (q0, .inl (cA 0, 60, .inl ss)), (q7, .inl (cA 2, 90, .inl o8.2))] := hD
          refine lv_aload_n hx hb dX6_writeRim_42 rfl (lv_at hl 0 rfl) ?_
          refine lv_aload_n hx hb dX6_writeRim_43 rfl (lv_at hl 0 rfl) ?_
          refine va_get (D := D) (ci := 10) (v := .ref q0) (C := RX6) (T := TX6) (N := 17) hx hb hts iX6_writeRim_X6 hfc hK hP 0 rfl rfl 0 (by decide) (hts (.fieldLink RX6 9 "BathtubTidesModel" "s" "[I") (List.mem_of_getElem? (i := 3) rfl)) (fun _ h9 => h9) rfl dX6_writeRim_44 ?_
          refine lv_bipush (v := 7) hx hb dX6_writeRim_47 (by decide) ?_
          refine lv_iload_n hx hb dX6_writeRim_49 rfl (lv_at hl 1 rfl) ?_
          refine lv_iadd hx hb dX6_writeRim_50 ?_
          obtain ⟨g10, h⟩ := gd_i h
          refine va_iald hx hb hK hP 1 0 rfl rfl g10 dX6_writeRim_51 ?_
          refine lv_iconst (v := 1) hx hb dX6_writeRim_52 (by decide) ?_
          obtain ⟨o12, ho12, h⟩ := lt_i h
          have ko12 : ∀ (ls : Array Slot) (H : Heap) (locs : List Loc), lv_has ls 2 [(0, .ref m0), (1, .int x1_12)] → va_P D vwCl [(m0, .inr (10, [.ref q0, .ref q1, .ref q2, .int v3, .ref q4, .int v5, .int 0, .ref q7, .int o8.1, .ref q9, .int v10, .int v11, .int v12, .int v13, .int v14, .ref q15, .int v16])), (q0, .inl (cA 0, 60, .inl ss)), (q7, .inl (cA 2, 90, .inl o8.2))] H → va_D A [(m0, .inr (10, [.ref q0, .ref q1, .ref q2, .int v3, .ref q4, .int v5, .int 0, .ref q7, .int o8.1, .ref q9, .int v10, .int v11, .int v12, .int v13, .int v14, .ref q15, .int v16])), (q0, .inl (cA 0, 60, .inl ss)), (q7, .inl (cA 2, 90, .inl o8.2))] → va_S A s.heap H locs → W p l e RM_X6_writeRim s m args below meth c H locs 0 0 Q (F0 m 61 ls [.int o12, .ref m0]) := by
            intro ls H locs hl hP hD hS
            refine lv_bipush (v := 116) hx hb dX6_writeRim_61 (by decide) ?_
            obtain ⟨o13, ho13, h⟩ := bnd_i h
            refine gq_V (v := (fun as => none)) (As := [.int o12, .int 116]) (rest := []) (wc := [(m0, .inr (10, [.ref q0, .ref q1, .ref q2, .int v3, .ref q4, .int v5, .int 0, .ref q7, .int o8.1, .ref q9, .int v10, .int v11, .int v12, .int v13, .int v14, .ref q15, .int v16])), (q7, .inl (cA 2, 90, .inl o8.2))]) (wr := [(q0, .inl (cA 0, 60, .inl ss))]) (w1 := (fun as => [(m0, .inr (10, [.ref q0, .ref q1, .ref q2, .int v3, .ref q4, .int v5, .int 0, .ref q7, .int o13.2, .ref q9, .int v10, .int v11, .int v12, .int v13, .int v14, .ref q15, .int v16])), (q7, .inl (cA 2, 90, .inl o13.1))])) (ws2 := (fun as => [(m0, .inr (10, [.ref q0, .ref q1, .ref q2, .int v3, .ref q4, .int v5, .int 0, .ref q7, .int o13.2, .ref q9, .int v10, .int v11, .int v12, .int v13, .int v14, .ref q15, .int v16])), (q0, .inl (cA 0, 60, .inl ss)), (q7, .inl (cA 2, 90, .inl o13.1))])) (st1 := (fun as => [])) ⟨hx, hb, hml, hfc, hts⟩ hK hP hD hS hA (kX6_saysIf l D cA m0 q0 q1 q2 q4 q7 q9 q15 v3 v5 0 o8.1 v10 v11 v12 v13 v14 v16 o8.2 o12 116 ho13) (cwV 2 hts gX6_writeRim_X6_saysIf rfl rfl rfl (by decide +kernel) ⟨(Nat.le_of_ble_eq_true rfl), (Nat.le_of_ble_eq_true rfl)⟩) [0, 2] [1] [1, 0, 2] rfl rfl rfl rfl (by decide) (fun _ => rfl) rfl 0 10 rfl rfl rfl rfl (fun _ => rfl) rfl hl.1 (Nat.le_of_ble_eq_true rfl) dX6_writeRim_63 ⟨(Nat.le_of_ble_eq_true rfl), (Nat.le_of_ble_eq_true rfl)⟩ (fun as14 H locs hP hD hS => ?_)
            have hP : va_P D vwCl [(m0, .inr (10, [.ref q0, .ref q1, .ref q2, .int v3, .ref q4, .int v5, .int 0, .ref q7, .int o13.2, .ref q9, .int v10, .int v11, .int v12, .int v13, .int v14, .ref q15, .int v16])), (q0, .inl (cA 0, 60, .inl ss)), (q7, .inl (cA 2, 90, .inl o13.1))] H := hP
            have hD : va_D A [(m0, .inr (10, [.ref q0, .ref q1, .ref q2, .int v3, .ref q4, .int v5, .int 0, .ref q7, .int o13.2, .ref q9, .int v10, .int v11, .int v12, .int v13, .int v14, .ref q15, .int v16])), (q0, .inl (cA 0, 60, .inl ss)), (q7, .inl (cA 2, 90, .inl o13.1))] := hD
            refine lv_aload_n hx hb dX6_writeRim_66 rfl (lv_at hl 0 rfl) ?_
            refine lv_aload_n hx hb dX6_writeRim_67 rfl (lv_at hl 0 rfl) ?_
            refine va_get (D := D) (ci := 10) (v := .ref q0) (C := RX6) (T := TX6) (N := 17) hx hb hts iX6_writeRim_X6 hfc hK hP 0 rfl rfl 0 (by decide) (hts (.fieldLink RX6 9 "BathtubTidesModel" "s" "[I") (List.mem_of_getElem? (i := 3) rfl)) (fun _ h9 => h9) rfl dX6_writeRim_68 ?_
            refine lv_bipush (v := 6) hx hb dX6_writeRim_71 (by decide) ?_
            refine va_iald hx hb hK hP 1 0 rfl rfl (vin _ _ (by decide)) dX6_writeRim_73 ?_
            refine lv_iload_n hx hb dX6_writeRim_74 rfl (lv_at hl 1 rfl) ?_
            obtain ⟨o16, ho16, h⟩ := lt_i h
            have ko16 : ∀ (ls : Array Slot) (H : Heap) (locs : List Loc), lv_has ls 2 [(0, .ref m0), (1, .int x1_12)] → va_P D vwCl [(m0, .inr (10, [.ref q0, .ref q1, .ref q2, .int v3, .ref q4, .int v5, .int 0, .ref q7, .int o13.2, .ref q9, .int v10, .int v11, .int v12, .int v13, .int v14, .ref q15, .int v16])), (q0, .inl (cA 0, 60, .inl ss)), (q7, .inl (cA 2, 90, .inl o13.1))] H → va_D A [(m0, .inr (10, [.ref q0, .ref q1, .ref q2, .int v3, .ref q4, .int v5, .int 0, .ref q7, .int o13.2, .ref q9, .int v10, .int v11, .int v12, .int v13, .int v14, .ref q15, .int v16])), (q0, .inl (cA 0, 60, .inl ss)), (q7, .inl (cA 2, 90, .inl o13.1))] → va_S A s.heap H locs → W p l e RM_X6_writeRim s m args below meth c H locs 0 0 Q (F0 m 83 ls [.int o16, .ref m0]) := by
              intro ls H locs hl hP hD hS
              refine lv_bipush (v := 112) hx hb dX6_writeRim_83 (by decide) ?_
              obtain ⟨o17, ho17, h⟩ := bnd_i h
              refine gq_V (v := (fun as => none)) (As := [.int o16, .int 112]) (rest := []) (wc := [(m0, .inr (10, [.ref q0, .ref q1, .ref q2, .int v3, .ref q4, .int v5, .int 0, .ref q7, .int o13.2, .ref q9, .int v10, .int v11, .int v12, .int v13, .int v14, .ref q15, .int v16])), (q7, .inl (cA 2, 90, .inl o13.1))]) (wr := [(q0, .inl (cA 0, 60, .inl ss))]) (w1 := (fun as => [(m0, .inr (10, [.ref q0, .ref q1, .ref q2, .int v3, .ref q4, .int v5, .int 0, .ref q7, .int o17.2, .ref q9, .int v10, .int v11, .int v12, .int v13, .int v14, .ref q15, .int v16])), (q7, .inl (cA 2, 90, .inl o17.1))])) (ws2 := (fun as => [(m0, .inr (10, [.ref q0, .ref q1, .ref q2, .int v3, .ref q4, .int v5, .int 0, .ref q7, .int o17.2, .ref q9, .int v10, .int v11, .int v12, .int v13, .int v14, .ref q15, .int v16])), (q0, .inl (cA 0, 60, .inl ss)), (q7, .inl (cA 2, 90, .inl o17.1))])) (st1 := (fun as => [])) ⟨hx, hb, hml, hfc, hts⟩ hK hP hD hS hA (kX6_saysIf l D cA m0 q0 q1 q2 q4 q7 q9 q15 v3 v5 0 o13.2 v10 v11 v12 v13 v14 v16 o13.1 o16 112 ho17) (cwV 2 hts gX6_writeRim_X6_saysIf rfl rfl rfl (by decide +kernel) ⟨(Nat.le_of_ble_eq_true rfl), (Nat.le_of_ble_eq_true rfl)⟩) [0, 2] [1] [1, 0, 2] rfl rfl rfl rfl (by decide) (fun _ => rfl) rfl 0 10 rfl rfl rfl rfl (fun _ => rfl) rfl hl.1 (Nat.le_of_ble_eq_true rfl) dX6_writeRim_85 ⟨(Nat.le_of_ble_eq_true rfl), (Nat.le_of_ble_eq_true rfl)⟩ (fun as18 H locs hP hD hS => ?_)
              have hP : va_P D vwCl [(m0, .inr (10, [.ref q0, .ref q1, .ref q2, .int v3, .ref q4, .int v5, .int 0, .ref q7, .int o17.2, .ref q9, .int v10, .int v11, .int v12, .int v13, .int v14, .ref q15, .int v16])), (q0, .inl (cA 0, 60, .inl ss)), (q7, .inl (cA 2, 90, .inl o17.1))] H := hP
              have hD : va_D A [(m0, .inr (10, [.ref q0, .ref q1, .ref q2, .int v3, .ref q4, .int v5, .int 0, .ref q7, .int o17.2, .ref q9, .int v10, .int v11, .int v12, .int v13, .int v14, .ref q15, .int v16])), (q0, .inl (cA 0, 60, .inl ss)), (q7, .inl (cA 2, 90, .inl o17.1))] := hD
              refine lv_aload_n hx hb dX6_writeRim_88 rfl (lv_at hl 0 rfl) ?_
              refine lv_aload_n hx hb dX6_writeRim_89 rfl (lv_at hl 0 rfl) ?_
              refine lv_iload_n hx hb dX6_writeRim_90 rfl (lv_at hl 1 rfl) ?_
              obtain ⟨o19, ho19, h⟩ := bnd_i h
              refine rq_V (v := (some (.int o19))) (As := [.int x1_12]) (rest := [.ref m0]) (wc := [(m0, .inr (10, [.ref q0, .ref q1, .ref q2, .int v3, .ref q4, .int v5, .int 0, .ref q7, .int o17.2, .ref q9, .int v10, .int v11, .int v12, .int v13, .int v14, .ref q15, .int v16])), (q0, .inl (cA 0, 60, .inl ss))]) ⟨hx, hb, hml, hfc, hts⟩ hK hP (kX6_isLaid l D cA m0 q0 q1 q2 q4 q7 q9 q15 N v3 v5 0 o17.2 v10 v11 v12 v13 v14 v16 ss x1_12 ho19) (cwV 1 hts gX6_writeRim_X6_isLaid rfl rfl rfl (by decide +kernel) ⟨(Nat.le_of_ble_eq_true rfl), (Nat.le_of_ble_eq_true rfl)⟩) [0, 1] rfl 0 10 rfl rfl rfl rfl rfl rfl hl.1 (Nat.le_of_ble_eq_true rfl) dX6_writeRim_91 ⟨(Nat.zero_le _), (Nat.zero_le _)⟩ ?_
              refine lv_bipush (v := 119) hx hb dX6_writeRim_94 (by decide) ?_
              obtain ⟨o21, ho21, h⟩ := bnd_i h
              refine gq_V (v := (fun as => none)) (As := [.int o19, .int 119]) (rest := []) (wc := [(m0, .inr (10, [.ref q0, .ref q1, .ref q2, .int v3, .ref q4, .int v5, .int 0, .ref q7, .int o17.2, .ref q9, .int v10, .int v11, .int v12, .int v13, .int v14, .ref q15, .int v16])), (q7, .inl (cA 2, 90, .inl o17.1))]) (wr := [(q0, .inl (cA 0, 60, .inl ss))]) (w1 := (fun as => [(m0, .inr (10, [.ref q0, .ref q1, .ref q2, .int v3, .ref q4, .int v5, .int 0, .ref q7, .int o21.2, .ref q9, .int v10, .int v11, .int v12, .int v13, .int v14, .ref q15, .int v16])), (q7, .inl (cA 2, 90, .inl o21.1))])) (ws2 := (fun as => [(m0, .inr (10, [.ref q0, .ref q1, .ref q2, .int v3, .ref q4, .int v5, .int 0, .ref q7, .int o21.2, .ref q9, .int v10, .int v11, .int v12, .int v13, .int v14, .ref q15, .int v16])), (q0, .inl (cA 0, 60, .inl ss)), (q7, .inl (cA 2, 90, .inl o21.1))])) (st1 := (fun as => [])) ⟨hx, hb, hml, hfc, hts⟩ hK hP hD hS hA (kX6_saysIf l D cA m0 q0 q1 q2 q4 q7 q9 q15 v3 v5 0 o17.2 v10 v11 v12 v13 v14 v16 o17.1 o19 119 ho21) (cwV 2 hts gX6_writeRim_X6_saysIf rfl rfl rfl (by decide +kernel) ⟨(Nat.le_of_ble_eq_true rfl), (Nat.le_of_ble_eq_true rfl)⟩) [0, 2] [1] [1, 0, 2] rfl rfl rfl rfl (by decide) (fun _ => rfl) rfl 0 10 rfl rfl rfl rfl (fun _ => rfl) rfl hl.1 (Nat.le_of_ble_eq_true rfl) dX6_writeRim_96 ⟨(Nat.le_of_ble_eq_true rfl), (Nat.le_of_ble_eq_true rfl)⟩ (fun as22 H locs hP hD hS => ?_)
              have hP : va_P D vwCl [(m0, .inr (10, [.ref q0, .ref q1, .ref q2, .int v3, .ref q4, .int v5, .int 0, .ref q7, .int o21.2, .ref q9, .int v10, .int v11, .int v12, .int v13, .int v14, .ref q15, .int v16])), (q0, .inl (cA 0, 60, .inl ss)), (q7, .inl (cA 2, 90, .inl o21.1))] H := hP
              have hD : va_D A [(m0, .inr (10, [.ref q0, .ref q1, .ref q2, .int v3, .ref q4, .int v5, .int 0, .ref q7, .int o21.2, .ref q9, .int v10, .int v11, .int v12, .int v13, .int v14, .ref q15, .int v16])), (q0, .inl (cA 0, 60, .inl ss)), (q7, .inl (cA 2, 90, .inl o21.1))] := hD
              refine lv_iinc (k := 1) (v := x1_12 + 1) hx hb dX6_writeRim_99 hl rfl (congrArg (fun z => x1_12 + z) lit1) (Nat.le_of_ble_eq_true rfl) rfl (fun ls hl => ?_)
              have hl : lv_has ls 2 [(1, .int (x1_12 + 1)), (0, .ref m0)] := hl
              refine lv_goto (tgt := 12) hx hb dX6_writeRim_102 (by decide) ?_
              exact ih o21.1 o21.2 (x1_12 + 1) _ _ _ (lv_sub hl [1, 0] rfl) hP hD hS h
            clear h
            have h := ho16
            clear ho16
            refine lv_icmp_ne (tgt := 82) hx hb dX6_writeRim_75 (by decide) (fun c15 => ?_) (fun c15 => ?_)
            · have h := ite_f c15 h
              refine lv_iconst (v := 0) hx hb dX6_writeRim_82 (by decide) ?_
              subst h
              exact ko16 _ _ _ (lv_sub hl [0, 1] rfl) hP hD hS
            · have h := ite_t c15 h
              refine lv_iconst (v := 1) hx hb dX6_writeRim_78 (by decide) ?_
              refine lv_goto (tgt := 83) hx hb dX6_writeRim_79 (by decide) ?_
              subst h
              exact ko16 _ _ _ (lv_sub hl [0, 1] rfl) hP hD hS
          clear h
          have h := ho12
          clear ho12
          refine lv_icmp_ne (tgt := 60) hx hb dX6_writeRim_53 (by decide) (fun c11 => ?_) (fun c11 => ?_)
          · have h := ite_f c11 h
            refine lv_iconst (v := 0) hx hb dX6_writeRim_60 (by decide) ?_
            subst h
            exact ko12 _ _ _ (lv_sub hl [0, 1] rfl) hP hD hS
          · have h := ite_t c11 h
            refine lv_iconst (v := 1) hx hb dX6_writeRim_56 (by decide) ?_
            refine lv_goto (tgt := 61) hx hb dX6_writeRim_57 (by decide) ?_
            subst h
            exact ko12 _ _ _ (lv_sub hl [0, 1] rfl) hP hD hS
        clear h
        have h := ho3
        clear ho3
        refine lv_if_le (tgt := 27) hx hb dX6_writeRim_20 (by decide) (fun c2 => ?_) (fun c2 => ?_)
        · have h := ite_t c2 h
          refine lv_iconst (v := 0) hx hb dX6_writeRim_27 (by decide) ?_
          subst h
          exact ko3 _ _ _ (lv_sub hl [0, 1] rfl) hP hD hS
        · have h := ite_f c2 h
          refine lv_iconst (v := 1) hx hb dX6_writeRim_23 (by decide) ?_
          refine lv_goto (tgt := 28) hx hb dX6_writeRim_24 (by decide) ?_
          subst h
          exact ko3 _ _ _ (lv_sub hl [0, 1] rfl) hP hD hS
  exact hLX6_writeRim_12 N ln 0 0 _ _ _ (lv_sub hl [1, 0] rfl) hP hD hS h

noncomputable def SX6_writeMoon (v8 : Int32) (ss : Nat → Int32) (ln : Nat → Int32) (x1 : Int32) : Option (Int32 × Int32 × Int32 × (Nat → Int32)) := bnd (SX6_isMoon ss x1) (fun o1 : Int32 => bnd (SX6_isThere o1) (fun o3 : Int32 × Int32 => if o3.1 = 0 then (some ((0, o3.2, v8, ln))) else (bnd (SX6_ofMoon ss x1 0) (fun o6 : Int32 => bnd (if o6 = 0 then (some (104)) else (bnd (SX6_ofMoon ss x1 0) (fun o10 : Int32 => if o10 = 1 then (some (115)) else (some (98))))) (fun o9 : Int32 => bnd (SX6_says 0 ln o9) (fun o13 : (Nat → Int32) × Int32 => bnd (SX6_massIn ss x1 0) (fun o15 : Int32 => bnd (SX6_saysNumber_2 o13.2 o13.1 o15) (fun o17 : Int32 × (Nat → Int32) => bnd (SX6_says o17.1 o17.2 64) (fun o19 : (Nat → Int32) × Int32 => bnd (SX6_placeIn ss x1 0) (fun o21 : Int32 => bnd (SX6_saysNumber_2 o19.2 o19.1 o21) (fun o23 : Int32 × (Nat → Int32) => bnd (SX6_isShaded ss x1 0) (fun o25 : Int32 => bnd (SX6_saysIf o23.1 o23.2 o25 33) (fun o27 : (Nat → Int32) × Int32 => some ((o27.2, o3.2, o27.2, o27.1)))))))))))))))
theorem iX6_writeMoon_X6 : ∀ w ∈ wsX60, w ∈ wsX6_writeMoon := fun _ h => List.mem_cons_of_mem _ (List.mem_append_left _ (List.mem_append_left _ (List.mem_append_right _ h)))
abbrev RM_X6_writeMoon : Room := { frames := 4, cells := 0, slots := 0, locals := 91 }
set_option maxHeartbeats 4000000 in
theorem kX6_writeMoon (l : Launch) (D : va_G) (cA : Nat → ClassId) (m0 q0 q1 q2 q4 q7 q9 q15 : Nat) (v3 : Int32) (v5 : Int32) (v6 : Int32) (v8 : Int32) (v10 : Int32) (v11 : Int32) (v12 : Int32) (v13 : Int32) (v14 : Int32) (v16 : Int32) (ss : Nat → Int32) (ln : Nat → Int32) (x1 : Int32) {r : Int32 × Int32 × Int32 × (Nat → Int32)} (hr : SX6_writeMoon v8 ss ln x1 = some r) {sz : Nat} : Met l yX6_writeMoon wsX6_writeMoon RM_X6_writeMoon (va_Pc [.ref m0, .int x1] (gqB D cA [(m0, .inr (10, [.ref q0, .ref q1, .ref q2, .int v3, .ref q4, .int v5, .int v6, .ref q7, .int v8, .ref q9, .int v10, .int v11, .int v12, .int v13, .int v14, .ref q15, .int v16])), (q0, .inl (cA 0, 60, .inl ss)), (q7, .inl (cA 2, 90, .inl ln))] sz)) (gqQ D (fun as => (some (.int r.1))) (fun as => [(m0, .inr (10, [.ref q0, .ref q1, .ref q2, .int v3, .ref q4, .int v5, .int r.2.1, .ref q7, .int r.2.2.1, .ref q9, .int v10, .int v11, .int v12, .int v13, .int v14, .ref q15, .int v16])), (q0, .inl (cA 0, 60, .inl ss)), (q7, .inl (cA 2, 90, .inl r.2.2.2))]) (va_A [(m0, .inr (10, [.ref q0, .ref q1, .ref q2, .int v3, .ref q4, .int v5, .int v6, .ref q7, .int v8, .ref q9, .int v10, .int v11, .int v12, .int v13, .int v14, .ref q15, .int v16])), (q0, .inl (cA 0, 60, .inl ss)), (q7, .inl (cA 2, 90, .inl ln))] sz)) 0 0 (va_A [(m0, .inr (10, [.ref q0, .ref q1, .ref q2, .int v3, .ref q4, .int v5, .int v6, .ref q7, .int v8, .ref q9, .int v10, .int v11, .int v12, .int v13, .int v14, .ref q15, .int v16])), (q0, .inl (cA 0, 60, .inl ss)), (q7, .inl (cA 2, 90, .inl ln))] sz) := by
  refine gq_ofW (cc := cX6_writeMoon) (maxL := 2) (ret := (some .int)) (by decide) rfl (Nat.le_of_ble_eq_true rfl) (fun p e s m args below meth c ls Q A hx hb hml hts hfc hmn hK hP hD hS hA hl hend => ?_)
  have hfc : s.vm.findClass RX6 = some m.cls := hfc
  have hl : lv_has ls 2 [(0, .ref m0), (1, .int x1)] := hl
  have h := hr
  clear hr
  unfold SX6_writeMoon at h
  refine lv_aload_n hx hb dX6_writeMoon_0 rfl (lv_at hl 0 rfl) ?_
  refine lv_aload_n hx hb dX6_writeMoon_1 rfl (lv_at hl 0 rfl) ?_
  refine lv_iload_n hx hb dX6_writeMoon_2 rfl (lv_at hl 1 rfl) ?_
  obtain ⟨o1, ho1, h⟩ := bnd_i h
  refine rq_V (v := (some (.int o1))) (As := [.int x1]) (rest := [.ref m0]) (wc := [(m0, .inr (10, [.ref q0, .ref q1, .ref q2, .int v3, .ref q4, .int v5, .int v6, .ref q7, .int v8, .ref q9, .int v10, .int v11, .int v12, .int v13, .int v14, .ref q15, .int v16])), (q0, .inl (cA 0, 60, .inl ss))]) ⟨hx, hb, hml, hfc, hts⟩ hK hP (kX6_isMoon l D cA m0 q0 q1 q2 q4 q7 q9 q15 v3 v5 v6 v8 v10 v11 v12 v13 v14 v16 ss x1 ho1) (cwV 1 hts gX6_writeMoon_X6_isMoon rfl rfl rfl (by decide +kernel) ⟨(Nat.le_of_ble_eq_true rfl), (Nat.le_of_ble_eq_true rfl)⟩) [0, 1] rfl 0 10 rfl rfl rfl rfl rfl rfl hl.1 (Nat.le_of_ble_eq_true rfl) dX6_writeMoon_3 ⟨(Nat.zero_le _), (Nat.zero_le _)⟩ ?_
  obtain ⟨o3, ho3, h⟩ := bnd_i h
  refine gq_V (v := (fun as => (some (.int o3.1)))) (As := [.int o1]) (rest := []) (wc := [(m0, .inr (10, [.ref q0, .ref q1, .ref q2, .int v3, .ref q4, .int v5, .int v6, .ref q7, .int v8, .ref q9, .int v10, .int v11, .int v12, .int v13, .int v14, .ref q15, .int v16]))]) (wr := [(q0, .inl (cA 0, 60, .inl ss)), (q7, .inl (cA 2, 90, .inl ln))]) (w1 := (fun as => [(m0, .inr (10, [.ref q0, .ref q1, .ref q2, .int v3, .ref q4, .int v5, .int o3.2, .ref q7, .int v8, .ref q9, .int v10, .int v11, .int v12, .int v13, .int v14, .ref q15, .int v16]))])) (ws2 := (fun as => [(m0, .inr (10, [.ref q0, .ref q1, .ref q2, .int v3, .ref q4, .int v5, .int o3.2, .ref q7, .int v8, .ref q9, .int v10, .int v11, .int v12, .int v13, .int v14, .ref q15, .int v16])), (q0, .inl (cA 0, 60, .inl ss)), (q7, .inl (cA 2, 90, .inl ln))])) (st1 := (fun as => [.int o3.1])) ⟨hx, hb, hml, hfc, hts⟩ hK hP hD hS hA (kX6_isThere l D cA m0 q0 q1 q2 q4 q7 q9 q15 v3 v5 v6 v8 v10 v11 v12 v13 v14 v16 o1 ho3) (cwV 1 hts gX6_writeMoon_X6_isThere rfl rfl rfl (by decide +kernel) ⟨(Nat.le_of_ble_eq_true rfl), (Nat.le_of_ble_eq_true rfl)⟩) [0] [1, 2] [2, 0, 1] rfl rfl rfl rfl (by decide) (fun _ => rfl) rfl 0 10 rfl rfl rfl rfl (fun _ => rfl) rfl hl.1 (Nat.le_of_ble_eq_true rfl) dX6_writeMoon_6 ⟨(Nat.le_of_ble_eq_true rfl), (Nat.le_of_ble_eq_true rfl)⟩ (fun as4 H locs hP hD hS => ?_)
  have hP : va_P D vwCl [(m0, .inr (10, [.ref q0, .ref q1, .ref q2, .int v3, .ref q4, .int v5, .int o3.2, .ref q7, .int v8, .ref q9, .int v10, .int v11, .int v12, .int v13, .int v14, .ref q15, .int v16])), (q0, .inl (cA 0, 60, .inl ss)), (q7, .inl (cA 2, 90, .inl ln))] H := hP
  have hD : va_D A [(m0, .inr (10, [.ref q0, .ref q1, .ref q2, .int v3, .ref q4, .int v5, .int o3.2, .ref q7, .int v8, .ref q9, .int v10, .int v11, .int v12, .int v13, .int v14, .ref q15, .int v16])), (q0, .inl (cA 0, 60, .inl ss)), (q7, .inl (cA 2, 90, .inl ln))] := hD
  refine lv_if_ne (tgt := 14) hx hb dX6_writeMoon_9 (by decide) (fun c5 => ?_) (fun c5 => ?_)
  · have h := ite_f c5 h
    refine lv_aload_n hx hb dX6_writeMoon_14 rfl (lv_at hl 0 rfl) ?_
    refine lv_iconst (v := 0) hx hb dX6_writeMoon_15 (by decide) ?_
    refine va_put (D := D) (ci := 10) (v := .int 0) (ty := .int) (C := RX6) (T := TX6) (N := 17) hx hb hts iX6_writeMoon_X6 tyX6 tyX6_ok nmX6 hfc hK hP hD hS 0 rfl rfl 8 (by decide) (hts (.fieldLink RX6 175 "BathtubTidesModel" "lineMany" "I") (List.mem_of_getElem? (i := 1) rfl)) (fun _ h9 => h9) rfl (by decide +kernel) rfl rfl (Nat.le_of_ble_eq_true rfl) dX6_writeMoon_16 (fun H locs hP hD hS => ?_)
    have hP : va_P D vwCl [(m0, .inr (10, [.ref q0, .ref q1, .ref q2, .int v3, .ref q4, .int v5, .int o3.2, .ref q7, .int 0, .ref q9, .int v10, .int v11, .int v12, .int v13, .int v14, .ref q15, .int v16])), (q0, .inl (cA 0, 60, .inl ss)), (q7, .inl (cA 2, 90, .inl ln))] H := hP
    have hD : va_D A [(m0, .inr (10, [.ref q0, .ref q1, .ref q2, .int v3, .ref q4, .int v5, .int o3.2, .ref q7, .int 0, .ref q9, .int v10, .int v11, .int v12, .int v13, .int v14, .ref q15, .int v16])), (q0, .inl (cA 0, 60, .inl ss)), (q7, .inl (cA 2, 90, .inl ln))] := hD
    refine lv_aload_n hx hb dX6_writeMoon_19 rfl (lv_at hl 0 rfl) ?_
    refine lv_aload_n hx hb dX6_writeMoon_20 rfl (lv_at hl 0 rfl) ?_
    refine lv_iload_n hx hb dX6_writeMoon_21 rfl (lv_at hl 1 rfl) ?_
    refine lv_iconst (v := 0) hx hb dX6_writeMoon_22 (by decide) ?_
    obtain ⟨o6, ho6, h⟩ := bnd_i h
    refine rq_V (v := (some (.int o6))) (As := [.int x1, .int 0]) (rest := [.ref m0]) (wc := [(m0, .inr (10, [.ref q0, .ref q1, .ref q2, .int v3, .ref q4, .int v5, .int o3.2, .ref q7, .int 0, .ref q9, .int v10, .int v11, .int v12, .int v13, .int v14, .ref q15, .int v16])), (q0, .inl (cA 0, 60, .inl ss))]) ⟨hx, hb, hml, hfc, hts⟩ hK hP (kX6_ofMoon l D cA m0 q0 q1 q2 q4 q7 q9 q15 v3 v5 o3.2 0 v10 v11 v12 v13 v14 v16 ss x1 0 ho6) (cwV 2 hts gX6_writeMoon_X6_ofMoon rfl rfl rfl (by decide +kernel) ⟨(Nat.le_of_ble_eq_true rfl), (Nat.le_of_ble_eq_true rfl)⟩) [0, 1] rfl 0 10 rfl rfl rfl rfl rfl rfl hl.1 (Nat.le_of_ble_eq_true rfl) dX6_writeMoon_23 ⟨(Nat.zero_le _), (Nat.zero_le _)⟩ ?_
    obtain ⟨o9, ho9, h⟩ := bnd_i h
    have ko9 : ∀ (ls : Array Slot) (H : Heap) (locs : List Loc), lv_has ls 2 [(0, .ref m0), (1, .int x1)] → va_P D vwCl [(m0, .inr (10, [.ref q0, .ref q1, .ref q2, .int v3, .ref q4, .int v5, .int o3.2, .ref q7, .int 0, .ref q9, .int v10, .int v11, .int v12, .int v13, .int v14, .ref q15, .int v16])), (q0, .inl (cA 0, 60, .inl ss)), (q7, .inl (cA 2, 90, .inl ln))] H → va_D A [(m0, .inr (10, [.ref q0, .ref q1, .ref q2, .int v3, .ref q4, .int v5, .int o3.2, .ref q7, .int 0, .ref q9, .int v10, .int v11, .int v12, .int v13, .int v14, .ref q15, .int v16])), (q0, .inl (cA 0, 60, .inl ss)), (q7, .inl (cA 2, 90, .inl ln))] → va_S A s.heap H locs → W p l e RM_X6_writeMoon s m args below meth c H locs 0 0 Q (F0 m 51 ls [.int o9, .ref m0]) := by
      intro ls H locs hl hP hD hS
      obtain ⟨o13, ho13, h⟩ := bnd_i h
      refine gq_V (v := (fun as => none)) (As := [.int o9]) (rest := []) (wc := [(m0, .inr (10, [.ref q0, .ref q1, .ref q2, .int v3, .ref q4, .int v5, .int o3.2, .ref q7, .int 0, .ref q9, .int v10, .int v11, .int v12, .int v13, .int v14, .ref q15, .int v16])), (q7, .inl (cA 2, 90, .inl ln))]) (wr := [(q0, .inl (cA 0, 60, .inl ss))]) (w1 := (fun as => [(m0, .inr (10, [.ref q0, .ref q1, .ref q2, .int v3, .ref q4, .int v5, .int o3.2, .ref q7, .int o13.2, .ref q9, .int v10, .int v11, .int v12, .int v13, .int v14, .ref q15, .int v16])), (q7, .inl (cA 2, 90, .inl o13.1))])) (ws2 := (fun as => [(m0, .inr (10, [.ref q0, .ref q1, .ref q2, .int v3, .ref q4, .int v5, .int o3.2, .ref q7, .int o13.2, .ref q9, .int v10, .int v11, .int v12, .int v13, .int v14, .ref q15, .int v16])), (q0, .inl (cA 0, 60, .inl ss)), (q7, .inl (cA 2, 90, .inl o13.1))])) (st1 := (fun as => [])) ⟨hx, hb, hml, hfc, hts⟩ hK hP hD hS hA (kX6_says l D cA m0 q0 q1 q2 q4 q7 q9 q15 v3 v5 o3.2 0 v10 v11 v12 v13 v14 v16 ln o9 ho13) (cwV 1 hts gX6_writeMoon_X6_says rfl rfl rfl (by decide +kernel) ⟨(Nat.le_of_ble_eq_true rfl), (Nat.le_of_ble_eq_true rfl)⟩) [0, 2] [1] [1, 0, 2] rfl rfl rfl rfl (by decide) (fun _ => rfl) rfl 0 10 rfl rfl rfl rfl (fun _ => rfl) rfl hl.1 (Nat.le_of_ble_eq_true rfl) dX6_writeMoon_51 ⟨(Nat.le_of_ble_eq_true rfl), (Nat.le_of_ble_eq_true rfl)⟩ (fun as14 H locs hP hD hS => ?_)
      have hP : va_P D vwCl [(m0, .inr (10, [.ref q0, .ref q1, .ref q2, .int v3, .ref q4, .int v5, .int o3.2, .ref q7, .int o13.2, .ref q9, .int v10, .int v11, .int v12, .int v13, .int v14, .ref q15, .int v16])), (q0, .inl (cA 0, 60, .inl ss)), (q7, .inl (cA 2, 90, .inl o13.1))] H := hP
      have hD : va_D A [(m0, .inr (10, [.ref q0, .ref q1, .ref q2, .int v3, .ref q4, .int v5, .int o3.2, .ref q7, .int o13.2, .ref q9, .int v10, .int v11, .int v12, .int v13, .int v14, .ref q15, .int v16])), (q0, .inl (cA 0, 60, .inl ss)), (q7, .inl (cA 2, 90, .inl o13.1))] := hD
      refine lv_aload_n hx hb dX6_writeMoon_54 rfl (lv_at hl 0 rfl) ?_
      refine lv_aload_n hx hb dX6_writeMoon_55 rfl (lv_at hl 0 rfl) ?_
      refine lv_iload_n hx hb dX6_writeMoon_56 rfl (lv_at hl 1 rfl) ?_
      refine lv_iconst (v := 0) hx hb dX6_writeMoon_57 (by decide) ?_
      obtain ⟨o15, ho15, h⟩ := bnd_i h
      refine rq_V (v := (some (.int o15))) (As := [.int x1, .int 0]) (rest := [.ref m0]) (wc := [(m0, .inr (10, [.ref q0, .ref q1, .ref q2, .int v3, .ref q4, .int v5, .int o3.2, .ref q7, .int o13.2, .ref q9, .int v10, .int v11, .int v12, .int v13, .int v14, .ref q15, .int v16])), (q0, .inl (cA 0, 60, .inl ss))]) ⟨hx, hb, hml, hfc, hts⟩ hK hP (kX6_massIn l D cA m0 q0 q1 q2 q4 q7 q9 q15 v3 v5 o3.2 o13.2 v10 v11 v12 v13 v14 v16 ss x1 0 ho15) (cwV 2 hts gX6_writeMoon_X6_massIn rfl rfl rfl (by decide +kernel) ⟨(Nat.le_of_ble_eq_true rfl), (Nat.le_of_ble_eq_true rfl)⟩) [0, 1] rfl 0 10 rfl rfl rfl rfl rfl rfl hl.1 (Nat.le_of_ble_eq_true rfl) dX6_writeMoon_58 ⟨(Nat.zero_le _), (Nat.zero_le _)⟩ ?_
      obtain ⟨o17, ho17, h⟩ := bnd_i h
      refine gq_V (v := (fun as => none)) (As := [.int o15]) (rest := []) (wc := [(m0, .inr (10, [.ref q0, .ref q1, .ref q2, .int v3, .ref q4, .int v5, .int o3.2, .ref q7, .int o13.2, .ref q9, .int v10, .int v11, .int v12, .int v13, .int v14, .ref q15, .int v16])), (q7, .inl (cA 2, 90, .inl o13.1))]) (wr := [(q0, .inl (cA 0, 60, .inl ss))]) (w1 := (fun as => [(m0, .inr (10, [.ref q0, .ref q1, .ref q2, .int v3, .ref q4, .int v5, .int o3.2, .ref q7, .int o17.1, .ref q9, .int v10, .int v11, .int v12, .int v13, .int v14, .ref q15, .int v16])), (q7, .inl (cA 2, 90, .inl o17.2))])) (ws2 := (fun as => [(m0, .inr (10, [.ref q0, .ref q1, .ref q2, .int v3, .ref q4, .int v5, .int o3.2, .ref q7, .int o17.1, .ref q9, .int v10, .int v11, .int v12, .int v13, .int v14, .ref q15, .int v16])), (q0, .inl (cA 0, 60, .inl ss)), (q7, .inl (cA 2, 90, .inl o17.2))])) (st1 := (fun as => [])) ⟨hx, hb, hml, hfc, hts⟩ hK hP hD hS hA (kX6_saysNumber_2 l D cA m0 q0 q1 q2 q4 q7 q9 q15 v3 v5 o3.2 o13.2 v10 v11 v12 v13 v14 v16 o13.1 o15 ho17) (cwV 1 hts gX6_writeMoon_X6_saysNumber rfl rfl rfl (by decide +kernel) ⟨(Nat.le_of_ble_eq_true rfl), (Nat.le_of_ble_eq_true rfl)⟩) [0, 2] [1] [1, 0, 2] rfl rfl rfl rfl (by decide) (fun _ => rfl) rfl 0 10 rfl rfl rfl rfl (fun _ => rfl) rfl hl.1 (Nat.le_of_ble_eq_true rfl) dX6_writeMoon_61 ⟨(Nat.le_of_ble_eq_true rfl), (Nat.le_of_ble_eq_true rfl)⟩ (fun as18 H locs hP hD hS => ?_)
      have hP : va_P D vwCl [(m0, .inr (10, [.ref q0, .ref q1, .ref q2, .int v3, .ref q4, .int v5, .int o3.2, .ref q7, .int o17.1, .ref q9, .int v10, .int v11, .int v12, .int v13, .int v14, .ref q15, .int v16])), (q0, .inl (cA 0, 60, .inl ss)), (q7, .inl (cA 2, 90, .inl o17.2))] H := hP
      have hD : va_D A [(m0, .inr (10, [.ref q0, .ref q1, .ref q2, .int v3, .ref q4, .int v5, .int o3.2, .ref q7, .int o17.1, .ref q9, .int v10, .int v11, .int v12, .int v13, .int v14, .ref q15, .int v16])), (q0, .inl (cA 0, 60, .inl ss)), (q7, .inl (cA 2, 90, .inl o17.2))] := hD
      refine lv_aload_n hx hb dX6_writeMoon_64 rfl (lv_at hl 0 rfl) ?_
      refine lv_bipush (v := 64) hx hb dX6_writeMoon_65 (by decide) ?_
      obtain ⟨o19, ho19, h⟩ := bnd_i h
      refine gq_V (v := (fun as => none)) (As := [.int 64]) (rest := []) (wc := [(m0, .inr (10, [.ref q0, .ref q1, .ref q2, .int v3, .ref q4, .int v5, .int o3.2, .ref q7, .int o17.1, .ref q9, .int v10, .int v11, .int v12, .int v13, .int v14, .ref q15, .int v16])), (q7, .inl (cA 2, 90, .inl o17.2))]) (wr := [(q0, .inl (cA 0, 60, .inl ss))]) (w1 := (fun as => [(m0, .inr (10, [.ref q0, .ref q1, .ref q2, .int v3, .ref q4, .int v5, .int o3.2, .ref q7, .int o19.2, .ref q9, .int v10, .int v11, .int v12, .int v13, .int v14, .ref q15, .int v16])), (q7, .inl (cA 2, 90, .inl o19.1))])) (ws2 := (fun as => [(m0, .inr (10, [.ref q0, .ref q1, .ref q2, .int v3, .ref q4, .int v5, .int o3.2, .ref q7, .int o19.2, .ref q9, .int v10, .int v11, .int v12, .int v13, .int v14, .ref q15, .int v16])), (q0, .inl (cA 0, 60, .inl ss)), (q7, .inl (cA 2, 90, .inl o19.1))])) (st1 := (fun as => [])) ⟨hx, hb, hml, hfc, hts⟩ hK hP hD hS hA (kX6_says l D cA m0 q0 q1 q2 q4 q7 q9 q15 v3 v5 o3.2 o17.1 v10 v11 v12 v13 v14 v16 o17.2 64 ho19) (cwV 1 hts gX6_writeMoon_X6_says rfl rfl rfl (by decide +kernel) ⟨(Nat.le_of_ble_eq_true rfl), (Nat.le_of_ble_eq_true rfl)⟩) [0, 2] [1] [1, 0, 2] rfl rfl rfl rfl (by decide) (fun _ => rfl) rfl 0 10 rfl rfl rfl rfl (fun _ => rfl) rfl hl.1 (Nat.le_of_ble_eq_true rfl) dX6_writeMoon_67 ⟨(Nat.le_of_ble_eq_true rfl), (Nat.le_of_ble_eq_true rfl)⟩ (fun as20 H locs hP hD hS => ?_)
      have hP : va_P D vwCl [(m0, .inr (10, [.ref q0, .ref q1, .ref q2, .int v3, .ref q4, .int v5, .int o3.2, .ref q7, .int o19.2, .ref q9, .int v10, .int v11, .int v12, .int v13, .int v14, .ref q15, .int v16])), (q0, .inl (cA 0, 60, .inl ss)), (q7, .inl (cA 2, 90, .inl o19.1))] H := hP
      have hD : va_D A [(m0, .inr (10, [.ref q0, .ref q1, .ref q2, .int v3, .ref q4, .int v5, .int o3.2, .ref q7, .int o19.2, .ref q9, .int v10, .int v11, .int v12, .int v13, .int v14, .ref q15, .int v16])), (q0, .inl (cA 0, 60, .inl ss)), (q7, .inl (cA 2, 90, .inl o19.1))] := hD
      refine lv_aload_n hx hb dX6_writeMoon_70 rfl (lv_at hl 0 rfl) ?_
      refine lv_aload_n hx hb dX6_writeMoon_71 rfl (lv_at hl 0 rfl) ?_
      refine lv_iload_n hx hb dX6_writeMoon_72 rfl (lv_at hl 1 rfl) ?_
      refine lv_iconst (v := 0) hx hb dX6_writeMoon_73 (by decide) ?_
      obtain ⟨o21, ho21, h⟩ := bnd_i h
      refine rq_V (v := (some (.int o21))) (As := [.int x1, .int 0]) (rest := [.ref m0]) (wc := [(m0, .inr (10, [.ref q0, .ref q1, .ref q2, .int v3, .ref q4, .int v5, .int o3.2, .ref q7, .int o19.2, .ref q9, .int v10, .int v11, .int v12, .int v13, .int v14, .ref q15, .int v16])), (q0, .inl (cA 0, 60, .inl ss))]) ⟨hx, hb, hml, hfc, hts⟩ hK hP (kX6_placeIn l D cA m0 q0 q1 q2 q4 q7 q9 q15 v3 v5 o3.2 o19.2 v10 v11 v12 v13 v14 v16 ss x1 0 ho21) (cwV 2 hts gX6_writeMoon_X6_placeIn rfl rfl rfl (by decide +kernel) ⟨(Nat.le_of_ble_eq_true rfl), (Nat.le_of_ble_eq_true rfl)⟩) [0, 1] rfl 0 10 rfl rfl rfl rfl rfl rfl hl.1 (Nat.le_of_ble_eq_true rfl) dX6_writeMoon_74 ⟨(Nat.zero_le _), (Nat.zero_le _)⟩ ?_
      obtain ⟨o23, ho23, h⟩ := bnd_i h
      refine gq_V (v := (fun as => none)) (As := [.int o21]) (rest := []) (wc := [(m0, .inr (10, [.ref q0, .ref q1, .ref q2, .int v3, .ref q4, .int v5, .int o3.2, .ref q7, .int o19.2, .ref q9, .int v10, .int v11, .int v12, .int v13, .int v14, .ref q15, .int v16])), (q7, .inl (cA 2, 90, .inl o19.1))]) (wr := [(q0, .inl (cA 0, 60, .inl ss))]) (w1 := (fun as => [(m0, .inr (10, [.ref q0, .ref q1, .ref q2, .int v3, .ref q4, .int v5, .int o3.2, .ref q7, .int o23.1, .ref q9, .int v10, .int v11, .int v12, .int v13, .int v14, .ref q15, .int v16])), (q7, .inl (cA 2, 90, .inl o23.2))])) (ws2 := (fun as => [(m0, .inr (10, [.ref q0, .ref q1, .ref q2, .int v3, .ref q4, .int v5, .int o3.2, .ref q7, .int o23.1, .ref q9, .int v10, .int v11, .int v12, .int v13, .int v14, .ref q15, .int v16])), (q0, .inl (cA 0, 60, .inl ss)), (q7, .inl (cA 2, 90, .inl o23.2))])) (st1 := (fun as => [])) ⟨hx, hb, hml, hfc, hts⟩ hK hP hD hS hA (kX6_saysNumber_2 l D cA m0 q0 q1 q2 q4 q7 q9 q15 v3 v5 o3.2 o19.2 v10 v11 v12 v13 v14 v16 o19.1 o21 ho23) (cwV 1 hts gX6_writeMoon_X6_saysNumber rfl rfl rfl (by decide +kernel) ⟨(Nat.le_of_ble_eq_true rfl), (Nat.le_of_ble_eq_true rfl)⟩) [0, 2] [1] [1, 0, 2] rfl rfl rfl rfl (by decide) (fun _ => rfl) rfl 0 10 rfl rfl rfl rfl (fun _ => rfl) rfl hl.1 (Nat.le_of_ble_eq_true rfl) dX6_writeMoon_77 ⟨(Nat.le_of_ble_eq_true rfl), (Nat.le_of_ble_eq_true rfl)⟩ (fun as24 H locs hP hD hS => ?_)
      have hP : va_P D vwCl [(m0, .inr (10, [.ref q0, .ref q1, .ref q2, .int v3, .ref q4, .int v5, .int o3.2, .ref q7, .int o23.1, .ref q9, .int v10, .int v11, .int v12, .int v13, .int v14, .ref q15, .int v16])), (q0, .inl (cA 0, 60, .inl ss)), (q7, .inl (cA 2, 90, .inl o23.2))] H := hP
      have hD : va_D A [(m0, .inr (10, [.ref q0, .ref q1, .ref q2, .int v3, .ref q4, .int v5, .int o3.2, .ref q7, .int o23.1, .ref q9, .int v10, .int v11, .int v12, .int v13, .int v14, .ref q15, .int v16])), (q0, .inl (cA 0, 60, .inl ss)), (q7, .inl (cA 2, 90, .inl o23.2))] := hD
      refine lv_aload_n hx hb dX6_writeMoon_80 rfl (lv_at hl 0 rfl) ?_
      refine lv_aload_n hx hb dX6_writeMoon_81 rfl (lv_at hl 0 rfl) ?_
      refine lv_iload_n hx hb dX6_writeMoon_82 rfl (lv_at hl 1 rfl) ?_
      refine lv_iconst (v := 0) hx hb dX6_writeMoon_83 (by decide) ?_
      obtain ⟨o25, ho25, h⟩ := bnd_i h
      refine rq_V (v := (some (.int o25))) (As := [.int x1, .int 0]) (rest := [.ref m0]) (wc := [(m0, .inr (10, [.ref q0, .ref q1, .ref q2, .int v3, .ref q4, .int v5, .int o3.2, .ref q7, .int o23.1, .ref q9, .int v10, .int v11, .int v12, .int v13, .int v14, .ref q15, .int v16])), (q0, .inl (cA 0, 60, .inl ss))]) ⟨hx, hb, hml, hfc, hts⟩ hK hP (kX6_isShaded l D cA m0 q0 q1 q2 q4 q7 q9 q15 v3 v5 o3.2 o23.1 v10 v11 v12 v13 v14 v16 ss x1 0 ho25) (cwV 2 hts gX6_writeMoon_X6_isShaded rfl rfl rfl (by decide +kernel) ⟨(Nat.le_of_ble_eq_true rfl), (Nat.le_of_ble_eq_true rfl)⟩) [0, 1] rfl 0 10 rfl rfl rfl rfl rfl rfl hl.1 (Nat.le_of_ble_eq_true rfl) dX6_writeMoon_84 ⟨(Nat.zero_le _), (Nat.zero_le _)⟩ ?_
      refine lv_bipush (v := 33) hx hb dX6_writeMoon_87 (by decide) ?_
      obtain ⟨o27, ho27, h⟩ := bnd_i h
      refine gq_V (v := (fun as => none)) (As := [.int o25, .int 33]) (rest := []) (wc := [(m0, .inr (10, [.ref q0, .ref q1, .ref q2, .int v3, .ref q4, .int v5, .int o3.2, .ref q7, .int o23.1, .ref q9, .int v10, .int v11, .int v12, .int v13, .int v14, .ref q15, .int v16])), (q7, .inl (cA 2, 90, .inl o23.2))]) (wr := [(q0, .inl (cA 0, 60, .inl ss))]) (w1 := (fun as => [(m0, .inr (10, [.ref q0, .ref q1, .ref q2, .int v3, .ref q4, .int v5, .int o3.2, .ref q7, .int o27.2, .ref q9, .int v10, .int v11, .int v12, .int v13, .int v14, .ref q15, .int v16])), (q7, .inl (cA 2, 90, .inl o27.1))])) (ws2 := (fun as => [(m0, .inr (10, [.ref q0, .ref q1, .ref q2, .int v3, .ref q4, .int v5, .int o3.2, .ref q7, .int o27.2, .ref q9, .int v10, .int v11, .int v12, .int v13, .int v14, .ref q15, .int v16])), (q0, .inl (cA 0, 60, .inl ss)), (q7, .inl (cA 2, 90, .inl o27.1))])) (st1 := (fun as => [])) ⟨hx, hb, hml, hfc, hts⟩ hK hP hD hS hA (kX6_saysIf l D cA m0 q0 q1 q2 q4 q7 q9 q15 v3 v5 o3.2 o23.1 v10 v11 v12 v13 v14 v16 o23.2 o25 33 ho27) (cwV 2 hts gX6_writeMoon_X6_saysIf rfl rfl rfl (by decide +kernel) ⟨(Nat.le_of_ble_eq_true rfl), (Nat.le_of_ble_eq_true rfl)⟩) [0, 2] [1] [1, 0, 2] rfl rfl rfl rfl (by decide) (fun _ => rfl) rfl 0 10 rfl rfl rfl rfl (fun _ => rfl) rfl hl.1 (Nat.le_of_ble_eq_true rfl) dX6_writeMoon_89 ⟨(Nat.le_of_ble_eq_true rfl), (Nat.le_of_ble_eq_true rfl)⟩ (fun as28 H locs hP hD hS => ?_)
      have hP : va_P D vwCl [(m0, .inr (10, [.ref q0, .ref q1, .ref q2, .int v3, .ref q4, .int v5, .int o3.2, .ref q7, .int o27.2, .ref q9, .int v10, .int v11, .int v12, .int v13, .int v14, .ref q15, .int v16])), (q0, .inl (cA 0, 60, .inl ss)), (q7, .inl (cA 2, 90, .inl o27.1))] H := hP
      have hD : va_D A [(m0, .inr (10, [.ref q0, .ref q1, .ref q2, .int v3, .ref q4, .int v5, .int o3.2, .ref q7, .int o27.2, .ref q9, .int v10, .int v11, .int v12, .int v13, .int v14, .ref q15, .int v16])), (q0, .inl (cA 0, 60, .inl ss)), (q7, .inl (cA 2, 90, .inl o27.1))] := hD
      refine lv_aload_n hx hb dX6_writeMoon_92 rfl (lv_at hl 0 rfl) ?_
      refine va_get (D := D) (ci := 10) (v := .int o27.2) (C := RX6) (T := TX6) (N := 17) hx hb hts iX6_writeMoon_X6 hfc hK hP 0 rfl rfl 8 (by decide) (hts (.fieldLink RX6 175 "BathtubTidesModel" "lineMany" "I") (List.mem_of_getElem? (i := 1) rfl)) (fun _ h9 => h9) rfl dX6_writeMoon_93 ?_
      have h := Option.some.inj h
      subst h
      exact hend (adr []) _ _ _ _ _ _ _ rfl rfl (rtn_i _) hP hD hS dX6_writeMoon_96
    clear h
    have h := ho9
    clear ho9
    refine lv_if_ne (tgt := 34) hx hb dX6_writeMoon_26 (by decide) (fun c8 => ?_) (fun c8 => ?_)
    · have h := ite_f c8 h
      refine lv_aload_n hx hb dX6_writeMoon_34 rfl (lv_at hl 0 rfl) ?_
      refine lv_iload_n hx hb dX6_writeMoon_35 rfl (lv_at hl 1 rfl) ?_
      refine lv_iconst (v := 0) hx hb dX6_writeMoon_36 (by decide) ?_
      obtain ⟨o10, ho10, h⟩ := bnd_i h
      refine rq_V (v := (some (.int o10))) (As := [.int x1, .int 0]) (rest := [.ref m0]) (wc := [(m0, .inr (10, [.ref q0, .ref q1, .ref q2, .int v3, .ref q4, .int v5, .int o3.2, .ref q7, .int 0, .ref q9, .int v10, .int v11, .int v12, .int v13, .int v14, .ref q15, .int v16])), (q0, .inl (cA 0, 60, .inl ss))]) ⟨hx, hb, hml, hfc, hts⟩ hK hP (kX6_ofMoon l D cA m0 q0 q1 q2 q4 q7 q9 q15 v3 v5 o3.2 0 v10 v11 v12 v13 v14 v16 ss x1 0 ho10) (cwV 2 hts gX6_writeMoon_X6_ofMoon rfl rfl rfl (by decide +kernel) ⟨(Nat.le_of_ble_eq_true rfl), (Nat.le_of_ble_eq_true rfl)⟩) [0, 1] rfl 0 10 rfl rfl rfl rfl rfl rfl hl.1 (Nat.le_of_ble_eq_true rfl) dX6_writeMoon_37 ⟨(Nat.zero_le _), (Nat.zero_le _)⟩ ?_
      refine lv_iconst (v := 1) hx hb dX6_writeMoon_40 (by decide) ?_
      refine lv_icmp_ne (tgt := 49) hx hb dX6_writeMoon_41 (by decide) (fun c12 => ?_) (fun c12 => ?_)
      · have h := ite_f c12 h
        refine lv_bipush (v := 98) hx hb dX6_writeMoon_49 (by decide) ?_
        have h := Option.some.inj h
        subst h
        exact ko9 _ _ _ (lv_sub hl [0, 1] rfl) hP hD hS
      · have h := ite_t c12 h
        refine lv_bipush (v := 115) hx hb dX6_writeMoon_44 (by decide) ?_
        refine lv_goto (tgt := 51) hx hb dX6_writeMoon_46 (by decide) ?_
        have h := Option.some.inj h
        subst h
        exact ko9 _ _ _ (lv_sub hl [0, 1] rfl) hP hD hS
    · have h := ite_t c8 h
      refine lv_bipush (v := 104) hx hb dX6_writeMoon_29 (by decide) ?_
      refine lv_goto (tgt := 51) hx hb dX6_writeMoon_31 (by decide) ?_
      have h := Option.some.inj h
      subst h
      exact ko9 _ _ _ (lv_sub hl [0, 1] rfl) hP hD hS
  · have h := ite_t c5 h
    refine lv_iconst (v := 0) hx hb dX6_writeMoon_12 (by decide) ?_
    have h := Option.some.inj h
    subst h
    exact hend (adr []) _ _ _ _ _ _ _ rfl rfl (rtn_i _) hP hD hS dX6_writeMoon_13

noncomputable def SX6_textOf (x1 : Int32) : Nat := if x1 = 0 then (0) else (if x1 = 1 then (1) else (if x1 = 2 then (2) else (if x1 = 3 then (3) else (if x1 = 4 then (4) else (if x1 = 5 then (5) else (if x1 = 6 then (6) else (if x1 = 7 then (7) else (if x1 = 8 then (8) else (if x1 = 9 then (9) else (if x1 = 10 then (10) else (11)))))))))))
abbrev RM_X6_textOf : Room := { frames := 0, cells := 0, slots := 0, locals := 0 }
set_option maxHeartbeats 4000000 in
theorem kX6_textOf (l : Launch) (D : va_G) (cA : Nat → ClassId) (G : eG) (m0 q0 q1 q2 q4 q7 q9 q15 : Nat) (v3 : Int32) (v5 : Int32) (v6 : Int32) (v8 : Int32) (v10 : Int32) (v11 : Int32) (v12 : Int32) (v13 : Int32) (v14 : Int32) (v16 : Int32) (x1 : Int32) {r : Nat} (hr : SX6_textOf x1 = r) : Met l yX6_textOf wsX6_textOf RM_X6_textOf (va_Pc [.ref m0, .int x1] (rqEB G D cA [(m0, .inr (10, [.ref q0, .ref q1, .ref q2, .int v3, .ref q4, .int v5, .int v6, .ref q7, .int v8, .ref q9, .int v10, .int v11, .int v12, .int v13, .int v14, .ref q15, .int v16]))])) (rqQ (some (.ref (G.1 r)))) 0 0 (fun _ => False) := by
  refine rqE_ofW (cc := cX6_textOf) (maxL := 2) (ret := (some (.object "java/lang/String"))) (by decide) rfl (Nat.le_of_ble_eq_true rfl) (fun p e s m args below meth c ls Q hx hb hml hts hfc hK hP hS hEV hl hend => ?_)
  have hfc : s.vm.findClass RX6 = some m.cls := hfc
  have hl : lv_has ls 2 [(0, .ref m0), (1, .int x1)] := hl
  have h := hr
  clear hr
  unfold SX6_textOf at h
  refine lv_iload_n hx hb dX6_textOf_0 rfl (lv_at hl 1 rfl) ?_
  by_cases c1 : x1 = 0
  · have h := ite_t c1 h
    refine lv_tableIn (off := 59) (tgt := 60) hx hb dX6_textOf_1 (by rw [c1]; decide) (by rw [c1]; decide) (by rw [c1]; decide) (by decide) ?_
    refine va_ldcS hx hb hfc (hEV.2.2.2.2.2.2.2.2 (RX6, 228, "hard", 0) (by decide +kernel)) dX6_textOf_60 ?_
    subst h
    exact hend _ _ _ _ rfl (rtn_a _ _) dX6_textOf_62
  · have h := ite_f c1 h
    by_cases c2 : x1 = 1
    · have h := ite_t c2 h
      refine lv_tableIn (off := 62) (tgt := 63) hx hb dX6_textOf_1 (by rw [c2]; decide) (by rw [c2]; decide) (by rw [c2]; decide) (by decide) ?_
      refine va_ldcS hx hb hfc (hEV.2.2.2.2.2.2.2.2 (RX6, 230, "soft", 1) (by decide +kernel)) dX6_textOf_63 ?_
      subst h
      exact hend _ _ _ _ rfl (rtn_a _ _) dX6_textOf_65
    · have h := ite_f c2 h
      by_cases c3 : x1 = 2
      · have h := ite_t c3 h
        refine lv_tableIn (off := 65) (tgt := 66) hx hb dX6_textOf_1 (by rw [c3]; decide) (by rw [c3]; decide) (by rw [c3]; decide) (by decide) ?_
        refine va_ldcS hx hb hfc (hEV.2.2.2.2.2.2.2.2 (RX6, 232, "bubble", 2) (by decide +kernel)) dX6_textOf_66 ?_
        subst h
        exact hend _ _ _ _ rfl (rtn_a _ _) dX6_textOf_68
      · have h := ite_f c3 h
        by_cases c4 : x1 = 3
        · have h := ite_t c4 h
          refine lv_tableIn (off := 68) (tgt := 69) hx hb dX6_textOf_1 (by rw [c4]; decide) (by rw [c4]; decide) (by rw [c4]; decide) (by decide) ?_
          refine va_ldcS hx hb hfc (hEV.2.2.2.2.2.2.2.2 (RX6, 234, "remove", 3) (by decide +kernel)) dX6_textOf_69 ?_
          subst h
          exact hend _ _ _ _ rfl (rtn_a _ _) dX6_textOf_71
        · have h := ite_f c4 h
          by_cases c5 : x1 = 4
          · have h := ite_t c5 h
            refine lv_tableIn (off := 71) (tgt := 72) hx hb dX6_textOf_1 (by rw [c5]; decide) (by rw [c5]; decide) (by rw [c5]; decide) (by decide) ?_
            refine va_ldcS hx hb hfc (hEV.2.2.2.2.2.2.2.2 (RX6, 236, "toe", 4) (by decide +kernel)) dX6_textOf_72 ?_
            subst h
            exact hend _ _ _ _ rfl (rtn_a _ _) dX6_textOf_74
          · have h := ite_f c5 h
            by_cases c6 : x1 = 5
            · have h := ite_t c6 h
              refine lv_tableIn (off := 74) (tgt := 75) hx hb dX6_textOf_1 (by rw [c6]; decide) (by rw [c6]; decide) (by rw [c6]; decide) (by decide) ?_
              refine va_ldcS hx hb hfc (hEV.2.2.2.2.2.2.2.2 (RX6, 238, "shave", 5) (by decide +kernel)) dX6_textOf_75 ?_
              subst h
              exact hend _ _ _ _ rfl (rtn_a _ _) dX6_textOf_77
            · have h := ite_f c6 h
              by_cases c7 : x1 = 6
              · have h := ite_t c7 h
                refine lv_tableIn (off := 77) (tgt := 78) hx hb dX6_textOf_1 (by rw [c7]; decide) (by rw [c7]; decide) (by rw [c7]; decide) (by decide) ?_
                refine va_ldcS hx hb hfc (hEV.2.2.2.2.2.2.2.2 (RX6, 240, "plug", 6) (by decide +kernel)) dX6_textOf_78 ?_
                subst h
                exact hend _ _ _ _ rfl (rtn_a _ _) dX6_textOf_80
              · have h := ite_f c7 h
                by_cases c8 : x1 = 7
                · have h := ite_t c8 h
                  refine lv_tableIn (off := 80) (tgt := 81) hx hb dX6_textOf_1 (by rw [c8]; decide) (by rw [c8]; decide) (by rw [c8]; decide) (by decide) ?_
                  refine va_ldcS hx hb hfc (hEV.2.2.2.2.2.2.2.2 (RX6, 242, "pull", 7) (by decide +kernel)) dX6_textOf_81 ?_
                  subst h
                  exact hend _ _ _ _ rfl (rtn_a _ _) dX6_textOf_83
                · have h := ite_f c8 h
                  by_cases c9 : x1 = 8
                  · have h := ite_t c9 h
                    refine lv_tableIn (off := 83) (tgt := 84) hx hb dX6_textOf_1 (by rw [c9]; decide) (by rw [c9]; decide) (by rw [c9]; decide) (by decide) ?_
                    refine va_ldcS hx hb hfc (hEV.2.2.2.2.2.2.2.2 (RX6, 244, "towel", 8) (by decide +kernel)) dX6_textOf_84 ?_
                    subst h
                    exact hend _ _ _ _ rfl (rtn_a _ _) dX6_textOf_86
                  · have h := ite_f c9 h
                    by_cases c10 : x1 = 9
                    · have h := ite_t c10 h
                      refine lv_tableIn (off := 86) (tgt := 87) hx hb dX6_textOf_1 (by rw [c10]; decide) (by rw [c10]; decide) (by rw [c10]; decide) (by decide) ?_
                      refine va_ldcS hx hb hfc (hEV.2.2.2.2.2.2.2.2 (RX6, 246, "wring", 9) (by decide +kernel)) dX6_textOf_87 ?_
                      subst h
                      exact hend _ _ _ _ rfl (rtn_a _ _) dX6_textOf_89
                    · have h := ite_f c10 h
                      by_cases c11 : x1 = 10
                      · have h := ite_t c11 h
                        refine lv_tableIn (off := 89) (tgt := 90) hx hb dX6_textOf_1 (by rw [c11]; decide) (by rw [c11]; decide) (by rw [c11]; decide) (by decide) ?_
                        refine va_ldcS hx hb hfc (hEV.2.2.2.2.2.2.2.2 (RX6, 248, "flow", 10) (by decide +kernel)) dX6_textOf_90 ?_
                        subst h
                        exact hend _ _ _ _ rfl (rtn_a _ _) dX6_textOf_92
                      · have h := ite_f c11 h
                        have n0 := lv_neT (a := 0) c1 (by decide)
                        have n1 := lv_neT (a := 1) c2 (by decide)
                        have n2 := lv_neT (a := 2) c3 (by decide)
                        have n3 := lv_neT (a := 3) c4 (by decide)
                        have n4 := lv_neT (a := 4) c5 (by decide)
                        have n5 := lv_neT (a := 5) c6 (by decide)
                        have n6 := lv_neT (a := 6) c7 (by decide)
                        have n7 := lv_neT (a := 7) c8 (by decide)
                        have n8 := lv_neT (a := 8) c9 (by decide)
                        have n9 := lv_neT (a := 9) c10 (by decide)
                        have n10 := lv_neT (a := 10) c11 (by decide)
                        refine lv_tableOut (tgt := 93) hx hb dX6_textOf_1 (by omega) (by decide) ?_
                        refine va_ldcS hx hb hfc (hEV.2.2.2.2.2.2.2.2 (RX6, 250, "wait", 11) (by decide +kernel)) dX6_textOf_93 ?_
                        subst h
                        exact hend _ _ _ _ rfl (rtn_a _ _) dX6_textOf_95

theorem SX6_textOf_lt (x1 : Int32) : SX6_textOf x1 < 14 := by
  unfold SX6_textOf
  repeat' split
  all_goals decide

noncomputable def LX6_skip_2 (k : Nat) (v10 : Int32) (tx : Nat → Int32) : Nat → Int32 → Int32 → Int32 → Option (Int32 × Int32)
  | 0, _, _, _ => none
  | fu + 1, v0_11_2, v0_12_2, x2_2 => if (SJ0_length_8abf5 k) ≤ x2_2 then (some ((v0_11_2, v0_12_2))) else (if v0_12_2 = 0 then (bnd (SX6_behind v10 v0_11_2 tx 0) (fun o4 : Int32 => bnd (SJ0_charAt_5068e k x2_2) (fun o6 : Int32 => lt_ (if o4 = o6 then (0) else (1)) (fun o9 : Int32 => gd (narrow .boolean (.int o9) = .int o9 ∧ fits .boolean (.int o9) = true) (lt_ (if o9 = 0 then (1) else (0)) (fun o12 : Int32 => LX6_skip_2 k v10 tx fu (v0_11_2 + o12) o9 (x2_2 + 1))))))) else (some ((v0_11_2, v0_12_2))))
noncomputable def SX6_skip (N : Nat) (k : Nat) (v10 : Int32) (v11 : Int32) (v12 : Int32) (tx : Nat → Int32) : Option (Int32 × Int32) := LX6_skip_2 k v10 tx N v11 v12 0
theorem iX6_skip_X6 : ∀ w ∈ wsX60, w ∈ wsX6_skip := fun _ h => List.mem_cons_of_mem _ (List.mem_append_left _ (List.mem_append_left _ (List.mem_append_right _ h)))
abbrev RM_X6_skip : Room := { frames := 4, cells := 0, slots := 0, locals := 87 }
set_option maxHeartbeats 4000000 in
theorem kX6_skip (l : Launch) (D : va_G) (cA : Nat → ClassId) (G : eG) (m0 q0 q1 q2 q4 q7 q9 q15 : Nat) (N : Nat) (k : Nat) (v3 : Int32) (v5 : Int32) (v6 : Int32) (v8 : Int32) (v10 : Int32) (v11 : Int32) (v12 : Int32) (v13 : Int32) (v14 : Int32) (v16 : Int32) (tx : Nat → Int32) (hk : k < 14) {r : Int32 × Int32} (hr : SX6_skip N k v10 v11 v12 tx = some r) {sz : Nat} : Met l yX6_skip wsX6_skip RM_X6_skip (va_Pc [.ref m0, .ref (G.1 k)] (gqEB G D cA [(m0, .inr (10, [.ref q0, .ref q1, .ref q2, .int v3, .ref q4, .int v5, .int v6, .ref q7, .int v8, .ref q9, .int v10, .int v11, .int v12, .int v13, .int v14, .ref q15, .int v16])), (q9, .inl (cA 2, 60, .inl tx))] sz)) (gqQ D (fun as => none) (fun as => [(m0, .inr (10, [.ref q0, .ref q1, .ref q2, .int v3, .ref q4, .int v5, .int v6, .ref q7, .int v8, .ref q9, .int v10, .int r.1, .int r.2, .int v13, .int v14, .ref q15, .int v16])), (q9, .inl (cA 2, 60, .inl tx))]) (va_A [(m0, .inr (10, [.ref q0, .ref q1, .ref q2, .int v3, .ref q4, .int v5, .int v6, .ref q7, .int v8, .ref q9, .int v10, .int v11, .int v12, .int v13, .int v14, .ref q15, .int v16])), (q9, .inl (cA 2, 60, .inl tx))] sz)) 0 0 (va_A [(m0, .inr (10, [.ref q0, .ref q1, .ref q2, .int v3, .ref q4, .int v5, .int v6, .ref q7, .int v8, .ref q9, .int v10, .int v11, .int v12, .int v13, .int v14, .ref q15, .int v16])), (q9, .inl (cA 2, 60, .inl tx))] sz) := by
  refine gqE_ofW (cc := cX6_skip) (maxL := 3) (ret := none) (by decide) rfl (Nat.le_of_ble_eq_true rfl) (fun p e s m args below meth c ls Q A hx hb hml hts hfc hmn hK hP hD hS hA hEV hl hend => ?_)
  have hfc : s.vm.findClass RX6 = some m.cls := hfc
  have hl : lv_has ls 3 [(0, .ref m0), (1, .ref (G.1 k))] := hl
  have h := hr
  clear hr
  unfold SX6_skip at h
  refine lv_iconst (v := 0) hx hb dX6_skip_0 (by decide) ?_
  refine lv_istore_n hx hb dX6_skip_1 rfl hl (Nat.le_of_ble_eq_true rfl) rfl (fun ls hl => ?_)
  have hl : lv_has ls 3 [(2, .int 0), (0, .ref m0), (1, .ref (G.1 k))] := hl
  have hLX6_skip_2 : ∀ (fu : Nat) (v0_11_2 : Int32) (v0_12_2 : Int32) (x2_2 : Int32) (ls : Array Slot) (H : Heap) (locs : List Loc), lv_has ls 3 [(0, .ref m0), (1, .ref (G.1 k)), (2, .int x2_2)] → va_P D vwCl [(m0, .inr (10, [.ref q0, .ref q1, .ref q2, .int v3, .ref q4, .int v5, .int v6, .ref q7, .int v8, .ref q9, .int v10, .int v0_11_2, .int v0_12_2, .int v13, .int v14, .ref q15, .int v16])), (q9, .inl (cA 2, 60, .inl tx))] H → va_D A [(m0, .inr (10, [.ref q0, .ref q1, .ref q2, .int v3, .ref q4, .int v5, .int v6, .ref q7, .int v8, .ref q9, .int v10, .int v0_11_2, .int v0_12_2, .int v13, .int v14, .ref q15, .int v16])), (q9, .inl (cA 2, 60, .inl tx))] → va_S A s.heap H locs → LX6_skip_2 k v10 tx fu v0_11_2 v0_12_2 x2_2 = some r → W p l e RM_X6_skip s m args below meth c H locs 0 0 Q (F0 m 2 ls []) := by
    intro fu
    induction fu with
    | zero =>
      intro v0_11_2 v0_12_2 x2_2 ls H locs hl hP hD hS h
      rw [LX6_skip_2] at h
      exact nn h
    | succ fu ih =>
      intro v0_11_2 v0_12_2 x2_2 ls H locs hl hP hD hS h
      rw [LX6_skip_2] at h
      refine lv_iload_n hx hb dX6_skip_2 rfl (lv_at hl 2 rfl) ?_
      refine lv_aload_n hx hb dX6_skip_3 rfl (lv_at hl 1 rfl) ?_
      refine rqE_T (G := G) (v := (some (.int (SJ0_length_8abf5 k)))) (As := []) (rest := [.int x2_2]) (wc := []) ⟨hx, hb, hml, hfc, hts⟩ hK hP hS hEV (kJ0_length_8abf5 l D cA G k hk rfl) (cwV 0 hts gX6_skip_J0_length_8abf5 rfl rfl rfl (by decide +kernel) ⟨(Nat.le_of_ble_eq_true rfl), (Nat.le_of_ble_eq_true rfl)⟩) [] rfl hk rfl rfl rfl hl.1 (Nat.le_of_ble_eq_true rfl) dX6_skip_4 ⟨(Nat.zero_le _), (Nat.zero_le _)⟩ ?_
      refine lv_icmp_ge (tgt := 66) hx hb dX6_skip_7 (by decide) (fun c2 => ?_) (fun c2 => ?_)
      · have h := ite_t c2 h
        have h := Option.some.inj h
        subst h
        exact hend (adr []) _ _ _ _ _ _ _ rfl rfl (rtn_v) hP hD hS dX6_skip_66
      · have h := ite_f c2 h
        refine lv_aload_n hx hb dX6_skip_10 rfl (lv_at hl 0 rfl) ?_
        refine va_get (D := D) (ci := 10) (v := .int v0_12_2) (C := RX6) (T := TX6) (N := 17) hx hb hts iX6_skip_X6 hfc hK hP 0 rfl rfl 12 (by decide) (hts (.fieldLink RX6 202 "BathtubTidesModel" "isWrong" "Z") (List.mem_of_getElem? (i := 1) rfl)) (fun _ h9 => h9) rfl dX6_skip_11 ?_
        refine lv_if_ne (tgt := 66) hx hb dX6_skip_14 (by decide) (fun c3 => ?_) (fun c3 => ?_)
        · have h := ite_f c3 h
          have h := Option.some.inj h
          subst h
          exact hend (adr []) _ _ _ _ _ _ _ rfl rfl (rtn_v) hP hD hS dX6_skip_66
        · have h := ite_t c3 h
          refine lv_aload_n hx hb dX6_skip_17 rfl (lv_at hl 0 rfl) ?_
          refine lv_aload_n hx hb dX6_skip_18 rfl (lv_at hl 0 rfl) ?_
          refine lv_iconst (v := 0) hx hb dX6_skip_19 (by decide) ?_
          obtain ⟨o4, ho4, h⟩ := bnd_i h
          refine rq_V (v := (some (.int o4))) (As := [.int 0]) (rest := [.ref m0]) (wc := [(m0, .inr (10, [.ref q0, .ref q1, .ref q2, .int v3, .ref q4, .int v5, .int v6, .ref q7, .int v8, .ref q9, .int v10, .int v0_11_2, .int v0_12_2, .int v13, .int v14, .ref q15, .int v16])), (q9, .inl (cA 2, 60, .inl tx))]) ⟨hx, hb, hml, hfc, hts⟩ hK hP (kX6_behind l D cA m0 q0 q1 q2 q4 q7 q9 q15 v3 v5 v6 v8 v10 v0_11_2 v0_12_2 v13 v14 v16 tx 0 ho4) (cwV 1 hts gX6_skip_X6_behind rfl rfl rfl (by decide +kernel) ⟨(Nat.le_of_ble_eq_true rfl), (Nat.le_of_ble_eq_true rfl)⟩) [0, 1] rfl 0 10 rfl rfl rfl rfl rfl rfl hl.1 (Nat.le_of_ble_eq_true rfl) dX6_skip_20 ⟨(Nat.zero_le _), (Nat.zero_le _)⟩ ?_
          refine lv_aload_n hx hb dX6_skip_23 rfl (lv_at hl 1 rfl) ?_
          refine lv_iload_n hx hb dX6_skip_24 rfl (lv_at hl 2 rfl) ?_
          obtain ⟨o6, ho6, h⟩ := bnd_i h
          refine rqE_T (G := G) (v := (some (.int o6))) (As := [.int x2_2]) (rest := [.int o4, .ref m0]) (wc := []) ⟨hx, hb, hml, hfc, hts⟩ hK hP hS hEV (kJ0_charAt_5068e l D cA G k x2_2 hk ho6) (cwV 1 hts gX6_skip_J0_charAt_5068e rfl rfl rfl (by decide +kernel) ⟨(Nat.le_of_ble_eq_true rfl), (Nat.le_of_ble_eq_true rfl)⟩) [] rfl hk rfl rfl rfl hl.1 (Nat.le_of_ble_eq_true rfl) dX6_skip_25 ⟨(Nat.zero_le _), (Nat.zero_le _)⟩ ?_
          obtain ⟨o9, ho9, h⟩ := lt_i h
          have ko9 : ∀ (ls : Array Slot) (H : Heap) (locs : List Loc), lv_has ls 3 [(0, .ref m0), (1, .ref (G.1 k)), (2, .int x2_2)] → va_P D vwCl [(m0, .inr (10, [.ref q0, .ref q1, .ref q2, .int v3, .ref q4, .int v5, .int v6, .ref q7, .int v8, .ref q9, .int v10, .int v0_11_2, .int v0_12_2, .int v13, .int v14, .ref q15, .int v16])), (q9, .inl (cA 2, 60, .inl tx))] H → va_D A [(m0, .inr (10, [.ref q0, .ref q1, .ref q2, .int v3, .ref q4, .int v5, .int v6, .ref q7, .int v8, .ref q9, .int v10, .int v0_11_2, .int v0_12_2, .int v13, .int v14, .ref q15, .int v16])), (q9, .inl (cA 2, 60, .inl tx))] → va_S A s.heap H locs → W p l e RM_X6_skip s m args below meth c H locs 0 0 Q (F0 m 36 ls [.int o9, .ref m0]) := by
            intro ls H locs hl hP hD hS
            obtain ⟨g10, h⟩ := gd_i h
            refine va_put (D := D) (ci := 10) (v := .int o9) (ty := .boolean) (C := RX6) (T := TX6) (N := 17) hx hb hts iX6_skip_X6 tyX6 tyX6_ok nmX6 hfc hK hP hD hS 0 rfl rfl 12 (by decide) (hts (.fieldLink RX6 202 "BathtubTidesModel" "isWrong" "Z") (List.mem_of_getElem? (i := 1) rfl)) (fun _ h9 => h9) rfl (by decide +kernel) g10.1 g10.2 (Nat.le_of_ble_eq_true rfl) dX6_skip_36 (fun H locs hP hD hS => ?_)
            have hP : va_P D vwCl [(m0, .inr (10, [.ref q0, .ref q1, .ref q2, .int v3, .ref q4, .int v5, .int v6, .ref q7, .int v8, .ref q9, .int v10, .int v0_11_2, .int o9, .int v13, .int v14, .ref q15, .int v16])), (q9, .inl (cA 2, 60, .inl tx))] H := hP
            have hD : va_D A [(m0, .inr (10, [.ref q0, .ref q1, .ref q2, .int v3, .ref q4, .int v5, .int v6, .ref q7, .int v8, .ref q9, .int v10, .int v0_11_2, .int o9, .int v13, .int v14, .ref q15, .int v16])), (q9, .inl (cA 2, 60, .inl tx))] := hD
            refine lv_aload_n hx hb dX6_skip_39 rfl (lv_at hl 0 rfl) ?_
            refine lv_dup hx hb dX6_skip_40 rfl ?_
            refine va_get (D := D) (ci := 10) (v := .int v0_11_2) (C := RX6) (T := TX6) (N := 17) hx hb hts iX6_skip_X6 hfc hK hP 0 rfl rfl 11 (by decide) (hts (.fieldLink RX6 195 "BathtubTidesModel" "at" "I") (List.mem_of_getElem? (i := 2) rfl)) (fun _ h9 => h9) rfl dX6_skip_41 ?_
            refine lv_aload_n hx hb dX6_skip_44 rfl (lv_at hl 0 rfl) ?_
            refine va_get (D := D) (ci := 10) (v := .int o9) (C := RX6) (T := TX6) (N := 17) hx hb hts iX6_skip_X6 hfc hK hP 0 rfl rfl 12 (by decide) (hts (.fieldLink RX6 202 "BathtubTidesModel" "isWrong" "Z") (List.mem_of_getElem? (i := 1) rfl)) (fun _ h9 => h9) rfl dX6_skip_45 ?_
            obtain ⟨o12, ho12, h⟩ := lt_i h
            have ko12 : ∀ (ls : Array Slot) (H : Heap) (locs : List Loc), lv_has ls 3 [(0, .ref m0), (1, .ref (G.1 k)), (2, .int x2_2)] → va_P D vwCl [(m0, .inr (10, [.ref q0, .ref q1, .ref q2, .int v3, .ref q4, .int v5, .int v6, .ref q7, .int v8, .ref q9, .int v10, .int v0_11_2, .int o9, .int v13, .int v14, .ref q15, .int v16])), (q9, .inl (cA 2, 60, .inl tx))] H → va_D A [(m0, .inr (10, [.ref q0, .ref q1, .ref q2, .int v3, .ref q4, .int v5, .int v6, .ref q7, .int v8, .ref q9, .int v10, .int v0_11_2, .int o9, .int v13, .int v14, .ref q15, .int v16])), (q9, .inl (cA 2, 60, .inl tx))] → va_S A s.heap H locs → W p l e RM_X6_skip s m args below meth c H locs 0 0 Q (F0 m 56 ls [.int o12, .int v0_11_2, .ref m0]) := by
              intro ls H locs hl hP hD hS
              refine lv_iadd hx hb dX6_skip_56 ?_
              refine va_put (D := D) (ci := 10) (v := .int (v0_11_2 + o12)) (ty := .int) (C := RX6) (T := TX6) (N := 17) hx hb hts iX6_skip_X6 tyX6 tyX6_ok nmX6 hfc hK hP hD hS 0 rfl rfl 11 (by decide) (hts (.fieldLink RX6 195 "BathtubTidesModel" "at" "I") (List.mem_of_getElem? (i := 2) rfl)) (fun _ h9 => h9) rfl (by decide +kernel) rfl rfl (Nat.le_of_ble_eq_true rfl) dX6_skip_57 (fun H locs hP hD hS => ?_)
              have hP : va_P D vwCl [(m0, .inr (10, [.ref q0, .ref q1, .ref q2, .int v3, .ref q4, .int v5, .int v6, .ref q7, .int v8, .ref q9, .int v10, .int (v0_11_2 + o12), .int o9, .int v13, .int v14, .ref q15, .int v16])), (q9, .inl (cA 2, 60, .inl tx))] H := hP
              have hD : va_D A [(m0, .inr (10, [.ref q0, .ref q1, .ref q2, .int v3, .ref q4, .int v5, .int v6, .ref q7, .int v8, .ref q9, .int v10, .int (v0_11_2 + o12), .int o9, .int v13, .int v14, .ref q15, .int v16])), (q9, .inl (cA 2, 60, .inl tx))] := hD
              refine lv_iinc (k := 2) (v := x2_2 + 1) hx hb dX6_skip_60 hl rfl (congrArg (fun z => x2_2 + z) lit1) (Nat.le_of_ble_eq_true rfl) rfl (fun ls hl => ?_)
              have hl : lv_has ls 3 [(2, .int (x2_2 + 1)), (0, .ref m0), (1, .ref (G.1 k))] := hl
              refine lv_goto (tgt := 2) hx hb dX6_skip_63 (by decide) ?_
              exact ih (v0_11_2 + o12) o9 (x2_2 + 1) _ _ _ (lv_sub hl [1, 2, 0] rfl) hP hD hS h
            clear h
            have h := ho12
            clear ho12
            refine lv_if_eq (tgt := 55) hx hb dX6_skip_48 (by decide) (fun c11 => ?_) (fun c11 => ?_)
            · have h := ite_t c11 h
              refine lv_iconst (v := 1) hx hb dX6_skip_55 (by decide) ?_
              subst h
              exact ko12 _ _ _ (lv_sub hl [0, 1, 2] rfl) hP hD hS
            · have h := ite_f c11 h
              refine lv_iconst (v := 0) hx hb dX6_skip_51 (by decide) ?_
              refine lv_goto (tgt := 56) hx hb dX6_skip_52 (by decide) ?_
              subst h
              exact ko12 _ _ _ (lv_sub hl [0, 1, 2] rfl) hP hD hS
          clear h
          have h := ho9
          clear ho9
          refine lv_icmp_eq (tgt := 35) hx hb dX6_skip_28 (by decide) (fun c8 => ?_) (fun c8 => ?_)
          · have h := ite_t c8 h
            refine lv_iconst (v := 0) hx hb dX6_skip_35 (by decide) ?_
            subst h
            exact ko9 _ _ _ (lv_sub hl [0, 1, 2] rfl) hP hD hS
          · have h := ite_f c8 h
            refine lv_iconst (v := 1) hx hb dX6_skip_31 (by decide) ?_
            refine lv_goto (tgt := 36) hx hb dX6_skip_32 (by decide) ?_
            subst h
            exact ko9 _ _ _ (lv_sub hl [0, 1, 2] rfl) hP hD hS
  exact hLX6_skip_2 N v11 v12 0 _ _ _ (lv_sub hl [1, 2, 0] rfl) hP hD hS h

noncomputable def SX6_readNumber (N : Nat) (v10 : Int32) (v11 : Int32) (v12 : Int32) (tx : Nat → Int32) : Option (Int32 × Int32 × Int32) := bnd (SX6_skip N 12 v10 v11 v12 tx) (fun o1 : Int32 × Int32 => bnd (SX6_digit v10 o1.1 o1.2 tx) (fun o3 : Int32 × Int32 × Int32 => bnd (SX6_isDigit v10 o3.2.1 o3.2.2 tx) (fun o5 : Int32 => if o5 = 0 then (some ((o3.1, o3.2.1, o3.2.2))) else (bnd (SX6_digit v10 o3.2.1 o3.2.2 tx) (fun o8 : Int32 × Int32 × Int32 => some (((10 * o3.1) + o8.1, o8.2.1, o8.2.2)))))))
abbrev RM_X6_readNumber : Room := { frames := 5, cells := 0, slots := 0, locals := 109 }
set_option maxHeartbeats 4000000 in
theorem kX6_readNumber (l : Launch) (D : va_G) (cA : Nat → ClassId) (G : eG) (m0 q0 q1 q2 q4 q7 q9 q15 : Nat) (N : Nat) (v3 : Int32) (v5 : Int32) (v6 : Int32) (v8 : Int32) (v10 : Int32) (v11 : Int32) (v12 : Int32) (v13 : Int32) (v14 : Int32) (v16 : Int32) (tx : Nat → Int32) {r : Int32 × Int32 × Int32} (hr : SX6_readNumber N v10 v11 v12 tx = some r) {sz : Nat} : Met l yX6_readNumber wsX6_readNumber RM_X6_readNumber (va_Pc [.ref m0] (gqEB G D cA [(m0, .inr (10, [.ref q0, .ref q1, .ref q2, .int v3, .ref q4, .int v5, .int v6, .ref q7, .int v8, .ref q9, .int v10, .int v11, .int v12, .int v13, .int v14, .ref q15, .int v16])), (q9, .inl (cA 2, 60, .inl tx))] sz)) (gqQ D (fun as => (some (.int r.1))) (fun as => [(m0, .inr (10, [.ref q0, .ref q1, .ref q2, .int v3, .ref q4, .int v5, .int v6, .ref q7, .int v8, .ref q9, .int v10, .int r.2.1, .int r.2.2, .int v13, .int v14, .ref q15, .int v16])), (q9, .inl (cA 2, 60, .inl tx))]) (va_A [(m0, .inr (10, [.ref q0, .ref q1, .ref q2, .int v3, .ref q4, .int v5, .int v6, .ref q7, .int v8, .ref q9, .int v10, .int v11, .int v12, .int v13, .int v14, .ref q15, .int v16])), (q9, .inl (cA 2, 60, .inl tx))] sz)) 0 0 (va_A [(m0, .inr (10, [.ref q0, .ref q1, .ref q2, .int v3, .ref q4, .int v5, .int v6, .ref q7, .int v8, .ref q9, .int v10, .int v11, .int v12, .int v13, .int v14, .ref q15, .int v16])), (q9, .inl (cA 2, 60, .inl tx))] sz) := by
  refine gqE_ofW (cc := cX6_readNumber) (maxL := 2) (ret := (some .int)) (by decide) rfl (Nat.le_of_ble_eq_true rfl) (fun p e s m args below meth c ls Q A hx hb hml hts hfc hmn hK hP hD hS hA hEV hl hend => ?_)
  have hfc : s.vm.findClass RX6 = some m.cls := hfc
  have hl : lv_has ls 2 [(0, .ref m0)] := hl
  have h := hr
  clear hr
  unfold SX6_readNumber at h
  refine lv_aload_n hx hb dX6_readNumber_0 rfl (lv_at hl 0 rfl) ?_
  refine va_ldcS hx hb hfc (hEV.2.2.2.2.2.2.2.2 (RX6, 217, " ", 12) (by decide +kernel)) dX6_readNumber_1 ?_
  obtain ⟨o1, ho1, h⟩ := bnd_i h
  refine gqE_V (G := G) (v := (fun as => none)) (As := [.ref (G.1 12)]) (rest := []) (wc := [(m0, .inr (10, [.ref q0, .ref q1, .ref q2, .int v3, .ref q4, .int v5, .int v6, .ref q7, .int v8, .ref q9, .int v10, .int v11, .int v12, .int v13, .int v14, .ref q15, .int v16])), (q9, .inl (cA 2, 60, .inl tx))]) (wr := []) (w1 := (fun as => [(m0, .inr (10, [.ref q0, .ref q1, .ref q2, .int v3, .ref q4, .int v5, .int v6, .ref q7, .int v8, .ref q9, .int v10, .int o1.1, .int o1.2, .int v13, .int v14, .ref q15, .int v16])), (q9, .inl (cA 2, 60, .inl tx))])) (ws2 := (fun as => [(m0, .inr (10, [.ref q0, .ref q1, .ref q2, .int v3, .ref q4, .int v5, .int v6, .ref q7, .int v8, .ref q9, .int v10, .int o1.1, .int o1.2, .int v13, .int v14, .ref q15, .int v16])), (q9, .inl (cA 2, 60, .inl tx))])) (st1 := (fun as => [])) ⟨hx, hb, hml, hfc, hts⟩ hK hP hD hS hA hEV (kX6_skip l D cA G m0 q0 q1 q2 q4 q7 q9 q15 N 12 v3 v5 v6 v8 v10 v11 v12 v13 v14 v16 tx (by decide) ho1) (cwV 1 hts gX6_readNumber_X6_skip rfl rfl rfl (by decide +kernel) ⟨(Nat.le_of_ble_eq_true rfl), (Nat.le_of_ble_eq_true rfl)⟩) [0, 1] [] [0, 1] rfl rfl rfl rfl (by decide) (fun _ => rfl) rfl 0 10 rfl rfl rfl rfl (fun _ => rfl) rfl hl.1 (Nat.le_of_ble_eq_true rfl) dX6_readNumber_3 ⟨(Nat.le_of_ble_eq_true rfl), (Nat.le_of_ble_eq_true rfl)⟩ (fun as2 H locs hP hD hS => ?_)
  have hP : va_P D vwCl [(m0, .inr (10, [.ref q0, .ref q1, .ref q2, .int v3, .ref q4, .int v5, .int v6, .ref q7, .int v8, .ref q9, .int v10, .int o1.1, .int o1.2, .int v13, .int v14, .ref q15, .int v16])), (q9, .inl (cA 2, 60, .inl tx))] H := hP
  have hD : va_D A [(m0, .inr (10, [.ref q0, .ref q1, .ref q2, .int v3, .ref q4, .int v5, .int v6, .ref q7, .int v8, .ref q9, .int v10, .int o1.1, .int o1.2, .int v13, .int v14, .ref q15, .int v16])), (q9, .inl (cA 2, 60, .inl tx))] := hD
  refine lv_aload_n hx hb dX6_readNumber_6 rfl (lv_at hl 0 rfl) ?_
  obtain ⟨o3, ho3, h⟩ := bnd_i h
  refine gq_V (v := (fun as => (some (.int o3.1)))) (As := []) (rest := []) (wc := [(m0, .inr (10, [.ref q0, .ref q1, .ref q2, .int v3, .ref q4, .int v5, .int v6, .ref q7, .int v8, .ref q9, .int v10, .int o1.1, .int o1.2, .int v13, .int v14, .ref q15, .int v16])), (q9, .inl (cA 2, 60, .inl tx))]) (wr := []) (w1 := (fun as => [(m0, .inr (10, [.ref q0, .ref q1, .ref q2, .int v3, .ref q4, .int v5, .int v6, .ref q7, .int v8, .ref q9, .int v10, .int o3.2.1, .int o3.2.2, .int v13, .int v14, .ref q15, .int v16])), (q9, .inl (cA 2, 60, .inl tx))])) (ws2 := (fun as => [(m0, .inr (10, [.ref q0, .ref q1, .ref q2, .int v3, .ref q4, .int v5, .int v6, .ref q7, .int v8, .ref q9, .int v10, .int o3.2.1, .int o3.2.2, .int v13, .int v14, .ref q15, .int v16])), (q9, .inl (cA 2, 60, .inl tx))])) (st1 := (fun as => [.int o3.1])) ⟨hx, hb, hml, hfc, hts⟩ hK hP hD hS hA (kX6_digit l D cA m0 q0 q1 q2 q4 q7 q9 q15 v3 v5 v6 v8 v10 o1.1 o1.2 v13 v14 v16 tx ho3) (cwV 0 hts gX6_readNumber_X6_digit rfl rfl rfl (by decide +kernel) ⟨(Nat.le_of_ble_eq_true rfl), (Nat.le_of_ble_eq_true rfl)⟩) [0, 1] [] [0, 1] rfl rfl rfl rfl (by decide) (fun _ => rfl) rfl 0 10 rfl rfl rfl rfl (fun _ => rfl) rfl hl.1 (Nat.le_of_ble_eq_true rfl) dX6_readNumber_7 ⟨(Nat.le_of_ble_eq_true rfl), (Nat.le_of_ble_eq_true rfl)⟩ (fun as4 H locs hP hD hS => ?_)
  have hP : va_P D vwCl [(m0, .inr (10, [.ref q0, .ref q1, .ref q2, .int v3, .ref q4, .int v5, .int v6, .ref q7, .int v8, .ref q9, .int v10, .int o3.2.1, .int o3.2.2, .int v13, .int v14, .ref q15, .int v16])), (q9, .inl (cA 2, 60, .inl tx))] H := hP
  have hD : va_D A [(m0, .inr (10, [.ref q0, .ref q1, .ref q2, .int v3, .ref q4, .int v5, .int v6, .ref q7, .int v8, .ref q9, .int v10, .int o3.2.1, .int o3.2.2, .int v13, .int v14, .ref q15, .int v16])), (q9, .inl (cA 2, 60, .inl tx))] := hD
  refine lv_istore_n hx hb dX6_readNumber_10 rfl hl (Nat.le_of_ble_eq_true rfl) rfl (fun ls hl => ?_)
  have hl : lv_has ls 2 [(1, .int o3.1), (0, .ref m0)] := hl
  refine lv_aload_n hx hb dX6_readNumber_11 rfl (lv_at hl 1 rfl) ?_
  obtain ⟨o5, ho5, h⟩ := bnd_i h
  refine rq_V (v := (some (.int o5))) (As := []) (rest := []) (wc := [(m0, .inr (10, [.ref q0, .ref q1, .ref q2, .int v3, .ref q4, .int v5, .int v6, .ref q7, .int v8, .ref q9, .int v10, .int o3.2.1, .int o3.2.2, .int v13, .int v14, .ref q15, .int v16])), (q9, .inl (cA 2, 60, .inl tx))]) ⟨hx, hb, hml, hfc, hts⟩ hK hP (kX6_isDigit l D cA m0 q0 q1 q2 q4 q7 q9 q15 v3 v5 v6 v8 v10 o3.2.1 o3.2.2 v13 v14 v16 tx ho5) (cwV 0 hts gX6_readNumber_X6_isDigit rfl rfl rfl (by decide +kernel) ⟨(Nat.le_of_ble_eq_true rfl), (Nat.le_of_ble_eq_true rfl)⟩) [0, 1] rfl 0 10 rfl rfl rfl rfl rfl rfl hl.1 (Nat.le_of_ble_eq_true rfl) dX6_readNumber_12 ⟨(Nat.zero_le _), (Nat.zero_le _)⟩ ?_
  refine lv_if_eq (tgt := 30) hx hb dX6_readNumber_15 (by decide) (fun c7 => ?_) (fun c7 => ?_)
  · have h := ite_t c7 h
    refine lv_iload_n hx hb dX6_readNumber_30 rfl (lv_at hl 0 rfl) ?_
    have h := Option.some.inj h
    subst h
    exact hend (adr []) _ _ _ _ _ _ _ rfl rfl (rtn_i _) hP hD hS dX6_readNumber_31
  · have h := ite_f c7 h
    refine lv_bipush (v := 10) hx hb dX6_readNumber_18 (by decide) ?_
    refine lv_iload_n hx hb dX6_readNumber_20 rfl (lv_at hl 0 rfl) ?_
    refine lv_imul hx hb dX6_readNumber_21 ?_
    refine lv_aload_n hx hb dX6_readNumber_22 rfl (lv_at hl 1 rfl) ?_
    obtain ⟨o8, ho8, h⟩ := bnd_i h
    refine gq_V (v := (fun as => (some (.int o8.1)))) (As := []) (rest := [.int (10 * o3.1)]) (wc := [(m0, .inr (10, [.ref q0, .ref q1, .ref q2, .int v3, .ref q4, .int v5, .int v6, .ref q7, .int v8, .ref q9, .int v10, .int o3.2.1, .int o3.2.2, .int v13, .int v14, .ref q15, .int v16])), (q9, .inl (cA 2, 60, .inl tx))]) (wr := []) (w1 := (fun as => [(m0, .inr (10, [.ref q0, .ref q1, .ref q2, .int v3, .ref q4, .int v5, .int v6, .ref q7, .int v8, .ref q9, .int v10, .int o8.2.1, .int o8.2.2, .int v13, .int v14, .ref q15, .int v16])), (q9, .inl (cA 2, 60, .inl tx))])) (ws2 := (fun as => [(m0, .inr (10, [.ref q0, .ref q1, .ref q2, .int v3, .ref q4, .int v5, .int v6, .ref q7, .int v8, .ref q9, .int v10, .int o8.2.1, .int o8.2.2, .int v13, .int v14, .ref q15, .int v16])), (q9, .inl (cA 2, 60, .inl tx))])) (st1 := (fun as => [.int o8.1, .int (10 * o3.1)])) ⟨hx, hb, hml, hfc, hts⟩ hK hP hD hS hA (kX6_digit l D cA m0 q0 q1 q2 q4 q7 q9 q15 v3 v5 v6 v8 v10 o3.2.1 o3.2.2 v13 v14 v16 tx ho8) (cwV 0 hts gX6_readNumber_X6_digit rfl rfl rfl (by decide +kernel) ⟨(Nat.le_of_ble_eq_true rfl), (Nat.le_of_ble_eq_true rfl)⟩) [0, 1] [] [0, 1] rfl rfl rfl rfl (by decide) (fun _ => rfl) rfl 0 10 rfl rfl rfl rfl (fun _ => rfl) rfl hl.1 (Nat.le_of_ble_eq_true rfl) dX6_readNumber_23 ⟨(Nat.le_of_ble_eq_true rfl), (Nat.le_of_ble_eq_true rfl)⟩ (fun as9 H locs hP hD hS => ?_)
    have hP : va_P D vwCl [(m0, .inr (10, [.ref q0, .ref q1, .ref q2, .int v3, .ref q4, .int v5, .int v6, .ref q7, .int v8, .ref q9, .int v10, .int o8.2.1, .int o8.2.2, .int v13, .int v14, .ref q15, .int v16])), (q9, .inl (cA 2, 60, .inl tx))] H := hP
    have hD : va_D A [(m0, .inr (10, [.ref q0, .ref q1, .ref q2, .int v3, .ref q4, .int v5, .int v6, .ref q7, .int v8, .ref q9, .int v10, .int o8.2.1, .int o8.2.2, .int v13, .int v14, .ref q15, .int v16])), (q9, .inl (cA 2, 60, .inl tx))] := hD
    refine lv_iadd hx hb dX6_readNumber_26 ?_
    refine lv_goto (tgt := 31) hx hb dX6_readNumber_27 (by decide) ?_
    have h := Option.some.inj h
    subst h
    exact hend (adr []) _ _ _ _ _ _ _ rfl rfl (rtn_i _) hP hD hS dX6_readNumber_31

noncomputable def SX6_readFlow (N : Nat) (v10 : Int32) (v11 : Int32) (v12 : Int32) (tx : Nat → Int32) : Option (Int32 × Int32 × Int32) := bnd (SX6_skip N 12 v10 v11 v12 tx) (fun o1 : Int32 × Int32 => bnd (SX6_behind v10 o1.1 tx 0) (fun o3 : Int32 => if o3 = 45 then (bnd (SX6_skip N 13 v10 o1.1 o1.2 tx) (fun o13 : Int32 × Int32 => bnd (SX6_digit v10 o13.1 o13.2 tx) (fun o15 : Int32 × Int32 × Int32 => some ((-o15.1, o15.2.1, o15.2.2))))) else (bnd (SX6_digit v10 o1.1 o1.2 tx) (fun o6 : Int32 × Int32 × Int32 => bnd (SX6_isDigit v10 o6.2.1 o6.2.2 tx) (fun o8 : Int32 => if o8 = 0 then (some ((o6.1, o6.2.1, o6.2.2))) else (bnd (SX6_digit v10 o6.2.1 o6.2.2 tx) (fun o11 : Int32 × Int32 × Int32 => some (((10 * o6.1) + o11.1, o11.2.1, o11.2.2)))))))))
abbrev RM_X6_readFlow : Room := { frames := 5, cells := 0, slots := 0, locals := 109 }
set_option maxHeartbeats 4000000 in
theorem kX6_readFlow (l : Launch) (D : va_G) (cA : Nat → ClassId) (G : eG) (m0 q0 q1 q2 q4 q7 q9 q15 : Nat) (N : Nat) (v3 : Int32) (v5 : Int32) (v6 : Int32) (v8 : Int32) (v10 : Int32) (v11 : Int32) (v12 : Int32) (v13 : Int32) (v14 : Int32) (v16 : Int32) (tx : Nat → Int32) {r : Int32 × Int32 × Int32} (hr : SX6_readFlow N v10 v11 v12 tx = some r) {sz : Nat} : Met l yX6_readFlow wsX6_readFlow RM_X6_readFlow (va_Pc [.ref m0] (gqEB G D cA [(m0, .inr (10, [.ref q0, .ref q1, .ref q2, .int v3, .ref q4, .int v5, .int v6, .ref q7, .int v8, .ref q9, .int v10, .int v11, .int v12, .int v13, .int v14, .ref q15, .int v16])), (q9, .inl (cA 2, 60, .inl tx))] sz)) (gqQ D (fun as => (some (.int r.1))) (fun as => [(m0, .inr (10, [.ref q0, .ref q1, .ref q2, .int v3, .ref q4, .int v5, .int v6, .ref q7, .int v8, .ref q9, .int v10, .int r.2.1, .int r.2.2, .int v13, .int v14, .ref q15, .int v16])), (q9, .inl (cA 2, 60, .inl tx))]) (va_A [(m0, .inr (10, [.ref q0, .ref q1, .ref q2, .int v3, .ref q4, .int v5, .int v6, .ref q7, .int v8, .ref q9, .int v10, .int v11, .int v12, .int v13, .int v14, .ref q15, .int v16])), (q9, .inl (cA 2, 60, .inl tx))] sz)) 0 0 (va_A [(m0, .inr (10, [.ref q0, .ref q1, .ref q2, .int v3, .ref q4, .int v5, .int v6, .ref q7, .int v8, .ref q9, .int v10, .int v11, .int v12, .int v13, .int v14, .ref q15, .int v16])), (q9, .inl (cA 2, 60, .inl tx))] sz) := by
  refine gqE_ofW (cc := cX6_readFlow) (maxL := 2) (ret := (some .int)) (by decide) rfl (Nat.le_of_ble_eq_true rfl) (fun p e s m args below meth c ls Q A hx hb hml hts hfc hmn hK hP hD hS hA hEV hl hend => ?_)
  have hfc : s.vm.findClass RX6 = some m.cls := hfc
  have hl : lv_has ls 2 [(0, .ref m0)] := hl
  have h := hr
  clear hr
  unfold SX6_readFlow at h
  refine lv_aload_n hx hb dX6_readFlow_0 rfl (lv_at hl 0 rfl) ?_
  refine va_ldcS hx hb hfc (hEV.2.2.2.2.2.2.2.2 (RX6, 217, " ", 12) (by decide +kernel)) dX6_readFlow_1 ?_
  obtain ⟨o1, ho1, h⟩ := bnd_i h
  refine gqE_V (G := G) (v := (fun as => none)) (As := [.ref (G.1 12)]) (rest := []) (wc := [(m0, .inr (10, [.ref q0, .ref q1, .ref q2, .int v3, .ref q4, .int v5, .int v6, .ref q7, .int v8, .ref q9, .int v10, .int v11, .int v12, .int v13, .int v14, .ref q15, .int v16])), (q9, .inl (cA 2, 60, .inl tx))]) (wr := []) (w1 := (fun as => [(m0, .inr (10, [.ref q0, .ref q1, .ref q2, .int v3, .ref q4, .int v5, .int v6, .ref q7, .int v8, .ref q9, .int v10, .int o1.1, .int o1.2, .int v13, .int v14, .ref q15, .int v16])), (q9, .inl (cA 2, 60, .inl tx))])) (ws2 := (fun as => [(m0, .inr (10, [.ref q0, .ref q1, .ref q2, .int v3, .ref q4, .int v5, .int v6, .ref q7, .int v8, .ref q9, .int v10, .int o1.1, .int o1.2, .int v13, .int v14, .ref q15, .int v16])), (q9, .inl (cA 2, 60, .inl tx))])) (st1 := (fun as => [])) ⟨hx, hb, hml, hfc, hts⟩ hK hP hD hS hA hEV (kX6_skip l D cA G m0 q0 q1 q2 q4 q7 q9 q15 N 12 v3 v5 v6 v8 v10 v11 v12 v13 v14 v16 tx (by decide) ho1) (cwV 1 hts gX6_readFlow_X6_skip rfl rfl rfl (by decide +kernel) ⟨(Nat.le_of_ble_eq_true rfl), (Nat.le_of_ble_eq_true rfl)⟩) [0, 1] [] [0, 1] rfl rfl rfl rfl (by decide) (fun _ => rfl) rfl 0 10 rfl rfl rfl rfl (fun _ => rfl) rfl hl.1 (Nat.le_of_ble_eq_true rfl) dX6_readFlow_3 ⟨(Nat.le_of_ble_eq_true rfl), (Nat.le_of_ble_eq_true rfl)⟩ (fun as2 H locs hP hD hS => ?_)
  have hP : va_P D vwCl [(m0, .inr (10, [.ref q0, .ref q1, .ref q2, .int v3, .ref q4, .int v5, .int v6, .ref q7, .int v8, .ref q9, .int v10, .int o1.1, .int o1.2, .int v13, .int v14, .ref q15, .int v16])), (q9, .inl (cA 2, 60, .inl tx))] H := hP
  have hD : va_D A [(m0, .inr (10, [.ref q0, .ref q1, .ref q2, .int v3, .ref q4, .int v5, .int v6, .ref q7, .int v8, .ref q9, .int v10, .int o1.1, .int o1.2, .int v13, .int v14, .ref q15, .int v16])), (q9, .inl (cA 2, 60, .inl tx))] := hD
  refine lv_aload_n hx hb dX6_readFlow_6 rfl (lv_at hl 0 rfl) ?_
  refine lv_iconst (v := 0) hx hb dX6_readFlow_7 (by decide) ?_
  obtain ⟨o3, ho3, h⟩ := bnd_i h
  refine rq_V (v := (some (.int o3))) (As := [.int 0]) (rest := []) (wc := [(m0, .inr (10, [.ref q0, .ref q1, .ref q2, .int v3, .ref q4, .int v5, .int v6, .ref q7, .int v8, .ref q9, .int v10, .int o1.1, .int o1.2, .int v13, .int v14, .ref q15, .int v16])), (q9, .inl (cA 2, 60, .inl tx))]) ⟨hx, hb, hml, hfc, hts⟩ hK hP (kX6_behind l D cA m0 q0 q1 q2 q4 q7 q9 q15 v3 v5 v6 v8 v10 o1.1 o1.2 v13 v14 v16 tx 0 ho3) (cwV 1 hts gX6_readFlow_X6_behind rfl rfl rfl (by decide +kernel) ⟨(Nat.le_of_ble_eq_true rfl), (Nat.le_of_ble_eq_true rfl)⟩) [0, 1] rfl 0 10 rfl rfl rfl rfl rfl rfl hl.1 (Nat.le_of_ble_eq_true rfl) dX6_readFlow_8 ⟨(Nat.zero_le _), (Nat.zero_le _)⟩ ?_
  refine lv_bipush (v := 45) hx hb dX6_readFlow_11 (by decide) ?_
  refine lv_icmp_ne (tgt := 28) hx hb dX6_readFlow_13 (by decide) (fun c5 => ?_) (fun c5 => ?_)
  · have h := ite_f c5 h
    refine lv_aload_n hx hb dX6_readFlow_28 rfl (lv_at hl 0 rfl) ?_
    obtain ⟨o6, ho6, h⟩ := bnd_i h
    refine gq_V (v := (fun as => (some (.int o6.1)))) (As := []) (rest := []) (wc := [(m0, .inr (10, [.ref q0, .ref q1, .ref q2, .int v3, .ref q4, .int v5, .int v6, .ref q7, .int v8, .ref q9, .int v10, .int o1.1, .int o1.2, .int v13, .int v14, .ref q15, .int v16])), (q9, .inl (cA 2, 60, .inl tx))]) (wr := []) (w1 := (fun as => [(m0, .inr (10, [.ref q0, .ref q1, .ref q2, .int v3, .ref q4, .int v5, .int v6, .ref q7, .int v8, .ref q9, .int v10, .int o6.2.1, .int o6.2.2, .int v13, .int v14, .ref q15, .int v16])), (q9, .inl (cA 2, 60, .inl tx))])) (ws2 := (fun as => [(m0, .inr (10, [.ref q0, .ref q1, .ref q2, .int v3, .ref q4, .int v5, .int v6, .ref q7, .int v8, .ref q9, .int v10, .int o6.2.1, .int o6.2.2, .int v13, .int v14, .ref q15, .int v16])), (q9, .inl (cA 2, 60, .inl tx))])) (st1 := (fun as => [.int o6.1])) ⟨hx, hb, hml, hfc, hts⟩ hK hP hD hS hA (kX6_digit l D cA m0 q0 q1 q2 q4 q7 q9 q15 v3 v5 v6 v8 v10 o1.1 o1.2 v13 v14 v16 tx ho6) (cwV 0 hts gX6_readFlow_X6_digit rfl rfl rfl (by decide +kernel) ⟨(Nat.le_of_ble_eq_true rfl), (Nat.le_of_ble_eq_true rfl)⟩) [0, 1] [] [0, 1] rfl rfl rfl rfl (by decide) (fun _ => rfl) rfl 0 10 rfl rfl rfl rfl (fun _ => rfl) rfl hl.1 (Nat.le_of_ble_eq_true rfl) dX6_readFlow_29 ⟨(Nat.le_of_ble_eq_true rfl), (Nat.le_of_ble_eq_true rfl)⟩ (fun as7 H locs hP hD hS => ?_)
    have hP : va_P D vwCl [(m0, .inr (10, [.ref q0, .ref q1, .ref q2, .int v3, .ref q4, .int v5, .int v6, .ref q7, .int v8, .ref q9, .int v10, .int o6.2.1, .int o6.2.2, .int v13, .int v14, .ref q15, .int v16])), (q9, .inl (cA 2, 60, .inl tx))] H := hP
    have hD : va_D A [(m0, .inr (10, [.ref q0, .ref q1, .ref q2, .int v3, .ref q4, .int v5, .int v6, .ref q7, .int v8, .ref q9, .int v10, .int o6.2.1, .int o6.2.2, .int v13, .int v14, .ref q15, .int v16])), (q9, .inl (cA 2, 60, .inl tx))] := hD
    refine lv_istore_n hx hb dX6_readFlow_32 rfl hl (Nat.le_of_ble_eq_true rfl) rfl (fun ls hl => ?_)
    have hl : lv_has ls 2 [(1, .int o6.1), (0, .ref m0)] := hl
    refine lv_aload_n hx hb dX6_readFlow_33 rfl (lv_at hl 1 rfl) ?_
    obtain ⟨o8, ho8, h⟩ := bnd_i h
    refine rq_V (v := (some (.int o8))) (As := []) (rest := []) (wc := [(m0, .inr (10, [.ref q0, .ref q1, .ref q2, .int v3, .ref q4, .int v5, .int v6, .ref q7, .int v8, .ref q9, .int v10, .int o6.2.1, .int o6.2.2, .int v13, .int v14, .ref q15, .int v16])), (q9, .inl (cA 2, 60, .inl tx))]) ⟨hx, hb, hml, hfc, hts⟩ hK hP (kX6_isDigit l D cA m0 q0 q1 q2 q4 q7 q9 q15 v3 v5 v6 v8 v10 o6.2.1 o6.2.2 v13 v14 v16 tx ho8) (cwV 0 hts gX6_readFlow_X6_isDigit rfl rfl rfl (by decide +kernel) ⟨(Nat.le_of_ble_eq_true rfl), (Nat.le_of_ble_eq_true rfl)⟩) [0, 1] rfl 0 10 rfl rfl rfl rfl rfl rfl hl.1 (Nat.le_of_ble_eq_true rfl) dX6_readFlow_34 ⟨(Nat.zero_le _), (Nat.zero_le _)⟩ ?_
    refine lv_if_eq (tgt := 52) hx hb dX6_readFlow_37 (by decide) (fun c10 => ?_) (fun c10 => ?_)
    · have h := ite_t c10 h
      refine lv_iload_n hx hb dX6_readFlow_52 rfl (lv_at hl 0 rfl) ?_
      have h := Option.some.inj h
      subst h
      exact hend (adr []) _ _ _ _ _ _ _ rfl rfl (rtn_i _) hP hD hS dX6_readFlow_53
    · have h := ite_f c10 h
      refine lv_bipush (v := 10) hx hb dX6_readFlow_40 (by decide) ?_
      refine lv_iload_n hx hb dX6_readFlow_42 rfl (lv_at hl 0 rfl) ?_
      refine lv_imul hx hb dX6_readFlow_43 ?_
      refine lv_aload_n hx hb dX6_readFlow_44 rfl (lv_at hl 1 rfl) ?_
      obtain ⟨o11, ho11, h⟩ := bnd_i h
      refine gq_V (v := (fun as => (some (.int o11.1)))) (As := []) (rest := [.int (10 * o6.1)]) (wc := [(m0, .inr (10, [.ref q0, .ref q1, .ref q2, .int v3, .ref q4, .int v5, .int v6, .ref q7, .int v8, .ref q9, .int v10, .int o6.2.1, .int o6.2.2, .int v13, .int v14, .ref q15, .int v16])), (q9, .inl (cA 2, 60, .inl tx))]) (wr := []) (w1 := (fun as => [(m0, .inr (10, [.ref q0, .ref q1, .ref q2, .int v3, .ref q4, .int v5, .int v6, .ref q7, .int v8, .ref q9, .int v10, .int o11.2.1, .int o11.2.2, .int v13, .int v14, .ref q15, .int v16])), (q9, .inl (cA 2, 60, .inl tx))])) (ws2 := (fun as => [(m0, .inr (10, [.ref q0, .ref q1, .ref q2, .int v3, .ref q4, .int v5, .int v6, .ref q7, .int v8, .ref q9, .int v10, .int o11.2.1, .int o11.2.2, .int v13, .int v14, .ref q15, .int v16])), (q9, .inl (cA 2, 60, .inl tx))])) (st1 := (fun as => [.int o11.1, .int (10 * o6.1)])) ⟨hx, hb, hml, hfc, hts⟩ hK hP hD hS hA (kX6_digit l D cA m0 q0 q1 q2 q4 q7 q9 q15 v3 v5 v6 v8 v10 o6.2.1 o6.2.2 v13 v14 v16 tx ho11) (cwV 0 hts gX6_readFlow_X6_digit rfl rfl rfl (by decide +kernel) ⟨(Nat.le_of_ble_eq_true rfl), (Nat.le_of_ble_eq_true rfl)⟩) [0, 1] [] [0, 1] rfl rfl rfl rfl (by decide) (fun _ => rfl) rfl 0 10 rfl rfl rfl rfl (fun _ => rfl) rfl hl.1 (Nat.le_of_ble_eq_true rfl) dX6_readFlow_45 ⟨(Nat.le_of_ble_eq_true rfl), (Nat.le_of_ble_eq_true rfl)⟩ (fun as12 H locs hP hD hS => ?_)
      have hP : va_P D vwCl [(m0, .inr (10, [.ref q0, .ref q1, .ref q2, .int v3, .ref q4, .int v5, .int v6, .ref q7, .int v8, .ref q9, .int v10, .int o11.2.1, .int o11.2.2, .int v13, .int v14, .ref q15, .int v16])), (q9, .inl (cA 2, 60, .inl tx))] H := hP
      have hD : va_D A [(m0, .inr (10, [.ref q0, .ref q1, .ref q2, .int v3, .ref q4, .int v5, .int v6, .ref q7, .int v8, .ref q9, .int v10, .int o11.2.1, .int o11.2.2, .int v13, .int v14, .ref q15, .int v16])), (q9, .inl (cA 2, 60, .inl tx))] := hD
      refine lv_iadd hx hb dX6_readFlow_48 ?_
      refine lv_goto (tgt := 53) hx hb dX6_readFlow_49 (by decide) ?_
      have h := Option.some.inj h
      subst h
      exact hend (adr []) _ _ _ _ _ _ _ rfl rfl (rtn_i _) hP hD hS dX6_readFlow_53
  · have h := ite_t c5 h
    refine lv_aload_n hx hb dX6_readFlow_16 rfl (lv_at hl 0 rfl) ?_
    refine va_ldcS hx hb hfc (hEV.2.2.2.2.2.2.2.2 (RX6, 226, "-", 13) (by decide +kernel)) dX6_readFlow_17 ?_
    obtain ⟨o13, ho13, h⟩ := bnd_i h
    refine gqE_V (G := G) (v := (fun as => none)) (As := [.ref (G.1 13)]) (rest := []) (wc := [(m0, .inr (10, [.ref q0, .ref q1, .ref q2, .int v3, .ref q4, .int v5, .int v6, .ref q7, .int v8, .ref q9, .int v10, .int o1.1, .int o1.2, .int v13, .int v14, .ref q15, .int v16])), (q9, .inl (cA 2, 60, .inl tx))]) (wr := []) (w1 := (fun as => [(m0, .inr (10, [.ref q0, .ref q1, .ref q2, .int v3, .ref q4, .int v5, .int v6, .ref q7, .int v8, .ref q9, .int v10, .int o13.1, .int o13.2, .int v13, .int v14, .ref q15, .int v16])), (q9, .inl (cA 2, 60, .inl tx))])) (ws2 := (fun as => [(m0, .inr (10, [.ref q0, .ref q1, .ref q2, .int v3, .ref q4, .int v5, .int v6, .ref q7, .int v8, .ref q9, .int v10, .int o13.1, .int o13.2, .int v13, .int v14, .ref q15, .int v16])), (q9, .inl (cA 2, 60, .inl tx))])) (st1 := (fun as => [])) ⟨hx, hb, hml, hfc, hts⟩ hK hP hD hS hA hEV (kX6_skip l D cA G m0 q0 q1 q2 q4 q7 q9 q15 N 13 v3 v5 v6 v8 v10 o1.1 o1.2 v13 v14 v16 tx (by decide) ho13) (cwV 1 hts gX6_readFlow_X6_skip rfl rfl rfl (by decide +kernel) ⟨(Nat.le_of_ble_eq_true rfl), (Nat.le_of_ble_eq_true rfl)⟩) [0, 1] [] [0, 1] rfl rfl rfl rfl (by decide) (fun _ => rfl) rfl 0 10 rfl rfl rfl rfl (fun _ => rfl) rfl hl.1 (Nat.le_of_ble_eq_true rfl) dX6_readFlow_19 ⟨(Nat.le_of_ble_eq_true rfl), (Nat.le_of_ble_eq_true rfl)⟩ (fun as14 H locs hP hD hS => ?_)
    have hP : va_P D vwCl [(m0, .inr (10, [.ref q0, .ref q1, .ref q2, .int v3, .ref q4, .int v5, .int v6, .ref q7, .int v8, .ref q9, .int v10, .int o13.1, .int o13.2, .int v13, .int v14, .ref q15, .int v16])), (q9, .inl (cA 2, 60, .inl tx))] H := hP
    have hD : va_D A [(m0, .inr (10, [.ref q0, .ref q1, .ref q2, .int v3, .ref q4, .int v5, .int v6, .ref q7, .int v8, .ref q9, .int v10, .int o13.1, .int o13.2, .int v13, .int v14, .ref q15, .int v16])), (q9, .inl (cA 2, 60, .inl tx))] := hD
    refine lv_aload_n hx hb dX6_readFlow_22 rfl (lv_at hl 0 rfl) ?_
    obtain ⟨o15, ho15, h⟩ := bnd_i h
    refine gq_V (v := (fun as => (some (.int o15.1)))) (As := []) (rest := []) (wc := [(m0, .inr (10, [.ref q0, .ref q1, .ref q2, .int v3, .ref q4, .int v5, .int v6, .ref q7, .int v8, .ref q9, .int v10, .int o13.1, .int o13.2, .int v13, .int v14, .ref q15, .int v16])), (q9, .inl (cA 2, 60, .inl tx))]) (wr := []) (w1 := (fun as => [(m0, .inr (10, [.ref q0, .ref q1, .ref q2, .int v3, .ref q4, .int v5, .int v6, .ref q7, .int v8, .ref q9, .int v10, .int o15.2.1, .int o15.2.2, .int v13, .int v14, .ref q15, .int v16])), (q9, .inl (cA 2, 60, .inl tx))])) (ws2 := (fun as => [(m0, .inr (10, [.ref q0, .ref q1, .ref q2, .int v3, .ref q4, .int v5, .int v6, .ref q7, .int v8, .ref q9, .int v10, .int o15.2.1, .int o15.2.2, .int v13, .int v14, .ref q15, .int v16])), (q9, .inl (cA 2, 60, .inl tx))])) (st1 := (fun as => [.int o15.1])) ⟨hx, hb, hml, hfc, hts⟩ hK hP hD hS hA (kX6_digit l D cA m0 q0 q1 q2 q4 q7 q9 q15 v3 v5 v6 v8 v10 o13.1 o13.2 v13 v14 v16 tx ho15) (cwV 0 hts gX6_readFlow_X6_digit rfl rfl rfl (by decide +kernel) ⟨(Nat.le_of_ble_eq_true rfl), (Nat.le_of_ble_eq_true rfl)⟩) [0, 1] [] [0, 1] rfl rfl rfl rfl (by decide) (fun _ => rfl) rfl 0 10 rfl rfl rfl rfl (fun _ => rfl) rfl hl.1 (Nat.le_of_ble_eq_true rfl) dX6_readFlow_23 ⟨(Nat.le_of_ble_eq_true rfl), (Nat.le_of_ble_eq_true rfl)⟩ (fun as16 H locs hP hD hS => ?_)
    have hP : va_P D vwCl [(m0, .inr (10, [.ref q0, .ref q1, .ref q2, .int v3, .ref q4, .int v5, .int v6, .ref q7, .int v8, .ref q9, .int v10, .int o15.2.1, .int o15.2.2, .int v13, .int v14, .ref q15, .int v16])), (q9, .inl (cA 2, 60, .inl tx))] H := hP
    have hD : va_D A [(m0, .inr (10, [.ref q0, .ref q1, .ref q2, .int v3, .ref q4, .int v5, .int v6, .ref q7, .int v8, .ref q9, .int v10, .int o15.2.1, .int o15.2.2, .int v13, .int v14, .ref q15, .int v16])), (q9, .inl (cA 2, 60, .inl tx))] := hD
    refine lv_ineg hx hb dX6_readFlow_26 ?_
    have h := Option.some.inj h
    subst h
    exact hend (adr []) _ _ _ _ _ _ _ rfl rfl (rtn_i _) hP hD hS dX6_readFlow_27

noncomputable def LX6_readCommand_70 (N : Nat) (o9 : Int32) (v16 : Int32) (o2 : Int32) (v10 : Int32) (tx : Nat → Int32) : Nat → (Nat → Int32) → Int32 → Int32 → Int32 → Option (Int32 × Int32 × Int32 × (Nat → Int32))
  | 0, _, _, _, _ => none
  | fu + 1, f2_70, v0_11_70, v0_12_70, x4_70 => if o9 ≤ x4_70 then (some ((v0_11_70, v0_12_70, v16 + 1, f2_70))) else (if v0_12_70 = 0 then (bnd (if o2 = 10 then (bnd (SX6_readFlow N v10 v0_11_70 v0_12_70 tx) (fun o18 : Int32 × Int32 × Int32 => some ((o18.1, o18.2.1, o18.2.2)))) else (bnd (SX6_readNumber N v10 v0_11_70 v0_12_70 tx) (fun o16 : Int32 × Int32 × Int32 => some ((o16.1, o16.2.1, o16.2.2))))) (fun o15 : Int32 × Int32 × Int32 => gd (vp_in (((4 * v16) + 1) + x4_70) 240) (LX6_readCommand_70 N o9 v16 o2 v10 tx fu (upd f2_70 (Int32.toNatClampNeg (((4 * v16) + 1) + x4_70)) o15.1) o15.2.1 o15.2.2 (x4_70 + 1)))) else (some ((v0_11_70, v0_12_70, v16 + 1, f2_70))))
noncomputable def SX6_readCommand (N : Nat) (v10 : Int32) (v11 : Int32) (v12 : Int32) (v16 : Int32) (tx : Nat → Int32) (cd : Nat → Int32) : Option (Int32 × Int32 × Int32 × (Nat → Int32)) := if v12 = 0 then (bnd (SX6_word v10 v11 tx) (fun o2 : Int32 => bnd (SX6_skip N (SX6_textOf o2) v10 v11 v12 tx) (fun o5 : Int32 × Int32 => gd (vp_in (4 * v16) 240) (lt_ (if 3 ≤ o2 then (if o2 = 7 then (0) else (if o2 = 8 then (2) else (1))) else (3)) (fun o9 : Int32 => LX6_readCommand_70 N o9 v16 o2 v10 tx N (upd cd (Int32.toNatClampNeg (4 * v16)) o2) o5.1 o5.2 0))))) else (some ((v11, v12, v16, cd)))
theorem iX6_readCommand_X6 : ∀ w ∈ wsX60, w ∈ wsX6_readCommand := fun _ h => List.mem_cons_of_mem _ (List.mem_append_left _ (List.mem_append_left _ (List.mem_append_right _ h)))
abbrev RM_X6_readCommand : Room := { frames := 6, cells := 0, slots := 0, locals := 132 }
set_option maxHeartbeats 4000000 in
theorem kX6_readCommand (l : Launch) (D : va_G) (cA : Nat → ClassId) (G : eG) (m0 q0 q1 q2 q4 q7 q9 q15 : Nat) (N : Nat) (v3 : Int32) (v5 : Int32) (v6 : Int32) (v8 : Int32) (v10 : Int32) (v11 : Int32) (v12 : Int32) (v13 : Int32) (v14 : Int32) (v16 : Int32) (tx : Nat → Int32) (cd : Nat → Int32) {r : Int32 × Int32 × Int32 × (Nat → Int32)} (hr : SX6_readCommand N v10 v11 v12 v16 tx cd = some r) {sz : Nat} : Met l yX6_readCommand wsX6_readCommand RM_X6_readCommand (va_Pc [.ref m0] (gqEB G D cA [(m0, .inr (10, [.ref q0, .ref q1, .ref q2, .int v3, .ref q4, .int v5, .int v6, .ref q7, .int v8, .ref q9, .int v10, .int v11, .int v12, .int v13, .int v14, .ref q15, .int v16])), (q9, .inl (cA 2, 60, .inl tx)), (q15, .inl (cA 0, 240, .inl cd))] sz)) (gqQ D (fun as => none) (fun as => [(m0, .inr (10, [.ref q0, .ref q1, .ref q2, .int v3, .ref q4, .int v5, .int v6, .ref q7, .int v8, .ref q9, .int v10, .int r.1, .int r.2.1, .int v13, .int v14, .ref q15, .int r.2.2.1])), (q9, .inl (cA 2, 60, .inl tx)), (q15, .inl (cA 0, 240, .inl r.2.2.2))]) (va_A [(m0, .inr (10, [.ref q0, .ref q1, .ref q2, .int v3, .ref q4, .int v5, .int v6, .ref q7, .int v8, .ref q9, .int v10, .int v11, .int v12, .int v13, .int v14, .ref q15, .int v16])), (q9, .inl (cA 2, 60, .inl tx)), (q15, .inl (cA 0, 240, .inl cd))] sz)) 0 0 (va_A [(m0, .inr (10, [.ref q0, .ref q1, .ref q2, .int v3, .ref q4, .int v5, .int v6, .ref q7, .int v8, .ref q9, .int v10, .int v11, .int v12, .int v13, .int v14, .ref q15, .int v16])), (q9, .inl (cA 2, 60, .inl tx)), (q15, .inl (cA 0, 240, .inl cd))] sz) := by
  refine gqE_ofW (cc := cX6_readCommand) (maxL := 5) (ret := none) (by decide) rfl (Nat.le_of_ble_eq_true rfl) (fun p e s m args below meth c ls Q A hx hb hml hts hfc hmn hK hP hD hS hA hEV hl hend => ?_)
  have hfc : s.vm.findClass RX6 = some m.cls := hfc
  have hl : lv_has ls 5 [(0, .ref m0)] := hl
  have h := hr
  clear hr
  unfold SX6_readCommand at h
  refine lv_aload_n hx hb dX6_readCommand_0 rfl (lv_at hl 0 rfl) ?_
  refine va_get (D := D) (ci := 10) (v := .int v12) (C := RX6) (T := TX6) (N := 17) hx hb hts iX6_readCommand_X6 hfc hK hP 0 rfl rfl 12 (by decide) (hts (.fieldLink RX6 202 "BathtubTidesModel" "isWrong" "Z") (List.mem_of_getElem? (i := 1) rfl)) (fun _ h9 => h9) rfl dX6_readCommand_1 ?_
  refine lv_if_eq (tgt := 8) hx hb dX6_readCommand_4 (by decide) (fun c1 => ?_) (fun c1 => ?_)
  · have h := ite_t c1 h
    refine lv_aload_n hx hb dX6_readCommand_8 rfl (lv_at hl 0 rfl) ?_
    obtain ⟨o2, ho2, h⟩ := bnd_i h
    refine rq_V (v := (some (.int o2))) (As := []) (rest := []) (wc := [(m0, .inr (10, [.ref q0, .ref q1, .ref q2, .int v3, .ref q4, .int v5, .int v6, .ref q7, .int v8, .ref q9, .int v10, .int v11, .int v12, .int v13, .int v14, .ref q15, .int v16])), (q9, .inl (cA 2, 60, .inl tx))]) ⟨hx, hb, hml, hfc, hts⟩ hK hP (kX6_word l D cA m0 q0 q1 q2 q4 q7 q9 q15 v3 v5 v6 v8 v10 v11 v12 v13 v14 v16 tx ho2) (cwV 0 hts gX6_readCommand_X6_word rfl rfl rfl (by decide +kernel) ⟨(Nat.le_of_ble_eq_true rfl), (Nat.le_of_ble_eq_true rfl)⟩) [0, 1] rfl 0 10 rfl rfl rfl rfl rfl rfl hl.1 (Nat.le_of_ble_eq_true rfl) dX6_readCommand_9 ⟨(Nat.zero_le _), (Nat.zero_le _)⟩ ?_
    refine lv_istore_n hx hb dX6_readCommand_12 rfl hl (Nat.le_of_ble_eq_true rfl) rfl (fun ls hl => ?_)
    have hl : lv_has ls 5 [(1, .int o2), (0, .ref m0)] := hl
    refine lv_iconst (v := 4) hx hb dX6_readCommand_13 (by decide) ?_
    refine lv_aload_n hx hb dX6_readCommand_14 rfl (lv_at hl 1 rfl) ?_
    refine va_get (D := D) (ci := 10) (v := .int v16) (C := RX6) (T := TX6) (N := 17) hx hb hts iX6_readCommand_X6 hfc hK hP 0 rfl rfl 16 (by decide) (hts (.fieldLink RX6 255 "BathtubTidesModel" "commandMany" "I") (List.mem_of_getElem? (i := 2) rfl)) (fun _ h9 => h9) rfl dX6_readCommand_15 ?_
    refine lv_imul hx hb dX6_readCommand_18 ?_
    refine lv_istore_n hx hb dX6_readCommand_19 rfl hl (Nat.le_of_ble_eq_true rfl) rfl (fun ls hl => ?_)
    have hl : lv_has ls 5 [(2, .int (4 * v16)), (1, .int o2), (0, .ref m0)] := hl
    refine lv_aload_n hx hb dX6_readCommand_20 rfl (lv_at hl 2 rfl) ?_
    refine lv_aload_n hx hb dX6_readCommand_21 rfl (lv_at hl 2 rfl) ?_
    refine lv_iload_n hx hb dX6_readCommand_22 rfl (lv_at hl 1 rfl) ?_
    refine rqE_V (G := G) (v := (some (.ref (G.1 (SX6_textOf o2))))) (As := [.int o2]) (rest := [.ref m0]) (wc := [(m0, .inr (10, [.ref q0, .ref q1, .ref q2, .int v3, .ref q4, .int v5, .int v6, .ref q7, .int v8, .ref q9, .int v10, .int v11, .int v12, .int v13, .int v14, .ref q15, .int v16]))]) ⟨hx, hb, hml, hfc, hts⟩ hK hP hS hEV (kX6_textOf l D cA G m0 q0 q1 q2 q4 q7 q9 q15 v3 v5 v6 v8 v10 v11 v12 v13 v14 v16 o2 rfl) (cwV 1 hts gX6_readCommand_X6_textOf rfl rfl rfl (by decide +kernel) ⟨(Nat.le_of_ble_eq_true rfl), (Nat.le_of_ble_eq_true rfl)⟩) [0] rfl 0 10 rfl rfl rfl rfl rfl rfl hl.1 (Nat.le_of_ble_eq_true rfl) dX6_readCommand_23 ⟨(Nat.zero_le _), (Nat.zero_le _)⟩ ?_
    obtain ⟨o5, ho5, h⟩ := bnd_i h
    refine gqE_V (G := G) (v := (fun as => none)) (As := [.ref (G.1 (SX6_textOf o2))]) (rest := []) (wc := [(m0, .inr (10, [.ref q0, .ref q1, .ref q2, .int v3, .ref q4, .int v5, .int v6, .ref q7, .int v8, .ref q9, .int v10, .int v11, .int v12, .int v13, .int v14, .ref q15, .int v16])), (q9, .inl (cA 2, 60, .inl tx))]) (wr := [(q15, .inl (cA 0, 240, .inl cd))]) (w1 := (fun as => [(m0, .inr (10, [.ref q0, .ref q1, .ref q2, .int v3, .ref q4, .int v5, .int v6, .ref q7, .int v8, .ref q9, .int v10, .int o5.1, .int o5.2, .int v13, .int v14, .ref q15, .int v16])), (q9, .inl (cA 2, 60, .inl tx))])) (ws2 := (fun as => [(m0, .inr (10, [.ref q0, .ref q1, .ref q2, .int v3, .ref q4, .int v5, .int v6, .ref q7, .int v8, .ref q9, .int v10, .int o5.1, .int o5.2, .int v13, .int v14, .ref q15, .int v16])), (q9, .inl (cA 2, 60, .inl tx)), (q15, .inl (cA 0, 240, .inl cd))])) (st1 := (fun as => [])) ⟨hx, hb, hml, hfc, hts⟩ hK hP hD hS hA hEV (kX6_skip l D cA G m0 q0 q1 q2 q4 q7 q9 q15 N (SX6_textOf o2) v3 v5 v6 v8 v10 v11 v12 v13 v14 v16 tx (SX6_textOf_lt _) ho5) (cwV 1 hts gX6_readCommand_X6_skip rfl rfl rfl (by decide +kernel) ⟨(Nat.le_of_ble_eq_true rfl), (Nat.le_of_ble_eq_true rfl)⟩) [0, 1] [2] [1, 2, 0] rfl rfl rfl rfl (by decide) (fun _ => rfl) rfl 0 10 rfl rfl rfl rfl (fun _ => rfl) rfl hl.1 (Nat.le_of_ble_eq_true rfl) dX6_readCommand_26 ⟨(Nat.le_of_ble_eq_true rfl), (Nat.le_of_ble_eq_true rfl)⟩ (fun as6 H locs hP hD hS => ?_)
    have hP : va_P D vwCl [(m0, .inr (10, [.ref q0, .ref q1, .ref q2, .int v3, .ref q4, .int v5, .int v6, .ref q7, .int v8, .ref q9, .int v10, .int o5.1, .int o5.2, .int v13, .int v14, .ref q15, .int v16])), (q9, .inl (cA 2, 60, .inl tx)), (q15, .inl (cA 0, 240, .inl cd))] H := hP
    have hD : va_D A [(m0, .inr (10, [.ref q0, .ref q1, .ref q2, .int v3, .ref q4, .int v5, .int v6, .ref q7, .int v8, .ref q9, .int v10, .int o5.1, .int o5.2, .int v13, .int v14, .ref q15, .int v16])), (q9, .inl (cA 2, 60, .inl tx)), (q15, .inl (cA 0, 240, .inl cd))] := hD
    refine lv_aload_n hx hb dX6_readCommand_29 rfl (lv_at hl 2 rfl) ?_
    refine va_get (D := D) (ci := 10) (v := .ref q15) (C := RX6) (T := TX6) (N := 17) hx hb hts iX6_readCommand_X6 hfc hK hP 0 rfl rfl 15 (by decide) (hts (.fieldLink RX6 36 "BathtubTidesModel" "commands" "[I") (List.mem_of_getElem? (i := 3) rfl)) (fun _ h9 => h9) rfl dX6_readCommand_30 ?_
    refine lv_iload_n hx hb dX6_readCommand_33 rfl (lv_at hl 0 rfl) ?_
    refine lv_iload_n hx hb dX6_readCommand_34 rfl (lv_at hl 1 rfl) ?_
    obtain ⟨g7, h⟩ := gd_i h
    refine va_iast hx hb hK hP hD hS 2 0 rfl rfl g7 dX6_readCommand_35 (fun H locs hP hD hS => ?_)
    have hP : va_P D vwCl [(m0, .inr (10, [.ref q0, .ref q1, .ref q2, .int v3, .ref q4, .int v5, .int v6, .ref q7, .int v8, .ref q9, .int v10, .int o5.1, .int o5.2, .int v13, .int v14, .ref q15, .int v16])), (q9, .inl (cA 2, 60, .inl tx)), (q15, .inl (cA 0, 240, .inl (upd cd (Int32.toNatClampNeg (4 * v16)) o2)))] H := hP
    have hD : va_D A [(m0, .inr (10, [.ref q0, .ref q1, .ref q2, .int v3, .ref q4, .int v5, .int v6, .ref q7, .int v8, .ref q9, .int v10, .int o5.1, .int o5.2, .int v13, .int v14, .ref q15, .int v16])), (q9, .inl (cA 2, 60, .inl tx)), (q15, .inl (cA 0, 240, .inl (upd cd (Int32.toNatClampNeg (4 * v16)) o2)))] := hD
    refine lv_iload_n hx hb dX6_readCommand_36 rfl (lv_at hl 1 rfl) ?_
    refine lv_iconst (v := 3) hx hb dX6_readCommand_37 (by decide) ?_
    obtain ⟨o9, ho9, h⟩ := lt_i h
    have ko9 : ∀ (ls : Array Slot) (H : Heap) (locs : List Loc), lv_has ls 5 [(0, .ref m0), (1, .int o2), (2, .int (4 * v16))] → va_P D vwCl [(m0, .inr (10, [.ref q0, .ref q1, .ref q2, .int v3, .ref q4, .int v5, .int v6, .ref q7, .int v8, .ref q9, .int v10, .int o5.1, .int o5.2, .int v13, .int v14, .ref q15, .int v16])), (q9, .inl (cA 2, 60, .inl tx)), (q15, .inl (cA 0, 240, .inl (upd cd (Int32.toNatClampNeg (4 * v16)) o2)))] H → va_D A [(m0, .inr (10, [.ref q0, .ref q1, .ref q2, .int v3, .ref q4, .int v5, .int v6, .ref q7, .int v8, .ref q9, .int v10, .int o5.1, .int o5.2, .int v13, .int v14, .ref q15, .int v16])), (q9, .inl (cA 2, 60, .inl tx)), (q15, .inl (cA 0, 240, .inl (upd cd (Int32.toNatClampNeg (4 * v16)) o2)))] → va_S A s.heap H locs → W p l e RM_X6_readCommand s m args below meth c H locs 0 0 Q (F0 m 66 ls [.int o9]) := by
      intro ls H locs hl hP hD hS
      refine lv_istore_n hx hb dX6_readCommand_66 rfl hl (Nat.le_of_ble_eq_true rfl) rfl (fun ls hl => ?_)
      have hl : lv_has ls 5 [(3, .int o9), (0, .ref m0), (1, .int o2), (2, .int (4 * v16))] := hl
      refine lv_iconst (v := 0) hx hb dX6_readCommand_67 (by decide) ?_
      refine lv_istore hx hb dX6_readCommand_68 hl (Nat.le_of_ble_eq_true rfl) rfl (fun ls hl => ?_)
      have hl : lv_has ls 5 [(4, .int 0), (3, .int o9), (0, .ref m0), (1, .int o2), (2, .int (4 * v16))] := hl
      have hLX6_readCommand_70 : ∀ (fu : Nat) (f2_70 : Nat → Int32) (v0_11_70 : Int32) (v0_12_70 : Int32) (x4_70 : Int32) (ls : Array Slot) (H : Heap) (locs : List Loc), lv_has ls 5 [(0, .ref m0), (1, .int o2), (2, .int (4 * v16)), (3, .int o9), (4, .int x4_70)] → va_P D vwCl [(m0, .inr (10, [.ref q0, .ref q1, .ref q2, .int v3, .ref q4, .int v5, .int v6, .ref q7, .int v8, .ref q9, .int v10, .int v0_11_70, .int v0_12_70, .int v13, .int v14, .ref q15, .int v16])), (q9, .inl (cA 2, 60, .inl tx)), (q15, .inl (cA 0, 240, .inl f2_70))] H → va_D A [(m0, .inr (10, [.ref q0, .ref q1, .ref q2, .int v3, .ref q4, .int v5, .int v6, .ref q7, .int v8, .ref q9, .int v10, .int v0_11_70, .int v0_12_70, .int v13, .int v14, .ref q15, .int v16])), (q9, .inl (cA 2, 60, .inl tx)), (q15, .inl (cA 0, 240, .inl f2_70))] → va_S A s.heap H locs → LX6_readCommand_70 N o9 v16 o2 v10 tx fu f2_70 v0_11_70 v0_12_70 x4_70 = some r → W p l e RM_X6_readCommand s m args below meth c H locs 0 0 Q (F0 m 70 ls []) := by
        intro fu
        induction fu with
        | zero =>
          intro f2_70 v0_11_70 v0_12_70 x4_70 ls H locs hl hP hD hS h
          rw [LX6_readCommand_70] at h
          exact nn h
        | succ fu ih =>
          intro f2_70 v0_11_70 v0_12_70 x4_70 ls H locs hl hP hD hS h
          rw [LX6_readCommand_70] at h
          refine lv_iload hx hb dX6_readCommand_70 (lv_at hl 4 rfl) ?_
          refine lv_iload_n hx hb dX6_readCommand_72 rfl (lv_at hl 3 rfl) ?_
          refine lv_icmp_ge (tgt := 117) hx hb dX6_readCommand_73 (by decide) (fun c12 => ?_) (fun c12 => ?_)
          · have h := ite_t c12 h
            refine lv_aload_n hx hb dX6_readCommand_117 rfl (lv_at hl 0 rfl) ?_
            refine lv_dup hx hb dX6_readCommand_118 rfl ?_
            refine va_get (D := D) (ci := 10) (v := .int v16) (C := RX6) (T := TX6) (N := 17) hx hb hts iX6_readCommand_X6 hfc hK hP 0 rfl rfl 16 (by decide) (hts (.fieldLink RX6 255 "BathtubTidesModel" "commandMany" "I") (List.mem_of_getElem? (i := 2) rfl)) (fun _ h9 => h9) rfl dX6_readCommand_119 ?_
            refine lv_iconst (v := 1) hx hb dX6_readCommand_122 (by decide) ?_
            refine lv_iadd hx hb dX6_readCommand_123 ?_
            refine va_put (D := D) (ci := 10) (v := .int (v16 + 1)) (ty := .int) (C := RX6) (T := TX6) (N := 17) hx hb hts iX6_readCommand_X6 tyX6 tyX6_ok nmX6 hfc hK hP hD hS 0 rfl rfl 16 (by decide) (hts (.fieldLink RX6 255 "BathtubTidesModel" "commandMany" "I") (List.mem_of_getElem? (i := 2) rfl)) (fun _ h9 => h9) rfl (by decide +kernel) rfl rfl (Nat.le_of_ble_eq_true rfl) dX6_readCommand_124 (fun H locs hP hD hS => ?_)
            have hP : va_P D vwCl [(m0, .inr (10, [.ref q0, .ref q1, .ref q2, .int v3, .ref q4, .int v5, .int v6, .ref q7, .int v8, .ref q9, .int v10, .int v0_11_70, .int v0_12_70, .int v13, .int v14, .ref q15, .int (v16 + 1)])), (q9, .inl (cA 2, 60, .inl tx)), (q15, .inl (cA 0, 240, .inl f2_70))] H := hP
            have hD : va_D A [(m0, .inr (10, [.ref q0, .ref q1, .ref q2, .int v3, .ref q4, .int v5, .int v6, .ref q7, .int v8, .ref q9, .int v10, .int v0_11_70, .int v0_12_70, .int v13, .int v14, .ref q15, .int (v16 + 1)])), (q9, .inl (cA 2, 60, .inl tx)), (q15, .inl (cA 0, 240, .inl f2_70))] := hD
            have h := Option.some.inj h
            subst h
            exact hend (adr []) _ _ _ _ _ _ _ rfl rfl (rtn_v) hP hD hS dX6_readCommand_127
          · have h := ite_f c12 h
            refine lv_aload_n hx hb dX6_readCommand_76 rfl (lv_at hl 0 rfl) ?_
            refine va_get (D := D) (ci := 10) (v := .int v0_12_70) (C := RX6) (T := TX6) (N := 17) hx hb hts iX6_readCommand_X6 hfc hK hP 0 rfl rfl 12 (by decide) (hts (.fieldLink RX6 202 "BathtubTidesModel" "isWrong" "Z") (List.mem_of_getElem? (i := 1) rfl)) (fun _ h9 => h9) rfl dX6_readCommand_77 ?_
            refine lv_if_ne (tgt := 117) hx hb dX6_readCommand_80 (by decide) (fun c13 => ?_) (fun c13 => ?_)
            · have h := ite_f c13 h
              refine lv_aload_n hx hb dX6_readCommand_117 rfl (lv_at hl 0 rfl) ?_
              refine lv_dup hx hb dX6_readCommand_118 rfl ?_
              refine va_get (D := D) (ci := 10) (v := .int v16) (C := RX6) (T := TX6) (N := 17) hx hb hts iX6_readCommand_X6 hfc hK hP 0 rfl rfl 16 (by decide) (hts (.fieldLink RX6 255 "BathtubTidesModel" "commandMany" "I") (List.mem_of_getElem? (i := 2) rfl)) (fun _ h9 => h9) rfl dX6_readCommand_119 ?_
              refine lv_iconst (v := 1) hx hb dX6_readCommand_122 (by decide) ?_
              refine lv_iadd hx hb dX6_readCommand_123 ?_
              refine va_put (D := D) (ci := 10) (v := .int (v16 + 1)) (ty := .int) (C := RX6) (T := TX6) (N := 17) hx hb hts iX6_readCommand_X6 tyX6 tyX6_ok nmX6 hfc hK hP hD hS 0 rfl rfl 16 (by decide) (hts (.fieldLink RX6 255 "BathtubTidesModel" "commandMany" "I") (List.mem_of_getElem? (i := 2) rfl)) (fun _ h9 => h9) rfl (by decide +kernel) rfl rfl (Nat.le_of_ble_eq_true rfl) dX6_readCommand_124 (fun H locs hP hD hS => ?_)
              have hP : va_P D vwCl [(m0, .inr (10, [.ref q0, .ref q1, .ref q2, .int v3, .ref q4, .int v5, .int v6, .ref q7, .int v8, .ref q9, .int v10, .int v0_11_70, .int v0_12_70, .int v13, .int v14, .ref q15, .int (v16 + 1)])), (q9, .inl (cA 2, 60, .inl tx)), (q15, .inl (cA 0, 240, .inl f2_70))] H := hP
              have hD : va_D A [(m0, .inr (10, [.ref q0, .ref q1, .ref q2, .int v3, .ref q4, .int v5, .int v6, .ref q7, .int v8, .ref q9, .int v10, .int v0_11_70, .int v0_12_70, .int v13, .int v14, .ref q15, .int (v16 + 1)])), (q9, .inl (cA 2, 60, .inl tx)), (q15, .inl (cA 0, 240, .inl f2_70))] := hD
              have h := Option.some.inj h
              subst h
              exact hend (adr []) _ _ _ _ _ _ _ rfl rfl (rtn_v) hP hD hS dX6_readCommand_127
            · have h := ite_t c13 h
              refine lv_aload_n hx hb dX6_readCommand_83 rfl (lv_at hl 0 rfl) ?_
              refine va_get (D := D) (ci := 10) (v := .ref q15) (C := RX6) (T := TX6) (N := 17) hx hb hts iX6_readCommand_X6 hfc hK hP 0 rfl rfl 15 (by decide) (hts (.fieldLink RX6 36 "BathtubTidesModel" "commands" "[I") (List.mem_of_getElem? (i := 3) rfl)) (fun _ h9 => h9) rfl dX6_readCommand_84 ?_
              refine lv_iload_n hx hb dX6_readCommand_87 rfl (lv_at hl 2 rfl) ?_
              refine lv_iconst (v := 1) hx hb dX6_readCommand_88 (by decide) ?_
              refine lv_iadd hx hb dX6_readCommand_89 ?_
              refine lv_iload hx hb dX6_readCommand_90 (lv_at hl 4 rfl) ?_
              refine lv_iadd hx hb dX6_readCommand_92 ?_
              refine lv_iload_n hx hb dX6_readCommand_93 rfl (lv_at hl 1 rfl) ?_
              refine lv_bipush (v := 10) hx hb dX6_readCommand_94 (by decide) ?_
              obtain ⟨o15, ho15, h⟩ := bnd_i h
              have ko15 : ∀ (ls : Array Slot) (H : Heap) (locs : List Loc), lv_has ls 5 [(0, .ref m0), (1, .int o2), (2, .int (4 * v16)), (3, .int o9), (4, .int x4_70)] → va_P D vwCl [(m0, .inr (10, [.ref q0, .ref q1, .ref q2, .int v3, .ref q4, .int v5, .int v6, .ref q7, .int v8, .ref q9, .int v10, .int o15.2.1, .int o15.2.2, .int v13, .int v14, .ref q15, .int v16])), (q9, .inl (cA 2, 60, .inl tx)), (q15, .inl (cA 0, 240, .inl f2_70))] H → va_D A [(m0, .inr (10, [.ref q0, .ref q1, .ref q2, .int v3, .ref q4, .int v5, .int v6, .ref q7, .int v8, .ref q9, .int v10, .int o15.2.1, .int o15.2.2, .int v13, .int v14, .ref q15, .int v16])), (q9, .inl (cA 2, 60, .inl tx)), (q15, .inl (cA 0, 240, .inl f2_70))] → va_S A s.heap H locs → W p l e RM_X6_readCommand s m args below meth c H locs 0 0 Q (F0 m 110 ls [.int o15.1, .int (((4 * v16) + 1) + x4_70), .ref q15]) := by
                intro ls H locs hl hP hD hS
                obtain ⟨g20, h⟩ := gd_i h
                refine va_iast hx hb hK hP hD hS 2 0 rfl rfl g20 dX6_readCommand_110 (fun H locs hP hD hS => ?_)
                have hP : va_P D vwCl [(m0, .inr (10, [.ref q0, .ref q1, .ref q2, .int v3, .ref q4, .int v5, .int v6, .ref q7, .int v8, .ref q9, .int v10, .int o15.2.1, .int o15.2.2, .int v13, .int v14, .ref q15, .int v16])), (q9, .inl (cA 2, 60, .inl tx)), (q15, .inl (cA 0, 240, .inl (upd f2_70 (Int32.toNatClampNeg (((4 * v16) + 1) + x4_70)) o15.1)))] H := hP
                have hD : va_D A [(m0, .inr (10, [.ref q0, .ref q1, .ref q2, .int v3, .ref q4, .int v5, .int v6, .ref q7, .int v8, .ref q9, .int v10, .int o15.2.1, .int o15.2.2, .int v13, .int v14, .ref q15, .int v16])), (q9, .inl (cA 2, 60, .inl tx)), (q15, .inl (cA 0, 240, .inl (upd f2_70 (Int32.toNatClampNeg (((4 * v16) + 1) + x4_70)) o15.1)))] := hD
                refine lv_iinc (k := 4) (v := x4_70 + 1) hx hb dX6_readCommand_111 hl rfl (congrArg (fun z => x4_70 + z) lit1) (Nat.le_of_ble_eq_true rfl) rfl (fun ls hl => ?_)
                have hl : lv_has ls 5 [(4, .int (x4_70 + 1)), (0, .ref m0), (1, .int o2), (2, .int (4 * v16)), (3, .int o9)] := hl
                refine lv_goto (tgt := 70) hx hb dX6_readCommand_114 (by decide) ?_
                exact ih (upd f2_70 (Int32.toNatClampNeg (((4 * v16) + 1) + x4_70)) o15.1) o15.2.1 o15.2.2 (x4_70 + 1) _ _ _ (lv_sub hl [1, 2, 3, 4, 0] rfl) hP hD hS h
              clear h
              have h := ho15
              clear ho15
              refine lv_icmp_ne (tgt := 106) hx hb dX6_readCommand_96 (by decide) (fun c14 => ?_) (fun c14 => ?_)
              · have h := ite_f c14 h
                refine lv_aload_n hx hb dX6_readCommand_106 rfl (lv_at hl 0 rfl) ?_
                obtain ⟨o16, ho16, h⟩ := bnd_i h
                refine gqE_V (G := G) (v := (fun as => (some (.int o16.1)))) (As := []) (rest := [.int (((4 * v16) + 1) + x4_70), .ref q15]) (wc := [(m0, .inr (10, [.ref q0, .ref q1, .ref q2, .int v3, .ref q4, .int v5, .int v6, .ref q7, .int v8, .ref q9, .int v10, .int v0_11_70, .int v0_12_70, .int v13, .int v14, .ref q15, .int v16])), (q9, .inl (cA 2, 60, .inl tx))]) (wr := [(q15, .inl (cA 0, 240, .inl f2_70))]) (w1 := (fun as => [(m0, .inr (10, [.ref q0, .ref q1, .ref q2, .int v3, .ref q4, .int v5, .int v6, .ref q7, .int v8, .ref q9, .int v10, .int o16.2.1, .int o16.2.2, .int v13, .int v14, .ref q15, .int v16])), (q9, .inl (cA 2, 60, .inl tx))])) (ws2 := (fun as => [(m0, .inr (10, [.ref q0, .ref q1, .ref q2, .int v3, .ref q4, .int v5, .int v6, .ref q7, .int v8, .ref q9, .int v10, .int o16.2.1, .int o16.2.2, .int v13, .int v14, .ref q15, .int v16])), (q9, .inl (cA 2, 60, .inl tx)), (q15, .inl (cA 0, 240, .inl f2_70))])) (st1 := (fun as => [.int o16.1, .int (((4 * v16) + 1) + x4_70), .ref q15])) ⟨hx, hb, hml, hfc, hts⟩ hK hP hD hS hA hEV (kX6_readNumber l D cA G m0 q0 q1 q2 q4 q7 q9 q15 N v3 v5 v6 v8 v10 v0_11_70 v0_12_70 v13 v14 v16 tx ho16) (cwV 0 hts gX6_readCommand_X6_readNumber rfl rfl rfl (by decide +kernel) ⟨(Nat.le_of_ble_eq_true rfl), (Nat.le_of_ble_eq_true rfl)⟩) [0, 1] [2] [1, 2, 0] rfl rfl rfl rfl (by decide) (fun _ => rfl) rfl 0 10 rfl rfl rfl rfl (fun _ => rfl) rfl hl.1 (Nat.le_of_ble_eq_true rfl) dX6_readCommand_107 ⟨(Nat.le_of_ble_eq_true rfl), (Nat.le_of_ble_eq_true rfl)⟩ (fun as17 H locs hP hD hS => ?_)
                have hP : va_P D vwCl [(m0, .inr (10, [.ref q0, .ref q1, .ref q2, .int v3, .ref q4, .int v5, .int v6, .ref q7, .int v8, .ref q9, .int v10, .int o16.2.1, .int o16.2.2, .int v13, .int v14, .ref q15, .int v16])), (q9, .inl (cA 2, 60, .inl tx)), (q15, .inl (cA 0, 240, .inl f2_70))] H := hP
                have hD : va_D A [(m0, .inr (10, [.ref q0, .ref q1, .ref q2, .int v3, .ref q4, .int v5, .int v6, .ref q7, .int v8, .ref q9, .int v10, .int o16.2.1, .int o16.2.2, .int v13, .int v14, .ref q15, .int v16])), (q9, .inl (cA 2, 60, .inl tx)), (q15, .inl (cA 0, 240, .inl f2_70))] := hD
                have h := Option.some.inj h
                subst h
                exact ko15 _ _ _ (lv_sub hl [0, 1, 2, 3, 4] rfl) hP hD hS
              · have h := ite_t c14 h
                refine lv_aload_n hx hb dX6_readCommand_99 rfl (lv_at hl 0 rfl) ?_
                obtain ⟨o18, ho18, h⟩ := bnd_i h
                refine gqE_V (G := G) (v := (fun as => (some (.int o18.1)))) (As := []) (rest := [.int (((4 * v16) + 1) + x4_70), .ref q15]) (wc := [(m0, .inr (10, [.ref q0, .ref q1, .ref q2, .int v3, .ref q4, .int v5, .int v6, .ref q7, .int v8, .ref q9, .int v10, .int v0_11_70, .int v0_12_70, .int v13, .int v14, .ref q15, .int v16])), (q9, .inl (cA 2, 60, .inl tx))]) (wr := [(q15, .inl (cA 0, 240, .inl f2_70))]) (w1 := (fun as => [(m0, .inr (10, [.ref q0, .ref q1, .ref q2, .int v3, .ref q4, .int v5, .int v6, .ref q7, .int v8, .ref q9, .int v10, .int o18.2.1, .int o18.2.2, .int v13, .int v14, .ref q15, .int v16])), (q9, .inl (cA 2, 60, .inl tx))])) (ws2 := (fun as => [(m0, .inr (10, [.ref q0, .ref q1, .ref q2, .int v3, .ref q4, .int v5, .int v6, .ref q7, .int v8, .ref q9, .int v10, .int o18.2.1, .int o18.2.2, .int v13, .int v14, .ref q15, .int v16])), (q9, .inl (cA 2, 60, .inl tx)), (q15, .inl (cA 0, 240, .inl f2_70))])) (st1 := (fun as => [.int o18.1, .int (((4 * v16) + 1) + x4_70), .ref q15])) ⟨hx, hb, hml, hfc, hts⟩ hK hP hD hS hA hEV (kX6_readFlow l D cA G m0 q0 q1 q2 q4 q7 q9 q15 N v3 v5 v6 v8 v10 v0_11_70 v0_12_70 v13 v14 v16 tx ho18) (cwV 0 hts gX6_readCommand_X6_readFlow rfl rfl rfl (by decide +kernel) ⟨(Nat.le_of_ble_eq_true rfl), (Nat.le_of_ble_eq_true rfl)⟩) [0, 1] [2] [1, 2, 0] rfl rfl rfl rfl (by decide) (fun _ => rfl) rfl 0 10 rfl rfl rfl rfl (fun _ => rfl) rfl hl.1 (Nat.le_of_ble_eq_true rfl) dX6_readCommand_100 ⟨(Nat.le_of_ble_eq_true rfl), (Nat.le_of_ble_eq_true rfl)⟩ (fun as19 H locs hP hD hS => ?_)
                have hP : va_P D vwCl [(m0, .inr (10, [.ref q0, .ref q1, .ref q2, .int v3, .ref q4, .int v5, .int v6, .ref q7, .int v8, .ref q9, .int v10, .int o18.2.1, .int o18.2.2, .int v13, .int v14, .ref q15, .int v16])), (q9, .inl (cA 2, 60, .inl tx)), (q15, .inl (cA 0, 240, .inl f2_70))] H := hP
                have hD : va_D A [(m0, .inr (10, [.ref q0, .ref q1, .ref q2, .int v3, .ref q4, .int v5, .int v6, .ref q7, .int v8, .ref q9, .int v10, .int o18.2.1, .int o18.2.2, .int v13, .int v14, .ref q15, .int v16])), (q9, .inl (cA 2, 60, .inl tx)), (q15, .inl (cA 0, 240, .inl f2_70))] := hD
                refine lv_goto (tgt := 110) hx hb dX6_readCommand_103 (by decide) ?_
                have h := Option.some.inj h
                subst h
                exact ko15 _ _ _ (lv_sub hl [0, 1, 2, 3, 4] rfl) hP hD hS
      exact hLX6_readCommand_70 N (upd cd (Int32.toNatClampNeg (4 * v16)) o2) o5.1 o5.2 0 _ _ _ (lv_sub hl [2, 3, 4, 1, 0] rfl) hP hD hS h
    clear h
    have h := ho9
    clear ho9
    refine lv_icmp_ge (tgt := 45) hx hb dX6_readCommand_38 (by decide) (fun c8 => ?_) (fun c8 => ?_)
    · have h := ite_t c8 h
      refine lv_iload_n hx hb dX6_readCommand_45 rfl (lv_at hl 1 rfl) ?_
      refine lv_bipush (v := 7) hx hb dX6_readCommand_46 (by decide) ?_
      refine lv_icmp_ne (tgt := 55) hx hb dX6_readCommand_48 (by decide) (fun c10 => ?_) (fun c10 => ?_)
      · have h := ite_f c10 h
        refine lv_iload_n hx hb dX6_readCommand_55 rfl (lv_at hl 1 rfl) ?_
        refine lv_bipush (v := 8) hx hb dX6_readCommand_56 (by decide) ?_
        refine lv_icmp_ne (tgt := 65) hx hb dX6_readCommand_58 (by decide) (fun c11 => ?_) (fun c11 => ?_)
        · have h := ite_f c11 h
          refine lv_iconst (v := 1) hx hb dX6_readCommand_65 (by decide) ?_
          subst h
          exact ko9 _ _ _ (lv_sub hl [2, 1, 0] rfl) hP hD hS
        · have h := ite_t c11 h
          refine lv_iconst (v := 2) hx hb dX6_readCommand_61 (by decide) ?_
          refine lv_goto (tgt := 66) hx hb dX6_readCommand_62 (by decide) ?_
          subst h
          exact ko9 _ _ _ (lv_sub hl [2, 1, 0] rfl) hP hD hS
      · have h := ite_t c10 h
        refine lv_iconst (v := 0) hx hb dX6_readCommand_51 (by decide) ?_
        refine lv_goto (tgt := 66) hx hb dX6_readCommand_52 (by decide) ?_
        subst h
        exact ko9 _ _ _ (lv_sub hl [2, 1, 0] rfl) hP hD hS
    · have h := ite_f c8 h
      refine lv_iconst (v := 3) hx hb dX6_readCommand_41 (by decide) ?_
      refine lv_goto (tgt := 66) hx hb dX6_readCommand_42 (by decide) ?_
      subst h
      exact ko9 _ _ _ (lv_sub hl [2, 1, 0] rfl) hP hD hS
  · have h := ite_f c1 h
    have h := Option.some.inj h
    subst h
    exact hend (adr []) _ _ _ _ _ _ _ rfl rfl (rtn_v) hP hD hS dX6_readCommand_7

noncomputable def SX6_does (N : Nat) (v6 : Int32) (ss : Nat → Int32) (cd : Nat → Int32) (x1 : Int32) : Option (Int32 × (Nat → Int32)) := gd (vp_in ((4 * x1) + 1) 240) (lt_ (cd (Int32.toNatClampNeg ((4 * x1) + 1))) (fun t2 : Int32 => gd (vp_in ((4 * x1) + 2) 240) (lt_ (cd (Int32.toNatClampNeg ((4 * x1) + 2))) (fun t4 : Int32 => gd (vp_in (4 * x1) 240) (if (cd (Int32.toNatClampNeg (4 * x1))) = 0 then (gd (vp_in (4 * x1) 240) (gd (vp_in ((4 * x1) + 3) 240) (bnd (SX6_doAdd v6 ss (cd (Int32.toNatClampNeg (4 * x1))) t2 t4 (cd (Int32.toNatClampNeg ((4 * x1) + 3)))) (fun o9 : Int32 × (Nat → Int32) × Int32 => some ((o9.2.2, o9.2.1)))))) else (if (cd (Int32.toNatClampNeg (4 * x1))) = 1 then (gd (vp_in (4 * x1) 240) (gd (vp_in ((4 * x1) + 3) 240) (bnd (SX6_doAdd v6 ss (cd (Int32.toNatClampNeg (4 * x1))) t2 t4 (cd (Int32.toNatClampNeg ((4 * x1) + 3)))) (fun o14 : Int32 × (Nat → Int32) × Int32 => some ((o14.2.2, o14.2.1)))))) else (if (cd (Int32.toNatClampNeg (4 * x1))) = 2 then (gd (vp_in (4 * x1) 240) (gd (vp_in ((4 * x1) + 3) 240) (bnd (SX6_doAdd v6 ss (cd (Int32.toNatClampNeg (4 * x1))) t2 t4 (cd (Int32.toNatClampNeg ((4 * x1) + 3)))) (fun o19 : Int32 × (Nat → Int32) × Int32 => some ((o19.2.2, o19.2.1)))))) else (if (cd (Int32.toNatClampNeg (4 * x1))) = 3 then (bnd (SX6_doRemoveMoon v6 ss t2) (fun o22 : Int32 × (Nat → Int32) × Int32 => some ((o22.2.2, o22.2.1)))) else (if (cd (Int32.toNatClampNeg (4 * x1))) = 4 then (bnd (SX6_doPlaceToe N v6 ss t2) (fun o25 : Int32 × (Nat → Int32) × Int32 => some ((o25.2.2, o25.2.1)))) else (if (cd (Int32.toNatClampNeg (4 * x1))) = 5 then (bnd (SX6_doRemoveToe N v6 ss t2) (fun o28 : Int32 × (Nat → Int32) × Int32 => some ((o28.2.2, o28.2.1)))) else (if (cd (Int32.toNatClampNeg (4 * x1))) = 6 then (bnd (SX6_doInsertPlug v6 ss t2) (fun o31 : Int32 × (Nat → Int32) × Int32 => some ((o31.2.2, o31.2.1)))) else (if (cd (Int32.toNatClampNeg (4 * x1))) = 7 then (lt_ (SX6_doPullPlug v6 ss) (fun o34 : Int32 × (Nat → Int32) × Int32 => some ((o34.2.2, o34.2.1)))) else (if (cd (Int32.toNatClampNeg (4 * x1))) = 8 then (bnd (SX6_doLayTowel N v6 ss t2 t4) (fun o37 : Int32 × (Nat → Int32) × Int32 => some ((o37.2.2, o37.2.1)))) else (if (cd (Int32.toNatClampNeg (4 * x1))) = 9 then (bnd (SX6_doWringTowel v6 ss t2) (fun o40 : Int32 × (Nat → Int32) × Int32 => some ((o40.2.2, o40.2.1)))) else (if (cd (Int32.toNatClampNeg (4 * x1))) = 10 then (lt_ (SX6_doSetFlow v6 ss t2) (fun o43 : Int32 × (Nat → Int32) × Int32 => some ((o43.2.2, o43.2.1)))) else (bnd (SX6_doAdvance N v6 ss t2) (fun o45 : Int32 × (Nat → Int32) × Int32 => some ((o45.2.2, o45.2.1)))))))))))))))))))
theorem iX6_does_X6 : ∀ w ∈ wsX60, w ∈ wsX6_does := fun _ h => List.mem_cons_of_mem _ (List.mem_append_left _ (List.mem_append_left _ (List.mem_append_right _ h)))
abbrev RM_X6_does : Room := { frames := 8, cells := 0, slots := 0, locals := 186 }
set_option maxHeartbeats 4000000 in
theorem kX6_does (l : Launch) (D : va_G) (cA : Nat → ClassId) (m0 q0 q1 q2 q4 q7 q9 q15 : Nat) (N : Nat) (v3 : Int32) (v5 : Int32) (v6 : Int32) (v8 : Int32) (v10 : Int32) (v11 : Int32) (v12 : Int32) (v13 : Int32) (v14 : Int32) (v16 : Int32) (ss : Nat → Int32) (cd : Nat → Int32) (x1 : Int32) {r : Int32 × (Nat → Int32)} (hr : SX6_does N v6 ss cd x1 = some r) {sz : Nat} : Met l yX6_does wsX6_does RM_X6_does (va_Pc [.ref m0, .int x1] (gqB D cA [(m0, .inr (10, [.ref q0, .ref q1, .ref q2, .int v3, .ref q4, .int v5, .int v6, .ref q7, .int v8, .ref q9, .int v10, .int v11, .int v12, .int v13, .int v14, .ref q15, .int v16])), (q0, .inl (cA 0, 60, .inl ss)), (q15, .inl (cA 0, 240, .inl cd))] sz)) (gqQ D (fun as => none) (fun as => [(m0, .inr (10, [.ref q0, .ref q1, .ref q2, .int v3, .ref q4, .int v5, .int r.1, .ref q7, .int v8, .ref q9, .int v10, .int v11, .int v12, .int v13, .int v14, .ref q15, .int v16])), (q0, .inl (cA 0, 60, .inl r.2)), (q15, .inl (cA 0, 240, .inl cd))]) (va_A [(m0, .inr (10, [.ref q0, .ref q1, .ref q2, .int v3, .ref q4, .int v5, .int v6, .ref q7, .int v8, .ref q9, .int v10, .int v11, .int v12, .int v13, .int v14, .ref q15, .int v16])), (q0, .inl (cA 0, 60, .inl ss)), (q15, .inl (cA 0, 240, .inl cd))] sz)) 0 0 (va_A [(m0, .inr (10, [.ref q0, .ref q1, .ref q2, .int v3, .ref q4, .int v5, .int v6, .ref q7, .int v8, .ref q9, .int v10, .int v11, .int v12, .int v13, .int v14, .ref q15, .int v16])), (q0, .inl (cA 0, 60, .inl ss)), (q15, .inl (cA 0, 240, .inl cd))] sz) := by
  refine gq_ofW (cc := cX6_does) (maxL := 5) (ret := none) (by decide) rfl (Nat.le_of_ble_eq_true rfl) (fun p e s m args below meth c ls Q A hx hb hml hts hfc hmn hK hP hD hS hA hl hend => ?_)
  have hfc : s.vm.findClass RX6 = some m.cls := hfc
  have hl : lv_has ls 5 [(0, .ref m0), (1, .int x1)] := hl
  have h := hr
  clear hr
  unfold SX6_does at h
  refine lv_aload_n hx hb dX6_does_0 rfl (lv_at hl 0 rfl) ?_
  refine va_get (D := D) (ci := 10) (v := .ref q15) (C := RX6) (T := TX6) (N := 17) hx hb hts iX6_does_X6 hfc hK hP 0 rfl rfl 15 (by decide) (hts (.fieldLink RX6 36 "BathtubTidesModel" "commands" "[I") (List.mem_of_getElem? (i := 1) rfl)) (fun _ h9 => h9) rfl dX6_does_1 ?_
  refine lv_iconst (v := 4) hx hb dX6_does_4 (by decide) ?_
  refine lv_iload_n hx hb dX6_does_5 rfl (lv_at hl 1 rfl) ?_
  refine lv_imul hx hb dX6_does_6 ?_
  refine lv_iconst (v := 1) hx hb dX6_does_7 (by decide) ?_
  refine lv_iadd hx hb dX6_does_8 ?_
  obtain ⟨g1, h⟩ := gd_i h
  refine va_iald hx hb hK hP 2 0 rfl rfl g1 dX6_does_9 ?_
  refine lv_topi (fun t2 et2 => ?_)
  have h := lt_e h _ et2
  refine lv_istore_n hx hb dX6_does_10 rfl hl (Nat.le_of_ble_eq_true rfl) rfl (fun ls hl => ?_)
  have hl : lv_has ls 5 [(2, .int t2), (0, .ref m0), (1, .int x1)] := hl
  refine lv_aload_n hx hb dX6_does_11 rfl (lv_at hl 1 rfl) ?_
  refine va_get (D := D) (ci := 10) (v := .ref q15) (C := RX6) (T := TX6) (N := 17) hx hb hts iX6_does_X6 hfc hK hP 0 rfl rfl 15 (by decide) (hts (.fieldLink RX6 36 "BathtubTidesModel" "commands" "[I") (List.mem_of_getElem? (i := 1) rfl)) (fun _ h9 => h9) rfl dX6_does_12 ?_
  refine lv_iconst (v := 4) hx hb dX6_does_15 (by decide) ?_
  refine lv_iload_n hx hb dX6_does_16 rfl (lv_at hl 2 rfl) ?_
  refine lv_imul hx hb dX6_does_17 ?_
  refine lv_iconst (v := 2) hx hb dX6_does_18 (by decide) ?_
  refine lv_iadd hx hb dX6_does_19 ?_
  obtain ⟨g3, h⟩ := gd_i h
  refine va_iald hx hb hK hP 2 0 rfl rfl g3 dX6_does_20 ?_
  refine lv_topi (fun t4 et4 => ?_)
  have h := lt_e h _ et4
  refine lv_istore_n hx hb dX6_does_21 rfl hl (Nat.le_of_ble_eq_true rfl) rfl (fun ls hl => ?_)
  have hl : lv_has ls 5 [(3, .int t4), (2, .int t2), (0, .ref m0), (1, .int x1)] := hl
  refine lv_aload_n hx hb dX6_does_22 rfl (lv_at hl 2 rfl) ?_
  refine va_get (D := D) (ci := 10) (v := .ref q15) (C := RX6) (T := TX6) (N := 17) hx hb hts iX6_does_X6 hfc hK hP 0 rfl rfl 15 (by decide) (hts (.fieldLink RX6 36 "BathtubTidesModel" "commands" "[I") (List.mem_of_getElem? (i := 1) rfl)) (fun _ h9 => h9) rfl dX6_does_23 ?_
  refine lv_iconst (v := 4) hx hb dX6_does_26 (by decide) ?_
  refine lv_iload_n hx hb dX6_does_27 rfl (lv_at hl 3 rfl) ?_
  refine lv_imul hx hb dX6_does_28 ?_
  obtain ⟨g5, h⟩ := gd_i h
  refine va_iald hx hb hK hP 2 0 rfl rfl g5 dX6_does_29 ?_
  by_cases c6 : (cd (Int32.toNatClampNeg (4 * x1))) = 0
  · have h := ite_t c6 h
    refine lv_tableIn (off := 58) (tgt := 88) hx hb dX6_does_30 (by rw [c6]; decide) (by rw [c6]; decide) (by rw [c6]; decide) (by decide) ?_
    refine lv_aload_n hx hb dX6_does_88 rfl (lv_at hl 2 rfl) ?_
    refine lv_aload_n hx hb dX6_does_89 rfl (lv_at hl 2 rfl) ?_
    refine va_get (D := D) (ci := 10) (v := .ref q15) (C := RX6) (T := TX6) (N := 17) hx hb hts iX6_does_X6 hfc hK hP 0 rfl rfl 15 (by decide) (hts (.fieldLink RX6 36 "BathtubTidesModel" "commands" "[I") (List.mem_of_getElem? (i := 1) rfl)) (fun _ h9 => h9) rfl dX6_does_90 ?_
    refine lv_iconst (v := 4) hx hb dX6_does_93 (by decide) ?_
    refine lv_iload_n hx hb dX6_does_94 rfl (lv_at hl 3 rfl) ?_
    refine lv_imul hx hb dX6_does_95 ?_
    obtain ⟨g7, h⟩ := gd_i h
    refine va_iald hx hb hK hP 2 0 rfl rfl g7 dX6_does_96 ?_
    refine lv_iload_n hx hb dX6_does_97 rfl (lv_at hl 1 rfl) ?_
    refine lv_iload_n hx hb dX6_does_98 rfl (lv_at hl 0 rfl) ?_
    refine lv_aload_n hx hb dX6_does_99 rfl (lv_at hl 2 rfl) ?_
    refine va_get (D := D) (ci := 10) (v := .ref q15) (C := RX6) (T := TX6) (N := 17) hx hb hts iX6_does_X6 hfc hK hP 0 rfl rfl 15 (by decide) (hts (.fieldLink RX6 36 "BathtubTidesModel" "commands" "[I") (List.mem_of_getElem? (i := 1) rfl)) (fun _ h9 => h9) rfl dX6_does_100 ?_
    refine lv_iconst (v := 4) hx hb dX6_does_103 (by decide) ?_
    refine lv_iload_n hx hb dX6_does_104 rfl (lv_at hl 3 rfl) ?_
    refine lv_imul hx hb dX6_does_105 ?_
    refine lv_iconst (v := 3) hx hb dX6_does_106 (by decide) ?_
    refine lv_iadd hx hb dX6_does_107 ?_
    obtain ⟨g8, h⟩ := gd_i h
    refine va_iald hx hb hK hP 2 0 rfl rfl g8 dX6_does_108 ?_
    obtain ⟨o9, ho9, h⟩ := bnd_i h
    refine gq_V (v := (fun as => (some (.int o9.1)))) (As := [.int (cd (Int32.toNatClampNeg (4 * x1))), .int t2, .int t4, .int (cd (Int32.toNatClampNeg ((4 * x1) + 3)))]) (rest := []) (wc := [(m0, .inr (10, [.ref q0, .ref q1, .ref q2, .int v3, .ref q4, .int v5, .int v6, .ref q7, .int v8, .ref q9, .int v10, .int v11, .int v12, .int v13, .int v14, .ref q15, .int v16])), (q0, .inl (cA 0, 60, .inl ss))]) (wr := [(q15, .inl (cA 0, 240, .inl cd))]) (w1 := (fun as => [(m0, .inr (10, [.ref q0, .ref q1, .ref q2, .int v3, .ref q4, .int v5, .int o9.2.2, .ref q7, .int v8, .ref q9, .int v10, .int v11, .int v12, .int v13, .int v14, .ref q15, .int v16])), (q0, .inl (cA 0, 60, .inl o9.2.1))])) (ws2 := (fun as => [(m0, .inr (10, [.ref q0, .ref q1, .ref q2, .int v3, .ref q4, .int v5, .int o9.2.2, .ref q7, .int v8, .ref q9, .int v10, .int v11, .int v12, .int v13, .int v14, .ref q15, .int v16])), (q0, .inl (cA 0, 60, .inl o9.2.1)), (q15, .inl (cA 0, 240, .inl cd))])) (st1 := (fun as => [.int o9.1])) ⟨hx, hb, hml, hfc, hts⟩ hK hP hD hS hA (kX6_doAdd l D cA m0 q0 q1 q2 q4 q7 q9 q15 v3 v5 v6 v8 v10 v11 v12 v13 v14 v16 ss (cd (Int32.toNatClampNeg (4 * x1))) t2 t4 (cd (Int32.toNatClampNeg ((4 * x1) + 3))) ho9) (cwV 4 hts gX6_does_X6_doAdd rfl rfl rfl (by decide +kernel) ⟨(Nat.le_of_ble_eq_true rfl), (Nat.le_of_ble_eq_true rfl)⟩) [0, 1] [2] [1, 2, 0] rfl rfl rfl rfl (by decide) (fun _ => rfl) rfl 0 10 rfl rfl rfl rfl (fun _ => rfl) rfl hl.1 (Nat.le_of_ble_eq_true rfl) dX6_does_109 ⟨(Nat.le_of_ble_eq_true rfl), (Nat.le_of_ble_eq_true rfl)⟩ (fun as10 H locs hP hD hS => ?_)
    have hP : va_P D vwCl [(m0, .inr (10, [.ref q0, .ref q1, .ref q2, .int v3, .ref q4, .int v5, .int o9.2.2, .ref q7, .int v8, .ref q9, .int v10, .int v11, .int v12, .int v13, .int v14, .ref q15, .int v16])), (q0, .inl (cA 0, 60, .inl o9.2.1)), (q15, .inl (cA 0, 240, .inl cd))] H := hP
    have hD : va_D A [(m0, .inr (10, [.ref q0, .ref q1, .ref q2, .int v3, .ref q4, .int v5, .int o9.2.2, .ref q7, .int v8, .ref q9, .int v10, .int v11, .int v12, .int v13, .int v14, .ref q15, .int v16])), (q0, .inl (cA 0, 60, .inl o9.2.1)), (q15, .inl (cA 0, 240, .inl cd))] := hD
    refine lv_istore hx hb dX6_does_112 hl (Nat.le_of_ble_eq_true rfl) rfl (fun ls hl => ?_)
    have hl : lv_has ls 5 [(4, .int o9.1), (3, .int t4), (2, .int t2), (0, .ref m0), (1, .int x1)] := hl
    refine lv_goto (tgt := 204) hx hb dX6_does_114 (by decide) ?_
    have h := Option.some.inj h
    subst h
    exact hend (adr []) _ _ _ _ _ _ _ rfl rfl (rtn_v) hP hD hS dX6_does_204
  · have h := ite_f c6 h
    by_cases c11 : (cd (Int32.toNatClampNeg (4 * x1))) = 1
    · have h := ite_t c11 h
      refine lv_tableIn (off := 58) (tgt := 88) hx hb dX6_does_30 (by rw [c11]; decide) (by rw [c11]; decide) (by rw [c11]; decide) (by decide) ?_
      refine lv_aload_n hx hb dX6_does_88 rfl (lv_at hl 2 rfl) ?_
      refine lv_aload_n hx hb dX6_does_89 rfl (lv_at hl 2 rfl) ?_
      refine va_get (D := D) (ci := 10) (v := .ref q15) (C := RX6) (T := TX6) (N := 17) hx hb hts iX6_does_X6 hfc hK hP 0 rfl rfl 15 (by decide) (hts (.fieldLink RX6 36 "BathtubTidesModel" "commands" "[I") (List.mem_of_getElem? (i := 1) rfl)) (fun _ h9 => h9) rfl dX6_does_90 ?_
      refine lv_iconst (v := 4) hx hb dX6_does_93 (by decide) ?_
      refine lv_iload_n hx hb dX6_does_94 rfl (lv_at hl 3 rfl) ?_
      refine lv_imul hx hb dX6_does_95 ?_
      obtain ⟨g12, h⟩ := gd_i h
      refine va_iald hx hb hK hP 2 0 rfl rfl g12 dX6_does_96 ?_
      refine lv_iload_n hx hb dX6_does_97 rfl (lv_at hl 1 rfl) ?_
      refine lv_iload_n hx hb dX6_does_98 rfl (lv_at hl 0 rfl) ?_
      refine lv_aload_n hx hb dX6_does_99 rfl (lv_at hl 2 rfl) ?_
      refine va_get (D := D) (ci := 10) (v := .ref q15) (C := RX6) (T := TX6) (N := 17) hx hb hts iX6_does_X6 hfc hK hP 0 rfl rfl 15 (by decide) (hts (.fieldLink RX6 36 "BathtubTidesModel" "commands" "[I") (List.mem_of_getElem? (i := 1) rfl)) (fun _ h9 => h9) rfl dX6_does_100 ?_
      refine lv_iconst (v := 4) hx hb dX6_does_103 (by decide) ?_
      refine lv_iload_n hx hb dX6_does_104 rfl (lv_at hl 3 rfl) ?_
      refine lv_imul hx hb dX6_does_105 ?_
      refine lv_iconst (v := 3) hx hb dX6_does_106 (by decide) ?_
      refine lv_iadd hx hb dX6_does_107 ?_
      obtain ⟨g13, h⟩ := gd_i h
      refine va_iald hx hb hK hP 2 0 rfl rfl g13 dX6_does_108 ?_
      obtain ⟨o14, ho14, h⟩ := bnd_i h
      refine gq_V (v := (fun as => (some (.int o14.1)))) (As := [.int (cd (Int32.toNatClampNeg (4 * x1))), .int t2, .int t4, .int (cd (Int32.toNatClampNeg ((4 * x1) + 3)))]) (rest := []) (wc := [(m0, .inr (10, [.ref q0, .ref q1, .ref q2, .int v3, .ref q4, .int v5, .int v6, .ref q7, .int v8, .ref q9, .int v10, .int v11, .int v12, .int v13, .int v14, .ref q15, .int v16])), (q0, .inl (cA 0, 60, .inl ss))]) (wr := [(q15, .inl (cA 0, 240, .inl cd))]) (w1 := (fun as => [(m0, .inr (10, [.ref q0, .ref q1, .ref q2, .int v3, .ref q4, .int v5, .int o14.2.2, .ref q7, .int v8, .ref q9, .int v10, .int v11, .int v12, .int v13, .int v14, .ref q15, .int v16])), (q0, .inl (cA 0, 60, .inl o14.2.1))])) (ws2 := (fun as => [(m0, .inr (10, [.ref q0, .ref q1, .ref q2, .int v3, .ref q4, .int v5, .int o14.2.2, .ref q7, .int v8, .ref q9, .int v10, .int v11, .int v12, .int v13, .int v14, .ref q15, .int v16])), (q0, .inl (cA 0, 60, .inl o14.2.1)), (q15, .inl (cA 0, 240, .inl cd))])) (st1 := (fun as => [.int o14.1])) ⟨hx, hb, hml, hfc, hts⟩ hK hP hD hS hA (kX6_doAdd l D cA m0 q0 q1 q2 q4 q7 q9 q15 v3 v5 v6 v8 v10 v11 v12 v13 v14 v16 ss (cd (Int32.toNatClampNeg (4 * x1))) t2 t4 (cd (Int32.toNatClampNeg ((4 * x1) + 3))) ho14) (cwV 4 hts gX6_does_X6_doAdd rfl rfl rfl (by decide +kernel) ⟨(Nat.le_of_ble_eq_true rfl), (Nat.le_of_ble_eq_true rfl)⟩) [0, 1] [2] [1, 2, 0] rfl rfl rfl rfl (by decide) (fun _ => rfl) rfl 0 10 rfl rfl rfl rfl (fun _ => rfl) rfl hl.1 (Nat.le_of_ble_eq_true rfl) dX6_does_109 ⟨(Nat.le_of_ble_eq_true rfl), (Nat.le_of_ble_eq_true rfl)⟩ (fun as15 H locs hP hD hS => ?_)
      have hP : va_P D vwCl [(m0, .inr (10, [.ref q0, .ref q1, .ref q2, .int v3, .ref q4, .int v5, .int o14.2.2, .ref q7, .int v8, .ref q9, .int v10, .int v11, .int v12, .int v13, .int v14, .ref q15, .int v16])), (q0, .inl (cA 0, 60, .inl o14.2.1)), (q15, .inl (cA 0, 240, .inl cd))] H := hP
      have hD : va_D A [(m0, .inr (10, [.ref q0, .ref q1, .ref q2, .int v3, .ref q4, .int v5, .int o14.2.2, .ref q7, .int v8, .ref q9, .int v10, .int v11, .int v12, .int v13, .int v14, .ref q15, .int v16])), (q0, .inl (cA 0, 60, .inl o14.2.1)), (q15, .inl (cA 0, 240, .inl cd))] := hD
      refine lv_istore hx hb dX6_does_112 hl (Nat.le_of_ble_eq_true rfl) rfl (fun ls hl => ?_)
      have hl : lv_has ls 5 [(4, .int o14.1), (3, .int t4), (2, .int t2), (0, .ref m0), (1, .int x1)] := hl
      refine lv_goto (tgt := 204) hx hb dX6_does_114 (by decide) ?_
      have h := Option.some.inj h
      subst h
      exact hend (adr []) _ _ _ _ _ _ _ rfl rfl (rtn_v) hP hD hS dX6_does_204
    · have h := ite_f c11 h
      by_cases c16 : (cd (Int32.toNatClampNeg (4 * x1))) = 2
      · have h := ite_t c16 h
        refine lv_tableIn (off := 58) (tgt := 88) hx hb dX6_does_30 (by rw [c16]; decide) (by rw [c16]; decide) (by rw [c16]; decide) (by decide) ?_
        refine lv_aload_n hx hb dX6_does_88 rfl (lv_at hl 2 rfl) ?_
        refine lv_aload_n hx hb dX6_does_89 rfl (lv_at hl 2 rfl) ?_
        refine va_get (D := D) (ci := 10) (v := .ref q15) (C := RX6) (T := TX6) (N := 17) hx hb hts iX6_does_X6 hfc hK hP 0 rfl rfl 15 (by decide) (hts (.fieldLink RX6 36 "BathtubTidesModel" "commands" "[I") (List.mem_of_getElem? (i := 1) rfl)) (fun _ h9 => h9) rfl dX6_does_90 ?_
        refine lv_iconst (v := 4) hx hb dX6_does_93 (by decide) ?_
        refine lv_iload_n hx hb dX6_does_94 rfl (lv_at hl 3 rfl) ?_
        refine lv_imul hx hb dX6_does_95 ?_
        obtain ⟨g17, h⟩ := gd_i h
        refine va_iald hx hb hK hP 2 0 rfl rfl g17 dX6_does_96 ?_
        refine lv_iload_n hx hb dX6_does_97 rfl (lv_at hl 1 rfl) ?_
        refine lv_iload_n hx hb dX6_does_98 rfl (lv_at hl 0 rfl) ?_
        refine lv_aload_n hx hb dX6_does_99 rfl (lv_at hl 2 rfl) ?_
        refine va_get (D := D) (ci := 10) (v := .ref q15) (C := RX6) (T := TX6) (N := 17) hx hb hts iX6_does_X6 hfc hK hP 0 rfl rfl 15 (by decide) (hts (.fieldLink RX6 36 "BathtubTidesModel" "commands" "[I") (List.mem_of_getElem? (i := 1) rfl)) (fun _ h9 => h9) rfl dX6_does_100 ?_
        refine lv_iconst (v := 4) hx hb dX6_does_103 (by decide) ?_
        refine lv_iload_n hx hb dX6_does_104 rfl (lv_at hl 3 rfl) ?_
        refine lv_imul hx hb dX6_does_105 ?_
        refine lv_iconst (v := 3) hx hb dX6_does_106 (by decide) ?_
        refine lv_iadd hx hb dX6_does_107 ?_
        obtain ⟨g18, h⟩ := gd_i h
        refine va_iald hx hb hK hP 2 0 rfl rfl g18 dX6_does_108 ?_
        obtain ⟨o19, ho19, h⟩ := bnd_i h
        refine gq_V (v := (fun as => (some (.int o19.1)))) (As := [.int (cd (Int32.toNatClampNeg (4 * x1))), .int t2, .int t4, .int (cd (Int32.toNatClampNeg ((4 * x1) + 3)))]) (rest := []) (wc := [(m0, .inr (10, [.ref q0, .ref q1, .ref q2, .int v3, .ref q4, .int v5, .int v6, .ref q7, .int v8, .ref q9, .int v10, .int v11, .int v12, .int v13, .int v14, .ref q15, .int v16])), (q0, .inl (cA 0, 60, .inl ss))]) (wr := [(q15, .inl (cA 0, 240, .inl cd))]) (w1 := (fun as => [(m0, .inr (10, [.ref q0, .ref q1, .ref q2, .int v3, .ref q4, .int v5, .int o19.2.2, .ref q7, .int v8, .ref q9, .int v10, .int v11, .int v12, .int v13, .int v14, .ref q15, .int v16])), (q0, .inl (cA 0, 60, .inl o19.2.1))])) (ws2 := (fun as => [(m0, .inr (10, [.ref q0, .ref q1, .ref q2, .int v3, .ref q4, .int v5, .int o19.2.2, .ref q7, .int v8, .ref q9, .int v10, .int v11, .int v12, .int v13, .int v14, .ref q15, .int v16])), (q0, .inl (cA 0, 60, .inl o19.2.1)), (q15, .inl (cA 0, 240, .inl cd))])) (st1 := (fun as => [.int o19.1])) ⟨hx, hb, hml, hfc, hts⟩ hK hP hD hS hA (kX6_doAdd l D cA m0 q0 q1 q2 q4 q7 q9 q15 v3 v5 v6 v8 v10 v11 v12 v13 v14 v16 ss (cd (Int32.toNatClampNeg (4 * x1))) t2 t4 (cd (Int32.toNatClampNeg ((4 * x1) + 3))) ho19) (cwV 4 hts gX6_does_X6_doAdd rfl rfl rfl (by decide +kernel) ⟨(Nat.le_of_ble_eq_true rfl), (Nat.le_of_ble_eq_true rfl)⟩) [0, 1] [2] [1, 2, 0] rfl rfl rfl rfl (by decide) (fun _ => rfl) rfl 0 10 rfl rfl rfl rfl (fun _ => rfl) rfl hl.1 (Nat.le_of_ble_eq_true rfl) dX6_does_109 ⟨(Nat.le_of_ble_eq_true rfl), (Nat.le_of_ble_eq_true rfl)⟩ (fun as20 H locs hP hD hS => ?_)
        have hP : va_P D vwCl [(m0, .inr (10, [.ref q0, .ref q1, .ref q2, .int v3, .ref q4, .int v5, .int o19.2.2, .ref q7, .int v8, .ref q9, .int v10, .int v11, .int v12, .int v13, .int v14, .ref q15, .int v16])), (q0, .inl (cA 0, 60, .inl o19.2.1)), (q15, .inl (cA 0, 240, .inl cd))] H := hP
        have hD : va_D A [(m0, .inr (10, [.ref q0, .ref q1, .ref q2, .int v3, .ref q4, .int v5, .int o19.2.2, .ref q7, .int v8, .ref q9, .int v10, .int v11, .int v12, .int v13, .int v14, .ref q15, .int v16])), (q0, .inl (cA 0, 60, .inl o19.2.1)), (q15, .inl (cA 0, 240, .inl cd))] := hD
        refine lv_istore hx hb dX6_does_112 hl (Nat.le_of_ble_eq_true rfl) rfl (fun ls hl => ?_)
        have hl : lv_has ls 5 [(4, .int o19.1), (3, .int t4), (2, .int t2), (0, .ref m0), (1, .int x1)] := hl
        refine lv_goto (tgt := 204) hx hb dX6_does_114 (by decide) ?_
        have h := Option.some.inj h
        subst h
        exact hend (adr []) _ _ _ _ _ _ _ rfl rfl (rtn_v) hP hD hS dX6_does_204
      · have h := ite_f c16 h
        by_cases c21 : (cd (Int32.toNatClampNeg (4 * x1))) = 3
        · have h := ite_t c21 h
          refine lv_tableIn (off := 87) (tgt := 117) hx hb dX6_does_30 (by rw [c21]; decide) (by rw [c21]; decide) (by rw [c21]; decide) (by decide) ?_
          refine lv_aload_n hx hb dX6_does_117 rfl (lv_at hl 2 rfl) ?_
          refine lv_iload_n hx hb dX6_does_118 rfl (lv_at hl 1 rfl) ?_
          obtain ⟨o22, ho22, h⟩ := bnd_i h
          refine gq_V (v := (fun as => (some (.int o22.1)))) (As := [.int t2]) (rest := []) (wc := [(m0, .inr (10, [.ref q0, .ref q1, .ref q2, .int v3, .ref q4, .int v5, .int v6, .ref q7, .int v8, .ref q9, .int v10, .int v11, .int v12, .int v13, .int v14, .ref q15, .int v16])), (q0, .inl (cA 0, 60, .inl ss))]) (wr := [(q15, .inl (cA 0, 240, .inl cd))]) (w1 := (fun as => [(m0, .inr (10, [.ref q0, .ref q1, .ref q2, .int v3, .ref q4, .int v5, .int o22.2.2, .ref q7, .int v8, .ref q9, .int v10, .int v11, .int v12, .int v13, .int v14, .ref q15, .int v16])), (q0, .inl (cA 0, 60, .inl o22.2.1))])) (ws2 := (fun as => [(m0, .inr (10, [.ref q0, .ref q1, .ref q2, .int v3, .ref q4, .int v5, .int o22.2.2, .ref q7, .int v8, .ref q9, .int v10, .int v11, .int v12, .int v13, .int v14, .ref q15, .int v16])), (q0, .inl (cA 0, 60, .inl o22.2.1)), (q15, .inl (cA 0, 240, .inl cd))])) (st1 := (fun as => [.int o22.1])) ⟨hx, hb, hml, hfc, hts⟩ hK hP hD hS hA (kX6_doRemoveMoon l D cA m0 q0 q1 q2 q4 q7 q9 q15 v3 v5 v6 v8 v10 v11 v12 v13 v14 v16 ss t2 ho22) (cwV 1 hts gX6_does_X6_doRemoveMoon rfl rfl rfl (by decide +kernel) ⟨(Nat.le_of_ble_eq_true rfl), (Nat.le_of_ble_eq_true rfl)⟩) [0, 1] [2] [1, 2, 0] rfl rfl rfl rfl (by decide) (fun _ => rfl) rfl 0 10 rfl rfl rfl rfl (fun _ => rfl) rfl hl.1 (Nat.le_of_ble_eq_true rfl) dX6_does_119 ⟨(Nat.le_of_ble_eq_true rfl), (Nat.le_of_ble_eq_true rfl)⟩ (fun as23 H locs hP hD hS => ?_)
          have hP : va_P D vwCl [(m0, .inr (10, [.ref q0, .ref q1, .ref q2, .int v3, .ref q4, .int v5, .int o22.2.2, .ref q7, .int v8, .ref q9, .int v10, .int v11, .int v12, .int v13, .int v14, .ref q15, .int v16])), (q0, .inl (cA 0, 60, .inl o22.2.1)), (q15, .inl (cA 0, 240, .inl cd))] H := hP
          have hD : va_D A [(m0, .inr (10, [.ref q0, .ref q1, .ref q2, .int v3, .ref q4, .int v5, .int o22.2.2, .ref q7, .int v8, .ref q9, .int v10, .int v11, .int v12, .int v13, .int v14, .ref q15, .int v16])), (q0, .inl (cA 0, 60, .inl o22.2.1)), (q15, .inl (cA 0, 240, .inl cd))] := hD
          refine lv_istore hx hb dX6_does_122 hl (Nat.le_of_ble_eq_true rfl) rfl (fun ls hl => ?_)
          have hl : lv_has ls 5 [(4, .int o22.1), (3, .int t4), (2, .int t2), (0, .ref m0), (1, .int x1)] := hl
          refine lv_goto (tgt := 204) hx hb dX6_does_124 (by decide) ?_
          have h := Option.some.inj h
          subst h
          exact hend (adr []) _ _ _ _ _ _ _ rfl rfl (rtn_v) hP hD hS dX6_does_204
        · have h := ite_f c21 h
          by_cases c24 : (cd (Int32.toNatClampNeg (4 * x1))) = 4
          · have h := ite_t c24 h
            refine lv_tableIn (off := 97) (tgt := 127) hx hb dX6_does_30 (by rw [c24]; decide) (by rw [c24]; decide) (by rw [c24]; decide) (by decide) ?_
            refine lv_aload_n hx hb dX6_does_127 rfl (lv_at hl 2 rfl) ?_
            refine lv_iload_n hx hb dX6_does_128 rfl (lv_at hl 1 rfl) ?_
            obtain ⟨o25, ho25, h⟩ := bnd_i h
            refine gq_V (v := (fun as => (some (.int o25.1)))) (As := [.int t2]) (rest := []) (wc := [(m0, .inr (10, [.ref q0, .ref q1, .ref q2, .int v3, .ref q4, .int v5, .int v6, .ref q7, .int v8, .ref q9, .int v10, .int v11, .int v12, .int v13, .int v14, .ref q15, .int v16])), (q0, .inl (cA 0, 60, .inl ss))]) (wr := [(q15, .inl (cA 0, 240, .inl cd))]) (w1 := (fun as => [(m0, .inr (10, [.ref q0, .ref q1, .ref q2, .int v3, .ref q4, .int v5, .int o25.2.2, .ref q7, .int v8, .ref q9, .int v10, .int v11, .int v12, .int v13, .int v14, .ref q15, .int v16])), (q0, .inl (cA 0, 60, .inl o25.2.1))])) (ws2 := (fun as => [(m0, .inr (10, [.ref q0, .ref q1, .ref q2, .int v3, .ref q4, .int v5, .int o25.2.2, .ref q7, .int v8, .ref q9, .int v10, .int v11, .int v12, .int v13, .int v14, .ref q15, .int v16])), (q0, .inl (cA 0, 60, .inl o25.2.1)), (q15, .inl (cA 0, 240, .inl cd))])) (st1 := (fun as => [.int o25.1])) ⟨hx, hb, hml, hfc, hts⟩ hK hP hD hS hA (kX6_doPlaceToe l D cA m0 q0 q1 q2 q4 q7 q9 q15 N v3 v5 v6 v8 v10 v11 v12 v13 v14 v16 ss t2 ho25) (cwV 1 hts gX6_does_X6_doPlaceToe rfl rfl rfl (by decide +kernel) ⟨(Nat.le_of_ble_eq_true rfl), (Nat.le_of_ble_eq_true rfl)⟩) [0, 1] [2] [1, 2, 0] rfl rfl rfl rfl (by decide) (fun _ => rfl) rfl 0 10 rfl rfl rfl rfl (fun _ => rfl) rfl hl.1 (Nat.le_of_ble_eq_true rfl) dX6_does_129 ⟨(Nat.le_of_ble_eq_true rfl), (Nat.le_of_ble_eq_true rfl)⟩ (fun as26 H locs hP hD hS => ?_)
            have hP : va_P D vwCl [(m0, .inr (10, [.ref q0, .ref q1, .ref q2, .int v3, .ref q4, .int v5, .int o25.2.2, .ref q7, .int v8, .ref q9, .int v10, .int v11, .int v12, .int v13, .int v14, .ref q15, .int v16])), (q0, .inl (cA 0, 60, .inl o25.2.1)), (q15, .inl (cA 0, 240, .inl cd))] H := hP
            have hD : va_D A [(m0, .inr (10, [.ref q0, .ref q1, .ref q2, .int v3, .ref q4, .int v5, .int o25.2.2, .ref q7, .int v8, .ref q9, .int v10, .int v11, .int v12, .int v13, .int v14, .ref q15, .int v16])), (q0, .inl (cA 0, 60, .inl o25.2.1)), (q15, .inl (cA 0, 240, .inl cd))] := hD
            refine lv_istore hx hb dX6_does_132 hl (Nat.le_of_ble_eq_true rfl) rfl (fun ls hl => ?_)
            have hl : lv_has ls 5 [(4, .int o25.1), (3, .int t4), (2, .int t2), (0, .ref m0), (1, .int x1)] := hl
            refine lv_goto (tgt := 204) hx hb dX6_does_134 (by decide) ?_
            have h := Option.some.inj h
            subst h
            exact hend (adr []) _ _ _ _ _ _ _ rfl rfl (rtn_v) hP hD hS dX6_does_204
          · have h := ite_f c24 h
            by_cases c27 : (cd (Int32.toNatClampNeg (4 * x1))) = 5
            · have h := ite_t c27 h
              refine lv_tableIn (off := 107) (tgt := 137) hx hb dX6_does_30 (by rw [c27]; decide) (by rw [c27]; decide) (by rw [c27]; decide) (by decide) ?_
              refine lv_aload_n hx hb dX6_does_137 rfl (lv_at hl 2 rfl) ?_
              refine lv_iload_n hx hb dX6_does_138 rfl (lv_at hl 1 rfl) ?_
              obtain ⟨o28, ho28, h⟩ := bnd_i h
              refine gq_V (v := (fun as => (some (.int o28.1)))) (As := [.int t2]) (rest := []) (wc := [(m0, .inr (10, [.ref q0, .ref q1, .ref q2, .int v3, .ref q4, .int v5, .int v6, .ref q7, .int v8, .ref q9, .int v10, .int v11, .int v12, .int v13, .int v14, .ref q15, .int v16])), (q0, .inl (cA 0, 60, .inl ss))]) (wr := [(q15, .inl (cA 0, 240, .inl cd))]) (w1 := (fun as => [(m0, .inr (10, [.ref q0, .ref q1, .ref q2, .int v3, .ref q4, .int v5, .int o28.2.2, .ref q7, .int v8, .ref q9, .int v10, .int v11, .int v12, .int v13, .int v14, .ref q15, .int v16])), (q0, .inl (cA 0, 60, .inl o28.2.1))])) (ws2 := (fun as => [(m0, .inr (10, [.ref q0, .ref q1, .ref q2, .int v3, .ref q4, .int v5, .int o28.2.2, .ref q7, .int v8, .ref q9, .int v10, .int v11, .int v12, .int v13, .int v14, .ref q15, .int v16])), (q0, .inl (cA 0, 60, .inl o28.2.1)), (q15, .inl (cA 0, 240, .inl cd))])) (st1 := (fun as => [.int o28.1])) ⟨hx, hb, hml, hfc, hts⟩ hK hP hD hS hA (kX6_doRemoveToe l D cA m0 q0 q1 q2 q4 q7 q9 q15 N v3 v5 v6 v8 v10 v11 v12 v13 v14 v16 ss t2 ho28) (cwV 1 hts gX6_does_X6_doRemoveToe rfl rfl rfl (by decide +kernel) ⟨(Nat.le_of_ble_eq_true rfl), (Nat.le_of_ble_eq_true rfl)⟩) [0, 1] [2] [1, 2, 0] rfl rfl rfl rfl (by decide) (fun _ => rfl) rfl 0 10 rfl rfl rfl rfl (fun _ => rfl) rfl hl.1 (Nat.le_of_ble_eq_true rfl) dX6_does_139 ⟨(Nat.le_of_ble_eq_true rfl), (Nat.le_of_ble_eq_true rfl)⟩ (fun as29 H locs hP hD hS => ?_)
              have hP : va_P D vwCl [(m0, .inr (10, [.ref q0, .ref q1, .ref q2, .int v3, .ref q4, .int v5, .int o28.2.2, .ref q7, .int v8, .ref q9, .int v10, .int v11, .int v12, .int v13, .int v14, .ref q15, .int v16])), (q0, .inl (cA 0, 60, .inl o28.2.1)), (q15, .inl (cA 0, 240, .inl cd))] H := hP
              have hD : va_D A [(m0, .inr (10, [.ref q0, .ref q1, .ref q2, .int v3, .ref q4, .int v5, .int o28.2.2, .ref q7, .int v8, .ref q9, .int v10, .int v11, .int v12, .int v13, .int v14, .ref q15, .int v16])), (q0, .inl (cA 0, 60, .inl o28.2.1)), (q15, .inl (cA 0, 240, .inl cd))] := hD
              refine lv_istore hx hb dX6_does_142 hl (Nat.le_of_ble_eq_true rfl) rfl (fun ls hl => ?_)
              have hl : lv_has ls 5 [(4, .int o28.1), (3, .int t4), (2, .int t2), (0, .ref m0), (1, .int x1)] := hl
              refine lv_goto (tgt := 204) hx hb dX6_does_144 (by decide) ?_
              have h := Option.some.inj h
              subst h
              exact hend (adr []) _ _ _ _ _ _ _ rfl rfl (rtn_v) hP hD hS dX6_does_204
            · have h := ite_f c27 h
              by_cases c30 : (cd (Int32.toNatClampNeg (4 * x1))) = 6
              · have h := ite_t c30 h
                refine lv_tableIn (off := 117) (tgt := 147) hx hb dX6_does_30 (by rw [c30]; decide) (by rw [c30]; decide) (by rw [c30]; decide) (by decide) ?_
                refine lv_aload_n hx hb dX6_does_147 rfl (lv_at hl 2 rfl) ?_
                refine lv_iload_n hx hb dX6_does_148 rfl (lv_at hl 1 rfl) ?_
                obtain ⟨o31, ho31, h⟩ := bnd_i h
                refine gq_V (v := (fun as => (some (.int o31.1)))) (As := [.int t2]) (rest := []) (wc := [(m0, .inr (10, [.ref q0, .ref q1, .ref q2, .int v3, .ref q4, .int v5, .int v6, .ref q7, .int v8, .ref q9, .int v10, .int v11, .int v12, .int v13, .int v14, .ref q15, .int v16])), (q0, .inl (cA 0, 60, .inl ss))]) (wr := [(q15, .inl (cA 0, 240, .inl cd))]) (w1 := (fun as => [(m0, .inr (10, [.ref q0, .ref q1, .ref q2, .int v3, .ref q4, .int v5, .int o31.2.2, .ref q7, .int v8, .ref q9, .int v10, .int v11, .int v12, .int v13, .int v14, .ref q15, .int v16])), (q0, .inl (cA 0, 60, .inl o31.2.1))])) (ws2 := (fun as => [(m0, .inr (10, [.ref q0, .ref q1, .ref q2, .int v3, .ref q4, .int v5, .int o31.2.2, .ref q7, .int v8, .ref q9, .int v10, .int v11, .int v12, .int v13, .int v14, .ref q15, .int v16])), (q0, .inl (cA 0, 60, .inl o31.2.1)), (q15, .inl (cA 0, 240, .inl cd))])) (st1 := (fun as => [.int o31.1])) ⟨hx, hb, hml, hfc, hts⟩ hK hP hD hS hA (kX6_doInsertPlug l D cA m0 q0 q1 q2 q4 q7 q9 q15 v3 v5 v6 v8 v10 v11 v12 v13 v14 v16 ss t2 ho31) (cwV 1 hts gX6_does_X6_doInsertPlug rfl rfl rfl (by decide +kernel) ⟨(Nat.le_of_ble_eq_true rfl), (Nat.le_of_ble_eq_true rfl)⟩) [0, 1] [2] [1, 2, 0] rfl rfl rfl rfl (by decide) (fun _ => rfl) rfl 0 10 rfl rfl rfl rfl (fun _ => rfl) rfl hl.1 (Nat.le_of_ble_eq_true rfl) dX6_does_149 ⟨(Nat.le_of_ble_eq_true rfl), (Nat.le_of_ble_eq_true rfl)⟩ (fun as32 H locs hP hD hS => ?_)
                have hP : va_P D vwCl [(m0, .inr (10, [.ref q0, .ref q1, .ref q2, .int v3, .ref q4, .int v5, .int o31.2.2, .ref q7, .int v8, .ref q9, .int v10, .int v11, .int v12, .int v13, .int v14, .ref q15, .int v16])), (q0, .inl (cA 0, 60, .inl o31.2.1)), (q15, .inl (cA 0, 240, .inl cd))] H := hP
                have hD : va_D A [(m0, .inr (10, [.ref q0, .ref q1, .ref q2, .int v3, .ref q4, .int v5, .int o31.2.2, .ref q7, .int v8, .ref q9, .int v10, .int v11, .int v12, .int v13, .int v14, .ref q15, .int v16])), (q0, .inl (cA 0, 60, .inl o31.2.1)), (q15, .inl (cA 0, 240, .inl cd))] := hD
                refine lv_istore hx hb dX6_does_152 hl (Nat.le_of_ble_eq_true rfl) rfl (fun ls hl => ?_)
                have hl : lv_has ls 5 [(4, .int o31.1), (3, .int t4), (2, .int t2), (0, .ref m0), (1, .int x1)] := hl
                refine lv_goto (tgt := 204) hx hb dX6_does_154 (by decide) ?_
                have h := Option.some.inj h
                subst h
                exact hend (adr []) _ _ _ _ _ _ _ rfl rfl (rtn_v) hP hD hS dX6_does_204
              · have h := ite_f c30 h
                by_cases c33 : (cd (Int32.toNatClampNeg (4 * x1))) = 7
                · have h := ite_t c33 h
                  refine lv_tableIn (off := 127) (tgt := 157) hx hb dX6_does_30 (by rw [c33]; decide) (by rw [c33]; decide) (by rw [c33]; decide) (by decide) ?_
                  refine lv_aload_n hx hb dX6_does_157 rfl (lv_at hl 2 rfl) ?_
                  obtain ⟨o34, ho34, h⟩ := lt_i h
                  refine gq_V (v := (fun as => (some (.int o34.1)))) (As := []) (rest := []) (wc := [(m0, .inr (10, [.ref q0, .ref q1, .ref q2, .int v3, .ref q4, .int v5, .int v6, .ref q7, .int v8, .ref q9, .int v10, .int v11, .int v12, .int v13, .int v14, .ref q15, .int v16])), (q0, .inl (cA 0, 60, .inl ss))]) (wr := [(q15, .inl (cA 0, 240, .inl cd))]) (w1 := (fun as => [(m0, .inr (10, [.ref q0, .ref q1, .ref q2, .int v3, .ref q4, .int v5, .int o34.2.2, .ref q7, .int v8, .ref q9, .int v10, .int v11, .int v12, .int v13, .int v14, .ref q15, .int v16])), (q0, .inl (cA 0, 60, .inl o34.2.1))])) (ws2 := (fun as => [(m0, .inr (10, [.ref q0, .ref q1, .ref q2, .int v3, .ref q4, .int v5, .int o34.2.2, .ref q7, .int v8, .ref q9, .int v10, .int v11, .int v12, .int v13, .int v14, .ref q15, .int v16])), (q0, .inl (cA 0, 60, .inl o34.2.1)), (q15, .inl (cA 0, 240, .inl cd))])) (st1 := (fun as => [.int o34.1])) ⟨hx, hb, hml, hfc, hts⟩ hK hP hD hS hA (kX6_doPullPlug l D cA m0 q0 q1 q2 q4 q7 q9 q15 v3 v5 v6 v8 v10 v11 v12 v13 v14 v16 ss ho34) (cwV 0 hts gX6_does_X6_doPullPlug rfl rfl rfl (by decide +kernel) ⟨(Nat.le_of_ble_eq_true rfl), (Nat.le_of_ble_eq_true rfl)⟩) [0, 1] [2] [1, 2, 0] rfl rfl rfl rfl (by decide) (fun _ => rfl) rfl 0 10 rfl rfl rfl rfl (fun _ => rfl) rfl hl.1 (Nat.le_of_ble_eq_true rfl) dX6_does_158 ⟨(Nat.le_of_ble_eq_true rfl), (Nat.le_of_ble_eq_true rfl)⟩ (fun as35 H locs hP hD hS => ?_)
                  have hP : va_P D vwCl [(m0, .inr (10, [.ref q0, .ref q1, .ref q2, .int v3, .ref q4, .int v5, .int o34.2.2, .ref q7, .int v8, .ref q9, .int v10, .int v11, .int v12, .int v13, .int v14, .ref q15, .int v16])), (q0, .inl (cA 0, 60, .inl o34.2.1)), (q15, .inl (cA 0, 240, .inl cd))] H := hP
                  have hD : va_D A [(m0, .inr (10, [.ref q0, .ref q1, .ref q2, .int v3, .ref q4, .int v5, .int o34.2.2, .ref q7, .int v8, .ref q9, .int v10, .int v11, .int v12, .int v13, .int v14, .ref q15, .int v16])), (q0, .inl (cA 0, 60, .inl o34.2.1)), (q15, .inl (cA 0, 240, .inl cd))] := hD
                  refine lv_istore hx hb dX6_does_161 hl (Nat.le_of_ble_eq_true rfl) rfl (fun ls hl => ?_)
                  have hl : lv_has ls 5 [(4, .int o34.1), (3, .int t4), (2, .int t2), (0, .ref m0), (1, .int x1)] := hl
                  refine lv_goto (tgt := 204) hx hb dX6_does_163 (by decide) ?_
                  have h := Option.some.inj h
                  subst h
                  exact hend (adr []) _ _ _ _ _ _ _ rfl rfl (rtn_v) hP hD hS dX6_does_204
                · have h := ite_f c33 h
                  by_cases c36 : (cd (Int32.toNatClampNeg (4 * x1))) = 8
                  · have h := ite_t c36 h
                    refine lv_tableIn (off := 136) (tgt := 166) hx hb dX6_does_30 (by rw [c36]; decide) (by rw [c36]; decide) (by rw [c36]; decide) (by decide) ?_
                    refine lv_aload_n hx hb dX6_does_166 rfl (lv_at hl 2 rfl) ?_
                    refine lv_iload_n hx hb dX6_does_167 rfl (lv_at hl 1 rfl) ?_
                    refine lv_iload_n hx hb dX6_does_168 rfl (lv_at hl 0 rfl) ?_
                    obtain ⟨o37, ho37, h⟩ := bnd_i h
                    refine gq_V (v := (fun as => (some (.int o37.1)))) (As := [.int t2, .int t4]) (rest := []) (wc := [(m0, .inr (10, [.ref q0, .ref q1, .ref q2, .int v3, .ref q4, .int v5, .int v6, .ref q7, .int v8, .ref q9, .int v10, .int v11, .int v12, .int v13, .int v14, .ref q15, .int v16])), (q0, .inl (cA 0, 60, .inl ss))]) (wr := [(q15, .inl (cA 0, 240, .inl cd))]) (w1 := (fun as => [(m0, .inr (10, [.ref q0, .ref q1, .ref q2, .int v3, .ref q4, .int v5, .int o37.2.2, .ref q7, .int v8, .ref q9, .int v10, .int v11, .int v12, .int v13, .int v14, .ref q15, .int v16])), (q0, .inl (cA 0, 60, .inl o37.2.1))])) (ws2 := (fun as => [(m0, .inr (10, [.ref q0, .ref q1, .ref q2, .int v3, .ref q4, .int v5, .int o37.2.2, .ref q7, .int v8, .ref q9, .int v10, .int v11, .int v12, .int v13, .int v14, .ref q15, .int v16])), (q0, .inl (cA 0, 60, .inl o37.2.1)), (q15, .inl (cA 0, 240, .inl cd))])) (st1 := (fun as => [.int o37.1])) ⟨hx, hb, hml, hfc, hts⟩ hK hP hD hS hA (kX6_doLayTowel l D cA m0 q0 q1 q2 q4 q7 q9 q15 N v3 v5 v6 v8 v10 v11 v12 v13 v14 v16 ss t2 t4 ho37) (cwV 2 hts gX6_does_X6_doLayTowel rfl rfl rfl (by decide +kernel) ⟨(Nat.le_of_ble_eq_true rfl), (Nat.le_of_ble_eq_true rfl)⟩) [0, 1] [2] [1, 2, 0] rfl rfl rfl rfl (by decide) (fun _ => rfl) rfl 0 10 rfl rfl rfl rfl (fun _ => rfl) rfl hl.1 (Nat.le_of_ble_eq_true rfl) dX6_does_169 ⟨(Nat.le_of_ble_eq_true rfl), (Nat.le_of_ble_eq_true rfl)⟩ (fun as38 H locs hP hD hS => ?_)
                    have hP : va_P D vwCl [(m0, .inr (10, [.ref q0, .ref q1, .ref q2, .int v3, .ref q4, .int v5, .int o37.2.2, .ref q7, .int v8, .ref q9, .int v10, .int v11, .int v12, .int v13, .int v14, .ref q15, .int v16])), (q0, .inl (cA 0, 60, .inl o37.2.1)), (q15, .inl (cA 0, 240, .inl cd))] H := hP
                    have hD : va_D A [(m0, .inr (10, [.ref q0, .ref q1, .ref q2, .int v3, .ref q4, .int v5, .int o37.2.2, .ref q7, .int v8, .ref q9, .int v10, .int v11, .int v12, .int v13, .int v14, .ref q15, .int v16])), (q0, .inl (cA 0, 60, .inl o37.2.1)), (q15, .inl (cA 0, 240, .inl cd))] := hD
                    refine lv_istore hx hb dX6_does_172 hl (Nat.le_of_ble_eq_true rfl) rfl (fun ls hl => ?_)
                    have hl : lv_has ls 5 [(4, .int o37.1), (3, .int t4), (2, .int t2), (0, .ref m0), (1, .int x1)] := hl
                    refine lv_goto (tgt := 204) hx hb dX6_does_174 (by decide) ?_
                    have h := Option.some.inj h
                    subst h
                    exact hend (adr []) _ _ _ _ _ _ _ rfl rfl (rtn_v) hP hD hS dX6_does_204
                  · have h := ite_f c36 h
                    by_cases c39 : (cd (Int32.toNatClampNeg (4 * x1))) = 9
                    · have h := ite_t c39 h
                      refine lv_tableIn (off := 147) (tgt := 177) hx hb dX6_does_30 (by rw [c39]; decide) (by rw [c39]; decide) (by rw [c39]; decide) (by decide) ?_
                      refine lv_aload_n hx hb dX6_does_177 rfl (lv_at hl 2 rfl) ?_
                      refine lv_iload_n hx hb dX6_does_178 rfl (lv_at hl 1 rfl) ?_
                      obtain ⟨o40, ho40, h⟩ := bnd_i h
                      refine gq_V (v := (fun as => (some (.int o40.1)))) (As := [.int t2]) (rest := []) (wc := [(m0, .inr (10, [.ref q0, .ref q1, .ref q2, .int v3, .ref q4, .int v5, .int v6, .ref q7, .int v8, .ref q9, .int v10, .int v11, .int v12, .int v13, .int v14, .ref q15, .int v16])), (q0, .inl (cA 0, 60, .inl ss))]) (wr := [(q15, .inl (cA 0, 240, .inl cd))]) (w1 := (fun as => [(m0, .inr (10, [.ref q0, .ref q1, .ref q2, .int v3, .ref q4, .int v5, .int o40.2.2, .ref q7, .int v8, .ref q9, .int v10, .int v11, .int v12, .int v13, .int v14, .ref q15, .int v16])), (q0, .inl (cA 0, 60, .inl o40.2.1))])) (ws2 := (fun as => [(m0, .inr (10, [.ref q0, .ref q1, .ref q2, .int v3, .ref q4, .int v5, .int o40.2.2, .ref q7, .int v8, .ref q9, .int v10, .int v11, .int v12, .int v13, .int v14, .ref q15, .int v16])), (q0, .inl (cA 0, 60, .inl o40.2.1)), (q15, .inl (cA 0, 240, .inl cd))])) (st1 := (fun as => [.int o40.1])) ⟨hx, hb, hml, hfc, hts⟩ hK hP hD hS hA (kX6_doWringTowel l D cA m0 q0 q1 q2 q4 q7 q9 q15 v3 v5 v6 v8 v10 v11 v12 v13 v14 v16 ss t2 ho40) (cwV 1 hts gX6_does_X6_doWringTowel rfl rfl rfl (by decide +kernel) ⟨(Nat.le_of_ble_eq_true rfl), (Nat.le_of_ble_eq_true rfl)⟩) [0, 1] [2] [1, 2, 0] rfl rfl rfl rfl (by decide) (fun _ => rfl) rfl 0 10 rfl rfl rfl rfl (fun _ => rfl) rfl hl.1 (Nat.le_of_ble_eq_true rfl) dX6_does_179 ⟨(Nat.le_of_ble_eq_true rfl), (Nat.le_of_ble_eq_true rfl)⟩ (fun as41 H locs hP hD hS => ?_)
                      have hP : va_P D vwCl [(m0, .inr (10, [.ref q0, .ref q1, .ref q2, .int v3, .ref q4, .int v5, .int o40.2.2, .ref q7, .int v8, .ref q9, .int v10, .int v11, .int v12, .int v13, .int v14, .ref q15, .int v16])), (q0, .inl (cA 0, 60, .inl o40.2.1)), (q15, .inl (cA 0, 240, .inl cd))] H := hP
                      have hD : va_D A [(m0, .inr (10, [.ref q0, .ref q1, .ref q2, .int v3, .ref q4, .int v5, .int o40.2.2, .ref q7, .int v8, .ref q9, .int v10, .int v11, .int v12, .int v13, .int v14, .ref q15, .int v16])), (q0, .inl (cA 0, 60, .inl o40.2.1)), (q15, .inl (cA 0, 240, .inl cd))] := hD
                      refine lv_istore hx hb dX6_does_182 hl (Nat.le_of_ble_eq_true rfl) rfl (fun ls hl => ?_)
                      have hl : lv_has ls 5 [(4, .int o40.1), (3, .int t4), (2, .int t2), (0, .ref m0), (1, .int x1)] := hl
                      refine lv_goto (tgt := 204) hx hb dX6_does_184 (by decide) ?_
                      have h := Option.some.inj h
                      subst h
                      exact hend (adr []) _ _ _ _ _ _ _ rfl rfl (rtn_v) hP hD hS dX6_does_204
                    · have h := ite_f c39 h
                      by_cases c42 : (cd (Int32.toNatClampNeg (4 * x1))) = 10
                      · have h := ite_t c42 h
                        refine lv_tableIn (off := 157) (tgt := 187) hx hb dX6_does_30 (by rw [c42]; decide) (by rw [c42]; decide) (by rw [c42]; decide) (by decide) ?_
                        refine lv_aload_n hx hb dX6_does_187 rfl (lv_at hl 2 rfl) ?_
                        refine lv_iload_n hx hb dX6_does_188 rfl (lv_at hl 1 rfl) ?_
                        obtain ⟨o43, ho43, h⟩ := lt_i h
                        refine gq_V (v := (fun as => (some (.int o43.1)))) (As := [.int t2]) (rest := []) (wc := [(m0, .inr (10, [.ref q0, .ref q1, .ref q2, .int v3, .ref q4, .int v5, .int v6, .ref q7, .int v8, .ref q9, .int v10, .int v11, .int v12, .int v13, .int v14, .ref q15, .int v16])), (q0, .inl (cA 0, 60, .inl ss))]) (wr := [(q15, .inl (cA 0, 240, .inl cd))]) (w1 := (fun as => [(m0, .inr (10, [.ref q0, .ref q1, .ref q2, .int v3, .ref q4, .int v5, .int o43.2.2, .ref q7, .int v8, .ref q9, .int v10, .int v11, .int v12, .int v13, .int v14, .ref q15, .int v16])), (q0, .inl (cA 0, 60, .inl o43.2.1))])) (ws2 := (fun as => [(m0, .inr (10, [.ref q0, .ref q1, .ref q2, .int v3, .ref q4, .int v5, .int o43.2.2, .ref q7, .int v8, .ref q9, .int v10, .int v11, .int v12, .int v13, .int v14, .ref q15, .int v16])), (q0, .inl (cA 0, 60, .inl o43.2.1)), (q15, .inl (cA 0, 240, .inl cd))])) (st1 := (fun as => [.int o43.1])) ⟨hx, hb, hml, hfc, hts⟩ hK hP hD hS hA (kX6_doSetFlow l D cA m0 q0 q1 q2 q4 q7 q9 q15 v3 v5 v6 v8 v10 v11 v12 v13 v14 v16 ss t2 ho43) (cwV 1 hts gX6_does_X6_doSetFlow rfl rfl rfl (by decide +kernel) ⟨(Nat.le_of_ble_eq_true rfl), (Nat.le_of_ble_eq_true rfl)⟩) [0, 1] [2] [1, 2, 0] rfl rfl rfl rfl (by decide) (fun _ => rfl) rfl 0 10 rfl rfl rfl rfl (fun _ => rfl) rfl hl.1 (Nat.le_of_ble_eq_true rfl) dX6_does_189 ⟨(Nat.le_of_ble_eq_true rfl), (Nat.le_of_ble_eq_true rfl)⟩ (fun as44 H locs hP hD hS => ?_)
                        have hP : va_P D vwCl [(m0, .inr (10, [.ref q0, .ref q1, .ref q2, .int v3, .ref q4, .int v5, .int o43.2.2, .ref q7, .int v8, .ref q9, .int v10, .int v11, .int v12, .int v13, .int v14, .ref q15, .int v16])), (q0, .inl (cA 0, 60, .inl o43.2.1)), (q15, .inl (cA 0, 240, .inl cd))] H := hP
                        have hD : va_D A [(m0, .inr (10, [.ref q0, .ref q1, .ref q2, .int v3, .ref q4, .int v5, .int o43.2.2, .ref q7, .int v8, .ref q9, .int v10, .int v11, .int v12, .int v13, .int v14, .ref q15, .int v16])), (q0, .inl (cA 0, 60, .inl o43.2.1)), (q15, .inl (cA 0, 240, .inl cd))] := hD
                        refine lv_istore hx hb dX6_does_192 hl (Nat.le_of_ble_eq_true rfl) rfl (fun ls hl => ?_)
                        have hl : lv_has ls 5 [(4, .int o43.1), (3, .int t4), (2, .int t2), (0, .ref m0), (1, .int x1)] := hl
                        refine lv_goto (tgt := 204) hx hb dX6_does_194 (by decide) ?_
                        have h := Option.some.inj h
                        subst h
                        exact hend (adr []) _ _ _ _ _ _ _ rfl rfl (rtn_v) hP hD hS dX6_does_204
                      · have h := ite_f c42 h
                        have n0 := lv_neT (a := 0) c6 (by decide)
                        have n1 := lv_neT (a := 1) c11 (by decide)
                        have n2 := lv_neT (a := 2) c16 (by decide)
                        have n3 := lv_neT (a := 3) c21 (by decide)
                        have n4 := lv_neT (a := 4) c24 (by decide)
                        have n5 := lv_neT (a := 5) c27 (by decide)
                        have n6 := lv_neT (a := 6) c30 (by decide)
                        have n7 := lv_neT (a := 7) c33 (by decide)
                        have n8 := lv_neT (a := 8) c36 (by decide)
                        have n9 := lv_neT (a := 9) c39 (by decide)
                        have n10 := lv_neT (a := 10) c42 (by decide)
                        refine lv_tableOut (tgt := 197) hx hb dX6_does_30 (by omega) (by decide) ?_
                        refine lv_aload_n hx hb dX6_does_197 rfl (lv_at hl 2 rfl) ?_
                        refine lv_iload_n hx hb dX6_does_198 rfl (lv_at hl 1 rfl) ?_
                        obtain ⟨o45, ho45, h⟩ := bnd_i h
                        refine gq_V (v := (fun as => (some (.int o45.1)))) (As := [.int t2]) (rest := []) (wc := [(m0, .inr (10, [.ref q0, .ref q1, .ref q2, .int v3, .ref q4, .int v5, .int v6, .ref q7, .int v8, .ref q9, .int v10, .int v11, .int v12, .int v13, .int v14, .ref q15, .int v16])), (q0, .inl (cA 0, 60, .inl ss))]) (wr := [(q15, .inl (cA 0, 240, .inl cd))]) (w1 := (fun as => [(m0, .inr (10, [.ref q0, .ref q1, .ref q2, .int v3, .ref q4, .int v5, .int o45.2.2, .ref q7, .int v8, .ref q9, .int v10, .int v11, .int v12, .int v13, .int v14, .ref q15, .int v16])), (q0, .inl (cA 0, 60, .inl o45.2.1))])) (ws2 := (fun as => [(m0, .inr (10, [.ref q0, .ref q1, .ref q2, .int v3, .ref q4, .int v5, .int o45.2.2, .ref q7, .int v8, .ref q9, .int v10, .int v11, .int v12, .int v13, .int v14, .ref q15, .int v16])), (q0, .inl (cA 0, 60, .inl o45.2.1)), (q15, .inl (cA 0, 240, .inl cd))])) (st1 := (fun as => [.int o45.1])) ⟨hx, hb, hml, hfc, hts⟩ hK hP hD hS hA (kX6_doAdvance l D cA m0 q0 q1 q2 q4 q7 q9 q15 N v3 v5 v6 v8 v10 v11 v12 v13 v14 v16 ss t2 ho45) (cwV 1 hts gX6_does_X6_doAdvance rfl rfl rfl (by decide +kernel) ⟨(Nat.le_of_ble_eq_true rfl), (Nat.le_of_ble_eq_true rfl)⟩) [0, 1] [2] [1, 2, 0] rfl rfl rfl rfl (by decide) (fun _ => rfl) rfl 0 10 rfl rfl rfl rfl (fun _ => rfl) rfl hl.1 (Nat.le_of_ble_eq_true rfl) dX6_does_199 ⟨(Nat.le_of_ble_eq_true rfl), (Nat.le_of_ble_eq_true rfl)⟩ (fun as46 H locs hP hD hS => ?_)
                        have hP : va_P D vwCl [(m0, .inr (10, [.ref q0, .ref q1, .ref q2, .int v3, .ref q4, .int v5, .int o45.2.2, .ref q7, .int v8, .ref q9, .int v10, .int v11, .int v12, .int v13, .int v14, .ref q15, .int v16])), (q0, .inl (cA 0, 60, .inl o45.2.1)), (q15, .inl (cA 0, 240, .inl cd))] H := hP
                        have hD : va_D A [(m0, .inr (10, [.ref q0, .ref q1, .ref q2, .int v3, .ref q4, .int v5, .int o45.2.2, .ref q7, .int v8, .ref q9, .int v10, .int v11, .int v12, .int v13, .int v14, .ref q15, .int v16])), (q0, .inl (cA 0, 60, .inl o45.2.1)), (q15, .inl (cA 0, 240, .inl cd))] := hD
                        refine lv_istore hx hb dX6_does_202 hl (Nat.le_of_ble_eq_true rfl) rfl (fun ls hl => ?_)
                        have hl : lv_has ls 5 [(4, .int o45.1), (3, .int t4), (2, .int t2), (0, .ref m0), (1, .int x1)] := hl
                        have h := Option.some.inj h
                        subst h
                        exact hend (adr []) _ _ _ _ _ _ _ rfl rfl (rtn_v) hP hD hS dX6_does_204

noncomputable def LX6_execute_19 (K : (Int32 × Int32 × Int32 × (Nat → Int32)) → Option (Int32 × Int32 × Int32 × Int32 × Int32 × Int32 × Int32 × Int32 × Int32 × (Nat → Int32) × (Nat → Int32) × (Nat → Int32) × (Nat → Int32))) (N : Nat) (v10 : Int32) (tx : Nat → Int32) : Nat → (Nat → Int32) → Int32 → Int32 → Int32 → Option (Int32 × Int32 × Int32 × Int32 × Int32 × Int32 × Int32 × Int32 × Int32 × (Nat → Int32) × (Nat → Int32) × (Nat → Int32) × (Nat → Int32))
  | 0, _, _, _, _ => none
  | fu + 1, f5_19, v0_11_19, v0_12_19, v0_16_19 => if v0_12_19 = 0 then (bnd (SX6_behind v10 v0_11_19 tx 0) (fun o5 : Int32 => if o5 = 59 then (bnd (SX6_readCommand N v10 (v0_11_19 + 1) v0_12_19 v0_16_19 tx f5_19) (fun o8 : Int32 × Int32 × Int32 × (Nat → Int32) => LX6_execute_19 K N v10 tx fu o8.2.2.2 o8.1 o8.2.1 o8.2.2.1)) else (K (v0_11_19, v0_12_19, v0_16_19, f5_19)))) else (K (v0_11_19, v0_12_19, v0_16_19, f5_19))
noncomputable def LX6_execute_126 (N : Nat) (o3 : Int32 × Int32 × Int32 × (Nat → Int32)) (v5 : Int32) (o17 : (Nat → Int32) × Int32) (pp : Nat → Int32) (o11 : Int32) (o15 : Int32) (v14 : Int32) : Nat → (Nat → Int32) → Int32 → Int32 → Option (Int32 × Int32 × Int32 × Int32 × Int32 × Int32 × Int32 × Int32 × Int32 × (Nat → Int32) × (Nat → Int32) × (Nat → Int32) × (Nat → Int32))
  | 0, _, _, _ => none
  | fu + 1, f1_126, v0_6_126, x1_126 => if o3.2.2.1 ≤ x1_126 then (bnd (SX6_ends v5 v0_6_126 f1_126 o17.1 pp o3.2.2.1) (fun o20 : Int32 × (Nat → Int32) × (Nat → Int32) × Int32 => some ((o20.1, o20.2.2.2, v0_6_126, 0, o3.1, o11, o15, v14, o3.2.2.1, o20.2.1, o17.1, o20.2.2.1, o3.2.2.2)))) else (bnd (SX6_does N v0_6_126 f1_126 o3.2.2.2 x1_126) (fun o22 : Int32 × (Nat → Int32) => if o22.1 ≤ 0 then (LX6_execute_126 N o3 v5 o17 pp o11 o15 v14 fu o22.2 o22.1 (x1_126 + 1)) else (lt_ (SX6_fails 2) (fun o25 : Int32 × Int32 => bnd (SX6_ends v5 o25.2 o22.2 o17.1 pp o25.1) (fun o27 : Int32 × (Nat → Int32) × (Nat → Int32) × Int32 => some ((o27.1, o27.2.2.2, o25.2, 0, o3.1, o11, o15, x1_126, o3.2.2.1, o27.2.1, o17.1, o27.2.2.1, o3.2.2.2)))))))
noncomputable def SX6_execute (N : Nat) (v5 : Int32) (v10 : Int32) (v13 : Int32) (v14 : Int32) (ss : Nat → Int32) (bb : Nat → Int32) (pp : Nat → Int32) (tx : Nat → Int32) (cd : Nat → Int32) : Option (Int32 × Int32 × Int32 × Int32 × Int32 × Int32 × Int32 × Int32 × Int32 × (Nat → Int32) × (Nat → Int32) × (Nat → Int32) × (Nat → Int32)) := bnd (SX6_readCommand N v10 0 0 0 tx cd) (fun o1 : Int32 × Int32 × Int32 × (Nat → Int32) => LX6_execute_19 (fun o3 : Int32 × Int32 × Int32 × (Nat → Int32) => lt_ (if o3.2.1 = 0 then (if v10 ≤ o3.1 then (0) else (1)) else (1)) (fun o11 : Int32 => gd (narrow .boolean (.int o11) = .int o11 ∧ fits .boolean (.int o11) = true) (lt_ (if o11 = 0 then (v13) else (o3.1)) (fun o15 : Int32 => if o11 = 0 then (lt_ (SX6_keep ss bb) (fun o17 : (Nat → Int32) × Int32 => LX6_execute_126 N o3 v5 o17 pp o11 o15 v14 N ss o17.2 0)) else (lt_ (SX6_fails 1) (fun o29 : Int32 × Int32 => some ((o29.1, v5, o29.2, 0, o3.1, o11, o15, v14, o3.2.2.1, ss, bb, pp, o3.2.2.2)))))))) N v10 tx N o1.2.2.2 o1.1 o1.2.1 o1.2.2.1)
theorem iX6_execute_X6 : ∀ w ∈ wsX60, w ∈ wsX6_execute := fun _ h => List.mem_cons_of_mem _ (List.mem_append_left _ (List.mem_append_left _ (List.mem_append_left _ (List.mem_append_right _ h))))
abbrev RM_X6_execute : Room := { frames := 9, cells := 0, slots := 0, locals := 210 }
set_option maxHeartbeats 4000000 in
theorem kX6_execute (l : Launch) (D : va_G) (cA : Nat → ClassId) (G : eG) (m0 q0 q1 q2 q4 q7 q9 q15 : Nat) (N : Nat) (v3 : Int32) (v5 : Int32) (v6 : Int32) (v8 : Int32) (v10 : Int32) (v11 : Int32) (v12 : Int32) (v13 : Int32) (v14 : Int32) (v16 : Int32) (ss : Nat → Int32) (bb : Nat → Int32) (pp : Nat → Int32) (tx : Nat → Int32) (cd : Nat → Int32) {r : Int32 × Int32 × Int32 × Int32 × Int32 × Int32 × Int32 × Int32 × Int32 × (Nat → Int32) × (Nat → Int32) × (Nat → Int32) × (Nat → Int32)} (hr : SX6_execute N v5 v10 v13 v14 ss bb pp tx cd = some r) {sz : Nat} : Met l yX6_execute wsX6_execute RM_X6_execute (va_Pc [.ref m0] (gqEB G D cA [(m0, .inr (10, [.ref q0, .ref q1, .ref q2, .int v3, .ref q4, .int v5, .int v6, .ref q7, .int v8, .ref q9, .int v10, .int v11, .int v12, .int v13, .int v14, .ref q15, .int v16])), (q0, .inl (cA 0, 60, .inl ss)), (q1, .inl (cA 0, 60, .inl bb)), (q4, .inl (cA 0, 480, .inl pp)), (q9, .inl (cA 2, 60, .inl tx)), (q15, .inl (cA 0, 240, .inl cd))] sz)) (gqQ D (fun as => (some (.int r.1))) (fun as => [(m0, .inr (10, [.ref q0, .ref q1, .ref q2, .int v3, .ref q4, .int r.2.1, .int r.2.2.1, .ref q7, .int v8, .ref q9, .int r.2.2.2.1, .int r.2.2.2.2.1, .int r.2.2.2.2.2.1, .int r.2.2.2.2.2.2.1, .int r.2.2.2.2.2.2.2.1, .ref q15, .int r.2.2.2.2.2.2.2.2.1])), (q0, .inl (cA 0, 60, .inl r.2.2.2.2.2.2.2.2.2.1)), (q1, .inl (cA 0, 60, .inl r.2.2.2.2.2.2.2.2.2.2.1)), (q4, .inl (cA 0, 480, .inl r.2.2.2.2.2.2.2.2.2.2.2.1)), (q9, .inl (cA 2, 60, .inl tx)), (q15, .inl (cA 0, 240, .inl r.2.2.2.2.2.2.2.2.2.2.2.2))]) (va_A [(m0, .inr (10, [.ref q0, .ref q1, .ref q2, .int v3, .ref q4, .int v5, .int v6, .ref q7, .int v8, .ref q9, .int v10, .int v11, .int v12, .int v13, .int v14, .ref q15, .int v16])), (q0, .inl (cA 0, 60, .inl ss)), (q1, .inl (cA 0, 60, .inl bb)), (q4, .inl (cA 0, 480, .inl pp)), (q9, .inl (cA 2, 60, .inl tx)), (q15, .inl (cA 0, 240, .inl cd))] sz)) 0 0 (va_A [(m0, .inr (10, [.ref q0, .ref q1, .ref q2, .int v3, .ref q4, .int v5, .int v6, .ref q7, .int v8, .ref q9, .int v10, .int v11, .int v12, .int v13, .int v14, .ref q15, .int v16])), (q0, .inl (cA 0, 60, .inl ss)), (q1, .inl (cA 0, 60, .inl bb)), (q4, .inl (cA 0, 480, .inl pp)), (q9, .inl (cA 2, 60, .inl tx)), (q15, .inl (cA 0, 240, .inl cd))] sz) := by
  refine gqE_ofW (cc := cX6_execute) (maxL := 2) (ret := (some .int)) (by decide) rfl (Nat.le_of_ble_eq_true rfl) (fun p e s m args below meth c ls Q A hx hb hml hts hfc hmn hK hP hD hS hA hEV hl hend => ?_)
  have hfc : s.vm.findClass RX6 = some m.cls := hfc
  have hl : lv_has ls 2 [(0, .ref m0)] := hl
  have h := hr
  clear hr
  unfold SX6_execute at h
  refine lv_aload_n hx hb dX6_execute_0 rfl (lv_at hl 0 rfl) ?_
  refine lv_iconst (v := 0) hx hb dX6_execute_1 (by decide) ?_
  refine va_put (D := D) (ci := 10) (v := .int 0) (ty := .int) (C := RX6) (T := TX6) (N := 17) hx hb hts iX6_execute_X6 tyX6 tyX6_ok nmX6 hfc hK hP hD hS 0 rfl rfl 11 (by decide) (hts (.fieldLink RX6 195 "BathtubTidesModel" "at" "I") (List.mem_of_getElem? (i := 1) rfl)) (fun _ h9 => h9) rfl (by decide +kernel) rfl rfl (Nat.le_of_ble_eq_true rfl) dX6_execute_2 (fun H locs hP hD hS => ?_)
  have hP : va_P D vwCl [(m0, .inr (10, [.ref q0, .ref q1, .ref q2, .int v3, .ref q4, .int v5, .int v6, .ref q7, .int v8, .ref q9, .int v10, .int 0, .int v12, .int v13, .int v14, .ref q15, .int v16])), (q0, .inl (cA 0, 60, .inl ss)), (q1, .inl (cA 0, 60, .inl bb)), (q4, .inl (cA 0, 480, .inl pp)), (q9, .inl (cA 2, 60, .inl tx)), (q15, .inl (cA 0, 240, .inl cd))] H := hP
  have hD : va_D A [(m0, .inr (10, [.ref q0, .ref q1, .ref q2, .int v3, .ref q4, .int v5, .int v6, .ref q7, .int v8, .ref q9, .int v10, .int 0, .int v12, .int v13, .int v14, .ref q15, .int v16])), (q0, .inl (cA 0, 60, .inl ss)), (q1, .inl (cA 0, 60, .inl bb)), (q4, .inl (cA 0, 480, .inl pp)), (q9, .inl (cA 2, 60, .inl tx)), (q15, .inl (cA 0, 240, .inl cd))] := hD
  refine lv_aload_n hx hb dX6_execute_5 rfl (lv_at hl 0 rfl) ?_
  refine lv_iconst (v := 0) hx hb dX6_execute_6 (by decide) ?_
  refine va_put (D := D) (ci := 10) (v := .int 0) (ty := .boolean) (C := RX6) (T := TX6) (N := 17) hx hb hts iX6_execute_X6 tyX6 tyX6_ok nmX6 hfc hK hP hD hS 0 rfl rfl 12 (by decide) (hts (.fieldLink RX6 202 "BathtubTidesModel" "isWrong" "Z") (List.mem_of_getElem? (i := 2) rfl)) (fun _ h9 => h9) rfl (by decide +kernel) rfl rfl (Nat.le_of_ble_eq_true rfl) dX6_execute_7 (fun H locs hP hD hS => ?_)
  have hP : va_P D vwCl [(m0, .inr (10, [.ref q0, .ref q1, .ref q2, .int v3, .ref q4, .int v5, .int v6, .ref q7, .int v8, .ref q9, .int v10, .int 0, .int 0, .int v13, .int v14, .ref q15, .int v16])), (q0, .inl (cA 0, 60, .inl ss)), (q1, .inl (cA 0, 60, .inl bb)), (q4, .inl (cA 0, 480, .inl pp)), (q9, .inl (cA 2, 60, .inl tx)), (q15, .inl (cA 0, 240, .inl cd))] H := hP
  have hD : va_D A [(m0, .inr (10, [.ref q0, .ref q1, .ref q2, .int v3, .ref q4, .int v5, .int v6, .ref q7, .int v8, .ref q9, .int v10, .int 0, .int 0, .int v13, .int v14, .ref q15, .int v16])), (q0, .inl (cA 0, 60, .inl ss)), (q1, .inl (cA 0, 60, .inl bb)), (q4, .inl (cA 0, 480, .inl pp)), (q9, .inl (cA 2, 60, .inl tx)), (q15, .inl (cA 0, 240, .inl cd))] := hD
  refine lv_aload_n hx hb dX6_execute_10 rfl (lv_at hl 0 rfl) ?_
  refine lv_iconst (v := 0) hx hb dX6_execute_11 (by decide) ?_
  refine va_put (D := D) (ci := 10) (v := .int 0) (ty := .int) (C := RX6) (T := TX6) (N := 17) hx hb hts iX6_execute_X6 tyX6 tyX6_ok nmX6 hfc hK hP hD hS 0 rfl rfl 16 (by decide) (hts (.fieldLink RX6 255 "BathtubTidesModel" "commandMany" "I") (List.mem_of_getElem? (i := 3) rfl)) (fun _ h9 => h9) rfl (by decide +kernel) rfl rfl (Nat.le_of_ble_eq_true rfl) dX6_execute_12 (fun H locs hP hD hS => ?_)
  have hP : va_P D vwCl [(m0, .inr (10, [.ref q0, .ref q1, .ref q2, .int v3, .ref q4, .int v5, .int v6, .ref q7, .int v8, .ref q9, .int v10, .int 0, .int 0, .int v13, .int v14, .ref q15, .int 0])), (q0, .inl (cA 0, 60, .inl ss)), (q1, .inl (cA 0, 60, .inl bb)), (q4, .inl (cA 0, 480, .inl pp)), (q9, .inl (cA 2, 60, .inl tx)), (q15, .inl (cA 0, 240, .inl cd))] H := hP
  have hD : va_D A [(m0, .inr (10, [.ref q0, .ref q1, .ref q2, .int v3, .ref q4, .int v5, .int v6, .ref q7, .int v8, .ref q9, .int v10, .int 0, .int 0, .int v13, .int v14, .ref q15, .int 0])), (q0, .inl (cA 0, 60, .inl ss)), (q1, .inl (cA 0, 60, .inl bb)), (q4, .inl (cA 0, 480, .inl pp)), (q9, .inl (cA 2, 60, .inl tx)), (q15, .inl (cA 0, 240, .inl cd))] := hD
  refine lv_aload_n hx hb dX6_execute_15 rfl (lv_at hl 0 rfl) ?_
  obtain ⟨o1, ho1, h⟩ := bnd_i h
  refine gqE_V (G := G) (v := (fun as => none)) (As := []) (rest := []) (wc := [(m0, .inr (10, [.ref q0, .ref q1, .ref q2, .int v3, .ref q4, .int v5, .int v6, .ref q7, .int v8, .ref q9, .int v10, .int 0, .int 0, .int v13, .int v14, .ref q15, .int 0])), (q9, .inl (cA 2, 60, .inl tx)), (q15, .inl (cA 0, 240, .inl cd))]) (wr := [(q0, .inl (cA 0, 60, .inl ss)), (q1, .inl (cA 0, 60, .inl bb)), (q4, .inl (cA 0, 480, .inl pp))]) (w1 := (fun as => [(m0, .inr (10, [.ref q0, .ref q1, .ref q2, .int v3, .ref q4, .int v5, .int v6, .ref q7, .int v8, .ref q9, .int v10, .int o1.1, .int o1.2.1, .int v13, .int v14, .ref q15, .int o1.2.2.1])), (q9, .inl (cA 2, 60, .inl tx)), (q15, .inl (cA 0, 240, .inl o1.2.2.2))])) (ws2 := (fun as => [(m0, .inr (10, [.ref q0, .ref q1, .ref q2, .int v3, .ref q4, .int v5, .int v6, .ref q7, .int v8, .ref q9, .int v10, .int o1.1, .int o1.2.1, .int v13, .int v14, .ref q15, .int o1.2.2.1])), (q0, .inl (cA 0, 60, .inl ss)), (q1, .inl (cA 0, 60, .inl bb)), (q4, .inl (cA 0, 480, .inl pp)), (q9, .inl (cA 2, 60, .inl tx)), (q15, .inl (cA 0, 240, .inl o1.2.2.2))])) (st1 := (fun as => [])) ⟨hx, hb, hml, hfc, hts⟩ hK hP hD hS hA hEV (kX6_readCommand l D cA G m0 q0 q1 q2 q4 q7 q9 q15 N v3 v5 v6 v8 v10 0 0 v13 v14 0 tx cd ho1) (cwV 0 hts gX6_execute_X6_readCommand rfl rfl rfl (by decide +kernel) ⟨(Nat.le_of_ble_eq_true rfl), (Nat.le_of_ble_eq_true rfl)⟩) [0, 4, 5] [1, 2, 3] [3, 0, 1, 2, 4, 5] rfl rfl rfl rfl (by decide) (fun _ => rfl) rfl 0 10 rfl rfl rfl rfl (fun _ => rfl) rfl hl.1 (Nat.le_of_ble_eq_true rfl) dX6_execute_16 ⟨(Nat.le_of_ble_eq_true rfl), (Nat.le_of_ble_eq_true rfl)⟩ (fun as2 H locs hP hD hS => ?_)
  have hP : va_P D vwCl [(m0, .inr (10, [.ref q0, .ref q1, .ref q2, .int v3, .ref q4, .int v5, .int v6, .ref q7, .int v8, .ref q9, .int v10, .int o1.1, .int o1.2.1, .int v13, .int v14, .ref q15, .int o1.2.2.1])), (q0, .inl (cA 0, 60, .inl ss)), (q1, .inl (cA 0, 60, .inl bb)), (q4, .inl (cA 0, 480, .inl pp)), (q9, .inl (cA 2, 60, .inl tx)), (q15, .inl (cA 0, 240, .inl o1.2.2.2))] H := hP
  have hD : va_D A [(m0, .inr (10, [.ref q0, .ref q1, .ref q2, .int v3, .ref q4, .int v5, .int v6, .ref q7, .int v8, .ref q9, .int v10, .int o1.1, .int o1.2.1, .int v13, .int v14, .ref q15, .int o1.2.2.1])), (q0, .inl (cA 0, 60, .inl ss)), (q1, .inl (cA 0, 60, .inl bb)), (q4, .inl (cA 0, 480, .inl pp)), (q9, .inl (cA 2, 60, .inl tx)), (q15, .inl (cA 0, 240, .inl o1.2.2.2))] := hD
  have hLX6_execute_19 : ∀ (K : (Int32 × Int32 × Int32 × (Nat → Int32)) → Option (Int32 × Int32 × Int32 × Int32 × Int32 × Int32 × Int32 × Int32 × Int32 × (Nat → Int32) × (Nat → Int32) × (Nat → Int32) × (Nat → Int32))), (∀ (o3 : Int32 × Int32 × Int32 × (Nat → Int32)) (ls : Array Slot) (H : Heap) (locs : List Loc), lv_has ls 2 [(0, .ref m0)] → va_P D vwCl [(m0, .inr (10, [.ref q0, .ref q1, .ref q2, .int v3, .ref q4, .int v5, .int v6, .ref q7, .int v8, .ref q9, .int v10, .int o3.1, .int o3.2.1, .int v13, .int v14, .ref q15, .int o3.2.2.1])), (q0, .inl (cA 0, 60, .inl ss)), (q1, .inl (cA 0, 60, .inl bb)), (q4, .inl (cA 0, 480, .inl pp)), (q9, .inl (cA 2, 60, .inl tx)), (q15, .inl (cA 0, 240, .inl o3.2.2.2))] H → va_D A [(m0, .inr (10, [.ref q0, .ref q1, .ref q2, .int v3, .ref q4, .int v5, .int v6, .ref q7, .int v8, .ref q9, .int v10, .int o3.1, .int o3.2.1, .int v13, .int v14, .ref q15, .int o3.2.2.1])), (q0, .inl (cA 0, 60, .inl ss)), (q1, .inl (cA 0, 60, .inl bb)), (q4, .inl (cA 0, 480, .inl pp)), (q9, .inl (cA 2, 60, .inl tx)), (q15, .inl (cA 0, 240, .inl o3.2.2.2))] → va_S A s.heap H locs → K o3 = some r → W p l e RM_X6_execute s m args below meth c H locs 0 0 Q (F0 m 53 ls [])) → ∀ (fu : Nat) (f5_19 : Nat → Int32) (v0_11_19 : Int32) (v0_12_19 : Int32) (v0_16_19 : Int32) (ls : Array Slot) (H : Heap) (locs : List Loc), lv_has ls 2 [(0, .ref m0)] → va_P D vwCl [(m0, .inr (10, [.ref q0, .ref q1, .ref q2, .int v3, .ref q4, .int v5, .int v6, .ref q7, .int v8, .ref q9, .int v10, .int v0_11_19, .int v0_12_19, .int v13, .int v14, .ref q15, .int v0_16_19])), (q0, .inl (cA 0, 60, .inl ss)), (q1, .inl (cA 0, 60, .inl bb)), (q4, .inl (cA 0, 480, .inl pp)), (q9, .inl (cA 2, 60, .inl tx)), (q15, .inl (cA 0, 240, .inl f5_19))] H → va_D A [(m0, .inr (10, [.ref q0, .ref q1, .ref q2, .int v3, .ref q4, .int v5, .int v6, .ref q7, .int v8, .ref q9, .int v10, .int v0_11_19, .int v0_12_19, .int v13, .int v14, .ref q15, .int v0_16_19])), (q0, .inl (cA 0, 60, .inl ss)), (q1, .inl (cA 0, 60, .inl bb)), (q4, .inl (cA 0, 480, .inl pp)), (q9, .inl (cA 2, 60, .inl tx)), (q15, .inl (cA 0, 240, .inl f5_19))] → va_S A s.heap H locs → LX6_execute_19 K N v10 tx fu f5_19 v0_11_19 v0_12_19 v0_16_19 = some r → W p l e RM_X6_execute s m args below meth c H locs 0 0 Q (F0 m 19 ls []) := by
    intro K hKk fu
    induction fu with
    | zero =>
      intro f5_19 v0_11_19 v0_12_19 v0_16_19 ls H locs hl hP hD hS h
      rw [LX6_execute_19] at h
      exact nn h
    | succ fu ih =>
      intro f5_19 v0_11_19 v0_12_19 v0_16_19 ls H locs hl hP hD hS h
      rw [LX6_execute_19] at h
      refine lv_aload_n hx hb dX6_execute_19 rfl (lv_at hl 0 rfl) ?_
      refine va_get (D := D) (ci := 10) (v := .int v0_12_19) (C := RX6) (T := TX6) (N := 17) hx hb hts iX6_execute_X6 hfc hK hP 0 rfl rfl 12 (by decide) (hts (.fieldLink RX6 202 "BathtubTidesModel" "isWrong" "Z") (List.mem_of_getElem? (i := 2) rfl)) (fun _ h9 => h9) rfl dX6_execute_20 ?_
      refine lv_if_ne (tgt := 53) hx hb dX6_execute_23 (by decide) (fun c4 => ?_) (fun c4 => ?_)
      · have h := ite_f c4 h
        exact hKk (v0_11_19, v0_12_19, v0_16_19, f5_19) _ _ _ (lv_sub hl [0] rfl) hP hD hS h
      · have h := ite_t c4 h
        refine lv_aload_n hx hb dX6_execute_26 rfl (lv_at hl 0 rfl) ?_
        refine lv_iconst (v := 0) hx hb dX6_execute_27 (by decide) ?_
        obtain ⟨o5, ho5, h⟩ := bnd_i h
        refine rq_V (v := (some (.int o5))) (As := [.int 0]) (rest := []) (wc := [(m0, .inr (10, [.ref q0, .ref q1, .ref q2, .int v3, .ref q4, .int v5, .int v6, .ref q7, .int v8, .ref q9, .int v10, .int v0_11_19, .int v0_12_19, .int v13, .int v14, .ref q15, .int v0_16_19])), (q9, .inl (cA 2, 60, .inl tx))]) ⟨hx, hb, hml, hfc, hts⟩ hK hP (kX6_behind l D cA m0 q0 q1 q2 q4 q7 q9 q15 v3 v5 v6 v8 v10 v0_11_19 v0_12_19 v13 v14 v0_16_19 tx 0 ho5) (cwV 1 hts gX6_execute_X6_behind rfl rfl rfl (by decide +kernel) ⟨(Nat.le_of_ble_eq_true rfl), (Nat.le_of_ble_eq_true rfl)⟩) [0, 4] rfl 0 10 rfl rfl rfl rfl rfl rfl hl.1 (Nat.le_of_ble_eq_true rfl) dX6_execute_28 ⟨(Nat.zero_le _), (Nat.zero_le _)⟩ ?_
        refine lv_bipush (v := 59) hx hb dX6_execute_31 (by decide) ?_
        refine lv_icmp_ne (tgt := 53) hx hb dX6_execute_33 (by decide) (fun c7 => ?_) (fun c7 => ?_)
        · have h := ite_f c7 h
          exact hKk (v0_11_19, v0_12_19, v0_16_19, f5_19) _ _ _ (lv_sub hl [0] rfl) hP hD hS h
        · have h := ite_t c7 h
          refine lv_aload_n hx hb dX6_execute_36 rfl (lv_at hl 0 rfl) ?_
          refine lv_dup hx hb dX6_execute_37 rfl ?_
          refine va_get (D := D) (ci := 10) (v := .int v0_11_19) (C := RX6) (T := TX6) (N := 17) hx hb hts iX6_execute_X6 hfc hK hP 0 rfl rfl 11 (by decide) (hts (.fieldLink RX6 195 "BathtubTidesModel" "at" "I") (List.mem_of_getElem? (i := 1) rfl)) (fun _ h9 => h9) rfl dX6_execute_38 ?_
          refine lv_iconst (v := 1) hx hb dX6_execute_41 (by decide) ?_
          refine lv_iadd hx hb dX6_execute_42 ?_
          refine va_put (D := D) (ci := 10) (v := .int (v0_11_19 + 1)) (ty := .int) (C := RX6) (T := TX6) (N := 17) hx hb hts iX6_execute_X6 tyX6 tyX6_ok nmX6 hfc hK hP hD hS 0 rfl rfl 11 (by decide) (hts (.fieldLink RX6 195 "BathtubTidesModel" "at" "I") (List.mem_of_getElem? (i := 1) rfl)) (fun _ h9 => h9) rfl (by decide +kernel) rfl rfl (Nat.le_of_ble_eq_true rfl) dX6_execute_43 (fun H locs hP hD hS => ?_)
          have hP : va_P D vwCl [(m0, .inr (10, [.ref q0, .ref q1, .ref q2, .int v3, .ref q4, .int v5, .int v6, .ref q7, .int v8, .ref q9, .int v10, .int (v0_11_19 + 1), .int v0_12_19, .int v13, .int v14, .ref q15, .int v0_16_19])), (q0, .inl (cA 0, 60, .inl ss)), (q1, .inl (cA 0, 60, .inl bb)), (q4, .inl (cA 0, 480, .inl pp)), (q9, .inl (cA 2, 60, .inl tx)), (q15, .inl (cA 0, 240, .inl f5_19))] H := hP
          have hD : va_D A [(m0, .inr (10, [.ref q0, .ref q1, .ref q2, .int v3, .ref q4, .int v5, .int v6, .ref q7, .int v8, .ref q9, .int v10, .int (v0_11_19 + 1), .int v0_12_19, .int v13, .int v14, .ref q15, .int v0_16_19])), (q0, .inl (cA 0, 60, .inl ss)), (q1, .inl (cA 0, 60, .inl bb)), (q4, .inl (cA 0, 480, .inl pp)), (q9, .inl (cA 2, 60, .inl tx)), (q15, .inl (cA 0, 240, .inl f5_19))] := hD
          refine lv_aload_n hx hb dX6_execute_46 rfl (lv_at hl 0 rfl) ?_
          obtain ⟨o8, ho8, h⟩ := bnd_i h
          refine gqE_V (G := G) (v := (fun as => none)) (As := []) (rest := []) (wc := [(m0, .inr (10, [.ref q0, .ref q1, .ref q2, .int v3, .ref q4, .int v5, .int v6, .ref q7, .int v8, .ref q9, .int v10, .int (v0_11_19 + 1), .int v0_12_19, .int v13, .int v14, .ref q15, .int v0_16_19])), (q9, .inl (cA 2, 60, .inl tx)), (q15, .inl (cA 0, 240, .inl f5_19))]) (wr := [(q0, .inl (cA 0, 60, .inl ss)), (q1, .inl (cA 0, 60, .inl bb)), (q4, .inl (cA 0, 480, .inl pp))]) (w1 := (fun as => [(m0, .inr (10, [.ref q0, .ref q1, .ref q2, .int v3, .ref q4, .int v5, .int v6, .ref q7, .int v8, .ref q9, .int v10, .int o8.1, .int o8.2.1, .int v13, .int v14, .ref q15, .int o8.2.2.1])), (q9, .inl (cA 2, 60, .inl tx)), (q15, .inl (cA 0, 240, .inl o8.2.2.2))])) (ws2 := (fun as => [(m0, .inr (10, [.ref q0, .ref q1, .ref q2, .int v3, .ref q4, .int v5, .int v6, .ref q7, .int v8, .ref q9, .int v10, .int o8.1, .int o8.2.1, .int v13, .int v14, .ref q15, .int o8.2.2.1])), (q0, .inl (cA 0, 60, .inl ss)), (q1, .inl (cA 0, 60, .inl bb)), (q4, .inl (cA 0, 480, .inl pp)), (q9, .inl (cA 2, 60, .inl tx)), (q15, .inl (cA 0, 240, .inl o8.2.2.2))])) (st1 := (fun as => [])) ⟨hx, hb, hml, hfc, hts⟩ hK hP hD hS hA hEV (kX6_readCommand l D cA G m0 q0 q1 q2 q4 q7 q9 q15 N v3 v5 v6 v8 v10 (v0_11_19 + 1) v0_12_19 v13 v14 v0_16_19 tx f5_19 ho8) (cwV 0 hts gX6_execute_X6_readCommand rfl rfl rfl (by decide +kernel) ⟨(Nat.le_of_ble_eq_true rfl), (Nat.le_of_ble_eq_true rfl)⟩) [0, 4, 5] [1, 2, 3] [3, 0, 1, 2, 4, 5] rfl rfl rfl rfl (by decide) (fun _ => rfl) rfl 0 10 rfl rfl rfl rfl (fun _ => rfl) rfl hl.1 (Nat.le_of_ble_eq_true rfl) dX6_execute_47 ⟨(Nat.le_of_ble_eq_true rfl), (Nat.le_of_ble_eq_true rfl)⟩ (fun as9 H locs hP hD hS => ?_)
          have hP : va_P D vwCl [(m0, .inr (10, [.ref q0, .ref q1, .ref q2, .int v3, .ref q4, .int v5, .int v6, .ref q7, .int v8, .ref q9, .int v10, .int o8.1, .int o8.2.1, .int v13, .int v14, .ref q15, .int o8.2.2.1])), (q0, .inl (cA 0, 60, .inl ss)), (q1, .inl (cA 0, 60, .inl bb)), (q4, .inl (cA 0, 480, .inl pp)), (q9, .inl (cA 2, 60, .inl tx)), (q15, .inl (cA 0, 240, .inl o8.2.2.2))] H := hP
          have hD : va_D A [(m0, .inr (10, [.ref q0, .ref q1, .ref q2, .int v3, .ref q4, .int v5, .int v6, .ref q7, .int v8, .ref q9, .int v10, .int o8.1, .int o8.2.1, .int v13, .int v14, .ref q15, .int o8.2.2.1])), (q0, .inl (cA 0, 60, .inl ss)), (q1, .inl (cA 0, 60, .inl bb)), (q4, .inl (cA 0, 480, .inl pp)), (q9, .inl (cA 2, 60, .inl tx)), (q15, .inl (cA 0, 240, .inl o8.2.2.2))] := hD
          refine lv_goto (tgt := 19) hx hb dX6_execute_50 (by decide) ?_
          exact ih o8.2.2.2 o8.1 o8.2.1 o8.2.2.1 _ _ _ (lv_sub hl [0] rfl) hP hD hS h
  refine hLX6_execute_19 _ ?_ N o1.2.2.2 o1.1 o1.2.1 o1.2.2.1 _ _ _ (lv_sub hl [0] rfl) hP hD hS h
  intro o3 ls H locs hl hP hD hS h
  refine lv_aload_n hx hb dX6_execute_53 rfl (lv_at hl 0 rfl) ?_
  refine lv_aload_n hx hb dX6_execute_54 rfl (lv_at hl 0 rfl) ?_
  refine va_get (D := D) (ci := 10) (v := .int o3.2.1) (C := RX6) (T := TX6) (N := 17) hx hb hts iX6_execute_X6 hfc hK hP 0 rfl rfl 12 (by decide) (hts (.fieldLink RX6 202 "BathtubTidesModel" "isWrong" "Z") (List.mem_of_getElem? (i := 2) rfl)) (fun _ h9 => h9) rfl dX6_execute_55 ?_
  obtain ⟨o11, ho11, h⟩ := lt_i h
  have ko11 : ∀ (ls : Array Slot) (H : Heap) (locs : List Loc), lv_has ls 2 [(0, .ref m0)] → va_P D vwCl [(m0, .inr (10, [.ref q0, .ref q1, .ref q2, .int v3, .ref q4, .int v5, .int v6, .ref q7, .int v8, .ref q9, .int v10, .int o3.1, .int o3.2.1, .int v13, .int v14, .ref q15, .int o3.2.2.1])), (q0, .inl (cA 0, 60, .inl ss)), (q1, .inl (cA 0, 60, .inl bb)), (q4, .inl (cA 0, 480, .inl pp)), (q9, .inl (cA 2, 60, .inl tx)), (q15, .inl (cA 0, 240, .inl o3.2.2.2))] H → va_D A [(m0, .inr (10, [.ref q0, .ref q1, .ref q2, .int v3, .ref q4, .int v5, .int v6, .ref q7, .int v8, .ref q9, .int v10, .int o3.1, .int o3.2.1, .int v13, .int v14, .ref q15, .int o3.2.2.1])), (q0, .inl (cA 0, 60, .inl ss)), (q1, .inl (cA 0, 60, .inl bb)), (q4, .inl (cA 0, 480, .inl pp)), (q9, .inl (cA 2, 60, .inl tx)), (q15, .inl (cA 0, 240, .inl o3.2.2.2))] → va_S A s.heap H locs → W p l e RM_X6_execute s m args below meth c H locs 0 0 Q (F0 m 77 ls [.int o11, .ref m0]) := by
    intro ls H locs hl hP hD hS
    obtain ⟨g13, h⟩ := gd_i h
    refine va_put (D := D) (ci := 10) (v := .int o11) (ty := .boolean) (C := RX6) (T := TX6) (N := 17) hx hb hts iX6_execute_X6 tyX6 tyX6_ok nmX6 hfc hK hP hD hS 0 rfl rfl 12 (by decide) (hts (.fieldLink RX6 202 "BathtubTidesModel" "isWrong" "Z") (List.mem_of_getElem? (i := 2) rfl)) (fun _ h9 => h9) rfl (by decide +kernel) g13.1 g13.2 (Nat.le_of_ble_eq_true rfl) dX6_execute_77 (fun H locs hP hD hS => ?_)
    have hP : va_P D vwCl [(m0, .inr (10, [.ref q0, .ref q1, .ref q2, .int v3, .ref q4, .int v5, .int v6, .ref q7, .int v8, .ref q9, .int v10, .int o3.1, .int o11, .int v13, .int v14, .ref q15, .int o3.2.2.1])), (q0, .inl (cA 0, 60, .inl ss)), (q1, .inl (cA 0, 60, .inl bb)), (q4, .inl (cA 0, 480, .inl pp)), (q9, .inl (cA 2, 60, .inl tx)), (q15, .inl (cA 0, 240, .inl o3.2.2.2))] H := hP
    have hD : va_D A [(m0, .inr (10, [.ref q0, .ref q1, .ref q2, .int v3, .ref q4, .int v5, .int v6, .ref q7, .int v8, .ref q9, .int v10, .int o3.1, .int o11, .int v13, .int v14, .ref q15, .int o3.2.2.1])), (q0, .inl (cA 0, 60, .inl ss)), (q1, .inl (cA 0, 60, .inl bb)), (q4, .inl (cA 0, 480, .inl pp)), (q9, .inl (cA 2, 60, .inl tx)), (q15, .inl (cA 0, 240, .inl o3.2.2.2))] := hD
    refine lv_aload_n hx hb dX6_execute_80 rfl (lv_at hl 0 rfl) ?_
    refine lv_aload_n hx hb dX6_execute_81 rfl (lv_at hl 0 rfl) ?_
    refine va_get (D := D) (ci := 10) (v := .int o11) (C := RX6) (T := TX6) (N := 17) hx hb hts iX6_execute_X6 hfc hK hP 0 rfl rfl 12 (by decide) (hts (.fieldLink RX6 202 "BathtubTidesModel" "isWrong" "Z") (List.mem_of_getElem? (i := 2) rfl)) (fun _ h9 => h9) rfl dX6_execute_82 ?_
    obtain ⟨o15, ho15, h⟩ := lt_i h
    have ko15 : ∀ (ls : Array Slot) (H : Heap) (locs : List Loc), lv_has ls 2 [(0, .ref m0)] → va_P D vwCl [(m0, .inr (10, [.ref q0, .ref q1, .ref q2, .int v3, .ref q4, .int v5, .int v6, .ref q7, .int v8, .ref q9, .int v10, .int o3.1, .int o11, .int v13, .int v14, .ref q15, .int o3.2.2.1])), (q0, .inl (cA 0, 60, .inl ss)), (q1, .inl (cA 0, 60, .inl bb)), (q4, .inl (cA 0, 480, .inl pp)), (q9, .inl (cA 2, 60, .inl tx)), (q15, .inl (cA 0, 240, .inl o3.2.2.2))] H → va_D A [(m0, .inr (10, [.ref q0, .ref q1, .ref q2, .int v3, .ref q4, .int v5, .int v6, .ref q7, .int v8, .ref q9, .int v10, .int o3.1, .int o11, .int v13, .int v14, .ref q15, .int o3.2.2.1])), (q0, .inl (cA 0, 60, .inl ss)), (q1, .inl (cA 0, 60, .inl bb)), (q4, .inl (cA 0, 480, .inl pp)), (q9, .inl (cA 2, 60, .inl tx)), (q15, .inl (cA 0, 240, .inl o3.2.2.2))] → va_S A s.heap H locs → W p l e RM_X6_execute s m args below meth c H locs 0 0 Q (F0 m 99 ls [.int o15, .ref m0]) := by
      intro ls H locs hl hP hD hS
      refine va_put (D := D) (ci := 10) (v := .int o15) (ty := .int) (C := RX6) (T := TX6) (N := 17) hx hb hts iX6_execute_X6 tyX6 tyX6_ok nmX6 hfc hK hP hD hS 0 rfl rfl 13 (by decide) (hts (.fieldLink RX6 29 "BathtubTidesModel" "errorAt" "I") (List.mem_of_getElem? (i := 5) rfl)) (fun _ h9 => h9) rfl (by decide +kernel) rfl rfl (Nat.le_of_ble_eq_true rfl) dX6_execute_99 (fun H locs hP hD hS => ?_)
      have hP : va_P D vwCl [(m0, .inr (10, [.ref q0, .ref q1, .ref q2, .int v3, .ref q4, .int v5, .int v6, .ref q7, .int v8, .ref q9, .int v10, .int o3.1, .int o11, .int o15, .int v14, .ref q15, .int o3.2.2.1])), (q0, .inl (cA 0, 60, .inl ss)), (q1, .inl (cA 0, 60, .inl bb)), (q4, .inl (cA 0, 480, .inl pp)), (q9, .inl (cA 2, 60, .inl tx)), (q15, .inl (cA 0, 240, .inl o3.2.2.2))] H := hP
      have hD : va_D A [(m0, .inr (10, [.ref q0, .ref q1, .ref q2, .int v3, .ref q4, .int v5, .int v6, .ref q7, .int v8, .ref q9, .int v10, .int o3.1, .int o11, .int o15, .int v14, .ref q15, .int o3.2.2.1])), (q0, .inl (cA 0, 60, .inl ss)), (q1, .inl (cA 0, 60, .inl bb)), (q4, .inl (cA 0, 480, .inl pp)), (q9, .inl (cA 2, 60, .inl tx)), (q15, .inl (cA 0, 240, .inl o3.2.2.2))] := hD
      refine lv_aload_n hx hb dX6_execute_102 rfl (lv_at hl 0 rfl) ?_
      refine lv_iconst (v := 0) hx hb dX6_execute_103 (by decide) ?_
      refine va_put (D := D) (ci := 10) (v := .int 0) (ty := .int) (C := RX6) (T := TX6) (N := 17) hx hb hts iX6_execute_X6 tyX6 tyX6_ok nmX6 hfc hK hP hD hS 0 rfl rfl 10 (by decide) (hts (.fieldLink RX6 192 "BathtubTidesModel" "length" "I") (List.mem_of_getElem? (i := 4) rfl)) (fun _ h9 => h9) rfl (by decide +kernel) rfl rfl (Nat.le_of_ble_eq_true rfl) dX6_execute_104 (fun H locs hP hD hS => ?_)
      have hP : va_P D vwCl [(m0, .inr (10, [.ref q0, .ref q1, .ref q2, .int v3, .ref q4, .int v5, .int v6, .ref q7, .int v8, .ref q9, .int 0, .int o3.1, .int o11, .int o15, .int v14, .ref q15, .int o3.2.2.1])), (q0, .inl (cA 0, 60, .inl ss)), (q1, .inl (cA 0, 60, .inl bb)), (q4, .inl (cA 0, 480, .inl pp)), (q9, .inl (cA 2, 60, .inl tx)), (q15, .inl (cA 0, 240, .inl o3.2.2.2))] H := hP
      have hD : va_D A [(m0, .inr (10, [.ref q0, .ref q1, .ref q2, .int v3, .ref q4, .int v5, .int v6, .ref q7, .int v8, .ref q9, .int 0, .int o3.1, .int o11, .int o15, .int v14, .ref q15, .int o3.2.2.1])), (q0, .inl (cA 0, 60, .inl ss)), (q1, .inl (cA 0, 60, .inl bb)), (q4, .inl (cA 0, 480, .inl pp)), (q9, .inl (cA 2, 60, .inl tx)), (q15, .inl (cA 0, 240, .inl o3.2.2.2))] := hD
      refine lv_aload_n hx hb dX6_execute_107 rfl (lv_at hl 0 rfl) ?_
      refine va_get (D := D) (ci := 10) (v := .int o11) (C := RX6) (T := TX6) (N := 17) hx hb hts iX6_execute_X6 hfc hK hP 0 rfl rfl 12 (by decide) (hts (.fieldLink RX6 202 "BathtubTidesModel" "isWrong" "Z") (List.mem_of_getElem? (i := 2) rfl)) (fun _ h9 => h9) rfl dX6_execute_108 ?_
      refine lv_if_eq (tgt := 120) hx hb dX6_execute_111 (by decide) (fun c16 => ?_) (fun c16 => ?_)
      · have h := ite_t c16 h
        refine lv_aload_n hx hb dX6_execute_120 rfl (lv_at hl 0 rfl) ?_
        obtain ⟨o17, ho17, h⟩ := lt_i h
        refine gq_V (v := (fun as => none)) (As := []) (rest := []) (wc := [(m0, .inr (10, [.ref q0, .ref q1, .ref q2, .int v3, .ref q4, .int v5, .int v6, .ref q7, .int v8, .ref q9, .int 0, .int o3.1, .int o11, .int o15, .int v14, .ref q15, .int o3.2.2.1])), (q0, .inl (cA 0, 60, .inl ss)), (q1, .inl (cA 0, 60, .inl bb))]) (wr := [(q4, .inl (cA 0, 480, .inl pp)), (q9, .inl (cA 2, 60, .inl tx)), (q15, .inl (cA 0, 240, .inl o3.2.2.2))]) (w1 := (fun as => [(m0, .inr (10, [.ref q0, .ref q1, .ref q2, .int v3, .ref q4, .int v5, .int o17.2, .ref q7, .int v8, .ref q9, .int 0, .int o3.1, .int o11, .int o15, .int v14, .ref q15, .int o3.2.2.1])), (q0, .inl (cA 0, 60, .inl ss)), (q1, .inl (cA 0, 60, .inl o17.1))])) (ws2 := (fun as => [(m0, .inr (10, [.ref q0, .ref q1, .ref q2, .int v3, .ref q4, .int v5, .int o17.2, .ref q7, .int v8, .ref q9, .int 0, .int o3.1, .int o11, .int o15, .int v14, .ref q15, .int o3.2.2.1])), (q0, .inl (cA 0, 60, .inl ss)), (q1, .inl (cA 0, 60, .inl o17.1)), (q4, .inl (cA 0, 480, .inl pp)), (q9, .inl (cA 2, 60, .inl tx)), (q15, .inl (cA 0, 240, .inl o3.2.2.2))])) (st1 := (fun as => [])) ⟨hx, hb, hml, hfc, hts⟩ hK hP hD hS hA (kX6_keep l D cA m0 q0 q1 q2 q4 q7 q9 q15 v3 v5 v6 v8 0 o3.1 o11 o15 v14 o3.2.2.1 ss bb ho17) (cwV 0 hts gX6_execute_X6_keep rfl rfl rfl (by decide +kernel) ⟨(Nat.le_of_ble_eq_true rfl), (Nat.le_of_ble_eq_true rfl)⟩) [0, 1, 2] [3, 4, 5] [3, 4, 5, 0, 1, 2] rfl rfl rfl rfl (by decide) (fun _ => rfl) rfl 0 10 rfl rfl rfl rfl (fun _ => rfl) rfl hl.1 (Nat.le_of_ble_eq_true rfl) dX6_execute_121 ⟨(Nat.le_of_ble_eq_true rfl), (Nat.le_of_ble_eq_true rfl)⟩ (fun as18 H locs hP hD hS => ?_)
        have hP : va_P D vwCl [(m0, .inr (10, [.ref q0, .ref q1, .ref q2, .int v3, .ref q4, .int v5, .int o17.2, .ref q7, .int v8, .ref q9, .int 0, .int o3.1, .int o11, .int o15, .int v14, .ref q15, .int o3.2.2.1])), (q0, .inl (cA 0, 60, .inl ss)), (q1, .inl (cA 0, 60, .inl o17.1)), (q4, .inl (cA 0, 480, .inl pp)), (q9, .inl (cA 2, 60, .inl tx)), (q15, .inl (cA 0, 240, .inl o3.2.2.2))] H := hP
        have hD : va_D A [(m0, .inr (10, [.ref q0, .ref q1, .ref q2, .int v3, .ref q4, .int v5, .int o17.2, .ref q7, .int v8, .ref q9, .int 0, .int o3.1, .int o11, .int o15, .int v14, .ref q15, .int o3.2.2.1])), (q0, .inl (cA 0, 60, .inl ss)), (q1, .inl (cA 0, 60, .inl o17.1)), (q4, .inl (cA 0, 480, .inl pp)), (q9, .inl (cA 2, 60, .inl tx)), (q15, .inl (cA 0, 240, .inl o3.2.2.2))] := hD
        refine lv_iconst (v := 0) hx hb dX6_execute_124 (by decide) ?_
        refine lv_istore_n hx hb dX6_execute_125 rfl hl (Nat.le_of_ble_eq_true rfl) rfl (fun ls hl => ?_)
        have hl : lv_has ls 2 [(1, .int 0), (0, .ref m0)] := hl
        have hLX6_execute_126 : ∀ (fu : Nat) (f1_126 : Nat → Int32) (v0_6_126 : Int32) (x1_126 : Int32) (ls : Array Slot) (H : Heap) (locs : List Loc), lv_has ls 2 [(0, .ref m0), (1, .int x1_126)] → va_P D vwCl [(m0, .inr (10, [.ref q0, .ref q1, .ref q2, .int v3, .ref q4, .int v5, .int v0_6_126, .ref q7, .int v8, .ref q9, .int 0, .int o3.1, .int o11, .int o15, .int v14, .ref q15, .int o3.2.2.1])), (q0, .inl (cA 0, 60, .inl f1_126)), (q1, .inl (cA 0, 60, .inl o17.1)), (q4, .inl (cA 0, 480, .inl pp)), (q9, .inl (cA 2, 60, .inl tx)), (q15, .inl (cA 0, 240, .inl o3.2.2.2))] H → va_D A [(m0, .inr (10, [.ref q0, .ref q1, .ref q2, .int v3, .ref q4, .int v5, .int v0_6_126, .ref q7, .int v8, .ref q9, .int 0, .int o3.1, .int o11, .int o15, .int v14, .ref q15, .int o3.2.2.1])), (q0, .inl (cA 0, 60, .inl f1_126)), (q1, .inl (cA 0, 60, .inl o17.1)), (q4, .inl (cA 0, 480, .inl pp)), (q9, .inl (cA 2, 60, .inl tx)), (q15, .inl (cA 0, 240, .inl o3.2.2.2))] → va_S A s.heap H locs → LX6_execute_126 N o3 v5 o17 pp o11 o15 v14 fu f1_126 v0_6_126 x1_126 = some r → W p l e RM_X6_execute s m args below meth c H locs 0 0 Q (F0 m 126 ls []) := by
          intro fu
          induction fu with
          | zero =>
            intro f1_126 v0_6_126 x1_126 ls H locs hl hP hD hS h
            rw [LX6_execute_126] at h
            exact nn h
          | succ fu ih =>
            intro f1_126 v0_6_126 x1_126 ls H locs hl hP hD hS h
            rw [LX6_execute_126] at h
            refine lv_iload_n hx hb dX6_execute_126 rfl (lv_at hl 1 rfl) ?_
            refine lv_aload_n hx hb dX6_execute_127 rfl (lv_at hl 0 rfl) ?_
            refine va_get (D := D) (ci := 10) (v := .int o3.2.2.1) (C := RX6) (T := TX6) (N := 17) hx hb hts iX6_execute_X6 hfc hK hP 0 rfl rfl 16 (by decide) (hts (.fieldLink RX6 255 "BathtubTidesModel" "commandMany" "I") (List.mem_of_getElem? (i := 3) rfl)) (fun _ h9 => h9) rfl dX6_execute_128 ?_
            refine lv_icmp_ge (tgt := 167) hx hb dX6_execute_131 (by decide) (fun c19 => ?_) (fun c19 => ?_)
            · have h := ite_t c19 h
              refine lv_aload_n hx hb dX6_execute_167 rfl (lv_at hl 0 rfl) ?_
              refine lv_aload_n hx hb dX6_execute_168 rfl (lv_at hl 0 rfl) ?_
              refine va_get (D := D) (ci := 10) (v := .int o3.2.2.1) (C := RX6) (T := TX6) (N := 17) hx hb hts iX6_execute_X6 hfc hK hP 0 rfl rfl 16 (by decide) (hts (.fieldLink RX6 255 "BathtubTidesModel" "commandMany" "I") (List.mem_of_getElem? (i := 3) rfl)) (fun _ h9 => h9) rfl dX6_execute_169 ?_
              obtain ⟨o20, ho20, h⟩ := bnd_i h
              refine gq_V (v := (fun as => (some (.int o20.1)))) (As := [.int o3.2.2.1]) (rest := []) (wc := [(m0, .inr (10, [.ref q0, .ref q1, .ref q2, .int v3, .ref q4, .int v5, .int v0_6_126, .ref q7, .int v8, .ref q9, .int 0, .int o3.1, .int o11, .int o15, .int v14, .ref q15, .int o3.2.2.1])), (q0, .inl (cA 0, 60, .inl f1_126)), (q1, .inl (cA 0, 60, .inl o17.1)), (q4, .inl (cA 0, 480, .inl pp))]) (wr := [(q9, .inl (cA 2, 60, .inl tx)), (q15, .inl (cA 0, 240, .inl o3.2.2.2))]) (w1 := (fun as => [(m0, .inr (10, [.ref q0, .ref q1, .ref q2, .int v3, .ref q4, .int o20.2.2.2, .int v0_6_126, .ref q7, .int v8, .ref q9, .int 0, .int o3.1, .int o11, .int o15, .int v14, .ref q15, .int o3.2.2.1])), (q0, .inl (cA 0, 60, .inl o20.2.1)), (q1, .inl (cA 0, 60, .inl o17.1)), (q4, .inl (cA 0, 480, .inl o20.2.2.1))])) (ws2 := (fun as => [(m0, .inr (10, [.ref q0, .ref q1, .ref q2, .int v3, .ref q4, .int o20.2.2.2, .int v0_6_126, .ref q7, .int v8, .ref q9, .int 0, .int o3.1, .int o11, .int o15, .int v14, .ref q15, .int o3.2.2.1])), (q0, .inl (cA 0, 60, .inl o20.2.1)), (q1, .inl (cA 0, 60, .inl o17.1)), (q4, .inl (cA 0, 480, .inl o20.2.2.1)), (q9, .inl (cA 2, 60, .inl tx)), (q15, .inl (cA 0, 240, .inl o3.2.2.2))])) (st1 := (fun as => [.int o20.1])) ⟨hx, hb, hml, hfc, hts⟩ hK hP hD hS hA (kX6_ends l D cA m0 q0 q1 q2 q4 q7 q9 q15 v3 v5 v0_6_126 v8 0 o3.1 o11 o15 v14 o3.2.2.1 f1_126 o17.1 pp o3.2.2.1 ho20) (cwV 1 hts gX6_execute_X6_ends rfl rfl rfl (by decide +kernel) ⟨(Nat.le_of_ble_eq_true rfl), (Nat.le_of_ble_eq_true rfl)⟩) [0, 1, 2, 3] [4, 5] [2, 3, 4, 5, 0, 1] rfl rfl rfl rfl (by decide) (fun _ => rfl) rfl 0 10 rfl rfl rfl rfl (fun _ => rfl) rfl hl.1 (Nat.le_of_ble_eq_true rfl) dX6_execute_172 ⟨(Nat.le_of_ble_eq_true rfl), (Nat.le_of_ble_eq_true rfl)⟩ (fun as21 H locs hP hD hS => ?_)
              have hP : va_P D vwCl [(m0, .inr (10, [.ref q0, .ref q1, .ref q2, .int v3, .ref q4, .int o20.2.2.2, .int v0_6_126, .ref q7, .int v8, .ref q9, .int 0, .int o3.1, .int o11, .int o15, .int v14, .ref q15, .int o3.2.2.1])), (q0, .inl (cA 0, 60, .inl o20.2.1)), (q1, .inl (cA 0, 60, .inl o17.1)), (q4, .inl (cA 0, 480, .inl o20.2.2.1)), (q9, .inl (cA 2, 60, .inl tx)), (q15, .inl (cA 0, 240, .inl o3.2.2.2))] H := hP
              have hD : va_D A [(m0, .inr (10, [.ref q0, .ref q1, .ref q2, .int v3, .ref q4, .int o20.2.2.2, .int v0_6_126, .ref q7, .int v8, .ref q9, .int 0, .int o3.1, .int o11, .int o15, .int v14, .ref q15, .int o3.2.2.1])), (q0, .inl (cA 0, 60, .inl o20.2.1)), (q1, .inl (cA 0, 60, .inl o17.1)), (q4, .inl (cA 0, 480, .inl o20.2.2.1)), (q9, .inl (cA 2, 60, .inl tx)), (q15, .inl (cA 0, 240, .inl o3.2.2.2))] := hD
              have h := Option.some.inj h
              subst h
              exact hend (adr []) _ _ _ _ _ _ _ rfl rfl (rtn_i _) hP hD hS dX6_execute_175
            · have h := ite_f c19 h
              refine lv_aload_n hx hb dX6_execute_134 rfl (lv_at hl 0 rfl) ?_
              refine lv_iload_n hx hb dX6_execute_135 rfl (lv_at hl 1 rfl) ?_
              obtain ⟨o22, ho22, h⟩ := bnd_i h
              refine gq_V (v := (fun as => none)) (As := [.int x1_126]) (rest := []) (wc := [(m0, .inr (10, [.ref q0, .ref q1, .ref q2, .int v3, .ref q4, .int v5, .int v0_6_126, .ref q7, .int v8, .ref q9, .int 0, .int o3.1, .int o11, .int o15, .int v14, .ref q15, .int o3.2.2.1])), (q0, .inl (cA 0, 60, .inl f1_126)), (q15, .inl (cA 0, 240, .inl o3.2.2.2))]) (wr := [(q1, .inl (cA 0, 60, .inl o17.1)), (q4, .inl (cA 0, 480, .inl pp)), (q9, .inl (cA 2, 60, .inl tx))]) (w1 := (fun as => [(m0, .inr (10, [.ref q0, .ref q1, .ref q2, .int v3, .ref q4, .int v5, .int o22.1, .ref q7, .int v8, .ref q9, .int 0, .int o3.1, .int o11, .int o15, .int v14, .ref q15, .int o3.2.2.1])), (q0, .inl (cA 0, 60, .inl o22.2)), (q15, .inl (cA 0, 240, .inl o3.2.2.2))])) (ws2 := (fun as => [(m0, .inr (10, [.ref q0, .ref q1, .ref q2, .int v3, .ref q4, .int v5, .int o22.1, .ref q7, .int v8, .ref q9, .int 0, .int o3.1, .int o11, .int o15, .int v14, .ref q15, .int o3.2.2.1])), (q0, .inl (cA 0, 60, .inl o22.2)), (q1, .inl (cA 0, 60, .inl o17.1)), (q4, .inl (cA 0, 480, .inl pp)), (q9, .inl (cA 2, 60, .inl tx)), (q15, .inl (cA 0, 240, .inl o3.2.2.2))])) (st1 := (fun as => [])) ⟨hx, hb, hml, hfc, hts⟩ hK hP hD hS hA (kX6_does l D cA m0 q0 q1 q2 q4 q7 q9 q15 N v3 v5 v0_6_126 v8 0 o3.1 o11 o15 v14 o3.2.2.1 f1_126 o3.2.2.2 x1_126 ho22) (cwV 1 hts gX6_execute_X6_does rfl rfl rfl (by decide +kernel) ⟨(Nat.le_of_ble_eq_true rfl), (Nat.le_of_ble_eq_true rfl)⟩) [0, 1, 5] [2, 3, 4] [3, 4, 0, 1, 2, 5] rfl rfl rfl rfl (by decide) (fun _ => rfl) rfl 0 10 rfl rfl rfl rfl (fun _ => rfl) rfl hl.1 (Nat.le_of_ble_eq_true rfl) dX6_execute_136 ⟨(Nat.le_of_ble_eq_true rfl), (Nat.le_of_ble_eq_true rfl)⟩ (fun as23 H locs hP hD hS => ?_)
              have hP : va_P D vwCl [(m0, .inr (10, [.ref q0, .ref q1, .ref q2, .int v3, .ref q4, .int v5, .int o22.1, .ref q7, .int v8, .ref q9, .int 0, .int o3.1, .int o11, .int o15, .int v14, .ref q15, .int o3.2.2.1])), (q0, .inl (cA 0, 60, .inl o22.2)), (q1, .inl (cA 0, 60, .inl o17.1)), (q4, .inl (cA 0, 480, .inl pp)), (q9, .inl (cA 2, 60, .inl tx)), (q15, .inl (cA 0, 240, .inl o3.2.2.2))] H := hP
              have hD : va_D A [(m0, .inr (10, [.ref q0, .ref q1, .ref q2, .int v3, .ref q4, .int v5, .int o22.1, .ref q7, .int v8, .ref q9, .int 0, .int o3.1, .int o11, .int o15, .int v14, .ref q15, .int o3.2.2.1])), (q0, .inl (cA 0, 60, .inl o22.2)), (q1, .inl (cA 0, 60, .inl o17.1)), (q4, .inl (cA 0, 480, .inl pp)), (q9, .inl (cA 2, 60, .inl tx)), (q15, .inl (cA 0, 240, .inl o3.2.2.2))] := hD
              refine lv_aload_n hx hb dX6_execute_139 rfl (lv_at hl 0 rfl) ?_
              refine va_get (D := D) (ci := 10) (v := .int o22.1) (C := RX6) (T := TX6) (N := 17) hx hb hts iX6_execute_X6 hfc hK hP 0 rfl rfl 6 (by decide) (hts (.fieldLink RX6 39 "BathtubTidesModel" "thrown" "I") (List.mem_of_getElem? (i := 6) rfl)) (fun _ h9 => h9) rfl dX6_execute_140 ?_
              refine lv_if_le (tgt := 161) hx hb dX6_execute_143 (by decide) (fun c24 => ?_) (fun c24 => ?_)
              · have h := ite_t c24 h
                refine lv_iinc (k := 1) (v := x1_126 + 1) hx hb dX6_execute_161 hl rfl (congrArg (fun z => x1_126 + z) lit1) (Nat.le_of_ble_eq_true rfl) rfl (fun ls hl => ?_)
                have hl : lv_has ls 2 [(1, .int (x1_126 + 1)), (0, .ref m0)] := hl
                refine lv_goto (tgt := 126) hx hb dX6_execute_164 (by decide) ?_
                exact ih o22.2 o22.1 (x1_126 + 1) _ _ _ (lv_sub hl [1, 0] rfl) hP hD hS h
              · have h := ite_f c24 h
                refine lv_aload_n hx hb dX6_execute_146 rfl (lv_at hl 0 rfl) ?_
                refine lv_iload_n hx hb dX6_execute_147 rfl (lv_at hl 1 rfl) ?_
                refine va_put (D := D) (ci := 10) (v := .int x1_126) (ty := .int) (C := RX6) (T := TX6) (N := 17) hx hb hts iX6_execute_X6 tyX6 tyX6_ok nmX6 hfc hK hP hD hS 0 rfl rfl 14 (by decide) (hts (.fieldLink RX6 33 "BathtubTidesModel" "failedAt" "I") (List.mem_of_getElem? (i := 7) rfl)) (fun _ h9 => h9) rfl (by decide +kernel) rfl rfl (Nat.le_of_ble_eq_true rfl) dX6_execute_148 (fun H locs hP hD hS => ?_)
                have hP : va_P D vwCl [(m0, .inr (10, [.ref q0, .ref q1, .ref q2, .int v3, .ref q4, .int v5, .int o22.1, .ref q7, .int v8, .ref q9, .int 0, .int o3.1, .int o11, .int o15, .int x1_126, .ref q15, .int o3.2.2.1])), (q0, .inl (cA 0, 60, .inl o22.2)), (q1, .inl (cA 0, 60, .inl o17.1)), (q4, .inl (cA 0, 480, .inl pp)), (q9, .inl (cA 2, 60, .inl tx)), (q15, .inl (cA 0, 240, .inl o3.2.2.2))] H := hP
                have hD : va_D A [(m0, .inr (10, [.ref q0, .ref q1, .ref q2, .int v3, .ref q4, .int v5, .int o22.1, .ref q7, .int v8, .ref q9, .int 0, .int o3.1, .int o11, .int o15, .int x1_126, .ref q15, .int o3.2.2.1])), (q0, .inl (cA 0, 60, .inl o22.2)), (q1, .inl (cA 0, 60, .inl o17.1)), (q4, .inl (cA 0, 480, .inl pp)), (q9, .inl (cA 2, 60, .inl tx)), (q15, .inl (cA 0, 240, .inl o3.2.2.2))] := hD
                refine lv_aload_n hx hb dX6_execute_151 rfl (lv_at hl 0 rfl) ?_
                refine lv_aload_n hx hb dX6_execute_152 rfl (lv_at hl 0 rfl) ?_
                refine lv_iconst (v := 2) hx hb dX6_execute_153 (by decide) ?_
                obtain ⟨o25, ho25, h⟩ := lt_i h
                refine gq_V (v := (fun as => (some (.int o25.1)))) (As := [.int 2]) (rest := [.ref m0]) (wc := [(m0, .inr (10, [.ref q0, .ref q1, .ref q2, .int v3, .ref q4, .int v5, .int o22.1, .ref q7, .int v8, .ref q9, .int 0, .int o3.1, .int o11, .int o15, .int x1_126, .ref q15, .int o3.2.2.1]))]) (wr := [(q0, .inl (cA 0, 60, .inl o22.2)), (q1, .inl (cA 0, 60, .inl o17.1)), (q4, .inl (cA 0, 480, .inl pp)), (q9, .inl (cA 2, 60, .inl tx)), (q15, .inl (cA 0, 240, .inl o3.2.2.2))]) (w1 := (fun as => [(m0, .inr (10, [.ref q0, .ref q1, .ref q2, .int v3, .ref q4, .int v5, .int o25.2, .ref q7, .int v8, .ref q9, .int 0, .int o3.1, .int o11, .int o15, .int x1_126, .ref q15, .int o3.2.2.1]))])) (ws2 := (fun as => [(m0, .inr (10, [.ref q0, .ref q1, .ref q2, .int v3, .ref q4, .int v5, .int o25.2, .ref q7, .int v8, .ref q9, .int 0, .int o3.1, .int o11, .int o15, .int x1_126, .ref q15, .int o3.2.2.1])), (q0, .inl (cA 0, 60, .inl o22.2)), (q1, .inl (cA 0, 60, .inl o17.1)), (q4, .inl (cA 0, 480, .inl pp)), (q9, .inl (cA 2, 60, .inl tx)), (q15, .inl (cA 0, 240, .inl o3.2.2.2))])) (st1 := (fun as => [.int o25.1, .ref m0])) ⟨hx, hb, hml, hfc, hts⟩ hK hP hD hS hA (kX6_fails l D cA m0 q0 q1 q2 q4 q7 q9 q15 v3 v5 o22.1 v8 0 o3.1 o11 o15 x1_126 o3.2.2.1 2 ho25) (cwV 1 hts gX6_execute_X6_fails rfl rfl rfl (by decide +kernel) ⟨(Nat.le_of_ble_eq_true rfl), (Nat.le_of_ble_eq_true rfl)⟩) [0] [1, 2, 3, 4, 5] [5, 0, 1, 2, 3, 4] rfl rfl rfl rfl (by decide) (fun _ => rfl) rfl 0 10 rfl rfl rfl rfl (fun _ => rfl) rfl hl.1 (Nat.le_of_ble_eq_true rfl) dX6_execute_154 ⟨(Nat.le_of_ble_eq_true rfl), (Nat.le_of_ble_eq_true rfl)⟩ (fun as26 H locs hP hD hS => ?_)
                have hP : va_P D vwCl [(m0, .inr (10, [.ref q0, .ref q1, .ref q2, .int v3, .ref q4, .int v5, .int o25.2, .ref q7, .int v8, .ref q9, .int 0, .int o3.1, .int o11, .int o15, .int x1_126, .ref q15, .int o3.2.2.1])), (q0, .inl (cA 0, 60, .inl o22.2)), (q1, .inl (cA 0, 60, .inl o17.1)), (q4, .inl (cA 0, 480, .inl pp)), (q9, .inl (cA 2, 60, .inl tx)), (q15, .inl (cA 0, 240, .inl o3.2.2.2))] H := hP
                have hD : va_D A [(m0, .inr (10, [.ref q0, .ref q1, .ref q2, .int v3, .ref q4, .int v5, .int o25.2, .ref q7, .int v8, .ref q9, .int 0, .int o3.1, .int o11, .int o15, .int x1_126, .ref q15, .int o3.2.2.1])), (q0, .inl (cA 0, 60, .inl o22.2)), (q1, .inl (cA 0, 60, .inl o17.1)), (q4, .inl (cA 0, 480, .inl pp)), (q9, .inl (cA 2, 60, .inl tx)), (q15, .inl (cA 0, 240, .inl o3.2.2.2))] := hD
                obtain ⟨o27, ho27, h⟩ := bnd_i h
                refine gq_V (v := (fun as => (some (.int o27.1)))) (As := [.int o25.1]) (rest := []) (wc := [(m0, .inr (10, [.ref q0, .ref q1, .ref q2, .int v3, .ref q4, .int v5, .int o25.2, .ref q7, .int v8, .ref q9, .int 0, .int o3.1, .int o11, .int o15, .int x1_126, .ref q15, .int o3.2.2.1])), (q0, .inl (cA 0, 60, .inl o22.2)), (q1, .inl (cA 0, 60, .inl o17.1)), (q4, .inl (cA 0, 480, .inl pp))]) (wr := [(q9, .inl (cA 2, 60, .inl tx)), (q15, .inl (cA 0, 240, .inl o3.2.2.2))]) (w1 := (fun as => [(m0, .inr (10, [.ref q0, .ref q1, .ref q2, .int v3, .ref q4, .int o27.2.2.2, .int o25.2, .ref q7, .int v8, .ref q9, .int 0, .int o3.1, .int o11, .int o15, .int x1_126, .ref q15, .int o3.2.2.1])), (q0, .inl (cA 0, 60, .inl o27.2.1)), (q1, .inl (cA 0, 60, .inl o17.1)), (q4, .inl (cA 0, 480, .inl o27.2.2.1))])) (ws2 := (fun as => [(m0, .inr (10, [.ref q0, .ref q1, .ref q2, .int v3, .ref q4, .int o27.2.2.2, .int o25.2, .ref q7, .int v8, .ref q9, .int 0, .int o3.1, .int o11, .int o15, .int x1_126, .ref q15, .int o3.2.2.1])), (q0, .inl (cA 0, 60, .inl o27.2.1)), (q1, .inl (cA 0, 60, .inl o17.1)), (q4, .inl (cA 0, 480, .inl o27.2.2.1)), (q9, .inl (cA 2, 60, .inl tx)), (q15, .inl (cA 0, 240, .inl o3.2.2.2))])) (st1 := (fun as => [.int o27.1])) ⟨hx, hb, hml, hfc, hts⟩ hK hP hD hS hA (kX6_ends l D cA m0 q0 q1 q2 q4 q7 q9 q15 v3 v5 o25.2 v8 0 o3.1 o11 o15 x1_126 o3.2.2.1 o22.2 o17.1 pp o25.1 ho27) (cwV 1 hts gX6_execute_X6_ends rfl rfl rfl (by decide +kernel) ⟨(Nat.le_of_ble_eq_true rfl), (Nat.le_of_ble_eq_true rfl)⟩) [0, 1, 2, 3] [4, 5] [2, 3, 4, 5, 0, 1] rfl rfl rfl rfl (by decide) (fun _ => rfl) rfl 0 10 rfl rfl rfl rfl (fun _ => rfl) rfl hl.1 (Nat.le_of_ble_eq_true rfl) dX6_execute_157 ⟨(Nat.le_of_ble_eq_true rfl), (Nat.le_of_ble_eq_true rfl)⟩ (fun as28 H locs hP hD hS => ?_)
                have hP : va_P D vwCl [(m0, .inr (10, [.ref q0, .ref q1, .ref q2, .int v3, .ref q4, .int o27.2.2.2, .int o25.2, .ref q7, .int v8, .ref q9, .int 0, .int o3.1, .int o11, .int o15, .int x1_126, .ref q15, .int o3.2.2.1])), (q0, .inl (cA 0, 60, .inl o27.2.1)), (q1, .inl (cA 0, 60, .inl o17.1)), (q4, .inl (cA 0, 480, .inl o27.2.2.1)), (q9, .inl (cA 2, 60, .inl tx)), (q15, .inl (cA 0, 240, .inl o3.2.2.2))] H := hP
                have hD : va_D A [(m0, .inr (10, [.ref q0, .ref q1, .ref q2, .int v3, .ref q4, .int o27.2.2.2, .int o25.2, .ref q7, .int v8, .ref q9, .int 0, .int o3.1, .int o11, .int o15, .int x1_126, .ref q15, .int o3.2.2.1])), (q0, .inl (cA 0, 60, .inl o27.2.1)), (q1, .inl (cA 0, 60, .inl o17.1)), (q4, .inl (cA 0, 480, .inl o27.2.2.1)), (q9, .inl (cA 2, 60, .inl tx)), (q15, .inl (cA 0, 240, .inl o3.2.2.2))] := hD
                have h := Option.some.inj h
                subst h
                exact hend (adr []) _ _ _ _ _ _ _ rfl rfl (rtn_i _) hP hD hS dX6_execute_160
        exact hLX6_execute_126 N ss o17.2 0 _ _ _ (lv_sub hl [1, 0] rfl) hP hD hS h
      · have h := ite_f c16 h
        refine lv_aload_n hx hb dX6_execute_114 rfl (lv_at hl 0 rfl) ?_
        refine lv_iconst (v := 1) hx hb dX6_execute_115 (by decide) ?_
        obtain ⟨o29, ho29, h⟩ := lt_i h
        refine gq_V (v := (fun as => (some (.int o29.1)))) (As := [.int 1]) (rest := []) (wc := [(m0, .inr (10, [.ref q0, .ref q1, .ref q2, .int v3, .ref q4, .int v5, .int v6, .ref q7, .int v8, .ref q9, .int 0, .int o3.1, .int o11, .int o15, .int v14, .ref q15, .int o3.2.2.1]))]) (wr := [(q0, .inl (cA 0, 60, .inl ss)), (q1, .inl (cA 0, 60, .inl bb)), (q4, .inl (cA 0, 480, .inl pp)), (q9, .inl (cA 2, 60, .inl tx)), (q15, .inl (cA 0, 240, .inl o3.2.2.2))]) (w1 := (fun as => [(m0, .inr (10, [.ref q0, .ref q1, .ref q2, .int v3, .ref q4, .int v5, .int o29.2, .ref q7, .int v8, .ref q9, .int 0, .int o3.1, .int o11, .int o15, .int v14, .ref q15, .int o3.2.2.1]))])) (ws2 := (fun as => [(m0, .inr (10, [.ref q0, .ref q1, .ref q2, .int v3, .ref q4, .int v5, .int o29.2, .ref q7, .int v8, .ref q9, .int 0, .int o3.1, .int o11, .int o15, .int v14, .ref q15, .int o3.2.2.1])), (q0, .inl (cA 0, 60, .inl ss)), (q1, .inl (cA 0, 60, .inl bb)), (q4, .inl (cA 0, 480, .inl pp)), (q9, .inl (cA 2, 60, .inl tx)), (q15, .inl (cA 0, 240, .inl o3.2.2.2))])) (st1 := (fun as => [.int o29.1])) ⟨hx, hb, hml, hfc, hts⟩ hK hP hD hS hA (kX6_fails l D cA m0 q0 q1 q2 q4 q7 q9 q15 v3 v5 v6 v8 0 o3.1 o11 o15 v14 o3.2.2.1 1 ho29) (cwV 1 hts gX6_execute_X6_fails rfl rfl rfl (by decide +kernel) ⟨(Nat.le_of_ble_eq_true rfl), (Nat.le_of_ble_eq_true rfl)⟩) [0] [1, 2, 3, 4, 5] [5, 0, 1, 2, 3, 4] rfl rfl rfl rfl (by decide) (fun _ => rfl) rfl 0 10 rfl rfl rfl rfl (fun _ => rfl) rfl hl.1 (Nat.le_of_ble_eq_true rfl) dX6_execute_116 ⟨(Nat.le_of_ble_eq_true rfl), (Nat.le_of_ble_eq_true rfl)⟩ (fun as30 H locs hP hD hS => ?_)
        have hP : va_P D vwCl [(m0, .inr (10, [.ref q0, .ref q1, .ref q2, .int v3, .ref q4, .int v5, .int o29.2, .ref q7, .int v8, .ref q9, .int 0, .int o3.1, .int o11, .int o15, .int v14, .ref q15, .int o3.2.2.1])), (q0, .inl (cA 0, 60, .inl ss)), (q1, .inl (cA 0, 60, .inl bb)), (q4, .inl (cA 0, 480, .inl pp)), (q9, .inl (cA 2, 60, .inl tx)), (q15, .inl (cA 0, 240, .inl o3.2.2.2))] H := hP
        have hD : va_D A [(m0, .inr (10, [.ref q0, .ref q1, .ref q2, .int v3, .ref q4, .int v5, .int o29.2, .ref q7, .int v8, .ref q9, .int 0, .int o3.1, .int o11, .int o15, .int v14, .ref q15, .int o3.2.2.1])), (q0, .inl (cA 0, 60, .inl ss)), (q1, .inl (cA 0, 60, .inl bb)), (q4, .inl (cA 0, 480, .inl pp)), (q9, .inl (cA 2, 60, .inl tx)), (q15, .inl (cA 0, 240, .inl o3.2.2.2))] := hD
        have h := Option.some.inj h
        subst h
        exact hend (adr []) _ _ _ _ _ _ _ rfl rfl (rtn_i _) hP hD hS dX6_execute_119
    clear h
    have h := ho15
    clear ho15
    refine lv_if_eq (tgt := 95) hx hb dX6_execute_85 (by decide) (fun c14 => ?_) (fun c14 => ?_)
    · have h := ite_t c14 h
      refine lv_aload_n hx hb dX6_execute_95 rfl (lv_at hl 0 rfl) ?_
      refine va_get (D := D) (ci := 10) (v := .int v13) (C := RX6) (T := TX6) (N := 17) hx hb hts iX6_execute_X6 hfc hK hP 0 rfl rfl 13 (by decide) (hts (.fieldLink RX6 29 "BathtubTidesModel" "errorAt" "I") (List.mem_of_getElem? (i := 5) rfl)) (fun _ h9 => h9) rfl dX6_execute_96 ?_
      subst h
      exact ko15 _ _ _ (lv_sub hl [0] rfl) hP hD hS
    · have h := ite_f c14 h
      refine lv_aload_n hx hb dX6_execute_88 rfl (lv_at hl 0 rfl) ?_
      refine va_get (D := D) (ci := 10) (v := .int o3.1) (C := RX6) (T := TX6) (N := 17) hx hb hts iX6_execute_X6 hfc hK hP 0 rfl rfl 11 (by decide) (hts (.fieldLink RX6 195 "BathtubTidesModel" "at" "I") (List.mem_of_getElem? (i := 1) rfl)) (fun _ h9 => h9) rfl dX6_execute_89 ?_
      refine lv_goto (tgt := 99) hx hb dX6_execute_92 (by decide) ?_
      subst h
      exact ko15 _ _ _ (lv_sub hl [0] rfl) hP hD hS
  clear h
  have h := ho11
  clear ho11
  refine lv_if_ne (tgt := 72) hx hb dX6_execute_58 (by decide) (fun c10 => ?_) (fun c10 => ?_)
  · have h := ite_f c10 h
    refine lv_iconst (v := 1) hx hb dX6_execute_72 (by decide) ?_
    refine lv_goto (tgt := 77) hx hb dX6_execute_73 (by decide) ?_
    subst h
    exact ko11 _ _ _ (lv_sub hl [0] rfl) hP hD hS
  · have h := ite_t c10 h
    refine lv_aload_n hx hb dX6_execute_61 rfl (lv_at hl 0 rfl) ?_
    refine va_get (D := D) (ci := 10) (v := .int o3.1) (C := RX6) (T := TX6) (N := 17) hx hb hts iX6_execute_X6 hfc hK hP 0 rfl rfl 11 (by decide) (hts (.fieldLink RX6 195 "BathtubTidesModel" "at" "I") (List.mem_of_getElem? (i := 1) rfl)) (fun _ h9 => h9) rfl dX6_execute_62 ?_
    refine lv_aload_n hx hb dX6_execute_65 rfl (lv_at hl 0 rfl) ?_
    refine va_get (D := D) (ci := 10) (v := .int v10) (C := RX6) (T := TX6) (N := 17) hx hb hts iX6_execute_X6 hfc hK hP 0 rfl rfl 10 (by decide) (hts (.fieldLink RX6 192 "BathtubTidesModel" "length" "I") (List.mem_of_getElem? (i := 4) rfl)) (fun _ h9 => h9) rfl dX6_execute_66 ?_
    refine lv_icmp_ge (tgt := 76) hx hb dX6_execute_69 (by decide) (fun c12 => ?_) (fun c12 => ?_)
    · have h := ite_t c12 h
      refine lv_iconst (v := 0) hx hb dX6_execute_76 (by decide) ?_
      subst h
      exact ko11 _ _ _ (lv_sub hl [0] rfl) hP hD hS
    · have h := ite_f c12 h
      refine lv_iconst (v := 1) hx hb dX6_execute_72 (by decide) ?_
      refine lv_goto (tgt := 77) hx hb dX6_execute_73 (by decide) ?_
      subst h
      exact ko11 _ _ _ (lv_sub hl [0] rfl) hP hD hS
