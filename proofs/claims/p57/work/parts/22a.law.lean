noncomputable def SL_cell (L : Nat) (xs : Nat → Int32) (x1 : Int32) : Option (Int32) := if (nI L) ≤ x1 then (some (40503 * x1)) else (gd (vp_in x1 L) (some (xs (Int32.toNatClampNeg x1))))
abbrev RM_L_cell : Room := { frames := 0, cells := 0, slots := 0, locals := 0 }
set_option maxRecDepth 20000 in
set_option maxHeartbeats 4000000 in
theorem kL_cell (l : Launch) (hst : l.stackTraces = false) (D : va_G) (cA : Nat → ClassId) (G : eG) (b : Nat) (L : Nat) (xs : Nat → Int32) (x1 : Int32) {r : Int32} (hr : SL_cell L xs x1 = some r) {sz : Nat} : Met l yL_cell wsL_cell RM_L_cell (va_Pc [.ref b, .int x1] (gqTB G (scrT b L xs) D cA [] sz)) (gqQ D (fun as => (some (.int r))) (fun as => []) (va_A [] sz)) 0 0 (va_A [] sz) := by
  refine gqT_ofW (cc := cL_cell) (maxL := 2) (ret := (some .int)) (by decide) rfl (Nat.le_of_ble_eq_true rfl) (fun p e s m args below meth c ls Q A hx hb hml hts hfc hK hP hD hS hA hEV hL9 hTX hAX hN hl hend => ?_)
  have hfc : s.vm.findClass RL = some m.cls := hfc
  have hl : lv_has ls 2 [(0, .ref b), (1, .int x1)] := hl
  have h := hr
  clear hr
  unfold SL_cell at h
  refine lv_iload_n hx hb dL_cell_0 rfl (lv_at hl 1 rfl) ?_
  refine lv_aload_n hx hb dL_cell_1 rfl (lv_at hl 0 rfl) ?_
  refine va_tlen hx hb (scr_at hTX) hS (v := nI L) rfl dL_cell_2 ?_
  refine lv_icmp_ge (tgt := 12) hx hb dL_cell_3 (by decide) (fun c1 => ?_) (fun c1 => ?_)
  · have h := ite_t c1 h
    refine lv_ldc (v := 40503) hx hb hfc (hts (.constant RL 7 (40503)) (List.mem_of_getElem? (i := 1) rfl)) dL_cell_12 ?_
    refine lv_iload_n hx hb dL_cell_14 rfl (lv_at hl 1 rfl) ?_
    refine lv_imul hx hb dL_cell_15 ?_
    have h := Option.some.inj h
    subst h
    exact hend (adr []) _ _ _ _ _ _ _ rfl rfl (rtn_i _) hP hD hS dL_cell_16
  · have h := ite_f c1 h
    refine lv_aload_n hx hb dL_cell_6 rfl (lv_at hl 0 rfl) ?_
    refine lv_iload_n hx hb dL_cell_7 rfl (lv_at hl 1 rfl) ?_
    obtain ⟨g2, h⟩ := gd_i h
    refine va_ti hx hb (scr_at hTX) hS g2 (v := .int (xs (Int32.toNatClampNeg x1))) rfl dL_cell_8 ?_
    refine lv_goto (tgt := 16) hx hb dL_cell_9 (by decide) ?_
    have h := Option.some.inj h
    subst h
    exact hend (adr []) _ _ _ _ _ _ _ rfl rfl (rtn_i _) hP hD hS dL_cell_16

noncomputable def SL_placeIn (f : Nat → Int32) (rv : Nat → Int32) (x2 : Int32) : Option (Int32) := gd (¬ (rv 3) = 0) (lt_ ((((SX5_time f) + x2) - (rv 4)) / (rv 3)) (fun t3 : Int32 => some (irm ((rv 2) + t3) 12)))
abbrev RM_L_placeIn : Room := { frames := 2, cells := 0, slots := 0, locals := 41 }
set_option maxRecDepth 20000 in
set_option maxHeartbeats 4000000 in
theorem kL_placeIn (l : Launch) (hst : l.stackTraces = false) (D : va_G) (cA : Nat → ClassId) (G : eG) (z0 a0 b0 h0 s0 l0 e0 k0 a1 a2 ra : Nat) (u7 : Int32) (u8 : Int32) (u9 : Int32) (f : Nat → Int32) (rv : Nat → Int32) (x2 : Int32) {r : Int32} (hr : SL_placeIn f rv x2 = some r) {sz : Nat} : Met l yL_placeIn wsL_placeIn RM_L_placeIn (va_Pc [.ref z0, .ref ra, .int x2] (gqTB G (rowT ra rv) D cA [(z0, .inr (9, [.ref a0, .ref b0, .ref h0, .ref s0, .ref l0, .ref e0, .ref k0, .int u7, .int u8, .int u9])), (a0, .inr (8, [.ref a1])), (a1, .inr (6, [.ref a2])), (a2, .inl (cA 0, 61, .inl f))] sz)) (gqQ D (fun as => (some (.int r))) (fun as => [(z0, .inr (9, [.ref a0, .ref b0, .ref h0, .ref s0, .ref l0, .ref e0, .ref k0, .int u7, .int u8, .int u9])), (a0, .inr (8, [.ref a1])), (a1, .inr (6, [.ref a2])), (a2, .inl (cA 0, 61, .inl f))]) (va_A [(z0, .inr (9, [.ref a0, .ref b0, .ref h0, .ref s0, .ref l0, .ref e0, .ref k0, .int u7, .int u8, .int u9])), (a0, .inr (8, [.ref a1])), (a1, .inr (6, [.ref a2])), (a2, .inl (cA 0, 61, .inl f))] sz)) 0 0 (va_A [(z0, .inr (9, [.ref a0, .ref b0, .ref h0, .ref s0, .ref l0, .ref e0, .ref k0, .int u7, .int u8, .int u9])), (a0, .inr (8, [.ref a1])), (a1, .inr (6, [.ref a2])), (a2, .inl (cA 0, 61, .inl f))] sz) := by
  refine gqT_ofW (cc := cL_placeIn) (maxL := 4) (ret := (some .int)) (by decide) rfl (Nat.le_of_ble_eq_true rfl) (fun p e s m args below meth c ls Q A hx hb hml hts hfc hK hP hD hS hA hEV hL9 hTX hAX hN hl hend => ?_)
  have hfc : s.vm.findClass RL = some m.cls := hfc
  have hl : lv_has ls 4 [(0, .ref z0), (1, .ref ra), (2, .int x2)] := hl
  have h := hr
  clear hr
  unfold SL_placeIn at h
  refine lv_aload_n hx hb dL_placeIn_0 rfl (lv_at hl 0 rfl) ?_
  refine rq_V (v := (some (.int (SX5_time f)))) (As := []) (rest := []) (wc := [(z0, .inr (9, [.ref a0, .ref b0, .ref h0, .ref s0, .ref l0, .ref e0, .ref k0, .int u7, .int u8, .int u9])), (a0, .inr (8, [.ref a1])), (a1, .inr (6, [.ref a2])), (a2, .inl (cA 0, 61, .inl f))]) ⟨hx, hb, hml, hfc, hts⟩ hK hP (kX5_time l D cA z0 a0 b0 h0 s0 l0 e0 k0 a1 a2 u7 u8 u9 f rfl) (cwV 0 hts gL_placeIn_X5_time rfl rfl rfl (by decide +kernel) ⟨(Nat.le_of_ble_eq_true rfl), (Nat.le_of_ble_eq_true rfl)⟩) [0, 1, 2, 3] rfl 0 9 rfl rfl rfl rfl rfl rfl hl.1 (Nat.le_of_ble_eq_true rfl) dL_placeIn_1 ⟨(Nat.zero_le _), (Nat.zero_le _)⟩ ?_
  refine lv_iload_n hx hb dL_placeIn_4 rfl (lv_at hl 2 rfl) ?_
  refine lv_iadd hx hb dL_placeIn_5 ?_
  refine lv_aload_n hx hb dL_placeIn_6 rfl (lv_at hl 1 rfl) ?_
  refine lv_iconst (v := 4) hx hb dL_placeIn_7 (by decide) ?_
  refine va_ti hx hb (row_at hTX) hS (vin _ _ (by decide)) (v := .int (rv 4)) rfl dL_placeIn_8 ?_
  refine lv_isub hx hb dL_placeIn_9 ?_
  refine lv_aload_n hx hb dL_placeIn_10 rfl (lv_at hl 1 rfl) ?_
  refine lv_iconst (v := 3) hx hb dL_placeIn_11 (by decide) ?_
  refine va_ti hx hb (row_at hTX) hS (vin _ _ (by decide)) (v := .int (rv 3)) rfl dL_placeIn_12 ?_
  obtain ⟨g2, h⟩ := gd_i h
  refine lv_idiv hx hb dL_placeIn_13 g2 ?_
  refine lv_topi (fun t3 et3 => ?_)
  have h := lt_e h _ et3
  refine lv_istore_n hx hb dL_placeIn_14 rfl hl (Nat.le_of_ble_eq_true rfl) rfl (fun ls hl => ?_)
  have hl : lv_has ls 4 [(3, .int t3), (0, .ref z0), (1, .ref ra), (2, .int x2)] := hl
  refine lv_aload_n hx hb dL_placeIn_15 rfl (lv_at hl 2 rfl) ?_
  refine lv_iconst (v := 2) hx hb dL_placeIn_16 (by decide) ?_
  refine va_ti hx hb (row_at hTX) hS (vin _ _ (by decide)) (v := .int (rv 2)) rfl dL_placeIn_17 ?_
  refine lv_iload_n hx hb dL_placeIn_18 rfl (lv_at hl 0 rfl) ?_
  refine lv_iadd hx hb dL_placeIn_19 ?_
  refine lv_bipush (v := 12) hx hb dL_placeIn_20 (by decide) ?_
  refine lv_irem hx hb dL_placeIn_22 (by decide) ?_
  refine lv_topi' (y := irm ((rv 2) + t3) 12) rfl ?_
  have h := Option.some.inj h
  subst h
  exact hend (adr []) _ _ _ _ _ _ _ rfl rfl (rtn_i _) hP hD hS dL_placeIn_23

noncomputable def SL_massIn (f : Nat → Int32) (rv : Nat → Int32) (x2 : Int32) : Int32 := lt_ (((SX5_time f) + x2) - (rv 4)) (fun t2 : Int32 => if (rv 0) = 0 then (rv 1) else (if (rv 0) = 1 then (imax 0 ((rv 1) - (t2 / 10))) else (if (irm t2 2) = 0 then (rv 1) else ((rv 1) / 2))))
abbrev RM_L_massIn : Room := { frames := 2, cells := 0, slots := 0, locals := 41 }
set_option maxRecDepth 20000 in
set_option maxHeartbeats 4000000 in
theorem kL_massIn (l : Launch) (hst : l.stackTraces = false) (D : va_G) (cA : Nat → ClassId) (G : eG) (z0 a0 b0 h0 s0 l0 e0 k0 a1 a2 ra : Nat) (u7 : Int32) (u8 : Int32) (u9 : Int32) (f : Nat → Int32) (rv : Nat → Int32) (x2 : Int32) {r : Int32} (hr : SL_massIn f rv x2 = r) {sz : Nat} : Met l yL_massIn wsL_massIn RM_L_massIn (va_Pc [.ref z0, .ref ra, .int x2] (gqTB G (rowT ra rv) D cA [(z0, .inr (9, [.ref a0, .ref b0, .ref h0, .ref s0, .ref l0, .ref e0, .ref k0, .int u7, .int u8, .int u9])), (a0, .inr (8, [.ref a1])), (a1, .inr (6, [.ref a2])), (a2, .inl (cA 0, 61, .inl f))] sz)) (gqQ D (fun as => (some (.int r))) (fun as => [(z0, .inr (9, [.ref a0, .ref b0, .ref h0, .ref s0, .ref l0, .ref e0, .ref k0, .int u7, .int u8, .int u9])), (a0, .inr (8, [.ref a1])), (a1, .inr (6, [.ref a2])), (a2, .inl (cA 0, 61, .inl f))]) (va_A [(z0, .inr (9, [.ref a0, .ref b0, .ref h0, .ref s0, .ref l0, .ref e0, .ref k0, .int u7, .int u8, .int u9])), (a0, .inr (8, [.ref a1])), (a1, .inr (6, [.ref a2])), (a2, .inl (cA 0, 61, .inl f))] sz)) 0 0 (va_A [(z0, .inr (9, [.ref a0, .ref b0, .ref h0, .ref s0, .ref l0, .ref e0, .ref k0, .int u7, .int u8, .int u9])), (a0, .inr (8, [.ref a1])), (a1, .inr (6, [.ref a2])), (a2, .inl (cA 0, 61, .inl f))] sz) := by
  refine gqT_ofW (cc := cL_massIn) (maxL := 4) (ret := (some .int)) (by decide) rfl (Nat.le_of_ble_eq_true rfl) (fun p e s m args below meth c ls Q A hx hb hml hts hfc hK hP hD hS hA hEV hL9 hTX hAX hN hl hend => ?_)
  have hfc : s.vm.findClass RL = some m.cls := hfc
  have hl : lv_has ls 4 [(0, .ref z0), (1, .ref ra), (2, .int x2)] := hl
  have h := hr
  clear hr
  unfold SL_massIn at h
  refine lv_aload_n hx hb dL_massIn_0 rfl (lv_at hl 0 rfl) ?_
  refine rq_V (v := (some (.int (SX5_time f)))) (As := []) (rest := []) (wc := [(z0, .inr (9, [.ref a0, .ref b0, .ref h0, .ref s0, .ref l0, .ref e0, .ref k0, .int u7, .int u8, .int u9])), (a0, .inr (8, [.ref a1])), (a1, .inr (6, [.ref a2])), (a2, .inl (cA 0, 61, .inl f))]) ⟨hx, hb, hml, hfc, hts⟩ hK hP (kX5_time l D cA z0 a0 b0 h0 s0 l0 e0 k0 a1 a2 u7 u8 u9 f rfl) (cwV 0 hts gL_massIn_X5_time rfl rfl rfl (by decide +kernel) ⟨(Nat.le_of_ble_eq_true rfl), (Nat.le_of_ble_eq_true rfl)⟩) [0, 1, 2, 3] rfl 0 9 rfl rfl rfl rfl rfl rfl hl.1 (Nat.le_of_ble_eq_true rfl) dL_massIn_1 ⟨(Nat.zero_le _), (Nat.zero_le _)⟩ ?_
  refine lv_iload_n hx hb dL_massIn_4 rfl (lv_at hl 2 rfl) ?_
  refine lv_iadd hx hb dL_massIn_5 ?_
  refine lv_aload_n hx hb dL_massIn_6 rfl (lv_at hl 1 rfl) ?_
  refine lv_iconst (v := 4) hx hb dL_massIn_7 (by decide) ?_
  refine va_ti hx hb (row_at hTX) hS (vin _ _ (by decide)) (v := .int (rv 4)) rfl dL_massIn_8 ?_
  refine lv_isub hx hb dL_massIn_9 ?_
  refine lv_topi (fun t2 et2 => ?_)
  have h := lt_e h _ et2
  refine lv_istore_n hx hb dL_massIn_10 rfl hl (Nat.le_of_ble_eq_true rfl) rfl (fun ls hl => ?_)
  have hl : lv_has ls 4 [(3, .int t2), (0, .ref z0), (1, .ref ra), (2, .int x2)] := hl
  refine lv_aload_n hx hb dL_massIn_11 rfl (lv_at hl 2 rfl) ?_
  refine lv_iconst (v := 0) hx hb dL_massIn_12 (by decide) ?_
  refine va_ti hx hb (row_at hTX) hS (vin _ _ (by decide)) (v := .int (rv 0)) rfl dL_massIn_13 ?_
  refine lv_if_ne (tgt := 21) hx hb dL_massIn_14 (by decide) (fun c3 => ?_) (fun c3 => ?_)
  · have h := ite_f c3 h
    refine lv_aload_n hx hb dL_massIn_21 rfl (lv_at hl 2 rfl) ?_
    refine lv_iconst (v := 0) hx hb dL_massIn_22 (by decide) ?_
    refine va_ti hx hb (row_at hTX) hS (vin _ _ (by decide)) (v := .int (rv 0)) rfl dL_massIn_23 ?_
    refine lv_iconst (v := 1) hx hb dL_massIn_24 (by decide) ?_
    refine lv_icmp_ne (tgt := 43) hx hb dL_massIn_25 (by decide) (fun c4 => ?_) (fun c4 => ?_)
    · have h := ite_f c4 h
      refine lv_iload_n hx hb dL_massIn_43 rfl (lv_at hl 0 rfl) ?_
      refine lv_iconst (v := 2) hx hb dL_massIn_44 (by decide) ?_
      refine lv_irem hx hb dL_massIn_45 (by decide) ?_
      refine lv_topi' (y := irm t2 2) rfl ?_
      refine lv_if_ne (tgt := 55) hx hb dL_massIn_46 (by decide) (fun c5 => ?_) (fun c5 => ?_)
      · have h := ite_f c5 h
        refine lv_aload_n hx hb dL_massIn_55 rfl (lv_at hl 2 rfl) ?_
        refine lv_iconst (v := 1) hx hb dL_massIn_56 (by decide) ?_
        refine va_ti hx hb (row_at hTX) hS (vin _ _ (by decide)) (v := .int (rv 1)) rfl dL_massIn_57 ?_
        refine lv_iconst (v := 2) hx hb dL_massIn_58 (by decide) ?_
        refine lv_idiv hx hb dL_massIn_59 (by decide) ?_
        subst h
        exact hend (adr []) _ _ _ _ _ _ _ rfl rfl (rtn_i _) hP hD hS dL_massIn_60
      · have h := ite_t c5 h
        refine lv_aload_n hx hb dL_massIn_49 rfl (lv_at hl 2 rfl) ?_
        refine lv_iconst (v := 1) hx hb dL_massIn_50 (by decide) ?_
        refine va_ti hx hb (row_at hTX) hS (vin _ _ (by decide)) (v := .int (rv 1)) rfl dL_massIn_51 ?_
        refine lv_goto (tgt := 60) hx hb dL_massIn_52 (by decide) ?_
        subst h
        exact hend (adr []) _ _ _ _ _ _ _ rfl rfl (rtn_i _) hP hD hS dL_massIn_60
    · have h := ite_t c4 h
      refine lv_iconst (v := 0) hx hb dL_massIn_28 (by decide) ?_
      refine lv_aload_n hx hb dL_massIn_29 rfl (lv_at hl 2 rfl) ?_
      refine lv_iconst (v := 1) hx hb dL_massIn_30 (by decide) ?_
      refine va_ti hx hb (row_at hTX) hS (vin _ _ (by decide)) (v := .int (rv 1)) rfl dL_massIn_31 ?_
      refine lv_iload_n hx hb dL_massIn_32 rfl (lv_at hl 0 rfl) ?_
      refine lv_bipush (v := 10) hx hb dL_massIn_33 (by decide) ?_
      refine lv_idiv hx hb dL_massIn_35 (by decide) ?_
      refine lv_isub hx hb dL_massIn_36 ?_
      refine va_mmax hx hb (hml.trans hl.1.symm) hfc (hts (.methodLink RL 199 Lib.Math.max.name) (List.mem_of_getElem? (i := 1) rfl)) (hts (.static Lib.Math.max.name) (List.mem_of_getElem? (i := 2) rfl)) (hts (.initialized "java/lang/Math") (List.mem_of_getElem? (i := 3) rfl)) (hts (.code Lib.Math.max.name Lib.Math.max.code 2 (some .int)) (List.mem_of_getElem? (i := 4) rfl)) (Nat.le_of_ble_eq_true rfl) (Nat.le_of_ble_eq_true rfl) (Nat.zero_le _) (Nat.zero_le _) dL_massIn_37 ?_
      refine lv_goto (tgt := 60) hx hb dL_massIn_40 (by decide) ?_
      subst h
      exact hend (adr []) _ _ _ _ _ _ _ rfl rfl (rtn_i _) hP hD hS dL_massIn_60
  · have h := ite_t c3 h
    refine lv_aload_n hx hb dL_massIn_17 rfl (lv_at hl 2 rfl) ?_
    refine lv_iconst (v := 1) hx hb dL_massIn_18 (by decide) ?_
    refine va_ti hx hb (row_at hTX) hS (vin _ _ (by decide)) (v := .int (rv 1)) rfl dL_massIn_19 ?_
    subst h
    exact hend (adr []) _ _ _ _ _ _ _ rfl rfl (rtn_i _) hP hD hS dL_massIn_20

noncomputable def SL_isDark (f : Nat → Int32) (rv : Nat → Int32) (x2 : Int32) : Option (Int32) := bnd (SL_plugPosition f) (fun o1 : Int32 => if o1 < 0 then (some (0)) else (bnd (SL_placeIn f rv x2) (fun o4 : Int32 => if (iabs (o1 - o4)) = 6 then (some (1)) else (some (0)))))
abbrev RM_L_isDark : Room := { frames := 9, cells := 1, slots := 6, locals := 143 }
set_option maxRecDepth 20000 in
set_option maxHeartbeats 4000000 in
theorem kL_isDark (l : Launch) (hst : l.stackTraces = false) (D : va_G) (cA : Nat → ClassId) (G : eG) (z0 a0 b0 h0 s0 l0 e0 k0 a1 a2 ra : Nat) (u7 : Int32) (u8 : Int32) (u9 : Int32) (f : Nat → Int32) (rv : Nat → Int32) (x2 : Int32) {r : Int32} (hr : SL_isDark f rv x2 = some r) {sz : Nat} : Met l yL_isDark wsL_isDark RM_L_isDark (va_Pc [.ref z0, .ref ra, .int x2] (gqTB G (rowT ra rv) D cA [(z0, .inr (9, [.ref a0, .ref b0, .ref h0, .ref s0, .ref l0, .ref e0, .ref k0, .int u7, .int u8, .int u9])), (a0, .inr (8, [.ref a1])), (a1, .inr (6, [.ref a2])), (a2, .inl (cA 0, 61, .inl f))] sz)) (gqQ D (fun as => (some (.int r))) (fun as => [(z0, .inr (9, [.ref a0, .ref b0, .ref h0, .ref s0, .ref l0, .ref e0, .ref k0, .int u7, .int u8, .int u9])), (a0, .inr (8, [.ref a1])), (a1, .inr (6, [.ref a2])), (a2, .inl (cA 0, 61, .inl f))]) (va_A [(z0, .inr (9, [.ref a0, .ref b0, .ref h0, .ref s0, .ref l0, .ref e0, .ref k0, .int u7, .int u8, .int u9])), (a0, .inr (8, [.ref a1])), (a1, .inr (6, [.ref a2])), (a2, .inl (cA 0, 61, .inl f))] sz)) 1 6 (va_A [(z0, .inr (9, [.ref a0, .ref b0, .ref h0, .ref s0, .ref l0, .ref e0, .ref k0, .int u7, .int u8, .int u9])), (a0, .inr (8, [.ref a1])), (a1, .inr (6, [.ref a2])), (a2, .inl (cA 0, 61, .inl f))] sz) := by
  refine gqT_ofW (cc := cL_isDark) (maxL := 4) (ret := (some .boolean)) (by decide) rfl (Nat.le_of_ble_eq_true rfl) (fun p e s m args below meth c ls Q A hx hb hml hts hfc hK hP hD hS hA hEV hL9 hTX hAX hN hl hend => ?_)
  have hfc : s.vm.findClass RL = some m.cls := hfc
  have hl : lv_has ls 4 [(0, .ref z0), (1, .ref ra), (2, .int x2)] := hl
  have h := hr
  clear hr
  unfold SL_isDark at h
  refine lv_aload_n hx hb dL_isDark_0 rfl (lv_at hl 0 rfl) ?_
  obtain ⟨o1, ho1, h⟩ := bnd_i h
  refine gqL_S (G := G) (v := (fun as => (some (.int o1)))) (As := [.ref z0]) (rest := []) (wc := [(z0, .inr (9, [.ref a0, .ref b0, .ref h0, .ref s0, .ref l0, .ref e0, .ref k0, .int u7, .int u8, .int u9])), (a0, .inr (8, [.ref a1])), (a1, .inr (6, [.ref a2])), (a2, .inl (cA 0, 61, .inl f))]) (wr := []) (w1 := (fun as => [(z0, .inr (9, [.ref a0, .ref b0, .ref h0, .ref s0, .ref l0, .ref e0, .ref k0, .int u7, .int u8, .int u9])), (a0, .inr (8, [.ref a1])), (a1, .inr (6, [.ref a2])), (a2, .inl (cA 0, 61, .inl f))])) (ws2 := (fun as => [(z0, .inr (9, [.ref a0, .ref b0, .ref h0, .ref s0, .ref l0, .ref e0, .ref k0, .int u7, .int u8, .int u9])), (a0, .inr (8, [.ref a1])), (a1, .inr (6, [.ref a2])), (a2, .inl (cA 0, 61, .inl f))])) (st1 := (fun as => [.int o1])) ⟨hx, hb, hml, hfc, hts⟩ hK hP hD hS hA hEV hL9 (kL_plugPosition l hst D cA G z0 a0 b0 h0 s0 l0 e0 k0 a1 a2 u7 u8 u9 f ho1) (vx_cwSW 1 hts gL_isDark_L_plugPosition rfl rfl rfl (by decide +kernel) ⟨(Nat.le_of_ble_eq_true rfl), (Nat.le_of_ble_eq_true rfl)⟩) [0, 1, 2, 3] [] [0, 1, 2, 3] rfl rfl rfl rfl (by decide) (fun _ => rfl) rfl rfl (fun _ => rfl) rfl hl.1 (Nat.le_of_ble_eq_true rfl) dL_isDark_1 ⟨(Nat.le_of_ble_eq_true rfl), (Nat.le_of_ble_eq_true rfl)⟩ (fun as2 H locs hP hD hS => ?_)
  have hP : va_P D vwCl [(z0, .inr (9, [.ref a0, .ref b0, .ref h0, .ref s0, .ref l0, .ref e0, .ref k0, .int u7, .int u8, .int u9])), (a0, .inr (8, [.ref a1])), (a1, .inr (6, [.ref a2])), (a2, .inl (cA 0, 61, .inl f))] H := hP
  have hD : va_D A [(z0, .inr (9, [.ref a0, .ref b0, .ref h0, .ref s0, .ref l0, .ref e0, .ref k0, .int u7, .int u8, .int u9])), (a0, .inr (8, [.ref a1])), (a1, .inr (6, [.ref a2])), (a2, .inl (cA 0, 61, .inl f))] := hD
  refine W.cs (cells' := 1) (slots' := 6) rfl rfl ?_
  refine lv_istore_n hx hb dL_isDark_4 rfl hl (Nat.le_of_ble_eq_true rfl) rfl (fun ls hl => ?_)
  have hl : lv_has ls 4 [(3, .int o1), (0, .ref z0), (1, .ref ra), (2, .int x2)] := hl
  refine lv_iload_n hx hb dL_isDark_5 rfl (lv_at hl 0 rfl) ?_
  refine lv_if_lt (tgt := 29) hx hb dL_isDark_6 (by decide) (fun c3 => ?_) (fun c3 => ?_)
  · have h := ite_t c3 h
    refine lv_iconst (v := 0) hx hb dL_isDark_29 (by decide) ?_
    have h := Option.some.inj h
    subst h
    refine W.widen (k := 1) (n := 6) (Nat.le_of_ble_eq_true rfl) (Nat.le_of_ble_eq_true rfl) ?_
    exact hend (adr []) _ _ _ _ _ _ _ rfl rfl (rtn_n (x := 0) rfl) hP hD hS dL_isDark_30
  · have h := ite_f c3 h
    refine lv_iload_n hx hb dL_isDark_9 rfl (lv_at hl 0 rfl) ?_
    refine lv_aload_n hx hb dL_isDark_10 rfl (lv_at hl 1 rfl) ?_
    refine lv_aload_n hx hb dL_isDark_11 rfl (lv_at hl 2 rfl) ?_
    refine lv_iload_n hx hb dL_isDark_12 rfl (lv_at hl 3 rfl) ?_
    obtain ⟨o4, ho4, h⟩ := bnd_i h
    refine gqT_S (G := G) (ts := (rowT ra rv)) (v := (fun as => (some (.int o4)))) (As := [.ref z0, .ref ra, .int x2]) (rest := [.int o1]) (wc := [(z0, .inr (9, [.ref a0, .ref b0, .ref h0, .ref s0, .ref l0, .ref e0, .ref k0, .int u7, .int u8, .int u9])), (a0, .inr (8, [.ref a1])), (a1, .inr (6, [.ref a2])), (a2, .inl (cA 0, 61, .inl f))]) (wr := []) (w1 := (fun as => [(z0, .inr (9, [.ref a0, .ref b0, .ref h0, .ref s0, .ref l0, .ref e0, .ref k0, .int u7, .int u8, .int u9])), (a0, .inr (8, [.ref a1])), (a1, .inr (6, [.ref a2])), (a2, .inl (cA 0, 61, .inl f))])) (ws2 := (fun as => [(z0, .inr (9, [.ref a0, .ref b0, .ref h0, .ref s0, .ref l0, .ref e0, .ref k0, .int u7, .int u8, .int u9])), (a0, .inr (8, [.ref a1])), (a1, .inr (6, [.ref a2])), (a2, .inl (cA 0, 61, .inl f))])) (st1 := (fun as => [.int o4, .int o1])) ⟨hx, hb, hml, hfc, hts⟩ hK hP hD hS hA hEV hL9 (tX.to hTX hD hS hA [0, 1, 2, 3] rfl (fun _ h9 => h9)) hAX hN (kL_placeIn l hst D cA G z0 a0 b0 h0 s0 l0 e0 k0 a1 a2 ra u7 u8 u9 f rv x2 ho4) (va_cwS 3 hts gL_isDark_L_placeIn rfl rfl rfl (by decide +kernel) ⟨(Nat.le_of_ble_eq_true rfl), (Nat.le_of_ble_eq_true rfl)⟩) [0, 1, 2, 3] [] [0, 1, 2, 3] rfl rfl rfl rfl (by decide) (fun _ => rfl) rfl rfl (fun _ => rfl) rfl hl.1 (Nat.le_of_ble_eq_true rfl) dL_isDark_13 ⟨(Nat.le_of_ble_eq_true rfl), (Nat.le_of_ble_eq_true rfl)⟩ (fun as5 H locs hP hD hS => ?_)
    have hP : va_P D vwCl [(z0, .inr (9, [.ref a0, .ref b0, .ref h0, .ref s0, .ref l0, .ref e0, .ref k0, .int u7, .int u8, .int u9])), (a0, .inr (8, [.ref a1])), (a1, .inr (6, [.ref a2])), (a2, .inl (cA 0, 61, .inl f))] H := hP
    have hD : va_D A [(z0, .inr (9, [.ref a0, .ref b0, .ref h0, .ref s0, .ref l0, .ref e0, .ref k0, .int u7, .int u8, .int u9])), (a0, .inr (8, [.ref a1])), (a1, .inr (6, [.ref a2])), (a2, .inl (cA 0, 61, .inl f))] := hD
    refine lv_isub hx hb dL_isDark_16 ?_
    refine va_mabs hx hb (hml.trans hl.1.symm) hfc (hts (.methodLink RL 210 Lib.Math.abs.name) (List.mem_of_getElem? (i := 1) rfl)) (hts (.static Lib.Math.abs.name) (List.mem_of_getElem? (i := 2) rfl)) (hts (.initialized "java/lang/Math") (List.mem_of_getElem? (i := 3) rfl)) (hts (.code Lib.Math.abs.name Lib.Math.abs.code 1 (some .int)) (List.mem_of_getElem? (i := 4) rfl)) (Nat.le_of_ble_eq_true rfl) (Nat.le_of_ble_eq_true rfl) (Nat.le_of_ble_eq_true rfl) (Nat.le_of_ble_eq_true rfl) dL_isDark_17 ?_
    refine lv_bipush (v := 6) hx hb dL_isDark_20 (by decide) ?_
    refine lv_icmp_ne (tgt := 29) hx hb dL_isDark_22 (by decide) (fun c6 => ?_) (fun c6 => ?_)
    · have h := ite_f c6 h
      refine lv_iconst (v := 0) hx hb dL_isDark_29 (by decide) ?_
      have h := Option.some.inj h
      subst h
      refine W.widen (k := 1) (n := 6) (Nat.le_of_ble_eq_true rfl) (Nat.le_of_ble_eq_true rfl) ?_
      exact hend (adr []) _ _ _ _ _ _ _ rfl rfl (rtn_n (x := 0) rfl) hP hD hS dL_isDark_30
    · have h := ite_t c6 h
      refine lv_iconst (v := 1) hx hb dL_isDark_25 (by decide) ?_
      refine lv_goto (tgt := 30) hx hb dL_isDark_26 (by decide) ?_
      have h := Option.some.inj h
      subst h
      refine W.widen (k := 1) (n := 6) (Nat.le_of_ble_eq_true rfl) (Nat.le_of_ble_eq_true rfl) ?_
      exact hend (adr []) _ _ _ _ _ _ _ rfl rfl (rtn_n (x := 1) rfl) hP hD hS dL_isDark_30

noncomputable def SL_moon (N : Nat) (f : Nat → Int32) (v1 : Int32) (v2 : Int32) (g : Nat → Int32) (x1 : Int32) (x2 : Int32) (x3 : Int32) (x4 : Int32) : Option (Int32 × (Nat → Int32) × Int32 × Int32 × (Nat → Int32)) := if x1 = 0 then (bnd (SL_hard N f v1 v2 g x2 x3 x4) (fun o7 : Int32 × (Nat → Int32) × Int32 × Int32 × (Nat → Int32) => some ((o7.1, o7.2.1, o7.2.2.1, o7.2.2.2.1, o7.2.2.2.2)))) else (if x1 = 1 then (bnd (SL_soft N f v1 v2 g x2 x3 x4) (fun o5 : Int32 × (Nat → Int32) × Int32 × Int32 × (Nat → Int32) => some ((o5.1, o5.2.1, o5.2.2.1, o5.2.2.2.1, o5.2.2.2.2)))) else (bnd (SL_bubble N f v1 v2 g x2 x3 x4) (fun o3 : Int32 × (Nat → Int32) × Int32 × Int32 × (Nat → Int32) => some ((o3.1, o3.2.1, o3.2.2.1, o3.2.2.2.1, o3.2.2.2.2)))))
abbrev RM_L_moon : Room := { frames := 9, cells := 1, slots := 6, locals := 153 }
set_option maxRecDepth 20000 in
set_option maxHeartbeats 4000000 in
theorem kL_moon (l : Launch) (hst : l.stackTraces = false) (D : va_G) (cA : Nat → ClassId) (G : eG) (z0 a0 b0 h0 s0 l0 e0 k0 a1 a2 h1 h2 : Nat) (N : Nat) (u7 : Int32) (u8 : Int32) (u9 : Int32) (f : Nat → Int32) (v1 : Int32) (v2 : Int32) (g : Nat → Int32) (x1 : Int32) (x2 : Int32) (x3 : Int32) (x4 : Int32) {r : Int32 × (Nat → Int32) × Int32 × Int32 × (Nat → Int32)} (hr : SL_moon N f v1 v2 g x1 x2 x3 x4 = some r) {sz : Nat} : Met l yL_moon wsL_moon RM_L_moon (va_Pc [.ref z0, .int x1, .int x2, .int x3, .int x4] (gqTB G noT D cA [(z0, .inr (9, [.ref a0, .ref b0, .ref h0, .ref s0, .ref l0, .ref e0, .ref k0, .int u7, .int u8, .int u9])), (a0, .inr (8, [.ref a1])), (a1, .inr (6, [.ref a2])), (a2, .inl (cA 0, 61, .inl f)), (h0, .inr (5, [.ref h1, .int v1, .int v2])), (h1, .inr (6, [.ref h2])), (h2, .inl (cA 0, 488, .inl g))] sz)) (gqQ D (fun as => (some (.int r.1))) (fun as => [(z0, .inr (9, [.ref a0, .ref b0, .ref h0, .ref s0, .ref l0, .ref e0, .ref k0, .int u7, .int u8, .int u9])), (a0, .inr (8, [.ref a1])), (a1, .inr (6, [.ref a2])), (a2, .inl (cA 0, 61, .inl r.2.1)), (h0, .inr (5, [.ref h1, .int r.2.2.1, .int r.2.2.2.1])), (h1, .inr (6, [.ref h2])), (h2, .inl (cA 0, 488, .inl r.2.2.2.2))]) (va_A [(z0, .inr (9, [.ref a0, .ref b0, .ref h0, .ref s0, .ref l0, .ref e0, .ref k0, .int u7, .int u8, .int u9])), (a0, .inr (8, [.ref a1])), (a1, .inr (6, [.ref a2])), (a2, .inl (cA 0, 61, .inl f)), (h0, .inr (5, [.ref h1, .int v1, .int v2])), (h1, .inr (6, [.ref h2])), (h2, .inl (cA 0, 488, .inl g))] sz)) 1 6 (va_A [(z0, .inr (9, [.ref a0, .ref b0, .ref h0, .ref s0, .ref l0, .ref e0, .ref k0, .int u7, .int u8, .int u9])), (a0, .inr (8, [.ref a1])), (a1, .inr (6, [.ref a2])), (a2, .inl (cA 0, 61, .inl f)), (h0, .inr (5, [.ref h1, .int v1, .int v2])), (h1, .inr (6, [.ref h2])), (h2, .inl (cA 0, 488, .inl g))] sz) := by
  refine gqT_ofW (cc := cL_moon) (maxL := 5) (ret := (some .int)) (by decide) rfl (Nat.le_of_ble_eq_true rfl) (fun p e s m args below meth c ls Q A hx hb hml hts hfc hK hP hD hS hA hEV hL9 hTX hAX hN hl hend => ?_)
  have hfc : s.vm.findClass RL = some m.cls := hfc
  have hl : lv_has ls 5 [(0, .ref z0), (1, .int x1), (2, .int x2), (3, .int x3), (4, .int x4)] := hl
  have h := hr
  clear hr
  unfold SL_moon at h
  refine lv_iload_n hx hb dL_moon_0 rfl (lv_at hl 1 rfl) ?_
  refine lv_if_ne (tgt := 15) hx hb dL_moon_1 (by decide) (fun c1 => ?_) (fun c1 => ?_)
  · have h := ite_f c1 h
    refine lv_iload_n hx hb dL_moon_15 rfl (lv_at hl 1 rfl) ?_
    refine lv_iconst (v := 1) hx hb dL_moon_16 (by decide) ?_
    refine lv_icmp_ne (tgt := 31) hx hb dL_moon_17 (by decide) (fun c2 => ?_) (fun c2 => ?_)
    · have h := ite_f c2 h
      refine lv_aload_n hx hb dL_moon_31 rfl (lv_at hl 0 rfl) ?_
      refine lv_iload_n hx hb dL_moon_32 rfl (lv_at hl 2 rfl) ?_
      refine lv_iload_n hx hb dL_moon_33 rfl (lv_at hl 3 rfl) ?_
      refine lv_iload hx hb dL_moon_34 (lv_at hl 4 rfl) ?_
      obtain ⟨o3, ho3, h⟩ := bnd_i h
      refine gqL_S (G := G) (v := (fun as => (some (.int o3.1)))) (As := [.ref z0, .int x2, .int x3, .int x4]) (rest := []) (wc := [(z0, .inr (9, [.ref a0, .ref b0, .ref h0, .ref s0, .ref l0, .ref e0, .ref k0, .int u7, .int u8, .int u9])), (a0, .inr (8, [.ref a1])), (a1, .inr (6, [.ref a2])), (a2, .inl (cA 0, 61, .inl f)), (h0, .inr (5, [.ref h1, .int v1, .int v2])), (h1, .inr (6, [.ref h2])), (h2, .inl (cA 0, 488, .inl g))]) (wr := []) (w1 := (fun as => [(z0, .inr (9, [.ref a0, .ref b0, .ref h0, .ref s0, .ref l0, .ref e0, .ref k0, .int u7, .int u8, .int u9])), (a0, .inr (8, [.ref a1])), (a1, .inr (6, [.ref a2])), (a2, .inl (cA 0, 61, .inl o3.2.1)), (h0, .inr (5, [.ref h1, .int o3.2.2.1, .int o3.2.2.2.1])), (h1, .inr (6, [.ref h2])), (h2, .inl (cA 0, 488, .inl o3.2.2.2.2))])) (ws2 := (fun as => [(z0, .inr (9, [.ref a0, .ref b0, .ref h0, .ref s0, .ref l0, .ref e0, .ref k0, .int u7, .int u8, .int u9])), (a0, .inr (8, [.ref a1])), (a1, .inr (6, [.ref a2])), (a2, .inl (cA 0, 61, .inl o3.2.1)), (h0, .inr (5, [.ref h1, .int o3.2.2.1, .int o3.2.2.2.1])), (h1, .inr (6, [.ref h2])), (h2, .inl (cA 0, 488, .inl o3.2.2.2.2))])) (st1 := (fun as => [.int o3.1])) ⟨hx, hb, hml, hfc, hts⟩ hK hP hD hS hA hEV hL9 (kL_bubble l hst D cA G z0 a0 b0 h0 s0 l0 e0 k0 a1 a2 h1 h2 N u7 u8 u9 f v1 v2 g x2 x3 x4 ho3) (vx_cwSW 4 hts gL_moon_L_bubble rfl rfl rfl (by decide +kernel) ⟨(Nat.le_of_ble_eq_true rfl), (Nat.le_of_ble_eq_true rfl)⟩) [0, 1, 2, 3, 4, 5, 6] [] [0, 1, 2, 3, 4, 5, 6] rfl rfl rfl rfl (by decide) (fun _ => rfl) rfl rfl (fun _ => rfl) rfl hl.1 (Nat.le_of_ble_eq_true rfl) dL_moon_36 ⟨(Nat.le_of_ble_eq_true rfl), (Nat.le_of_ble_eq_true rfl)⟩ (fun as4 H locs hP hD hS => ?_)
      have hP : va_P D vwCl [(z0, .inr (9, [.ref a0, .ref b0, .ref h0, .ref s0, .ref l0, .ref e0, .ref k0, .int u7, .int u8, .int u9])), (a0, .inr (8, [.ref a1])), (a1, .inr (6, [.ref a2])), (a2, .inl (cA 0, 61, .inl o3.2.1)), (h0, .inr (5, [.ref h1, .int o3.2.2.1, .int o3.2.2.2.1])), (h1, .inr (6, [.ref h2])), (h2, .inl (cA 0, 488, .inl o3.2.2.2.2))] H := hP
      have hD : va_D A [(z0, .inr (9, [.ref a0, .ref b0, .ref h0, .ref s0, .ref l0, .ref e0, .ref k0, .int u7, .int u8, .int u9])), (a0, .inr (8, [.ref a1])), (a1, .inr (6, [.ref a2])), (a2, .inl (cA 0, 61, .inl o3.2.1)), (h0, .inr (5, [.ref h1, .int o3.2.2.1, .int o3.2.2.2.1])), (h1, .inr (6, [.ref h2])), (h2, .inl (cA 0, 488, .inl o3.2.2.2.2))] := hD
      refine W.cs (cells' := 1) (slots' := 6) rfl rfl ?_
      have h := Option.some.inj h
      subst h
      refine W.widen (k := 1) (n := 6) (Nat.le_of_ble_eq_true rfl) (Nat.le_of_ble_eq_true rfl) ?_
      exact hend (adr []) _ _ _ _ _ _ _ rfl rfl (rtn_i _) hP hD hS dL_moon_39
    · have h := ite_t c2 h
      refine lv_aload_n hx hb dL_moon_20 rfl (lv_at hl 0 rfl) ?_
      refine lv_iload_n hx hb dL_moon_21 rfl (lv_at hl 2 rfl) ?_
      refine lv_iload_n hx hb dL_moon_22 rfl (lv_at hl 3 rfl) ?_
      refine lv_iload hx hb dL_moon_23 (lv_at hl 4 rfl) ?_
      obtain ⟨o5, ho5, h⟩ := bnd_i h
      refine gqL_S (G := G) (v := (fun as => (some (.int o5.1)))) (As := [.ref z0, .int x2, .int x3, .int x4]) (rest := []) (wc := [(z0, .inr (9, [.ref a0, .ref b0, .ref h0, .ref s0, .ref l0, .ref e0, .ref k0, .int u7, .int u8, .int u9])), (a0, .inr (8, [.ref a1])), (a1, .inr (6, [.ref a2])), (a2, .inl (cA 0, 61, .inl f)), (h0, .inr (5, [.ref h1, .int v1, .int v2])), (h1, .inr (6, [.ref h2])), (h2, .inl (cA 0, 488, .inl g))]) (wr := []) (w1 := (fun as => [(z0, .inr (9, [.ref a0, .ref b0, .ref h0, .ref s0, .ref l0, .ref e0, .ref k0, .int u7, .int u8, .int u9])), (a0, .inr (8, [.ref a1])), (a1, .inr (6, [.ref a2])), (a2, .inl (cA 0, 61, .inl o5.2.1)), (h0, .inr (5, [.ref h1, .int o5.2.2.1, .int o5.2.2.2.1])), (h1, .inr (6, [.ref h2])), (h2, .inl (cA 0, 488, .inl o5.2.2.2.2))])) (ws2 := (fun as => [(z0, .inr (9, [.ref a0, .ref b0, .ref h0, .ref s0, .ref l0, .ref e0, .ref k0, .int u7, .int u8, .int u9])), (a0, .inr (8, [.ref a1])), (a1, .inr (6, [.ref a2])), (a2, .inl (cA 0, 61, .inl o5.2.1)), (h0, .inr (5, [.ref h1, .int o5.2.2.1, .int o5.2.2.2.1])), (h1, .inr (6, [.ref h2])), (h2, .inl (cA 0, 488, .inl o5.2.2.2.2))])) (st1 := (fun as => [.int o5.1])) ⟨hx, hb, hml, hfc, hts⟩ hK hP hD hS hA hEV hL9 (kL_soft l hst D cA G z0 a0 b0 h0 s0 l0 e0 k0 a1 a2 h1 h2 N u7 u8 u9 f v1 v2 g x2 x3 x4 ho5) (vx_cwSW 4 hts gL_moon_L_soft rfl rfl rfl (by decide +kernel) ⟨(Nat.le_of_ble_eq_true rfl), (Nat.le_of_ble_eq_true rfl)⟩) [0, 1, 2, 3, 4, 5, 6] [] [0, 1, 2, 3, 4, 5, 6] rfl rfl rfl rfl (by decide) (fun _ => rfl) rfl rfl (fun _ => rfl) rfl hl.1 (Nat.le_of_ble_eq_true rfl) dL_moon_25 ⟨(Nat.le_of_ble_eq_true rfl), (Nat.le_of_ble_eq_true rfl)⟩ (fun as6 H locs hP hD hS => ?_)
      have hP : va_P D vwCl [(z0, .inr (9, [.ref a0, .ref b0, .ref h0, .ref s0, .ref l0, .ref e0, .ref k0, .int u7, .int u8, .int u9])), (a0, .inr (8, [.ref a1])), (a1, .inr (6, [.ref a2])), (a2, .inl (cA 0, 61, .inl o5.2.1)), (h0, .inr (5, [.ref h1, .int o5.2.2.1, .int o5.2.2.2.1])), (h1, .inr (6, [.ref h2])), (h2, .inl (cA 0, 488, .inl o5.2.2.2.2))] H := hP
      have hD : va_D A [(z0, .inr (9, [.ref a0, .ref b0, .ref h0, .ref s0, .ref l0, .ref e0, .ref k0, .int u7, .int u8, .int u9])), (a0, .inr (8, [.ref a1])), (a1, .inr (6, [.ref a2])), (a2, .inl (cA 0, 61, .inl o5.2.1)), (h0, .inr (5, [.ref h1, .int o5.2.2.1, .int o5.2.2.2.1])), (h1, .inr (6, [.ref h2])), (h2, .inl (cA 0, 488, .inl o5.2.2.2.2))] := hD
      refine W.cs (cells' := 1) (slots' := 6) rfl rfl ?_
      refine lv_goto (tgt := 39) hx hb dL_moon_28 (by decide) ?_
      have h := Option.some.inj h
      subst h
      refine W.widen (k := 1) (n := 6) (Nat.le_of_ble_eq_true rfl) (Nat.le_of_ble_eq_true rfl) ?_
      exact hend (adr []) _ _ _ _ _ _ _ rfl rfl (rtn_i _) hP hD hS dL_moon_39
  · have h := ite_t c1 h
    refine lv_aload_n hx hb dL_moon_4 rfl (lv_at hl 0 rfl) ?_
    refine lv_iload_n hx hb dL_moon_5 rfl (lv_at hl 2 rfl) ?_
    refine lv_iload_n hx hb dL_moon_6 rfl (lv_at hl 3 rfl) ?_
    refine lv_iload hx hb dL_moon_7 (lv_at hl 4 rfl) ?_
    obtain ⟨o7, ho7, h⟩ := bnd_i h
    refine gqL_S (G := G) (v := (fun as => (some (.int o7.1)))) (As := [.ref z0, .int x2, .int x3, .int x4]) (rest := []) (wc := [(z0, .inr (9, [.ref a0, .ref b0, .ref h0, .ref s0, .ref l0, .ref e0, .ref k0, .int u7, .int u8, .int u9])), (a0, .inr (8, [.ref a1])), (a1, .inr (6, [.ref a2])), (a2, .inl (cA 0, 61, .inl f)), (h0, .inr (5, [.ref h1, .int v1, .int v2])), (h1, .inr (6, [.ref h2])), (h2, .inl (cA 0, 488, .inl g))]) (wr := []) (w1 := (fun as => [(z0, .inr (9, [.ref a0, .ref b0, .ref h0, .ref s0, .ref l0, .ref e0, .ref k0, .int u7, .int u8, .int u9])), (a0, .inr (8, [.ref a1])), (a1, .inr (6, [.ref a2])), (a2, .inl (cA 0, 61, .inl o7.2.1)), (h0, .inr (5, [.ref h1, .int o7.2.2.1, .int o7.2.2.2.1])), (h1, .inr (6, [.ref h2])), (h2, .inl (cA 0, 488, .inl o7.2.2.2.2))])) (ws2 := (fun as => [(z0, .inr (9, [.ref a0, .ref b0, .ref h0, .ref s0, .ref l0, .ref e0, .ref k0, .int u7, .int u8, .int u9])), (a0, .inr (8, [.ref a1])), (a1, .inr (6, [.ref a2])), (a2, .inl (cA 0, 61, .inl o7.2.1)), (h0, .inr (5, [.ref h1, .int o7.2.2.1, .int o7.2.2.2.1])), (h1, .inr (6, [.ref h2])), (h2, .inl (cA 0, 488, .inl o7.2.2.2.2))])) (st1 := (fun as => [.int o7.1])) ⟨hx, hb, hml, hfc, hts⟩ hK hP hD hS hA hEV hL9 (kL_hard l hst D cA G z0 a0 b0 h0 s0 l0 e0 k0 a1 a2 h1 h2 N u7 u8 u9 f v1 v2 g x2 x3 x4 ho7) (vx_cwSW 4 hts gL_moon_L_hard rfl rfl rfl (by decide +kernel) ⟨(Nat.le_of_ble_eq_true rfl), (Nat.le_of_ble_eq_true rfl)⟩) [0, 1, 2, 3, 4, 5, 6] [] [0, 1, 2, 3, 4, 5, 6] rfl rfl rfl rfl (by decide) (fun _ => rfl) rfl rfl (fun _ => rfl) rfl hl.1 (Nat.le_of_ble_eq_true rfl) dL_moon_9 ⟨(Nat.le_of_ble_eq_true rfl), (Nat.le_of_ble_eq_true rfl)⟩ (fun as8 H locs hP hD hS => ?_)
    have hP : va_P D vwCl [(z0, .inr (9, [.ref a0, .ref b0, .ref h0, .ref s0, .ref l0, .ref e0, .ref k0, .int u7, .int u8, .int u9])), (a0, .inr (8, [.ref a1])), (a1, .inr (6, [.ref a2])), (a2, .inl (cA 0, 61, .inl o7.2.1)), (h0, .inr (5, [.ref h1, .int o7.2.2.1, .int o7.2.2.2.1])), (h1, .inr (6, [.ref h2])), (h2, .inl (cA 0, 488, .inl o7.2.2.2.2))] H := hP
    have hD : va_D A [(z0, .inr (9, [.ref a0, .ref b0, .ref h0, .ref s0, .ref l0, .ref e0, .ref k0, .int u7, .int u8, .int u9])), (a0, .inr (8, [.ref a1])), (a1, .inr (6, [.ref a2])), (a2, .inl (cA 0, 61, .inl o7.2.1)), (h0, .inr (5, [.ref h1, .int o7.2.2.1, .int o7.2.2.2.1])), (h1, .inr (6, [.ref h2])), (h2, .inl (cA 0, 488, .inl o7.2.2.2.2))] := hD
    refine W.cs (cells' := 1) (slots' := 6) rfl rfl ?_
    refine lv_goto (tgt := 39) hx hb dL_moon_12 (by decide) ?_
    have h := Option.some.inj h
    subst h
    refine W.widen (k := 1) (n := 6) (Nat.le_of_ble_eq_true rfl) (Nat.le_of_ble_eq_true rfl) ?_
    exact hend (adr []) _ _ _ _ _ _ _ rfl rfl (rtn_i _) hP hD hS dL_moon_39

noncomputable def LL_tide_6 (K : Int32 → Option (Int32)) (f : Nat → Int32) (mn : Nat) (mv : Nat → Nat → Int32) (x3 : Int32) (x2 : Int32) : Nat → Int32 → Int32 → Option (Int32)
  | 0, _, _ => none
  | fu + 1, x4_6, x5_6 => if (SX5_moonCount f) ≤ x5_6 then (K x4_6) else (gd (vp_in x5_6 5) (gd ((Int32.toNatClampNeg x5_6) < mn) (bnd (SL_placeIn f (mv (Int32.toNatClampNeg x5_6)) x3) (fun o6 : Int32 => lt_ (if (iabs (x2 - o6)) ≤ 6 then (iabs (x2 - o6)) else (12 - (iabs (x2 - o6)))) (fun o9 : Int32 => bnd (SL_isDark f (mv (Int32.toNatClampNeg x5_6)) x3) (fun o10 : Int32 => lt_ (if o10 = 0 then (lt_ (SL_massIn f (mv (Int32.toNatClampNeg x5_6)) x3) (fun o14 : Int32 => o14 * (3 - o9))) else (0)) (fun o13 : Int32 => LL_tide_6 K f mn mv x3 x2 fu (x4_6 + o13) (x5_6 + 1))))))))
noncomputable def SL_tide (f : Nat → Int32) (mn : Nat) (mv : Nat → Nat → Int32) (x2 : Int32) (x3 : Int32) : Option (Int32) := LL_tide_6 (fun o1 : Int32 => bnd (SX5_hasToe f x2) (fun o16 : Nat × Int32 => if o16.1 = 0 then (if o16.2 = 0 then (some (o1)) else (some (o1 / 2))) else (none))) f mn mv x3 x2 7 0 0
abbrev RM_L_tide : Room := { frames := 10, cells := 8, slots := 48, locals := 167 }
set_option maxRecDepth 20000 in
set_option maxHeartbeats 4000000 in
theorem kL_tide (l : Launch) (hst : l.stackTraces = false) (D : va_G) (cA : Nat → ClassId) (G : eG) (z0 a0 b0 h0 s0 l0 e0 k0 a1 a2 mo : Nat) (u7 : Int32) (u8 : Int32) (u9 : Int32) (f : Nat → Int32) (mn : Nat) (mr : Nat → Nat) (mv : Nat → Nat → Int32) (x2 : Int32) (x3 : Int32) {r : Int32} (hr : SL_tide f mn mv x2 x3 = some r) {sz : Nat} : Met l yL_tide wsL_tide RM_L_tide (va_Pc [.ref z0, .ref mo, .int x2, .int x3] (gqTB G (moonT mo mn mr mv) D cA [(z0, .inr (9, [.ref a0, .ref b0, .ref h0, .ref s0, .ref l0, .ref e0, .ref k0, .int u7, .int u8, .int u9])), (a0, .inr (8, [.ref a1])), (a1, .inr (6, [.ref a2])), (a2, .inl (cA 0, 61, .inl f))] sz)) (gqQ D (fun as => (some (.int r))) (fun as => [(z0, .inr (9, [.ref a0, .ref b0, .ref h0, .ref s0, .ref l0, .ref e0, .ref k0, .int u7, .int u8, .int u9])), (a0, .inr (8, [.ref a1])), (a1, .inr (6, [.ref a2])), (a2, .inl (cA 0, 61, .inl f))]) (va_A [(z0, .inr (9, [.ref a0, .ref b0, .ref h0, .ref s0, .ref l0, .ref e0, .ref k0, .int u7, .int u8, .int u9])), (a0, .inr (8, [.ref a1])), (a1, .inr (6, [.ref a2])), (a2, .inl (cA 0, 61, .inl f))] sz)) 8 48 (va_A [(z0, .inr (9, [.ref a0, .ref b0, .ref h0, .ref s0, .ref l0, .ref e0, .ref k0, .int u7, .int u8, .int u9])), (a0, .inr (8, [.ref a1])), (a1, .inr (6, [.ref a2])), (a2, .inl (cA 0, 61, .inl f))] sz) := by
  refine gqT_ofW (cc := cL_tide) (maxL := 7) (ret := (some .int)) (by decide) rfl (Nat.le_of_ble_eq_true rfl) (fun p e s m args below meth c ls Q A hx hb hml hts hfc hK hP hD hS hA hEV hL9 hTX hAX hN hl hend => ?_)
  have hfc : s.vm.findClass RL = some m.cls := hfc
  have hl : lv_has ls 7 [(0, .ref z0), (1, .ref mo), (2, .int x2), (3, .int x3)] := hl
  have h := hr
  clear hr
  unfold SL_tide at h
  refine lv_iconst (v := 0) hx hb dL_tide_0 (by decide) ?_
  refine lv_istore hx hb dL_tide_1 hl (Nat.le_of_ble_eq_true rfl) rfl (fun ls hl => ?_)
  have hl : lv_has ls 7 [(4, .int 0), (0, .ref z0), (1, .ref mo), (2, .int x2), (3, .int x3)] := hl
  refine lv_iconst (v := 0) hx hb dL_tide_3 (by decide) ?_
  refine lv_istore hx hb dL_tide_4 hl (Nat.le_of_ble_eq_true rfl) rfl (fun ls hl => ?_)
  have hl : lv_has ls 7 [(5, .int 0), (4, .int 0), (0, .ref z0), (1, .ref mo), (2, .int x2), (3, .int x3)] := hl
  have hLL_tide_6 : ∀ (K : Int32 → Option (Int32)), (∀ (o1 : Int32) (ls : Array Slot) (H : Heap) (locs : List Loc), lv_has ls 7 [(0, .ref z0), (2, .int x2), (4, .int o1)] → va_P D vwCl [(z0, .inr (9, [.ref a0, .ref b0, .ref h0, .ref s0, .ref l0, .ref e0, .ref k0, .int u7, .int u8, .int u9])), (a0, .inr (8, [.ref a1])), (a1, .inr (6, [.ref a2])), (a2, .inl (cA 0, 61, .inl f))] H → va_D A [(z0, .inr (9, [.ref a0, .ref b0, .ref h0, .ref s0, .ref l0, .ref e0, .ref k0, .int u7, .int u8, .int u9])), (a0, .inr (8, [.ref a1])), (a1, .inr (6, [.ref a2])), (a2, .inl (cA 0, 61, .inl f))] → va_S A s.heap H locs → K o1 = some r → W p l e RM_L_tide s m args below meth c H locs 7 42 Q (F0 m 91 ls [])) → ∀ (fu : Nat) (x4_6 : Int32) (x5_6 : Int32) (ce1 se1 : Nat), ce1 + 1 * fu ≤ 7 → se1 + 6 * fu ≤ 42 → ∀ (ls : Array Slot) (H : Heap) (locs : List Loc), lv_has ls 7 [(0, .ref z0), (1, .ref mo), (2, .int x2), (3, .int x3), (4, .int x4_6), (5, .int x5_6)] → va_P D vwCl [(z0, .inr (9, [.ref a0, .ref b0, .ref h0, .ref s0, .ref l0, .ref e0, .ref k0, .int u7, .int u8, .int u9])), (a0, .inr (8, [.ref a1])), (a1, .inr (6, [.ref a2])), (a2, .inl (cA 0, 61, .inl f))] H → va_D A [(z0, .inr (9, [.ref a0, .ref b0, .ref h0, .ref s0, .ref l0, .ref e0, .ref k0, .int u7, .int u8, .int u9])), (a0, .inr (8, [.ref a1])), (a1, .inr (6, [.ref a2])), (a2, .inl (cA 0, 61, .inl f))] → va_S A s.heap H locs → LL_tide_6 K f mn mv x3 x2 fu x4_6 x5_6 = some r → W p l e RM_L_tide s m args below meth c H locs ce1 se1 Q (F0 m 6 ls []) := by
    intro K hKk fu
    induction fu with
    | zero =>
      intro x4_6 x5_6 ce1 se1 hce1 hse1 ls H locs hl hP hD hS h
      rw [LL_tide_6] at h
      exact nn h
    | succ fu ih =>
      intro x4_6 x5_6 ce1 se1 hce1 hse1 ls H locs hl hP hD hS h
      rw [LL_tide_6] at h
      refine lv_iload hx hb dL_tide_6 (lv_at hl 5 rfl) ?_
      refine lv_aload_n hx hb dL_tide_8 rfl (lv_at hl 0 rfl) ?_
      refine rq_V (v := (some (.int (SX5_moonCount f)))) (As := []) (rest := [.int x5_6]) (wc := [(z0, .inr (9, [.ref a0, .ref b0, .ref h0, .ref s0, .ref l0, .ref e0, .ref k0, .int u7, .int u8, .int u9])), (a0, .inr (8, [.ref a1])), (a1, .inr (6, [.ref a2])), (a2, .inl (cA 0, 61, .inl f))]) ⟨hx, hb, hml, hfc, hts⟩ hK hP (kX5_moonCount l D cA z0 a0 b0 h0 s0 l0 e0 k0 a1 a2 u7 u8 u9 f rfl) (cwV 0 hts gL_tide_X5_moonCount rfl rfl rfl (by decide +kernel) ⟨(Nat.le_of_ble_eq_true rfl), (Nat.le_of_ble_eq_true rfl)⟩) [0, 1, 2, 3] rfl 0 9 rfl rfl rfl rfl rfl rfl hl.1 (Nat.le_of_ble_eq_true rfl) dL_tide_9 ⟨(room_w (k := 0) hce1 (Nat.le_of_ble_eq_true rfl) (Nat.le_of_ble_eq_true rfl)), (room_w (k := 0) hse1 (Nat.le_of_ble_eq_true rfl) (Nat.le_of_ble_eq_true rfl))⟩ ?_
      refine lv_icmp_ge (tgt := 91) hx hb dL_tide_12 (by decide) (fun c3 => ?_) (fun c3 => ?_)
      · have h := ite_t c3 h
        refine W.widen (k := 7) (n := 42) (room_le (k := 0) hce1 (Nat.le_of_ble_eq_true rfl)) (room_le (k := 0) hse1 (Nat.le_of_ble_eq_true rfl)) ?_
        exact hKk x4_6 _ _ _ (lv_sub hl [0, 2, 4] rfl) hP hD hS h
      · have h := ite_f c3 h
        refine lv_iload_n hx hb dL_tide_15 rfl (lv_at hl 2 rfl) ?_
        refine lv_aload_n hx hb dL_tide_16 rfl (lv_at hl 0 rfl) ?_
        refine lv_aload_n hx hb dL_tide_17 rfl (lv_at hl 1 rfl) ?_
        refine lv_iload hx hb dL_tide_18 (lv_at hl 5 rfl) ?_
        obtain ⟨g4, h⟩ := gd_i h
        obtain ⟨g5, h⟩ := gd_i h
        refine va_ta hx hb (moon_arr hTX) hS g4 (v := .ref (mr (Int32.toNatClampNeg x5_6))) (moon_v g5) dL_tide_20 ?_
        refine lv_iload_n hx hb dL_tide_21 rfl (lv_at hl 3 rfl) ?_
        obtain ⟨o6, ho6, h⟩ := bnd_i h
        refine gqT_S (G := G) (ts := (rowT (mr (Int32.toNatClampNeg x5_6)) (mv (Int32.toNatClampNeg x5_6)))) (v := (fun as => (some (.int o6)))) (As := [.ref z0, .ref (mr (Int32.toNatClampNeg x5_6)), .int x3]) (rest := [.int x2]) (wc := [(z0, .inr (9, [.ref a0, .ref b0, .ref h0, .ref s0, .ref l0, .ref e0, .ref k0, .int u7, .int u8, .int u9])), (a0, .inr (8, [.ref a1])), (a1, .inr (6, [.ref a2])), (a2, .inl (cA 0, 61, .inl f))]) (wr := []) (w1 := (fun as => [(z0, .inr (9, [.ref a0, .ref b0, .ref h0, .ref s0, .ref l0, .ref e0, .ref k0, .int u7, .int u8, .int u9])), (a0, .inr (8, [.ref a1])), (a1, .inr (6, [.ref a2])), (a2, .inl (cA 0, 61, .inl f))])) (ws2 := (fun as => [(z0, .inr (9, [.ref a0, .ref b0, .ref h0, .ref s0, .ref l0, .ref e0, .ref k0, .int u7, .int u8, .int u9])), (a0, .inr (8, [.ref a1])), (a1, .inr (6, [.ref a2])), (a2, .inl (cA 0, 61, .inl f))])) (st1 := (fun as => [.int o6, .int x2])) ⟨hx, hb, hml, hfc, hts⟩ hK hP hD hS hA hEV hL9 (tX.to hTX hD hS hA [0, 1, 2, 3] rfl (row_in g5)) hAX hN (kL_placeIn l hst D cA G z0 a0 b0 h0 s0 l0 e0 k0 a1 a2 (mr (Int32.toNatClampNeg x5_6)) u7 u8 u9 f (mv (Int32.toNatClampNeg x5_6)) x3 ho6) (va_cwS 3 hts gL_tide_L_placeIn rfl rfl rfl (by decide +kernel) ⟨(Nat.le_of_ble_eq_true rfl), (Nat.le_of_ble_eq_true rfl)⟩) [0, 1, 2, 3] [] [0, 1, 2, 3] rfl rfl rfl rfl (by decide) (fun _ => rfl) rfl rfl (fun _ => rfl) rfl hl.1 (Nat.le_of_ble_eq_true rfl) dL_tide_22 ⟨(room_w (k := 0) hce1 (Nat.le_of_ble_eq_true rfl) (Nat.le_of_ble_eq_true rfl)), (room_w (k := 0) hse1 (Nat.le_of_ble_eq_true rfl) (Nat.le_of_ble_eq_true rfl))⟩ (fun as7 H locs hP hD hS => ?_)
        have hP : va_P D vwCl [(z0, .inr (9, [.ref a0, .ref b0, .ref h0, .ref s0, .ref l0, .ref e0, .ref k0, .int u7, .int u8, .int u9])), (a0, .inr (8, [.ref a1])), (a1, .inr (6, [.ref a2])), (a2, .inl (cA 0, 61, .inl f))] H := hP
        have hD : va_D A [(z0, .inr (9, [.ref a0, .ref b0, .ref h0, .ref s0, .ref l0, .ref e0, .ref k0, .int u7, .int u8, .int u9])), (a0, .inr (8, [.ref a1])), (a1, .inr (6, [.ref a2])), (a2, .inl (cA 0, 61, .inl f))] := hD
        refine W.cs (cells' := ce1) (slots' := se1) rfl rfl ?_
        refine lv_isub hx hb dL_tide_25 ?_
        refine va_mabs hx hb (hml.trans hl.1.symm) hfc (hts (.methodLink RL 210 Lib.Math.abs.name) (List.mem_of_getElem? (i := 1) rfl)) (hts (.static Lib.Math.abs.name) (List.mem_of_getElem? (i := 2) rfl)) (hts (.initialized "java/lang/Math") (List.mem_of_getElem? (i := 3) rfl)) (hts (.code Lib.Math.abs.name Lib.Math.abs.code 1 (some .int)) (List.mem_of_getElem? (i := 4) rfl)) (Nat.le_of_ble_eq_true rfl) (Nat.le_of_ble_eq_true rfl) (room_w (k := 0) hce1 (Nat.le_of_ble_eq_true rfl) (Nat.le_of_ble_eq_true rfl)) (room_w (k := 0) hse1 (Nat.le_of_ble_eq_true rfl) (Nat.le_of_ble_eq_true rfl)) dL_tide_26 ?_
        refine W.cs (cells' := ce1) (slots' := se1) rfl rfl ?_
        refine lv_istore hx hb dL_tide_29 hl (Nat.le_of_ble_eq_true rfl) rfl (fun ls hl => ?_)
        have hl : lv_has ls 7 [(6, .int (iabs (x2 - o6))), (0, .ref z0), (1, .ref mo), (2, .int x2), (3, .int x3), (4, .int x4_6), (5, .int x5_6)] := hl
        refine lv_iload hx hb dL_tide_31 (lv_at hl 0 rfl) ?_
        refine lv_bipush (v := 6) hx hb dL_tide_33 (by decide) ?_
        obtain ⟨o9, ho9, h⟩ := lt_i h
        have ko9 : ∀ (ls : Array Slot) (H : Heap) (locs : List Loc), lv_has ls 7 [(0, .ref z0), (1, .ref mo), (2, .int x2), (3, .int x3), (4, .int x4_6), (5, .int x5_6)] → va_P D vwCl [(z0, .inr (9, [.ref a0, .ref b0, .ref h0, .ref s0, .ref l0, .ref e0, .ref k0, .int u7, .int u8, .int u9])), (a0, .inr (8, [.ref a1])), (a1, .inr (6, [.ref a2])), (a2, .inl (cA 0, 61, .inl f))] H → va_D A [(z0, .inr (9, [.ref a0, .ref b0, .ref h0, .ref s0, .ref l0, .ref e0, .ref k0, .int u7, .int u8, .int u9])), (a0, .inr (8, [.ref a1])), (a1, .inr (6, [.ref a2])), (a2, .inl (cA 0, 61, .inl f))] → va_S A s.heap H locs → W p l e RM_L_tide s m args below meth c H locs ce1 se1 Q (F0 m 48 ls [.int o9]) := by
          intro ls H locs hl hP hD hS
          refine lv_istore hx hb dL_tide_48 hl (Nat.le_of_ble_eq_true rfl) rfl (fun ls hl => ?_)
          have hl : lv_has ls 7 [(6, .int o9), (0, .ref z0), (1, .ref mo), (2, .int x2), (3, .int x3), (4, .int x4_6), (5, .int x5_6)] := hl
          refine lv_iload hx hb dL_tide_50 (lv_at hl 5 rfl) ?_
          refine lv_aload_n hx hb dL_tide_52 rfl (lv_at hl 1 rfl) ?_
          refine lv_aload_n hx hb dL_tide_53 rfl (lv_at hl 2 rfl) ?_
          refine lv_iload hx hb dL_tide_54 (lv_at hl 6 rfl) ?_
          refine va_ta hx hb (moon_arr hTX) hS g4 (v := .ref (mr (Int32.toNatClampNeg x5_6))) (moon_v g5) dL_tide_56 ?_
          refine lv_iload_n hx hb dL_tide_57 rfl (lv_at hl 4 rfl) ?_
          obtain ⟨o10, ho10, h⟩ := bnd_i h
          refine gqT_S (G := G) (ts := (rowT (mr (Int32.toNatClampNeg x5_6)) (mv (Int32.toNatClampNeg x5_6)))) (v := (fun as => (some (.int o10)))) (As := [.ref z0, .ref (mr (Int32.toNatClampNeg x5_6)), .int x3]) (rest := [.int x4_6]) (wc := [(z0, .inr (9, [.ref a0, .ref b0, .ref h0, .ref s0, .ref l0, .ref e0, .ref k0, .int u7, .int u8, .int u9])), (a0, .inr (8, [.ref a1])), (a1, .inr (6, [.ref a2])), (a2, .inl (cA 0, 61, .inl f))]) (wr := []) (w1 := (fun as => [(z0, .inr (9, [.ref a0, .ref b0, .ref h0, .ref s0, .ref l0, .ref e0, .ref k0, .int u7, .int u8, .int u9])), (a0, .inr (8, [.ref a1])), (a1, .inr (6, [.ref a2])), (a2, .inl (cA 0, 61, .inl f))])) (ws2 := (fun as => [(z0, .inr (9, [.ref a0, .ref b0, .ref h0, .ref s0, .ref l0, .ref e0, .ref k0, .int u7, .int u8, .int u9])), (a0, .inr (8, [.ref a1])), (a1, .inr (6, [.ref a2])), (a2, .inl (cA 0, 61, .inl f))])) (st1 := (fun as => [.int o10, .int x4_6])) ⟨hx, hb, hml, hfc, hts⟩ hK hP hD hS hA hEV hL9 (tX.to hTX hD hS hA [0, 1, 2, 3] rfl (row_in g5)) hAX hN (kL_isDark l hst D cA G z0 a0 b0 h0 s0 l0 e0 k0 a1 a2 (mr (Int32.toNatClampNeg x5_6)) u7 u8 u9 f (mv (Int32.toNatClampNeg x5_6)) x3 ho10) (va_cwS 3 hts gL_tide_L_isDark rfl rfl rfl (by decide +kernel) ⟨(Nat.le_of_ble_eq_true rfl), (Nat.le_of_ble_eq_true rfl)⟩) [0, 1, 2, 3] [] [0, 1, 2, 3] rfl rfl rfl rfl (by decide) (fun _ => rfl) rfl rfl (fun _ => rfl) rfl hl.1 (Nat.le_of_ble_eq_true rfl) dL_tide_58 ⟨(room_w (k := 1) hce1 (Nat.le_of_ble_eq_true rfl) (Nat.le_of_ble_eq_true rfl)), (room_w (k := 6) hse1 (Nat.le_of_ble_eq_true rfl) (Nat.le_of_ble_eq_true rfl))⟩ (fun as11 H locs hP hD hS => ?_)
          have hP : va_P D vwCl [(z0, .inr (9, [.ref a0, .ref b0, .ref h0, .ref s0, .ref l0, .ref e0, .ref k0, .int u7, .int u8, .int u9])), (a0, .inr (8, [.ref a1])), (a1, .inr (6, [.ref a2])), (a2, .inl (cA 0, 61, .inl f))] H := hP
          have hD : va_D A [(z0, .inr (9, [.ref a0, .ref b0, .ref h0, .ref s0, .ref l0, .ref e0, .ref k0, .int u7, .int u8, .int u9])), (a0, .inr (8, [.ref a1])), (a1, .inr (6, [.ref a2])), (a2, .inl (cA 0, 61, .inl f))] := hD
          refine W.cs (cells' := ce1 + 1) (slots' := se1 + 6) rfl rfl ?_
          obtain ⟨o13, ho13, h⟩ := lt_i h
          have ko13 : ∀ (ls : Array Slot) (H : Heap) (locs : List Loc), lv_has ls 7 [(0, .ref z0), (1, .ref mo), (2, .int x2), (3, .int x3), (5, .int x5_6)] → va_P D vwCl [(z0, .inr (9, [.ref a0, .ref b0, .ref h0, .ref s0, .ref l0, .ref e0, .ref k0, .int u7, .int u8, .int u9])), (a0, .inr (8, [.ref a1])), (a1, .inr (6, [.ref a2])), (a2, .inl (cA 0, 61, .inl f))] H → va_D A [(z0, .inr (9, [.ref a0, .ref b0, .ref h0, .ref s0, .ref l0, .ref e0, .ref k0, .int u7, .int u8, .int u9])), (a0, .inr (8, [.ref a1])), (a1, .inr (6, [.ref a2])), (a2, .inl (cA 0, 61, .inl f))] → va_S A s.heap H locs → W p l e RM_L_tide s m args below meth c H locs (ce1 + 1) (se1 + 6) Q (F0 m 82 ls [.int o13, .int x4_6]) := by
            intro ls H locs hl hP hD hS
            refine lv_iadd hx hb dL_tide_82 ?_
            refine lv_istore hx hb dL_tide_83 hl (Nat.le_of_ble_eq_true rfl) rfl (fun ls hl => ?_)
            have hl : lv_has ls 7 [(4, .int (x4_6 + o13)), (0, .ref z0), (1, .ref mo), (2, .int x2), (3, .int x3), (5, .int x5_6)] := hl
            refine lv_iinc (k := 5) (v := x5_6 + 1) hx hb dL_tide_85 hl rfl (congrArg (fun z => x5_6 + z) lit1) (Nat.le_of_ble_eq_true rfl) rfl (fun ls hl => ?_)
            have hl : lv_has ls 7 [(5, .int (x5_6 + 1)), (4, .int (x4_6 + o13)), (0, .ref z0), (1, .ref mo), (2, .int x2), (3, .int x3)] := hl
            refine lv_goto (tgt := 6) hx hb dL_tide_88 (by decide) ?_
            exact ih (x4_6 + o13) (x5_6 + 1) _ _ (room_bk (k := 1) hce1 (Nat.le_of_ble_eq_true rfl)) (room_bk (k := 6) hse1 (Nat.le_of_ble_eq_true rfl)) _ _ _ (lv_sub hl [2, 3, 4, 5, 1, 0] rfl) hP hD hS h
          clear h
          have h := ho13
          clear ho13
          refine lv_if_eq (tgt := 68) hx hb dL_tide_61 (by decide) (fun c12 => ?_) (fun c12 => ?_)
          · have h := ite_t c12 h
            refine lv_aload_n hx hb dL_tide_68 rfl (lv_at hl 1 rfl) ?_
            refine lv_aload_n hx hb dL_tide_69 rfl (lv_at hl 2 rfl) ?_
            refine lv_iload hx hb dL_tide_70 (lv_at hl 6 rfl) ?_
            refine va_ta hx hb (moon_arr hTX) hS g4 (v := .ref (mr (Int32.toNatClampNeg x5_6))) (moon_v g5) dL_tide_72 ?_
            refine lv_iload_n hx hb dL_tide_73 rfl (lv_at hl 4 rfl) ?_
            obtain ⟨o14, ho14, h⟩ := lt_i h
            refine gqT_S (G := G) (ts := (rowT (mr (Int32.toNatClampNeg x5_6)) (mv (Int32.toNatClampNeg x5_6)))) (v := (fun as => (some (.int o14)))) (As := [.ref z0, .ref (mr (Int32.toNatClampNeg x5_6)), .int x3]) (rest := [.int x4_6]) (wc := [(z0, .inr (9, [.ref a0, .ref b0, .ref h0, .ref s0, .ref l0, .ref e0, .ref k0, .int u7, .int u8, .int u9])), (a0, .inr (8, [.ref a1])), (a1, .inr (6, [.ref a2])), (a2, .inl (cA 0, 61, .inl f))]) (wr := []) (w1 := (fun as => [(z0, .inr (9, [.ref a0, .ref b0, .ref h0, .ref s0, .ref l0, .ref e0, .ref k0, .int u7, .int u8, .int u9])), (a0, .inr (8, [.ref a1])), (a1, .inr (6, [.ref a2])), (a2, .inl (cA 0, 61, .inl f))])) (ws2 := (fun as => [(z0, .inr (9, [.ref a0, .ref b0, .ref h0, .ref s0, .ref l0, .ref e0, .ref k0, .int u7, .int u8, .int u9])), (a0, .inr (8, [.ref a1])), (a1, .inr (6, [.ref a2])), (a2, .inl (cA 0, 61, .inl f))])) (st1 := (fun as => [.int o14, .int x4_6])) ⟨hx, hb, hml, hfc, hts⟩ hK hP hD hS hA hEV hL9 (tX.to hTX hD hS hA [0, 1, 2, 3] rfl (row_in g5)) hAX hN (kL_massIn l hst D cA G z0 a0 b0 h0 s0 l0 e0 k0 a1 a2 (mr (Int32.toNatClampNeg x5_6)) u7 u8 u9 f (mv (Int32.toNatClampNeg x5_6)) x3 ho14) (va_cwS 3 hts gL_tide_L_massIn rfl rfl rfl (by decide +kernel) ⟨(Nat.le_of_ble_eq_true rfl), (Nat.le_of_ble_eq_true rfl)⟩) [0, 1, 2, 3] [] [0, 1, 2, 3] rfl rfl rfl rfl (by decide) (fun _ => rfl) rfl rfl (fun _ => rfl) rfl hl.1 (Nat.le_of_ble_eq_true rfl) dL_tide_74 ⟨(room_w (k := 1) hce1 (Nat.le_of_ble_eq_true rfl) (Nat.le_of_ble_eq_true rfl)), (room_w (k := 6) hse1 (Nat.le_of_ble_eq_true rfl) (Nat.le_of_ble_eq_true rfl))⟩ (fun as15 H locs hP hD hS => ?_)
            have hP : va_P D vwCl [(z0, .inr (9, [.ref a0, .ref b0, .ref h0, .ref s0, .ref l0, .ref e0, .ref k0, .int u7, .int u8, .int u9])), (a0, .inr (8, [.ref a1])), (a1, .inr (6, [.ref a2])), (a2, .inl (cA 0, 61, .inl f))] H := hP
            have hD : va_D A [(z0, .inr (9, [.ref a0, .ref b0, .ref h0, .ref s0, .ref l0, .ref e0, .ref k0, .int u7, .int u8, .int u9])), (a0, .inr (8, [.ref a1])), (a1, .inr (6, [.ref a2])), (a2, .inl (cA 0, 61, .inl f))] := hD
            refine W.cs (cells' := ce1 + 1) (slots' := se1 + 6) rfl rfl ?_
            refine lv_iconst (v := 3) hx hb dL_tide_77 (by decide) ?_
            refine lv_iload hx hb dL_tide_78 (lv_at hl 0 rfl) ?_
            refine lv_isub hx hb dL_tide_80 ?_
            refine lv_imul hx hb dL_tide_81 ?_
            subst h
            exact ko13 _ _ _ (lv_sub hl [1, 2, 3, 4, 6] rfl) hP hD hS
          · have h := ite_f c12 h
            refine lv_iconst (v := 0) hx hb dL_tide_64 (by decide) ?_
            refine lv_goto (tgt := 82) hx hb dL_tide_65 (by decide) ?_
            subst h
            exact ko13 _ _ _ (lv_sub hl [1, 2, 3, 4, 6] rfl) hP hD hS
        clear h
        have h := ho9
        clear ho9
        refine lv_icmp_le (tgt := 46) hx hb dL_tide_35 (by decide) (fun c8 => ?_) (fun c8 => ?_)
        · have h := ite_t c8 h
          refine lv_iload hx hb dL_tide_46 (lv_at hl 0 rfl) ?_
          subst h
          exact ko9 _ _ _ (lv_sub hl [1, 2, 3, 4, 5, 6] rfl) hP hD hS
        · have h := ite_f c8 h
          refine lv_bipush (v := 12) hx hb dL_tide_38 (by decide) ?_
          refine lv_iload hx hb dL_tide_40 (lv_at hl 0 rfl) ?_
          refine lv_isub hx hb dL_tide_42 ?_
          refine lv_goto (tgt := 48) hx hb dL_tide_43 (by decide) ?_
          subst h
          exact ko9 _ _ _ (lv_sub hl [1, 2, 3, 4, 5, 6] rfl) hP hD hS
  refine hLL_tide_6 _ ?_ 7 0 0 0 0 (Nat.le_of_ble_eq_true rfl) (Nat.le_of_ble_eq_true rfl) _ _ _ (lv_sub hl [2, 3, 4, 5, 1, 0] rfl) hP hD hS h
  intro o1 ls H locs hl hP hD hS h
  refine lv_aload_n hx hb dL_tide_91 rfl (lv_at hl 0 rfl) ?_
  refine lv_iload_n hx hb dL_tide_92 rfl (lv_at hl 1 rfl) ?_
  obtain ⟨o16, ho16, h⟩ := bnd_i h
  refine xq_V (G := G) (v := (fun as => (some (.int o16.2)))) (As := [.int x2]) (rest := []) (wc := [(z0, .inr (9, [.ref a0, .ref b0, .ref h0, .ref s0, .ref l0, .ref e0, .ref k0, .int u7, .int u8, .int u9])), (a0, .inr (8, [.ref a1])), (a1, .inr (6, [.ref a2])), (a2, .inl (cA 0, 61, .inl f))]) (wr := []) (w1 := (fun as => [(z0, .inr (9, [.ref a0, .ref b0, .ref h0, .ref s0, .ref l0, .ref e0, .ref k0, .int u7, .int u8, .int u9])), (a0, .inr (8, [.ref a1])), (a1, .inr (6, [.ref a2])), (a2, .inl (cA 0, 61, .inl f))])) (ws2 := (fun as => [(z0, .inr (9, [.ref a0, .ref b0, .ref h0, .ref s0, .ref l0, .ref e0, .ref k0, .int u7, .int u8, .int u9])), (a0, .inr (8, [.ref a1])), (a1, .inr (6, [.ref a2])), (a2, .inl (cA 0, 61, .inl f))])) (st1 := (fun as => [.int o16.2])) ⟨hx, hb, hml, hfc, hts⟩ hK hP hD hS hA hEV (kX5_hasToe l hst D cA G z0 a0 b0 h0 s0 l0 e0 k0 a1 a2 u7 u8 u9 f x2 ho16) (cwV 1 hts gL_tide_X5_hasToe rfl rfl rfl (by decide +kernel) ⟨(Nat.le_of_ble_eq_true rfl), (Nat.le_of_ble_eq_true rfl)⟩) [0, 1, 2, 3] [] [0, 1, 2, 3] rfl rfl rfl rfl (by decide) (fun _ => rfl) rfl 0 9 rfl rfl rfl rfl (fun _ => rfl) rfl hl.1 (Nat.le_of_ble_eq_true rfl) dL_tide_93 ⟨(Nat.le_of_ble_eq_true rfl), (Nat.le_of_ble_eq_true rfl)⟩ (fun c18 as17 H locs hP hD hS => ?_) (fun c18 as17 H locs q9 ce hP hD hS z1 z2 z3 => ?_)
  · have h := ite_t c18 h
    have hP : va_P D vwCl [(z0, .inr (9, [.ref a0, .ref b0, .ref h0, .ref s0, .ref l0, .ref e0, .ref k0, .int u7, .int u8, .int u9])), (a0, .inr (8, [.ref a1])), (a1, .inr (6, [.ref a2])), (a2, .inl (cA 0, 61, .inl f))] H := hP
    have hD : va_D A [(z0, .inr (9, [.ref a0, .ref b0, .ref h0, .ref s0, .ref l0, .ref e0, .ref k0, .int u7, .int u8, .int u9])), (a0, .inr (8, [.ref a1])), (a1, .inr (6, [.ref a2])), (a2, .inl (cA 0, 61, .inl f))] := hD
    refine W.cs (cells' := 8) (slots' := 48) rfl rfl ?_
    refine lv_if_eq (tgt := 106) hx hb dL_tide_96 (by decide) (fun c19 => ?_) (fun c19 => ?_)
    · have h := ite_t c19 h
      refine lv_iload hx hb dL_tide_106 (lv_at hl 2 rfl) ?_
      have h := Option.some.inj h
      subst h
      refine W.widen (k := 8) (n := 48) (Nat.le_of_ble_eq_true rfl) (Nat.le_of_ble_eq_true rfl) ?_
      exact hend (adr []) _ _ _ _ _ _ _ rfl rfl (rtn_i _) hP hD hS dL_tide_108
    · have h := ite_f c19 h
      refine lv_iload hx hb dL_tide_99 (lv_at hl 2 rfl) ?_
      refine lv_iconst (v := 2) hx hb dL_tide_101 (by decide) ?_
      refine lv_idiv hx hb dL_tide_102 (by decide) ?_
      refine lv_goto (tgt := 108) hx hb dL_tide_103 (by decide) ?_
      have h := Option.some.inj h
      subst h
      refine W.widen (k := 8) (n := 48) (Nat.le_of_ble_eq_true rfl) (Nat.le_of_ble_eq_true rfl) ?_
      exact hend (adr []) _ _ _ _ _ _ _ rfl rfl (rtn_i _) hP hD hS dL_tide_108
  · have h := ite_f c18 h
    have hP : va_P D vwCl [(z0, .inr (9, [.ref a0, .ref b0, .ref h0, .ref s0, .ref l0, .ref e0, .ref k0, .int u7, .int u8, .int u9])), (a0, .inr (8, [.ref a1])), (a1, .inr (6, [.ref a2])), (a2, .inl (cA 0, 61, .inl f))] H := hP
    have hD : va_D A [(z0, .inr (9, [.ref a0, .ref b0, .ref h0, .ref s0, .ref l0, .ref e0, .ref k0, .int u7, .int u8, .int u9])), (a0, .inr (8, [.ref a1])), (a1, .inr (6, [.ref a2])), (a2, .inl (cA 0, 61, .inl f))] := hD
    exact nn h

noncomputable def LL_spells_17 (K : Int32 → Option (Unit)) (nt : Nat) (n : Nat) (lf : Nat → Int32) (c0 : Int32) (ft : Nat → Int32) : Nat → Int32 → Int32 → Option (Unit)
  | 0, _, _ => none
  | fu + 1, x3_17, x4_17 => if (SJ0_length_8abf5_w nt) ≤ x4_17 then (K x3_17) else (if x3_17 = 0 then (K x3_17) else (bnd (SL_lineAt n lf c0 x4_17) (fun o8 : Int32 => bnd (SJ0_charAt_5068e_w nt ft x4_17) (fun o10 : Int32 => lt_ (if o8 = o10 then (1) else (0)) (fun o13 : Int32 => LL_spells_17 K nt n lf c0 ft fu o13 (x4_17 + 1))))))
noncomputable def SL_spells (n : Nat) (lf : Nat → Int32) (c0 : Int32) (nt : Nat) (ft : Nat → Int32) (x1 : Int32) : Option (Unit) := lt_ (if x1 = (SJ0_length_8abf5_w nt) then (1) else (0)) (fun o3 : Int32 => LL_spells_17 (fun o4 : Int32 => if o4 = 0 then (none) else (bnd (SL_lineAt n lf c0 x1) (fun o15 : Int32 => if o15 = (-11) then (some (())) else (none)))) nt n lf c0 ft 101 o3 0)
abbrev RM_L_spells : Room := { frames := 8, cells := 102, slots := 612, locals := 131 }
set_option maxRecDepth 20000 in
set_option maxHeartbeats 4000000 in
theorem kL_spells (l : Launch) (hst : l.stackTraces = false) (D : va_G) (cA : Nat → ClassId) (G : eG) (z0 a0 b0 h0 s0 l0 e0 k0 l1 r0 r1 : Nat) (u7 : Int32) (u8 : Int32) (u9 : Int32) (n : Nat) (lf : Nat → Int32) (ml : Int32) (c0 : Int32) (hh : Int32) (hz : Int32) (nt : Nat) (ft : Nat → Int32) (x1 : Int32) {r : Unit} (hr : SL_spells n lf c0 nt ft x1 = some r) {sz : Nat} : Met l yL_spells wsL_spells RM_L_spells (va_Pc [.ref z0, .int x1, .ref r0] (gqTB G noT D cA [(z0, .inr (9, [.ref a0, .ref b0, .ref h0, .ref s0, .ref l0, .ref e0, .ref k0, .int u7, .int u8, .int u9])), (l0, .inr (1, [.ref l1, .int 0, .int ml, .int c0])), (l1, .inl (cA 1, n, .inl lf)), (r0, .inr (0, [.ref r1, .int 0, .int hh, .int hz])), (r1, .inl (cA 1, nt, .inl ft))] sz)) (gqQ D (fun as => (some (.int 1))) (fun as => [(z0, .inr (9, [.ref a0, .ref b0, .ref h0, .ref s0, .ref l0, .ref e0, .ref k0, .int u7, .int u8, .int u9])), (l0, .inr (1, [.ref l1, .int 0, .int ml, .int c0])), (l1, .inl (cA 1, n, .inl lf)), (r0, .inr (0, [.ref r1, .int 0, .int hh, .int hz])), (r1, .inl (cA 1, nt, .inl ft))]) (va_A [(z0, .inr (9, [.ref a0, .ref b0, .ref h0, .ref s0, .ref l0, .ref e0, .ref k0, .int u7, .int u8, .int u9])), (l0, .inr (1, [.ref l1, .int 0, .int ml, .int c0])), (l1, .inl (cA 1, n, .inl lf)), (r0, .inr (0, [.ref r1, .int 0, .int hh, .int hz])), (r1, .inl (cA 1, nt, .inl ft))] sz)) 102 612 (va_A [(z0, .inr (9, [.ref a0, .ref b0, .ref h0, .ref s0, .ref l0, .ref e0, .ref k0, .int u7, .int u8, .int u9])), (l0, .inr (1, [.ref l1, .int 0, .int ml, .int c0])), (l1, .inl (cA 1, n, .inl lf)), (r0, .inr (0, [.ref r1, .int 0, .int hh, .int hz])), (r1, .inl (cA 1, nt, .inl ft))] sz) := by
  refine gqT_ofW (cc := cL_spells) (maxL := 5) (ret := (some .boolean)) (by decide) rfl (Nat.le_of_ble_eq_true rfl) (fun p e s m args below meth c ls Q A hx hb hml hts hfc hK hP hD hS hA hEV hL9 hTX hAX hN hl hend => ?_)
  have hfc : s.vm.findClass RL = some m.cls := hfc
  have hl : lv_has ls 5 [(0, .ref z0), (1, .int x1), (2, .ref r0)] := hl
  have h := hr
  clear hr
  unfold SL_spells at h
  refine lv_iload_n hx hb dL_spells_0 rfl (lv_at hl 1 rfl) ?_
  refine lv_aload_n hx hb dL_spells_1 rfl (lv_at hl 2 rfl) ?_
  refine rqE_V (G := G) (v := (some (.int (SJ0_length_8abf5_w nt)))) (As := []) (rest := [.int x1]) (wc := [(r0, .inr (0, [.ref r1, .int 0, .int hh, .int hz])), (r1, .inl (cA 1, nt, .inl ft))]) ⟨hx, hb, hml, hfc, hts⟩ hK hP hS hEV (kJ0_length_8abf5_w l D cA G r0 r1 hh hz nt ft rfl) (cwV 0 hts gL_spells_J0_length_8abf5 rfl rfl rfl (by decide +kernel) ⟨(Nat.le_of_ble_eq_true rfl), (Nat.le_of_ble_eq_true rfl)⟩) [3, 4] rfl 3 0 rfl rfl rfl rfl rfl rfl hl.1 (Nat.le_of_ble_eq_true rfl) dL_spells_2 ⟨(Nat.zero_le _), (Nat.zero_le _)⟩ ?_
  obtain ⟨o3, ho3, h⟩ := lt_i h
  have ko3 : ∀ (ls : Array Slot) (H : Heap) (locs : List Loc), lv_has ls 5 [(0, .ref z0), (1, .int x1), (2, .ref r0)] → va_P D vwCl [(z0, .inr (9, [.ref a0, .ref b0, .ref h0, .ref s0, .ref l0, .ref e0, .ref k0, .int u7, .int u8, .int u9])), (l0, .inr (1, [.ref l1, .int 0, .int ml, .int c0])), (l1, .inl (cA 1, n, .inl lf)), (r0, .inr (0, [.ref r1, .int 0, .int hh, .int hz])), (r1, .inl (cA 1, nt, .inl ft))] H → va_D A [(z0, .inr (9, [.ref a0, .ref b0, .ref h0, .ref s0, .ref l0, .ref e0, .ref k0, .int u7, .int u8, .int u9])), (l0, .inr (1, [.ref l1, .int 0, .int ml, .int c0])), (l1, .inl (cA 1, n, .inl lf)), (r0, .inr (0, [.ref r1, .int 0, .int hh, .int hz])), (r1, .inl (cA 1, nt, .inl ft))] → va_S A s.heap H locs → W p l e RM_L_spells s m args below meth c H locs 0 0 Q (F0 m 13 ls [.int o3]) := by
    intro ls H locs hl hP hD hS
    refine lv_istore_n hx hb dL_spells_13 rfl hl (Nat.le_of_ble_eq_true rfl) rfl (fun ls hl => ?_)
    have hl : lv_has ls 5 [(3, .int o3), (0, .ref z0), (1, .int x1), (2, .ref r0)] := hl
    refine lv_iconst (v := 0) hx hb dL_spells_14 (by decide) ?_
    refine lv_istore hx hb dL_spells_15 hl (Nat.le_of_ble_eq_true rfl) rfl (fun ls hl => ?_)
    have hl : lv_has ls 5 [(4, .int 0), (3, .int o3), (0, .ref z0), (1, .int x1), (2, .ref r0)] := hl
    have hLL_spells_17 : ∀ (K : Int32 → Option (Unit)), (∀ (o4 : Int32) (ls : Array Slot) (H : Heap) (locs : List Loc), lv_has ls 5 [(0, .ref z0), (1, .int x1), (3, .int o4)] → va_P D vwCl [(z0, .inr (9, [.ref a0, .ref b0, .ref h0, .ref s0, .ref l0, .ref e0, .ref k0, .int u7, .int u8, .int u9])), (l0, .inr (1, [.ref l1, .int 0, .int ml, .int c0])), (l1, .inl (cA 1, n, .inl lf)), (r0, .inr (0, [.ref r1, .int 0, .int hh, .int hz])), (r1, .inl (cA 1, nt, .inl ft))] H → va_D A [(z0, .inr (9, [.ref a0, .ref b0, .ref h0, .ref s0, .ref l0, .ref e0, .ref k0, .int u7, .int u8, .int u9])), (l0, .inr (1, [.ref l1, .int 0, .int ml, .int c0])), (l1, .inl (cA 1, n, .inl lf)), (r0, .inr (0, [.ref r1, .int 0, .int hh, .int hz])), (r1, .inl (cA 1, nt, .inl ft))] → va_S A s.heap H locs → K o4 = some r → W p l e RM_L_spells s m args below meth c H locs 101 606 Q (F0 m 57 ls [])) → ∀ (fu : Nat) (x3_17 : Int32) (x4_17 : Int32) (ce1 se1 : Nat), ce1 + 1 * fu ≤ 101 → se1 + 6 * fu ≤ 606 → ∀ (ls : Array Slot) (H : Heap) (locs : List Loc), lv_has ls 5 [(0, .ref z0), (1, .int x1), (2, .ref r0), (3, .int x3_17), (4, .int x4_17)] → va_P D vwCl [(z0, .inr (9, [.ref a0, .ref b0, .ref h0, .ref s0, .ref l0, .ref e0, .ref k0, .int u7, .int u8, .int u9])), (l0, .inr (1, [.ref l1, .int 0, .int ml, .int c0])), (l1, .inl (cA 1, n, .inl lf)), (r0, .inr (0, [.ref r1, .int 0, .int hh, .int hz])), (r1, .inl (cA 1, nt, .inl ft))] H → va_D A [(z0, .inr (9, [.ref a0, .ref b0, .ref h0, .ref s0, .ref l0, .ref e0, .ref k0, .int u7, .int u8, .int u9])), (l0, .inr (1, [.ref l1, .int 0, .int ml, .int c0])), (l1, .inl (cA 1, n, .inl lf)), (r0, .inr (0, [.ref r1, .int 0, .int hh, .int hz])), (r1, .inl (cA 1, nt, .inl ft))] → va_S A s.heap H locs → LL_spells_17 K nt n lf c0 ft fu x3_17 x4_17 = some r → W p l e RM_L_spells s m args below meth c H locs ce1 se1 Q (F0 m 17 ls []) := by
      intro K hKk fu
      induction fu with
      | zero =>
        intro x3_17 x4_17 ce1 se1 hce1 hse1 ls H locs hl hP hD hS h
        rw [LL_spells_17] at h
        exact nn h
      | succ fu ih =>
        intro x3_17 x4_17 ce1 se1 hce1 hse1 ls H locs hl hP hD hS h
        rw [LL_spells_17] at h
        refine lv_iload hx hb dL_spells_17 (lv_at hl 4 rfl) ?_
        refine lv_aload_n hx hb dL_spells_19 rfl (lv_at hl 2 rfl) ?_
        refine rqE_V (G := G) (v := (some (.int (SJ0_length_8abf5_w nt)))) (As := []) (rest := [.int x4_17]) (wc := [(r0, .inr (0, [.ref r1, .int 0, .int hh, .int hz])), (r1, .inl (cA 1, nt, .inl ft))]) ⟨hx, hb, hml, hfc, hts⟩ hK hP hS hEV (kJ0_length_8abf5_w l D cA G r0 r1 hh hz nt ft rfl) (cwV 0 hts gL_spells_J0_length_8abf5 rfl rfl rfl (by decide +kernel) ⟨(Nat.le_of_ble_eq_true rfl), (Nat.le_of_ble_eq_true rfl)⟩) [3, 4] rfl 3 0 rfl rfl rfl rfl rfl rfl hl.1 (Nat.le_of_ble_eq_true rfl) dL_spells_20 ⟨(room_w (k := 0) hce1 (Nat.le_of_ble_eq_true rfl) (Nat.le_of_ble_eq_true rfl)), (room_w (k := 0) hse1 (Nat.le_of_ble_eq_true rfl) (Nat.le_of_ble_eq_true rfl))⟩ ?_
        refine lv_icmp_ge (tgt := 57) hx hb dL_spells_23 (by decide) (fun c6 => ?_) (fun c6 => ?_)
        · have h := ite_t c6 h
          refine W.widen (k := 101) (n := 606) (room_le (k := 0) hce1 (Nat.le_of_ble_eq_true rfl)) (room_le (k := 0) hse1 (Nat.le_of_ble_eq_true rfl)) ?_
          exact hKk x3_17 _ _ _ (lv_sub hl [0, 1, 3] rfl) hP hD hS h
        · have h := ite_f c6 h
          refine lv_iload_n hx hb dL_spells_26 rfl (lv_at hl 3 rfl) ?_
          refine lv_if_eq (tgt := 57) hx hb dL_spells_27 (by decide) (fun c7 => ?_) (fun c7 => ?_)
          · have h := ite_t c7 h
            refine W.widen (k := 101) (n := 606) (room_le (k := 0) hce1 (Nat.le_of_ble_eq_true rfl)) (room_le (k := 0) hse1 (Nat.le_of_ble_eq_true rfl)) ?_
            exact hKk x3_17 _ _ _ (lv_sub hl [0, 1, 3] rfl) hP hD hS h
          · have h := ite_f c7 h
            refine lv_aload_n hx hb dL_spells_30 rfl (lv_at hl 0 rfl) ?_
            refine lv_iload hx hb dL_spells_31 (lv_at hl 4 rfl) ?_
            obtain ⟨o8, ho8, h⟩ := bnd_i h
            refine gqL_S (G := G) (v := (fun as => (some (.int o8)))) (As := [.ref z0, .int x4_17]) (rest := []) (wc := [(z0, .inr (9, [.ref a0, .ref b0, .ref h0, .ref s0, .ref l0, .ref e0, .ref k0, .int u7, .int u8, .int u9])), (l0, .inr (1, [.ref l1, .int 0, .int ml, .int c0])), (l1, .inl (cA 1, n, .inl lf))]) (wr := [(r0, .inr (0, [.ref r1, .int 0, .int hh, .int hz])), (r1, .inl (cA 1, nt, .inl ft))]) (w1 := (fun as => [(z0, .inr (9, [.ref a0, .ref b0, .ref h0, .ref s0, .ref l0, .ref e0, .ref k0, .int u7, .int u8, .int u9])), (l0, .inr (1, [.ref l1, .int 0, .int ml, .int c0])), (l1, .inl (cA 1, n, .inl lf))])) (ws2 := (fun as => [(z0, .inr (9, [.ref a0, .ref b0, .ref h0, .ref s0, .ref l0, .ref e0, .ref k0, .int u7, .int u8, .int u9])), (l0, .inr (1, [.ref l1, .int 0, .int ml, .int c0])), (l1, .inl (cA 1, n, .inl lf)), (r0, .inr (0, [.ref r1, .int 0, .int hh, .int hz])), (r1, .inl (cA 1, nt, .inl ft))])) (st1 := (fun as => [.int o8])) ⟨hx, hb, hml, hfc, hts⟩ hK hP hD hS hA hEV hL9 (kL_lineAt l hst D cA G z0 a0 b0 h0 s0 l0 e0 k0 l1 u7 u8 u9 n lf ml c0 x4_17 ho8) (vx_cwSW 2 hts gL_spells_L_lineAt rfl rfl rfl (by decide +kernel) ⟨(Nat.le_of_ble_eq_true rfl), (Nat.le_of_ble_eq_true rfl)⟩) [0, 1, 2] [3, 4] [2, 3, 4, 0, 1] rfl rfl rfl rfl (by decide) (fun _ => rfl) rfl rfl (fun _ => rfl) rfl hl.1 (Nat.le_of_ble_eq_true rfl) dL_spells_33 ⟨(room_w (k := 1) hce1 (Nat.le_of_ble_eq_true rfl) (Nat.le_of_ble_eq_true rfl)), (room_w (k := 6) hse1 (Nat.le_of_ble_eq_true rfl) (Nat.le_of_ble_eq_true rfl))⟩ (fun as9 H locs hP hD hS => ?_)
            have hP : va_P D vwCl [(z0, .inr (9, [.ref a0, .ref b0, .ref h0, .ref s0, .ref l0, .ref e0, .ref k0, .int u7, .int u8, .int u9])), (l0, .inr (1, [.ref l1, .int 0, .int ml, .int c0])), (l1, .inl (cA 1, n, .inl lf)), (r0, .inr (0, [.ref r1, .int 0, .int hh, .int hz])), (r1, .inl (cA 1, nt, .inl ft))] H := hP
            have hD : va_D A [(z0, .inr (9, [.ref a0, .ref b0, .ref h0, .ref s0, .ref l0, .ref e0, .ref k0, .int u7, .int u8, .int u9])), (l0, .inr (1, [.ref l1, .int 0, .int ml, .int c0])), (l1, .inl (cA 1, n, .inl lf)), (r0, .inr (0, [.ref r1, .int 0, .int hh, .int hz])), (r1, .inl (cA 1, nt, .inl ft))] := hD
            refine W.cs (cells' := ce1 + 1) (slots' := se1 + 6) rfl rfl ?_
            refine lv_aload_n hx hb dL_spells_36 rfl (lv_at hl 2 rfl) ?_
            refine lv_iload hx hb dL_spells_37 (lv_at hl 4 rfl) ?_
            obtain ⟨o10, ho10, h⟩ := bnd_i h
            refine rqE_V (G := G) (v := (some (.int o10))) (As := [.int x4_17]) (rest := [.int o8]) (wc := [(r0, .inr (0, [.ref r1, .int 0, .int hh, .int hz])), (r1, .inl (cA 1, nt, .inl ft))]) ⟨hx, hb, hml, hfc, hts⟩ hK hP hS hEV (kJ0_charAt_5068e_w l D cA G r0 r1 hh hz nt ft x4_17 ho10) (cwV 1 hts gL_spells_J0_charAt_5068e rfl rfl rfl (by decide +kernel) ⟨(Nat.le_of_ble_eq_true rfl), (Nat.le_of_ble_eq_true rfl)⟩) [3, 4] rfl 3 0 rfl rfl rfl rfl rfl rfl hl.1 (Nat.le_of_ble_eq_true rfl) dL_spells_39 ⟨(room_w (k := 1) hce1 (Nat.le_of_ble_eq_true rfl) (Nat.le_of_ble_eq_true rfl)), (room_w (k := 6) hse1 (Nat.le_of_ble_eq_true rfl) (Nat.le_of_ble_eq_true rfl))⟩ ?_
            obtain ⟨o13, ho13, h⟩ := lt_i h
            have ko13 : ∀ (ls : Array Slot) (H : Heap) (locs : List Loc), lv_has ls 5 [(0, .ref z0), (1, .int x1), (2, .ref r0), (4, .int x4_17)] → va_P D vwCl [(z0, .inr (9, [.ref a0, .ref b0, .ref h0, .ref s0, .ref l0, .ref e0, .ref k0, .int u7, .int u8, .int u9])), (l0, .inr (1, [.ref l1, .int 0, .int ml, .int c0])), (l1, .inl (cA 1, n, .inl lf)), (r0, .inr (0, [.ref r1, .int 0, .int hh, .int hz])), (r1, .inl (cA 1, nt, .inl ft))] H → va_D A [(z0, .inr (9, [.ref a0, .ref b0, .ref h0, .ref s0, .ref l0, .ref e0, .ref k0, .int u7, .int u8, .int u9])), (l0, .inr (1, [.ref l1, .int 0, .int ml, .int c0])), (l1, .inl (cA 1, n, .inl lf)), (r0, .inr (0, [.ref r1, .int 0, .int hh, .int hz])), (r1, .inl (cA 1, nt, .inl ft))] → va_S A s.heap H locs → W p l e RM_L_spells s m args below meth c H locs (ce1 + 1) (se1 + 6) Q (F0 m 50 ls [.int o13]) := by
              intro ls H locs hl hP hD hS
              refine lv_istore_n hx hb dL_spells_50 rfl hl (Nat.le_of_ble_eq_true rfl) rfl (fun ls hl => ?_)
              have hl : lv_has ls 5 [(3, .int o13), (0, .ref z0), (1, .int x1), (2, .ref r0), (4, .int x4_17)] := hl
              refine lv_iinc (k := 4) (v := x4_17 + 1) hx hb dL_spells_51 hl rfl (congrArg (fun z => x4_17 + z) lit1) (Nat.le_of_ble_eq_true rfl) rfl (fun ls hl => ?_)
              have hl : lv_has ls 5 [(4, .int (x4_17 + 1)), (3, .int o13), (0, .ref z0), (1, .int x1), (2, .ref r0)] := hl
              refine lv_goto (tgt := 17) hx hb dL_spells_54 (by decide) ?_
              exact ih o13 (x4_17 + 1) _ _ (room_bk (k := 1) hce1 (Nat.le_of_ble_eq_true rfl)) (room_bk (k := 6) hse1 (Nat.le_of_ble_eq_true rfl)) _ _ _ (lv_sub hl [2, 3, 4, 1, 0] rfl) hP hD hS h
            clear h
            have h := ho13
            clear ho13
            refine lv_icmp_ne (tgt := 49) hx hb dL_spells_42 (by decide) (fun c12 => ?_) (fun c12 => ?_)
            · have h := ite_f c12 h
              refine lv_iconst (v := 0) hx hb dL_spells_49 (by decide) ?_
              subst h
              exact ko13 _ _ _ (lv_sub hl [0, 1, 2, 4] rfl) hP hD hS
            · have h := ite_t c12 h
              refine lv_iconst (v := 1) hx hb dL_spells_45 (by decide) ?_
              refine lv_goto (tgt := 50) hx hb dL_spells_46 (by decide) ?_
              subst h
              exact ko13 _ _ _ (lv_sub hl [0, 1, 2, 4] rfl) hP hD hS
    refine hLL_spells_17 _ ?_ 101 o3 0 0 0 (Nat.le_of_ble_eq_true rfl) (Nat.le_of_ble_eq_true rfl) _ _ _ (lv_sub hl [2, 3, 4, 1, 0] rfl) hP hD hS h
    intro o4 ls H locs hl hP hD hS h
    refine lv_iload_n hx hb dL_spells_57 rfl (lv_at hl 2 rfl) ?_
    refine lv_if_eq (tgt := 75) hx hb dL_spells_58 (by decide) (fun c14 => ?_) (fun c14 => ?_)
    · have h := ite_t c14 h
      refine lv_iconst (v := 0) hx hb dL_spells_75 (by decide) ?_
      exact nn h
    · have h := ite_f c14 h
      refine lv_aload_n hx hb dL_spells_61 rfl (lv_at hl 0 rfl) ?_
      refine lv_iload_n hx hb dL_spells_62 rfl (lv_at hl 1 rfl) ?_
      obtain ⟨o15, ho15, h⟩ := bnd_i h
      refine gqL_S (G := G) (v := (fun as => (some (.int o15)))) (As := [.ref z0, .int x1]) (rest := []) (wc := [(z0, .inr (9, [.ref a0, .ref b0, .ref h0, .ref s0, .ref l0, .ref e0, .ref k0, .int u7, .int u8, .int u9])), (l0, .inr (1, [.ref l1, .int 0, .int ml, .int c0])), (l1, .inl (cA 1, n, .inl lf))]) (wr := [(r0, .inr (0, [.ref r1, .int 0, .int hh, .int hz])), (r1, .inl (cA 1, nt, .inl ft))]) (w1 := (fun as => [(z0, .inr (9, [.ref a0, .ref b0, .ref h0, .ref s0, .ref l0, .ref e0, .ref k0, .int u7, .int u8, .int u9])), (l0, .inr (1, [.ref l1, .int 0, .int ml, .int c0])), (l1, .inl (cA 1, n, .inl lf))])) (ws2 := (fun as => [(z0, .inr (9, [.ref a0, .ref b0, .ref h0, .ref s0, .ref l0, .ref e0, .ref k0, .int u7, .int u8, .int u9])), (l0, .inr (1, [.ref l1, .int 0, .int ml, .int c0])), (l1, .inl (cA 1, n, .inl lf)), (r0, .inr (0, [.ref r1, .int 0, .int hh, .int hz])), (r1, .inl (cA 1, nt, .inl ft))])) (st1 := (fun as => [.int o15])) ⟨hx, hb, hml, hfc, hts⟩ hK hP hD hS hA hEV hL9 (kL_lineAt l hst D cA G z0 a0 b0 h0 s0 l0 e0 k0 l1 u7 u8 u9 n lf ml c0 x1 ho15) (vx_cwSW 2 hts gL_spells_L_lineAt rfl rfl rfl (by decide +kernel) ⟨(Nat.le_of_ble_eq_true rfl), (Nat.le_of_ble_eq_true rfl)⟩) [0, 1, 2] [3, 4] [2, 3, 4, 0, 1] rfl rfl rfl rfl (by decide) (fun _ => rfl) rfl rfl (fun _ => rfl) rfl hl.1 (Nat.le_of_ble_eq_true rfl) dL_spells_63 ⟨(Nat.le_of_ble_eq_true rfl), (Nat.le_of_ble_eq_true rfl)⟩ (fun as16 H locs hP hD hS => ?_)
      have hP : va_P D vwCl [(z0, .inr (9, [.ref a0, .ref b0, .ref h0, .ref s0, .ref l0, .ref e0, .ref k0, .int u7, .int u8, .int u9])), (l0, .inr (1, [.ref l1, .int 0, .int ml, .int c0])), (l1, .inl (cA 1, n, .inl lf)), (r0, .inr (0, [.ref r1, .int 0, .int hh, .int hz])), (r1, .inl (cA 1, nt, .inl ft))] H := hP
      have hD : va_D A [(z0, .inr (9, [.ref a0, .ref b0, .ref h0, .ref s0, .ref l0, .ref e0, .ref k0, .int u7, .int u8, .int u9])), (l0, .inr (1, [.ref l1, .int 0, .int ml, .int c0])), (l1, .inl (cA 1, n, .inl lf)), (r0, .inr (0, [.ref r1, .int 0, .int hh, .int hz])), (r1, .inl (cA 1, nt, .inl ft))] := hD
      refine W.cs (cells' := 102) (slots' := 612) rfl rfl ?_
      refine lv_bipush (v := (-11)) hx hb dL_spells_66 (by decide) ?_
      refine lv_icmp_ne (tgt := 75) hx hb dL_spells_68 (by decide) (fun c17 => ?_) (fun c17 => ?_)
      · have h := ite_f c17 h
        refine lv_iconst (v := 0) hx hb dL_spells_75 (by decide) ?_
        exact nn h
      · have h := ite_t c17 h
        refine lv_iconst (v := 1) hx hb dL_spells_71 (by decide) ?_
        refine lv_goto (tgt := 76) hx hb dL_spells_72 (by decide) ?_
        have h := Option.some.inj h
        subst h
        refine W.widen (k := 102) (n := 612) (Nat.le_of_ble_eq_true rfl) (Nat.le_of_ble_eq_true rfl) ?_
        exact hend (adr []) _ _ _ _ _ _ _ rfl rfl (rtn_n (x := 1) rfl) hP hD hS dL_spells_76
  clear h
  have h := ho3
  clear ho3
  refine lv_icmp_ne (tgt := 12) hx hb dL_spells_5 (by decide) (fun c2 => ?_) (fun c2 => ?_)
  · have h := ite_f c2 h
    refine lv_iconst (v := 0) hx hb dL_spells_12 (by decide) ?_
    subst h
    exact ko3 _ _ _ (lv_sub hl [0, 1, 2] rfl) hP hD hS
  · have h := ite_t c2 h
    refine lv_iconst (v := 1) hx hb dL_spells_8 (by decide) ?_
    refine lv_goto (tgt := 13) hx hb dL_spells_9 (by decide) ?_
    subst h
    exact ko3 _ _ _ (lv_sub hl [0, 1, 2] rfl) hP hD hS

noncomputable def LL_execute_2 (K : (Int32 × (Nat → Int32) × Nat) → Option (Int32 × Int32 × Int32 × (Nat → Int32) × Int32 × Int32 × (Nat → Int32) × Int32 × Int32 × Int32 × Int32 × Int32 × (Nat → Int32) × Nat × (Nat → Int32) × (Nat → Int32))) (nt : Nat) (ft : Nat → Int32) : Nat → Int32 → Int32 → (Nat → Int32) → Nat → Option (Int32 × Int32 × Int32 × (Nat → Int32) × Int32 × Int32 × (Nat → Int32) × Int32 × Int32 × Int32 × Int32 × Int32 × (Nat → Int32) × Nat × (Nat → Int32) × (Nat → Int32))
  | 0, _, _, _, _ => none
  | fu + 1, x2_2, v8_3_2, f9_2, n9_2 => if (SJ0_length_8abf5_w nt) ≤ x2_2 then (K (v8_3_2, f9_2, n9_2)) else (bnd (SJ0_charAt_5068e_w nt ft x2_2) (fun o4 : Int32 => bnd (SL_type n9_2 f9_2 v8_3_2 o4) (fun o6 : Int32 × Int32 × (Nat → Int32) × Nat => if o6.1 = (x2_2 + 1) then (LL_execute_2 K nt ft fu (x2_2 + 1) o6.2.1 o6.2.2.1 o6.2.2.2) else (none))))
noncomputable def SL_execute (N : Nat) (u8 : Int32) (u9 : Int32) (f : Nat → Int32) (v1 : Int32) (v2 : Int32) (g : Nat → Int32) (w3 : Int32) (n : Nat) (tf : Nat → Int32) (ml : Int32) (c0 : Int32) (cm : Nat → Int32) (bf : Nat → Int32) (nt : Nat) (ft : Nat → Int32) : Option (Int32 × Int32 × Int32 × (Nat → Int32) × Int32 × Int32 × (Nat → Int32) × Int32 × Int32 × Int32 × Int32 × Int32 × (Nat → Int32) × Nat × (Nat → Int32) × (Nat → Int32)) := LL_execute_2 (fun o1 : Int32 × (Nat → Int32) × Nat => bnd (SL_executes N u8 u9 f v1 v2 g w3 o1.2.2 o1.2.1 ml o1.1 cm bf) (fun o9 : Int32 × Int32 × Int32 × (Nat → Int32) × Int32 × Int32 × (Nat → Int32) × Int32 × Int32 × Int32 × Int32 × Int32 × (Nat → Int32) × Nat × (Nat → Int32) × (Nat → Int32) => some ((o9.1, o9.2.1, o9.2.2.1, o9.2.2.2.1, o9.2.2.2.2.1, o9.2.2.2.2.2.1, o9.2.2.2.2.2.2.1, o9.2.2.2.2.2.2.2.1, o9.2.2.2.2.2.2.2.2.1, o9.2.2.2.2.2.2.2.2.2.1, o9.2.2.2.2.2.2.2.2.2.2.1, o9.2.2.2.2.2.2.2.2.2.2.2.1, o9.2.2.2.2.2.2.2.2.2.2.2.2.1, o9.2.2.2.2.2.2.2.2.2.2.2.2.2.1, o9.2.2.2.2.2.2.2.2.2.2.2.2.2.2.1, o9.2.2.2.2.2.2.2.2.2.2.2.2.2.2.2)))) nt ft 62 0 c0 tf n
abbrev RM_L_execute : Room := { frames := 11, cells := 64, slots := 10590, locals := 244 }
set_option maxRecDepth 20000 in
set_option maxHeartbeats 4000000 in
theorem kL_execute (l : Launch) (hst : l.stackTraces = false) (D : va_G) (cA : Nat → ClassId) (G : eG) (z0 a0 b0 h0 s0 l0 e0 k0 a1 a2 h1 h2 t0 m0 t1 m1 e1 r0 r1 : Nat) (N : Nat) (u7 : Int32) (u8 : Int32) (u9 : Int32) (f : Nat → Int32) (v1 : Int32) (v2 : Int32) (g : Nat → Int32) (w1 : Int32) (w2 : Int32) (w3 : Int32) (n : Nat) (tf : Nat → Int32) (ml : Int32) (c0 : Int32) (cm : Nat → Int32) (bf : Nat → Int32) (hh : Int32) (hz : Int32) (nt : Nat) (ft : Nat → Int32) {r : Int32 × Int32 × Int32 × (Nat → Int32) × Int32 × Int32 × (Nat → Int32) × Int32 × Int32 × Int32 × Int32 × Int32 × (Nat → Int32) × Nat × (Nat → Int32) × (Nat → Int32)} (hr : SL_execute N u8 u9 f v1 v2 g w3 n tf ml c0 cm bf nt ft = some r) {sz : Nat} : Met l yL_execute wsL_execute RM_L_execute (va_Pc [.ref z0, .ref r0] (gqTB G noT D cA [(z0, .inr (9, [.ref a0, .ref b0, .ref h0, .ref s0, .ref l0, .ref e0, .ref k0, .int u7, .int u8, .int u9])), (a0, .inr (8, [.ref a1])), (a1, .inr (6, [.ref a2])), (a2, .inl (cA 0, 61, .inl f)), (h0, .inr (5, [.ref h1, .int v1, .int v2])), (h1, .inr (6, [.ref h2])), (h2, .inl (cA 0, 488, .inl g)), (s0, .inr (7, [.ref t0, .ref m0, .int w1, .int w2, .int w3])), (t0, .inr (1, [.ref t1, .int 0, .int ml, .int c0])), (t1, .inl (cA 1, n, .inl tf)), (m0, .inr (6, [.ref m1])), (m1, .inl (cA 0, 60, .inl cm)), (e0, .inr (6, [.ref e1])), (e1, .inl (cA 0, 61, .inl bf)), (r0, .inr (0, [.ref r1, .int 0, .int hh, .int hz])), (r1, .inl (cA 1, nt, .inl ft))] sz)) (gqQ D (fun as => (some (.int r.1))) (fun as => [(z0, .inr (9, [.ref a0, .ref b0, .ref h0, .ref s0, .ref l0, .ref e0, .ref k0, .int u7, .int r.2.1, .int r.2.2.1])), (a0, .inr (8, [.ref a1])), (a1, .inr (6, [.ref a2])), (a2, .inl (cA 0, 61, .inl r.2.2.2.1)), (h0, .inr (5, [.ref h1, .int r.2.2.2.2.1, .int r.2.2.2.2.2.1])), (h1, .inr (6, [.ref h2])), (h2, .inl (cA 0, 488, .inl r.2.2.2.2.2.2.1)), (s0, .inr (7, [.ref t0, .ref m0, .int r.2.2.2.2.2.2.2.1, .int r.2.2.2.2.2.2.2.2.1, .int r.2.2.2.2.2.2.2.2.2.1])), (t0, .inr (1, [.ref (as 0), .int 0, .int r.2.2.2.2.2.2.2.2.2.2.1, .int r.2.2.2.2.2.2.2.2.2.2.2.1])), ((as 0), .inl (cA 1, r.2.2.2.2.2.2.2.2.2.2.2.2.2.1, .inl r.2.2.2.2.2.2.2.2.2.2.2.2.1)), (m0, .inr (6, [.ref m1])), (m1, .inl (cA 0, 60, .inl r.2.2.2.2.2.2.2.2.2.2.2.2.2.2.1)), (e0, .inr (6, [.ref e1])), (e1, .inl (cA 0, 61, .inl r.2.2.2.2.2.2.2.2.2.2.2.2.2.2.2)), (r0, .inr (0, [.ref r1, .int 0, .int hh, .int hz])), (r1, .inl (cA 1, nt, .inl ft))]) (va_A [(z0, .inr (9, [.ref a0, .ref b0, .ref h0, .ref s0, .ref l0, .ref e0, .ref k0, .int u7, .int u8, .int u9])), (a0, .inr (8, [.ref a1])), (a1, .inr (6, [.ref a2])), (a2, .inl (cA 0, 61, .inl f)), (h0, .inr (5, [.ref h1, .int v1, .int v2])), (h1, .inr (6, [.ref h2])), (h2, .inl (cA 0, 488, .inl g)), (s0, .inr (7, [.ref t0, .ref m0, .int w1, .int w2, .int w3])), (t0, .inr (1, [.ref t1, .int 0, .int ml, .int c0])), (t1, .inl (cA 1, n, .inl tf)), (m0, .inr (6, [.ref m1])), (m1, .inl (cA 0, 60, .inl cm)), (e0, .inr (6, [.ref e1])), (e1, .inl (cA 0, 61, .inl bf)), (r0, .inr (0, [.ref r1, .int 0, .int hh, .int hz])), (r1, .inl (cA 1, nt, .inl ft))] sz)) 64 10590 (va_A [(z0, .inr (9, [.ref a0, .ref b0, .ref h0, .ref s0, .ref l0, .ref e0, .ref k0, .int u7, .int u8, .int u9])), (a0, .inr (8, [.ref a1])), (a1, .inr (6, [.ref a2])), (a2, .inl (cA 0, 61, .inl f)), (h0, .inr (5, [.ref h1, .int v1, .int v2])), (h1, .inr (6, [.ref h2])), (h2, .inl (cA 0, 488, .inl g)), (s0, .inr (7, [.ref t0, .ref m0, .int w1, .int w2, .int w3])), (t0, .inr (1, [.ref t1, .int 0, .int ml, .int c0])), (t1, .inl (cA 1, n, .inl tf)), (m0, .inr (6, [.ref m1])), (m1, .inl (cA 0, 60, .inl cm)), (e0, .inr (6, [.ref e1])), (e1, .inl (cA 0, 61, .inl bf)), (r0, .inr (0, [.ref r1, .int 0, .int hh, .int hz])), (r1, .inl (cA 1, nt, .inl ft))] sz) := by
  refine gqT_ofW (cc := cL_execute) (maxL := 3) (ret := (some .int)) (by decide) rfl (Nat.le_of_ble_eq_true rfl) (fun p e s m args below meth c ls Q A hx hb hml hts hfc hK hP hD hS hA hEV hL9 hTX hAX hN hl hend => ?_)
  have hfc : s.vm.findClass RL = some m.cls := hfc
  have hl : lv_has ls 3 [(0, .ref z0), (1, .ref r0)] := hl
  have h := hr
  clear hr
  unfold SL_execute at h
  refine lv_iconst (v := 0) hx hb dL_execute_0 (by decide) ?_
  refine lv_istore_n hx hb dL_execute_1 rfl hl (Nat.le_of_ble_eq_true rfl) rfl (fun ls hl => ?_)
  have hl : lv_has ls 3 [(2, .int 0), (0, .ref z0), (1, .ref r0)] := hl
  have hLL_execute_2 : ∀ (K : (Int32 × (Nat → Int32) × Nat) → Option (Int32 × Int32 × Int32 × (Nat → Int32) × Int32 × Int32 × (Nat → Int32) × Int32 × Int32 × Int32 × Int32 × Int32 × (Nat → Int32) × Nat × (Nat → Int32) × (Nat → Int32))), (∀ (o1 : Int32 × (Nat → Int32) × Nat) (ao1_0 : Nat) (ls : Array Slot) (H : Heap) (locs : List Loc), lv_has ls 3 [(0, .ref z0)] → va_P D vwCl [(z0, .inr (9, [.ref a0, .ref b0, .ref h0, .ref s0, .ref l0, .ref e0, .ref k0, .int u7, .int u8, .int u9])), (a0, .inr (8, [.ref a1])), (a1, .inr (6, [.ref a2])), (a2, .inl (cA 0, 61, .inl f)), (h0, .inr (5, [.ref h1, .int v1, .int v2])), (h1, .inr (6, [.ref h2])), (h2, .inl (cA 0, 488, .inl g)), (s0, .inr (7, [.ref t0, .ref m0, .int w1, .int w2, .int w3])), (t0, .inr (1, [.ref ao1_0, .int 0, .int ml, .int o1.1])), (ao1_0, .inl (cA 1, o1.2.2, .inl o1.2.1)), (m0, .inr (6, [.ref m1])), (m1, .inl (cA 0, 60, .inl cm)), (e0, .inr (6, [.ref e1])), (e1, .inl (cA 0, 61, .inl bf)), (r0, .inr (0, [.ref r1, .int 0, .int hh, .int hz])), (r1, .inl (cA 1, nt, .inl ft))] H → va_D A [(z0, .inr (9, [.ref a0, .ref b0, .ref h0, .ref s0, .ref l0, .ref e0, .ref k0, .int u7, .int u8, .int u9])), (a0, .inr (8, [.ref a1])), (a1, .inr (6, [.ref a2])), (a2, .inl (cA 0, 61, .inl f)), (h0, .inr (5, [.ref h1, .int v1, .int v2])), (h1, .inr (6, [.ref h2])), (h2, .inl (cA 0, 488, .inl g)), (s0, .inr (7, [.ref t0, .ref m0, .int w1, .int w2, .int w3])), (t0, .inr (1, [.ref ao1_0, .int 0, .int ml, .int o1.1])), (ao1_0, .inl (cA 1, o1.2.2, .inl o1.2.1)), (m0, .inr (6, [.ref m1])), (m1, .inl (cA 0, 60, .inl cm)), (e0, .inr (6, [.ref e1])), (e1, .inl (cA 0, 61, .inl bf)), (r0, .inr (0, [.ref r1, .int 0, .int hh, .int hz])), (r1, .inl (cA 1, nt, .inl ft))] → va_S A s.heap H locs → K o1 = some r → W p l e RM_L_execute s m args below meth c H locs 62 10416 Q (F0 m 34 ls [])) → ∀ (fu : Nat) (x2_2 : Int32) (v8_3_2 : Int32) (f9_2 : Nat → Int32) (n9_2 : Nat) (a9_2 : Nat) (ce1 se1 : Nat), ce1 + 1 * fu ≤ 62 → se1 + 168 * fu ≤ 10416 → ∀ (ls : Array Slot) (H : Heap) (locs : List Loc), lv_has ls 3 [(0, .ref z0), (1, .ref r0), (2, .int x2_2)] → va_P D vwCl [(z0, .inr (9, [.ref a0, .ref b0, .ref h0, .ref s0, .ref l0, .ref e0, .ref k0, .int u7, .int u8, .int u9])), (a0, .inr (8, [.ref a1])), (a1, .inr (6, [.ref a2])), (a2, .inl (cA 0, 61, .inl f)), (h0, .inr (5, [.ref h1, .int v1, .int v2])), (h1, .inr (6, [.ref h2])), (h2, .inl (cA 0, 488, .inl g)), (s0, .inr (7, [.ref t0, .ref m0, .int w1, .int w2, .int w3])), (t0, .inr (1, [.ref a9_2, .int 0, .int ml, .int v8_3_2])), (a9_2, .inl (cA 1, n9_2, .inl f9_2)), (m0, .inr (6, [.ref m1])), (m1, .inl (cA 0, 60, .inl cm)), (e0, .inr (6, [.ref e1])), (e1, .inl (cA 0, 61, .inl bf)), (r0, .inr (0, [.ref r1, .int 0, .int hh, .int hz])), (r1, .inl (cA 1, nt, .inl ft))] H → va_D A [(z0, .inr (9, [.ref a0, .ref b0, .ref h0, .ref s0, .ref l0, .ref e0, .ref k0, .int u7, .int u8, .int u9])), (a0, .inr (8, [.ref a1])), (a1, .inr (6, [.ref a2])), (a2, .inl (cA 0, 61, .inl f)), (h0, .inr (5, [.ref h1, .int v1, .int v2])), (h1, .inr (6, [.ref h2])), (h2, .inl (cA 0, 488, .inl g)), (s0, .inr (7, [.ref t0, .ref m0, .int w1, .int w2, .int w3])), (t0, .inr (1, [.ref a9_2, .int 0, .int ml, .int v8_3_2])), (a9_2, .inl (cA 1, n9_2, .inl f9_2)), (m0, .inr (6, [.ref m1])), (m1, .inl (cA 0, 60, .inl cm)), (e0, .inr (6, [.ref e1])), (e1, .inl (cA 0, 61, .inl bf)), (r0, .inr (0, [.ref r1, .int 0, .int hh, .int hz])), (r1, .inl (cA 1, nt, .inl ft))] → va_S A s.heap H locs → LL_execute_2 K nt ft fu x2_2 v8_3_2 f9_2 n9_2 = some r → W p l e RM_L_execute s m args below meth c H locs ce1 se1 Q (F0 m 2 ls []) := by
    intro K hKk fu
    induction fu with
    | zero =>
      intro x2_2 v8_3_2 f9_2 n9_2 a9_2 ce1 se1 hce1 hse1 ls H locs hl hP hD hS h
      rw [LL_execute_2] at h
      exact nn h
    | succ fu ih =>
      intro x2_2 v8_3_2 f9_2 n9_2 a9_2 ce1 se1 hce1 hse1 ls H locs hl hP hD hS h
      rw [LL_execute_2] at h
      refine lv_iload_n hx hb dL_execute_2 rfl (lv_at hl 2 rfl) ?_
      refine lv_aload_n hx hb dL_execute_3 rfl (lv_at hl 1 rfl) ?_
      refine rqE_V (G := G) (v := (some (.int (SJ0_length_8abf5_w nt)))) (As := []) (rest := [.int x2_2]) (wc := [(r0, .inr (0, [.ref r1, .int 0, .int hh, .int hz])), (r1, .inl (cA 1, nt, .inl ft))]) ⟨hx, hb, hml, hfc, hts⟩ hK hP hS hEV (kJ0_length_8abf5_w l D cA G r0 r1 hh hz nt ft rfl) (cwV 0 hts gL_execute_J0_length_8abf5 rfl rfl rfl (by decide +kernel) ⟨(Nat.le_of_ble_eq_true rfl), (Nat.le_of_ble_eq_true rfl)⟩) [14, 15] rfl 14 0 rfl rfl rfl rfl rfl rfl hl.1 (Nat.le_of_ble_eq_true rfl) dL_execute_4 ⟨(room_w (k := 0) hce1 (Nat.le_of_ble_eq_true rfl) (Nat.le_of_ble_eq_true rfl)), (room_w (k := 0) hse1 (Nat.le_of_ble_eq_true rfl) (Nat.le_of_ble_eq_true rfl))⟩ ?_
      refine lv_icmp_ge (tgt := 34) hx hb dL_execute_7 (by decide) (fun c3 => ?_) (fun c3 => ?_)
      · have h := ite_t c3 h
        refine W.widen (k := 62) (n := 10416) (room_le (k := 0) hce1 (Nat.le_of_ble_eq_true rfl)) (room_le (k := 0) hse1 (Nat.le_of_ble_eq_true rfl)) ?_
        exact hKk (v8_3_2, f9_2, n9_2) a9_2 _ _ _ (lv_sub hl [0] rfl) hP hD hS h
      · have h := ite_f c3 h
        refine lv_aload_n hx hb dL_execute_10 rfl (lv_at hl 0 rfl) ?_
        refine lv_aload_n hx hb dL_execute_11 rfl (lv_at hl 1 rfl) ?_
        refine lv_iload_n hx hb dL_execute_12 rfl (lv_at hl 2 rfl) ?_
        obtain ⟨o4, ho4, h⟩ := bnd_i h
        refine rqE_V (G := G) (v := (some (.int o4))) (As := [.int x2_2]) (rest := [.ref z0]) (wc := [(r0, .inr (0, [.ref r1, .int 0, .int hh, .int hz])), (r1, .inl (cA 1, nt, .inl ft))]) ⟨hx, hb, hml, hfc, hts⟩ hK hP hS hEV (kJ0_charAt_5068e_w l D cA G r0 r1 hh hz nt ft x2_2 ho4) (cwV 1 hts gL_execute_J0_charAt_5068e rfl rfl rfl (by decide +kernel) ⟨(Nat.le_of_ble_eq_true rfl), (Nat.le_of_ble_eq_true rfl)⟩) [14, 15] rfl 14 0 rfl rfl rfl rfl rfl rfl hl.1 (Nat.le_of_ble_eq_true rfl) dL_execute_13 ⟨(room_w (k := 0) hce1 (Nat.le_of_ble_eq_true rfl) (Nat.le_of_ble_eq_true rfl)), (room_w (k := 0) hse1 (Nat.le_of_ble_eq_true rfl) (Nat.le_of_ble_eq_true rfl))⟩ ?_
        obtain ⟨o6, ho6, h⟩ := bnd_i h
        refine gqL_S (G := G) (v := (fun as => (some (.int o6.1)))) (As := [.ref z0, .int o4]) (rest := []) (wc := [(z0, .inr (9, [.ref a0, .ref b0, .ref h0, .ref s0, .ref l0, .ref e0, .ref k0, .int u7, .int u8, .int u9])), (s0, .inr (7, [.ref t0, .ref m0, .int w1, .int w2, .int w3])), (t0, .inr (1, [.ref a9_2, .int 0, .int ml, .int v8_3_2])), (a9_2, .inl (cA 1, n9_2, .inl f9_2)), (m0, .inr (6, [.ref m1])), (m1, .inl (cA 0, 60, .inl cm))]) (wr := [(a0, .inr (8, [.ref a1])), (a1, .inr (6, [.ref a2])), (a2, .inl (cA 0, 61, .inl f)), (h0, .inr (5, [.ref h1, .int v1, .int v2])), (h1, .inr (6, [.ref h2])), (h2, .inl (cA 0, 488, .inl g)), (e0, .inr (6, [.ref e1])), (e1, .inl (cA 0, 61, .inl bf)), (r0, .inr (0, [.ref r1, .int 0, .int hh, .int hz])), (r1, .inl (cA 1, nt, .inl ft))]) (w1 := (fun as => [(z0, .inr (9, [.ref a0, .ref b0, .ref h0, .ref s0, .ref l0, .ref e0, .ref k0, .int u7, .int u8, .int u9])), (s0, .inr (7, [.ref t0, .ref m0, .int w1, .int w2, .int w3])), (t0, .inr (1, [.ref (as 0), .int 0, .int ml, .int o6.2.1])), ((as 0), .inl (cA 1, o6.2.2.2, .inl o6.2.2.1)), (m0, .inr (6, [.ref m1])), (m1, .inl (cA 0, 60, .inl cm))])) (ws2 := (fun as => [(z0, .inr (9, [.ref a0, .ref b0, .ref h0, .ref s0, .ref l0, .ref e0, .ref k0, .int u7, .int u8, .int u9])), (a0, .inr (8, [.ref a1])), (a1, .inr (6, [.ref a2])), (a2, .inl (cA 0, 61, .inl f)), (h0, .inr (5, [.ref h1, .int v1, .int v2])), (h1, .inr (6, [.ref h2])), (h2, .inl (cA 0, 488, .inl g)), (s0, .inr (7, [.ref t0, .ref m0, .int w1, .int w2, .int w3])), (t0, .inr (1, [.ref (as 0), .int 0, .int ml, .int o6.2.1])), ((as 0), .inl (cA 1, o6.2.2.2, .inl o6.2.2.1)), (m0, .inr (6, [.ref m1])), (m1, .inl (cA 0, 60, .inl cm)), (e0, .inr (6, [.ref e1])), (e1, .inl (cA 0, 61, .inl bf)), (r0, .inr (0, [.ref r1, .int 0, .int hh, .int hz])), (r1, .inl (cA 1, nt, .inl ft))])) (st1 := (fun as => [.int o6.1])) ⟨hx, hb, hml, hfc, hts⟩ hK hP hD hS hA hEV hL9 (kL_type l hst D cA G z0 a0 b0 h0 s0 l0 e0 k0 t0 m0 a9_2 m1 u7 u8 u9 w1 w2 w3 n9_2 f9_2 ml v8_3_2 cm o4 ho6) (vx_cwSW 2 hts gL_execute_L_type rfl rfl rfl (by decide +kernel) ⟨(Nat.le_of_ble_eq_true rfl), (Nat.le_of_ble_eq_true rfl)⟩) [0, 7, 8, 9, 10, 11] [1, 2, 3, 4, 5, 6, 12, 13, 14, 15] [10, 0, 1, 2, 3, 4, 5, 11, 12, 13, 14, 15, 6, 7, 8, 9] rfl rfl rfl rfl (by decide) (fun _ => rfl) rfl rfl (fun _ => rfl) rfl hl.1 (Nat.le_of_ble_eq_true rfl) dL_execute_16 ⟨(room_w (k := 1) hce1 (Nat.le_of_ble_eq_true rfl) (Nat.le_of_ble_eq_true rfl)), (room_w (k := 168) hse1 (Nat.le_of_ble_eq_true rfl) (Nat.le_of_ble_eq_true rfl))⟩ (fun as7 H locs hP hD hS => ?_)
        have hP : va_P D vwCl [(z0, .inr (9, [.ref a0, .ref b0, .ref h0, .ref s0, .ref l0, .ref e0, .ref k0, .int u7, .int u8, .int u9])), (a0, .inr (8, [.ref a1])), (a1, .inr (6, [.ref a2])), (a2, .inl (cA 0, 61, .inl f)), (h0, .inr (5, [.ref h1, .int v1, .int v2])), (h1, .inr (6, [.ref h2])), (h2, .inl (cA 0, 488, .inl g)), (s0, .inr (7, [.ref t0, .ref m0, .int w1, .int w2, .int w3])), (t0, .inr (1, [.ref (as7 0), .int 0, .int ml, .int o6.2.1])), ((as7 0), .inl (cA 1, o6.2.2.2, .inl o6.2.2.1)), (m0, .inr (6, [.ref m1])), (m1, .inl (cA 0, 60, .inl cm)), (e0, .inr (6, [.ref e1])), (e1, .inl (cA 0, 61, .inl bf)), (r0, .inr (0, [.ref r1, .int 0, .int hh, .int hz])), (r1, .inl (cA 1, nt, .inl ft))] H := hP
        have hD : va_D A [(z0, .inr (9, [.ref a0, .ref b0, .ref h0, .ref s0, .ref l0, .ref e0, .ref k0, .int u7, .int u8, .int u9])), (a0, .inr (8, [.ref a1])), (a1, .inr (6, [.ref a2])), (a2, .inl (cA 0, 61, .inl f)), (h0, .inr (5, [.ref h1, .int v1, .int v2])), (h1, .inr (6, [.ref h2])), (h2, .inl (cA 0, 488, .inl g)), (s0, .inr (7, [.ref t0, .ref m0, .int w1, .int w2, .int w3])), (t0, .inr (1, [.ref (as7 0), .int 0, .int ml, .int o6.2.1])), ((as7 0), .inl (cA 1, o6.2.2.2, .inl o6.2.2.1)), (m0, .inr (6, [.ref m1])), (m1, .inl (cA 0, 60, .inl cm)), (e0, .inr (6, [.ref e1])), (e1, .inl (cA 0, 61, .inl bf)), (r0, .inr (0, [.ref r1, .int 0, .int hh, .int hz])), (r1, .inl (cA 1, nt, .inl ft))] := hD
        refine W.cs (cells' := ce1 + 1) (slots' := se1 + 168) rfl rfl ?_
        refine lv_iload_n hx hb dL_execute_19 rfl (lv_at hl 2 rfl) ?_
        refine lv_iconst (v := 1) hx hb dL_execute_20 (by decide) ?_
        refine lv_iadd hx hb dL_execute_21 ?_
        refine lv_icmp_eq (tgt := 28) hx hb dL_execute_22 (by decide) (fun c8 => ?_) (fun c8 => ?_)
        · have h := ite_t c8 h
          refine lv_iinc (k := 2) (v := x2_2 + 1) hx hb dL_execute_28 hl rfl (congrArg (fun z => x2_2 + z) lit1) (Nat.le_of_ble_eq_true rfl) rfl (fun ls hl => ?_)
          have hl : lv_has ls 3 [(2, .int (x2_2 + 1)), (0, .ref z0), (1, .ref r0)] := hl
          refine lv_goto (tgt := 2) hx hb dL_execute_31 (by decide) ?_
          exact ih (x2_2 + 1) o6.2.1 o6.2.2.1 o6.2.2.2 (as7 0) _ _ (room_bk (k := 1) hce1 (Nat.le_of_ble_eq_true rfl)) (room_bk (k := 168) hse1 (Nat.le_of_ble_eq_true rfl)) _ _ _ (lv_sub hl [1, 2, 0] rfl) hP hD hS h
        · have h := ite_f c8 h
          exact nn h
  refine hLL_execute_2 _ ?_ 62 0 c0 tf n t1 0 0 (Nat.le_of_ble_eq_true rfl) (Nat.le_of_ble_eq_true rfl) _ _ _ (lv_sub hl [1, 2, 0] rfl) hP hD hS h
  intro o1 ao1_0 ls H locs hl hP hD hS h
  refine lv_aload_n hx hb dL_execute_34 rfl (lv_at hl 0 rfl) ?_
  obtain ⟨o9, ho9, h⟩ := bnd_i h
  refine gqL_S (G := G) (v := (fun as => (some (.int o9.1)))) (As := [.ref z0]) (rest := []) (wc := [(z0, .inr (9, [.ref a0, .ref b0, .ref h0, .ref s0, .ref l0, .ref e0, .ref k0, .int u7, .int u8, .int u9])), (a0, .inr (8, [.ref a1])), (a1, .inr (6, [.ref a2])), (a2, .inl (cA 0, 61, .inl f)), (h0, .inr (5, [.ref h1, .int v1, .int v2])), (h1, .inr (6, [.ref h2])), (h2, .inl (cA 0, 488, .inl g)), (s0, .inr (7, [.ref t0, .ref m0, .int w1, .int w2, .int w3])), (t0, .inr (1, [.ref ao1_0, .int 0, .int ml, .int o1.1])), (ao1_0, .inl (cA 1, o1.2.2, .inl o1.2.1)), (m0, .inr (6, [.ref m1])), (m1, .inl (cA 0, 60, .inl cm)), (e0, .inr (6, [.ref e1])), (e1, .inl (cA 0, 61, .inl bf))]) (wr := [(r0, .inr (0, [.ref r1, .int 0, .int hh, .int hz])), (r1, .inl (cA 1, nt, .inl ft))]) (w1 := (fun as => [(z0, .inr (9, [.ref a0, .ref b0, .ref h0, .ref s0, .ref l0, .ref e0, .ref k0, .int u7, .int o9.2.1, .int o9.2.2.1])), (a0, .inr (8, [.ref a1])), (a1, .inr (6, [.ref a2])), (a2, .inl (cA 0, 61, .inl o9.2.2.2.1)), (h0, .inr (5, [.ref h1, .int o9.2.2.2.2.1, .int o9.2.2.2.2.2.1])), (h1, .inr (6, [.ref h2])), (h2, .inl (cA 0, 488, .inl o9.2.2.2.2.2.2.1)), (s0, .inr (7, [.ref t0, .ref m0, .int o9.2.2.2.2.2.2.2.1, .int o9.2.2.2.2.2.2.2.2.1, .int o9.2.2.2.2.2.2.2.2.2.1])), (t0, .inr (1, [.ref (as 0), .int 0, .int o9.2.2.2.2.2.2.2.2.2.2.1, .int o9.2.2.2.2.2.2.2.2.2.2.2.1])), ((as 0), .inl (cA 1, o9.2.2.2.2.2.2.2.2.2.2.2.2.2.1, .inl o9.2.2.2.2.2.2.2.2.2.2.2.2.1)), (m0, .inr (6, [.ref m1])), (m1, .inl (cA 0, 60, .inl o9.2.2.2.2.2.2.2.2.2.2.2.2.2.2.1)), (e0, .inr (6, [.ref e1])), (e1, .inl (cA 0, 61, .inl o9.2.2.2.2.2.2.2.2.2.2.2.2.2.2.2))])) (ws2 := (fun as => [(z0, .inr (9, [.ref a0, .ref b0, .ref h0, .ref s0, .ref l0, .ref e0, .ref k0, .int u7, .int o9.2.1, .int o9.2.2.1])), (a0, .inr (8, [.ref a1])), (a1, .inr (6, [.ref a2])), (a2, .inl (cA 0, 61, .inl o9.2.2.2.1)), (h0, .inr (5, [.ref h1, .int o9.2.2.2.2.1, .int o9.2.2.2.2.2.1])), (h1, .inr (6, [.ref h2])), (h2, .inl (cA 0, 488, .inl o9.2.2.2.2.2.2.1)), (s0, .inr (7, [.ref t0, .ref m0, .int o9.2.2.2.2.2.2.2.1, .int o9.2.2.2.2.2.2.2.2.1, .int o9.2.2.2.2.2.2.2.2.2.1])), (t0, .inr (1, [.ref (as 0), .int 0, .int o9.2.2.2.2.2.2.2.2.2.2.1, .int o9.2.2.2.2.2.2.2.2.2.2.2.1])), ((as 0), .inl (cA 1, o9.2.2.2.2.2.2.2.2.2.2.2.2.2.1, .inl o9.2.2.2.2.2.2.2.2.2.2.2.2.1)), (m0, .inr (6, [.ref m1])), (m1, .inl (cA 0, 60, .inl o9.2.2.2.2.2.2.2.2.2.2.2.2.2.2.1)), (e0, .inr (6, [.ref e1])), (e1, .inl (cA 0, 61, .inl o9.2.2.2.2.2.2.2.2.2.2.2.2.2.2.2)), (r0, .inr (0, [.ref r1, .int 0, .int hh, .int hz])), (r1, .inl (cA 1, nt, .inl ft))])) (st1 := (fun as => [.int o9.1])) ⟨hx, hb, hml, hfc, hts⟩ hK hP hD hS hA hEV hL9 (kL_executes l hst D cA G z0 a0 b0 h0 s0 l0 e0 k0 a1 a2 h1 h2 t0 m0 ao1_0 m1 e1 N u7 u8 u9 f v1 v2 g w1 w2 w3 o1.2.2 o1.2.1 ml o1.1 cm bf ho9) (vx_cwSW 1 hts gL_execute_L_executes rfl rfl rfl (by decide +kernel) ⟨(Nat.le_of_ble_eq_true rfl), (Nat.le_of_ble_eq_true rfl)⟩) [0, 1, 2, 3, 4, 5, 6, 7, 8, 9, 10, 11, 12, 13] [14, 15] [2, 3, 4, 5, 6, 7, 8, 9, 10, 11, 12, 13, 14, 15, 0, 1] rfl rfl rfl rfl (by decide) (fun _ => rfl) rfl rfl (fun _ => rfl) rfl hl.1 (Nat.le_of_ble_eq_true rfl) dL_execute_35 ⟨(Nat.le_of_ble_eq_true rfl), (Nat.le_of_ble_eq_true rfl)⟩ (fun as10 H locs hP hD hS => ?_)
  have hP : va_P D vwCl [(z0, .inr (9, [.ref a0, .ref b0, .ref h0, .ref s0, .ref l0, .ref e0, .ref k0, .int u7, .int o9.2.1, .int o9.2.2.1])), (a0, .inr (8, [.ref a1])), (a1, .inr (6, [.ref a2])), (a2, .inl (cA 0, 61, .inl o9.2.2.2.1)), (h0, .inr (5, [.ref h1, .int o9.2.2.2.2.1, .int o9.2.2.2.2.2.1])), (h1, .inr (6, [.ref h2])), (h2, .inl (cA 0, 488, .inl o9.2.2.2.2.2.2.1)), (s0, .inr (7, [.ref t0, .ref m0, .int o9.2.2.2.2.2.2.2.1, .int o9.2.2.2.2.2.2.2.2.1, .int o9.2.2.2.2.2.2.2.2.2.1])), (t0, .inr (1, [.ref (as10 0), .int 0, .int o9.2.2.2.2.2.2.2.2.2.2.1, .int o9.2.2.2.2.2.2.2.2.2.2.2.1])), ((as10 0), .inl (cA 1, o9.2.2.2.2.2.2.2.2.2.2.2.2.2.1, .inl o9.2.2.2.2.2.2.2.2.2.2.2.2.1)), (m0, .inr (6, [.ref m1])), (m1, .inl (cA 0, 60, .inl o9.2.2.2.2.2.2.2.2.2.2.2.2.2.2.1)), (e0, .inr (6, [.ref e1])), (e1, .inl (cA 0, 61, .inl o9.2.2.2.2.2.2.2.2.2.2.2.2.2.2.2)), (r0, .inr (0, [.ref r1, .int 0, .int hh, .int hz])), (r1, .inl (cA 1, nt, .inl ft))] H := hP
  have hD : va_D A [(z0, .inr (9, [.ref a0, .ref b0, .ref h0, .ref s0, .ref l0, .ref e0, .ref k0, .int u7, .int o9.2.1, .int o9.2.2.1])), (a0, .inr (8, [.ref a1])), (a1, .inr (6, [.ref a2])), (a2, .inl (cA 0, 61, .inl o9.2.2.2.1)), (h0, .inr (5, [.ref h1, .int o9.2.2.2.2.1, .int o9.2.2.2.2.2.1])), (h1, .inr (6, [.ref h2])), (h2, .inl (cA 0, 488, .inl o9.2.2.2.2.2.2.1)), (s0, .inr (7, [.ref t0, .ref m0, .int o9.2.2.2.2.2.2.2.1, .int o9.2.2.2.2.2.2.2.2.1, .int o9.2.2.2.2.2.2.2.2.2.1])), (t0, .inr (1, [.ref (as10 0), .int 0, .int o9.2.2.2.2.2.2.2.2.2.2.1, .int o9.2.2.2.2.2.2.2.2.2.2.2.1])), ((as10 0), .inl (cA 1, o9.2.2.2.2.2.2.2.2.2.2.2.2.2.1, .inl o9.2.2.2.2.2.2.2.2.2.2.2.2.1)), (m0, .inr (6, [.ref m1])), (m1, .inl (cA 0, 60, .inl o9.2.2.2.2.2.2.2.2.2.2.2.2.2.2.1)), (e0, .inr (6, [.ref e1])), (e1, .inl (cA 0, 61, .inl o9.2.2.2.2.2.2.2.2.2.2.2.2.2.2.2)), (r0, .inr (0, [.ref r1, .int 0, .int hh, .int hz])), (r1, .inl (cA 1, nt, .inl ft))] := hD
  refine W.cs (cells' := 64) (slots' := 10590) rfl rfl ?_
  have h := Option.some.inj h
  subst h
  refine W.widen (k := 64) (n := 10590) (Nat.le_of_ble_eq_true rfl) (Nat.le_of_ble_eq_true rfl) ?_
  exact hend (adr [(as10 0)]) _ _ _ _ _ _ _ rfl rfl (rtn_i _) hP hD hS dL_execute_38

noncomputable def LL_sum_60 (K : Int64 → Option (Int64)) (f : Nat → Int32) : Nat → Int64 → Int32 → Option (Int64)
  | 0, _, _ => none
  | fu + 1, x1_60, x3_60 => if (SX5_moonCount f) ≤ x3_60 then (K x1_60) else (lt_ (SX5_ageOf f x3_60) (fun o10 : Nat × Int32 => if o10.1 = 0 then (lt_ (SX5_positionOf f x3_60) (fun o13 : Nat × Int32 => if o13.1 = 0 then (lt_ (SX5_massOf f x3_60) (fun o16 : Nat × Int32 => if o16.1 = 0 then (lt_ (SX5_isHard f x3_60) (fun o19 : Nat × Int32 => if o19.1 = 0 then (lt_ (if o19.2 = 0 then (0) else (2)) (fun o23 : Int32 => lt_ (SX5_isSoft f x3_60) (fun o24 : Nat × Int32 => if o24.1 = 0 then (lt_ (if o24.2 = 0 then (0) else (1)) (fun o28 : Int32 => LL_sum_60 K f fu ((((((37 * x1_60) + ((1000 * o10.2).toInt64)) + ((50 * o13.2).toInt64)) + ((4 * o16.2).toInt64)) + o23.toInt64) + o28.toInt64) (x3_60 + 1))) else (none)))) else (none))) else (none))) else (none))) else (none)))
noncomputable def LL_sum_142 (K : Int64 → Option (Int64)) (f : Nat → Int32) : Nat → Int64 → Int32 → Option (Int64)
  | 0, _, _ => none
  | fu + 1, x1_142, x3_142 => if (SX5_towelCount f) ≤ x3_142 then (K x1_142) else (lt_ (SX5_shoreOf f x3_142) (fun o32 : Nat × Int32 => if o32.1 = 0 then (lt_ (SX5_heightOf f x3_142) (fun o35 : Nat × Int32 => if o35.1 = 0 then (lt_ (SX5_absorbedBy f x3_142) (fun o38 : Nat × Int32 => if o38.1 = 0 then (lt_ (SX5_floodsOf f x3_142) (fun o41 : Nat × Int32 => if o41.1 = 0 then (LL_sum_142 K f fu (((((41 * x1_142) + ((1000 * o32.2).toInt64)) + ((10 * o35.2).toInt64)) + o38.2.toInt64) + ((100000 * o41.2).toInt64)) (x3_142 + 1)) else (none))) else (none))) else (none))) else (none)))
noncomputable def LL_sum_203 (K : Int64 → Option (Int64)) (f : Nat → Int32) : Nat → Int64 → Int32 → Option (Int64)
  | 0, _, _ => none
  | fu + 1, x1_203, x3_203 => if 12 ≤ x3_203 then (K x1_203) else (bnd (SX5_hasToe f x3_203) (fun o46 : Nat × Int32 => if o46.1 = 0 then (lt_ (if o46.2 = 0 then (0) else (1)) (fun o50 : Int32 => LL_sum_203 K f fu ((43 * x1_203) + o50.toInt64) (x3_203 + 1))) else (none)))
noncomputable def SL_sum (f : Nat → Int32) : Option (Int64) := bnd (SL_plugPosition f) (fun o5 : Int32 => LL_sum_60 (fun o7 : Int64 => LL_sum_142 (fun o29 : Int64 => LL_sum_203 (fun o44 : Int64 => some (o44)) f 14 o29 0) f 7 o7 0) f 7 ((31 * ((31 * ((31 * ((31 * (7 + ((SX5_time f).toInt64))) + ((SX5_baseLevel f).toInt64))) + ((SX5_flow f).toInt64))) + ((SX5_spilled f).toInt64))) + o5.toInt64) 0)
abbrev RM_L_sum : Room := { frames := 9, cells := 78, slots := 468, locals := 145 }
set_option maxRecDepth 20000 in
set_option maxHeartbeats 4000000 in
theorem kL_sum (l : Launch) (hst : l.stackTraces = false) (D : va_G) (cA : Nat → ClassId) (G : eG) (z0 a0 b0 h0 s0 l0 e0 k0 a1 a2 : Nat) (u7 : Int32) (u8 : Int32) (u9 : Int32) (f : Nat → Int32) {r : Int64} (hr : SL_sum f = some r) {sz : Nat} : Met l yL_sum wsL_sum RM_L_sum (va_Pc [.ref z0] (gqTB G noT D cA [(z0, .inr (9, [.ref a0, .ref b0, .ref h0, .ref s0, .ref l0, .ref e0, .ref k0, .int u7, .int u8, .int u9])), (a0, .inr (8, [.ref a1])), (a1, .inr (6, [.ref a2])), (a2, .inl (cA 0, 61, .inl f))] sz)) (gqQ D (fun as => (some (.long r))) (fun as => [(z0, .inr (9, [.ref a0, .ref b0, .ref h0, .ref s0, .ref l0, .ref e0, .ref k0, .int u7, .int u8, .int u9])), (a0, .inr (8, [.ref a1])), (a1, .inr (6, [.ref a2])), (a2, .inl (cA 0, 61, .inl f))]) (va_A [(z0, .inr (9, [.ref a0, .ref b0, .ref h0, .ref s0, .ref l0, .ref e0, .ref k0, .int u7, .int u8, .int u9])), (a0, .inr (8, [.ref a1])), (a1, .inr (6, [.ref a2])), (a2, .inl (cA 0, 61, .inl f))] sz)) 78 468 (va_A [(z0, .inr (9, [.ref a0, .ref b0, .ref h0, .ref s0, .ref l0, .ref e0, .ref k0, .int u7, .int u8, .int u9])), (a0, .inr (8, [.ref a1])), (a1, .inr (6, [.ref a2])), (a2, .inl (cA 0, 61, .inl f))] sz) := by
  refine gqT_ofW (cc := cL_sum) (maxL := 4) (ret := (some .long)) (by decide) rfl (Nat.le_of_ble_eq_true rfl) (fun p e s m args below meth c ls Q A hx hb hml hts hfc hK hP hD hS hA hEV hL9 hTX hAX hN hl hend => ?_)
  have hfc : s.vm.findClass RL = some m.cls := hfc
  have hl : lv_has ls 4 [(0, .ref z0)] := hl
  have h := hr
  clear hr
  unfold SL_sum at h
  refine lv_ldc2 (v := 7) hx hb hfc (hts (.constantLong RL 350 (7)) (List.mem_of_getElem? (i := 1) rfl)) dL_sum_0 ?_
  refine lv_aload_n hx hb dL_sum_3 rfl (lv_at hl 0 rfl) ?_
  refine rq_V (v := (some (.int (SX5_time f)))) (As := []) (rest := [.long 7]) (wc := [(z0, .inr (9, [.ref a0, .ref b0, .ref h0, .ref s0, .ref l0, .ref e0, .ref k0, .int u7, .int u8, .int u9])), (a0, .inr (8, [.ref a1])), (a1, .inr (6, [.ref a2])), (a2, .inl (cA 0, 61, .inl f))]) ⟨hx, hb, hml, hfc, hts⟩ hK hP (kX5_time l D cA z0 a0 b0 h0 s0 l0 e0 k0 a1 a2 u7 u8 u9 f rfl) (cwV 0 hts gL_sum_X5_time rfl rfl rfl (by decide +kernel) ⟨(Nat.le_of_ble_eq_true rfl), (Nat.le_of_ble_eq_true rfl)⟩) [0, 1, 2, 3] rfl 0 9 rfl rfl rfl rfl rfl rfl hl.1 (Nat.le_of_ble_eq_true rfl) dL_sum_4 ⟨(Nat.zero_le _), (Nat.zero_le _)⟩ ?_
  refine lv_i2l (v := (SX5_time f).toInt64) hx hb dL_sum_7 rfl ?_
  refine lv_ladd hx hb dL_sum_8 ?_
  refine lv_lstore_n hx hb dL_sum_9 rfl hl (Nat.le_of_ble_eq_true rfl) rfl (fun ls hl => ?_)
  have hl : lv_has ls 4 [(1, .long (7 + ((SX5_time f).toInt64))), (0, .ref z0)] := hl
  refine lv_ldc2 (v := 31) hx hb hfc (hts (.constantLong RL 352 (31)) (List.mem_of_getElem? (i := 2) rfl)) dL_sum_10 ?_
  refine lv_lload_n hx hb dL_sum_13 rfl (lv_at hl 0 rfl) ?_
  refine lv_lmul hx hb dL_sum_14 ?_
  refine lv_aload_n hx hb dL_sum_15 rfl (lv_at hl 1 rfl) ?_
  refine rq_V (v := (some (.int (SX5_baseLevel f)))) (As := []) (rest := [.long (31 * (7 + ((SX5_time f).toInt64)))]) (wc := [(z0, .inr (9, [.ref a0, .ref b0, .ref h0, .ref s0, .ref l0, .ref e0, .ref k0, .int u7, .int u8, .int u9])), (a0, .inr (8, [.ref a1])), (a1, .inr (6, [.ref a2])), (a2, .inl (cA 0, 61, .inl f))]) ⟨hx, hb, hml, hfc, hts⟩ hK hP (kX5_baseLevel l D cA z0 a0 b0 h0 s0 l0 e0 k0 a1 a2 u7 u8 u9 f rfl) (cwV 0 hts gL_sum_X5_baseLevel rfl rfl rfl (by decide +kernel) ⟨(Nat.le_of_ble_eq_true rfl), (Nat.le_of_ble_eq_true rfl)⟩) [0, 1, 2, 3] rfl 0 9 rfl rfl rfl rfl rfl rfl hl.1 (Nat.le_of_ble_eq_true rfl) dL_sum_16 ⟨(Nat.zero_le _), (Nat.zero_le _)⟩ ?_
  refine lv_i2l (v := (SX5_baseLevel f).toInt64) hx hb dL_sum_19 rfl ?_
  refine lv_ladd hx hb dL_sum_20 ?_
  refine lv_lstore_n hx hb dL_sum_21 rfl hl (Nat.le_of_ble_eq_true rfl) rfl (fun ls hl => ?_)
  have hl : lv_has ls 4 [(1, .long ((31 * (7 + ((SX5_time f).toInt64))) + ((SX5_baseLevel f).toInt64))), (0, .ref z0)] := hl
  refine lv_ldc2 (v := 31) hx hb hfc (hts (.constantLong RL 352 (31)) (List.mem_of_getElem? (i := 2) rfl)) dL_sum_22 ?_
  refine lv_lload_n hx hb dL_sum_25 rfl (lv_at hl 0 rfl) ?_
  refine lv_lmul hx hb dL_sum_26 ?_
  refine lv_aload_n hx hb dL_sum_27 rfl (lv_at hl 1 rfl) ?_
  refine rq_V (v := (some (.int (SX5_flow f)))) (As := []) (rest := [.long (31 * ((31 * (7 + ((SX5_time f).toInt64))) + ((SX5_baseLevel f).toInt64)))]) (wc := [(z0, .inr (9, [.ref a0, .ref b0, .ref h0, .ref s0, .ref l0, .ref e0, .ref k0, .int u7, .int u8, .int u9])), (a0, .inr (8, [.ref a1])), (a1, .inr (6, [.ref a2])), (a2, .inl (cA 0, 61, .inl f))]) ⟨hx, hb, hml, hfc, hts⟩ hK hP (kX5_flow l D cA z0 a0 b0 h0 s0 l0 e0 k0 a1 a2 u7 u8 u9 f rfl) (cwV 0 hts gL_sum_X5_flow rfl rfl rfl (by decide +kernel) ⟨(Nat.le_of_ble_eq_true rfl), (Nat.le_of_ble_eq_true rfl)⟩) [0, 1, 2, 3] rfl 0 9 rfl rfl rfl rfl rfl rfl hl.1 (Nat.le_of_ble_eq_true rfl) dL_sum_28 ⟨(Nat.zero_le _), (Nat.zero_le _)⟩ ?_
  refine lv_i2l (v := (SX5_flow f).toInt64) hx hb dL_sum_31 rfl ?_
  refine lv_ladd hx hb dL_sum_32 ?_
  refine lv_lstore_n hx hb dL_sum_33 rfl hl (Nat.le_of_ble_eq_true rfl) rfl (fun ls hl => ?_)
  have hl : lv_has ls 4 [(1, .long ((31 * ((31 * (7 + ((SX5_time f).toInt64))) + ((SX5_baseLevel f).toInt64))) + ((SX5_flow f).toInt64))), (0, .ref z0)] := hl
  refine lv_ldc2 (v := 31) hx hb hfc (hts (.constantLong RL 352 (31)) (List.mem_of_getElem? (i := 2) rfl)) dL_sum_34 ?_
  refine lv_lload_n hx hb dL_sum_37 rfl (lv_at hl 0 rfl) ?_
  refine lv_lmul hx hb dL_sum_38 ?_
  refine lv_aload_n hx hb dL_sum_39 rfl (lv_at hl 1 rfl) ?_
  refine rq_V (v := (some (.int (SX5_spilled f)))) (As := []) (rest := [.long (31 * ((31 * ((31 * (7 + ((SX5_time f).toInt64))) + ((SX5_baseLevel f).toInt64))) + ((SX5_flow f).toInt64)))]) (wc := [(z0, .inr (9, [.ref a0, .ref b0, .ref h0, .ref s0, .ref l0, .ref e0, .ref k0, .int u7, .int u8, .int u9])), (a0, .inr (8, [.ref a1])), (a1, .inr (6, [.ref a2])), (a2, .inl (cA 0, 61, .inl f))]) ⟨hx, hb, hml, hfc, hts⟩ hK hP (kX5_spilled l D cA z0 a0 b0 h0 s0 l0 e0 k0 a1 a2 u7 u8 u9 f rfl) (cwV 0 hts gL_sum_X5_spilled rfl rfl rfl (by decide +kernel) ⟨(Nat.le_of_ble_eq_true rfl), (Nat.le_of_ble_eq_true rfl)⟩) [0, 1, 2, 3] rfl 0 9 rfl rfl rfl rfl rfl rfl hl.1 (Nat.le_of_ble_eq_true rfl) dL_sum_40 ⟨(Nat.zero_le _), (Nat.zero_le _)⟩ ?_
  refine lv_i2l (v := (SX5_spilled f).toInt64) hx hb dL_sum_43 rfl ?_
  refine lv_ladd hx hb dL_sum_44 ?_
  refine lv_lstore_n hx hb dL_sum_45 rfl hl (Nat.le_of_ble_eq_true rfl) rfl (fun ls hl => ?_)
  have hl : lv_has ls 4 [(1, .long ((31 * ((31 * ((31 * (7 + ((SX5_time f).toInt64))) + ((SX5_baseLevel f).toInt64))) + ((SX5_flow f).toInt64))) + ((SX5_spilled f).toInt64))), (0, .ref z0)] := hl
  refine lv_ldc2 (v := 31) hx hb hfc (hts (.constantLong RL 352 (31)) (List.mem_of_getElem? (i := 2) rfl)) dL_sum_46 ?_
  refine lv_lload_n hx hb dL_sum_49 rfl (lv_at hl 0 rfl) ?_
  refine lv_lmul hx hb dL_sum_50 ?_
  refine lv_aload_n hx hb dL_sum_51 rfl (lv_at hl 1 rfl) ?_
  obtain ⟨o5, ho5, h⟩ := bnd_i h
  refine gqL_S (G := G) (v := (fun as => (some (.int o5)))) (As := [.ref z0]) (rest := [.long (31 * ((31 * ((31 * ((31 * (7 + ((SX5_time f).toInt64))) + ((SX5_baseLevel f).toInt64))) + ((SX5_flow f).toInt64))) + ((SX5_spilled f).toInt64)))]) (wc := [(z0, .inr (9, [.ref a0, .ref b0, .ref h0, .ref s0, .ref l0, .ref e0, .ref k0, .int u7, .int u8, .int u9])), (a0, .inr (8, [.ref a1])), (a1, .inr (6, [.ref a2])), (a2, .inl (cA 0, 61, .inl f))]) (wr := []) (w1 := (fun as => [(z0, .inr (9, [.ref a0, .ref b0, .ref h0, .ref s0, .ref l0, .ref e0, .ref k0, .int u7, .int u8, .int u9])), (a0, .inr (8, [.ref a1])), (a1, .inr (6, [.ref a2])), (a2, .inl (cA 0, 61, .inl f))])) (ws2 := (fun as => [(z0, .inr (9, [.ref a0, .ref b0, .ref h0, .ref s0, .ref l0, .ref e0, .ref k0, .int u7, .int u8, .int u9])), (a0, .inr (8, [.ref a1])), (a1, .inr (6, [.ref a2])), (a2, .inl (cA 0, 61, .inl f))])) (st1 := (fun as => [.int o5, .long (31 * ((31 * ((31 * ((31 * (7 + ((SX5_time f).toInt64))) + ((SX5_baseLevel f).toInt64))) + ((SX5_flow f).toInt64))) + ((SX5_spilled f).toInt64)))])) ⟨hx, hb, hml, hfc, hts⟩ hK hP hD hS hA hEV hL9 (kL_plugPosition l hst D cA G z0 a0 b0 h0 s0 l0 e0 k0 a1 a2 u7 u8 u9 f ho5) (vx_cwSW 1 hts gL_sum_L_plugPosition rfl rfl rfl (by decide +kernel) ⟨(Nat.le_of_ble_eq_true rfl), (Nat.le_of_ble_eq_true rfl)⟩) [0, 1, 2, 3] [] [0, 1, 2, 3] rfl rfl rfl rfl (by decide) (fun _ => rfl) rfl rfl (fun _ => rfl) rfl hl.1 (Nat.le_of_ble_eq_true rfl) dL_sum_52 ⟨(Nat.le_of_ble_eq_true rfl), (Nat.le_of_ble_eq_true rfl)⟩ (fun as6 H locs hP hD hS => ?_)
  have hP : va_P D vwCl [(z0, .inr (9, [.ref a0, .ref b0, .ref h0, .ref s0, .ref l0, .ref e0, .ref k0, .int u7, .int u8, .int u9])), (a0, .inr (8, [.ref a1])), (a1, .inr (6, [.ref a2])), (a2, .inl (cA 0, 61, .inl f))] H := hP
  have hD : va_D A [(z0, .inr (9, [.ref a0, .ref b0, .ref h0, .ref s0, .ref l0, .ref e0, .ref k0, .int u7, .int u8, .int u9])), (a0, .inr (8, [.ref a1])), (a1, .inr (6, [.ref a2])), (a2, .inl (cA 0, 61, .inl f))] := hD
  refine W.cs (cells' := 1) (slots' := 6) rfl rfl ?_
  refine lv_i2l (v := o5.toInt64) hx hb dL_sum_55 rfl ?_
  refine lv_ladd hx hb dL_sum_56 ?_
  refine lv_lstore_n hx hb dL_sum_57 rfl hl (Nat.le_of_ble_eq_true rfl) rfl (fun ls hl => ?_)
  have hl : lv_has ls 4 [(1, .long ((31 * ((31 * ((31 * ((31 * (7 + ((SX5_time f).toInt64))) + ((SX5_baseLevel f).toInt64))) + ((SX5_flow f).toInt64))) + ((SX5_spilled f).toInt64))) + o5.toInt64)), (0, .ref z0)] := hl
  refine lv_iconst (v := 0) hx hb dL_sum_58 (by decide) ?_
  refine lv_istore_n hx hb dL_sum_59 rfl hl (Nat.le_of_ble_eq_true rfl) rfl (fun ls hl => ?_)
  have hl : lv_has ls 4 [(3, .int 0), (1, .long ((31 * ((31 * ((31 * ((31 * (7 + ((SX5_time f).toInt64))) + ((SX5_baseLevel f).toInt64))) + ((SX5_flow f).toInt64))) + ((SX5_spilled f).toInt64))) + o5.toInt64)), (0, .ref z0)] := hl
  have hLL_sum_60 : ∀ (K : Int64 → Option (Int64)), (∀ (o7 : Int64) (ls : Array Slot) (H : Heap) (locs : List Loc), lv_has ls 4 [(0, .ref z0), (1, .long o7)] → va_P D vwCl [(z0, .inr (9, [.ref a0, .ref b0, .ref h0, .ref s0, .ref l0, .ref e0, .ref k0, .int u7, .int u8, .int u9])), (a0, .inr (8, [.ref a1])), (a1, .inr (6, [.ref a2])), (a2, .inl (cA 0, 61, .inl f))] H → va_D A [(z0, .inr (9, [.ref a0, .ref b0, .ref h0, .ref s0, .ref l0, .ref e0, .ref k0, .int u7, .int u8, .int u9])), (a0, .inr (8, [.ref a1])), (a1, .inr (6, [.ref a2])), (a2, .inl (cA 0, 61, .inl f))] → va_S A s.heap H locs → K o7 = some r → W p l e RM_L_sum s m args below meth c H locs 36 216 Q (F0 m 140 ls [])) → ∀ (fu : Nat) (x1_60 : Int64) (x3_60 : Int32) (ce1 se1 : Nat), ce1 + 5 * fu ≤ 36 → se1 + 30 * fu ≤ 216 → ∀ (ls : Array Slot) (H : Heap) (locs : List Loc), lv_has ls 4 [(0, .ref z0), (1, .long x1_60), (3, .int x3_60)] → va_P D vwCl [(z0, .inr (9, [.ref a0, .ref b0, .ref h0, .ref s0, .ref l0, .ref e0, .ref k0, .int u7, .int u8, .int u9])), (a0, .inr (8, [.ref a1])), (a1, .inr (6, [.ref a2])), (a2, .inl (cA 0, 61, .inl f))] H → va_D A [(z0, .inr (9, [.ref a0, .ref b0, .ref h0, .ref s0, .ref l0, .ref e0, .ref k0, .int u7, .int u8, .int u9])), (a0, .inr (8, [.ref a1])), (a1, .inr (6, [.ref a2])), (a2, .inl (cA 0, 61, .inl f))] → va_S A s.heap H locs → LL_sum_60 K f fu x1_60 x3_60 = some r → W p l e RM_L_sum s m args below meth c H locs ce1 se1 Q (F0 m 60 ls []) := by
    intro K hKk fu
    induction fu with
    | zero =>
      intro x1_60 x3_60 ce1 se1 hce1 hse1 ls H locs hl hP hD hS h
      rw [LL_sum_60] at h
      exact nn h
    | succ fu ih =>
      intro x1_60 x3_60 ce1 se1 hce1 hse1 ls H locs hl hP hD hS h
      rw [LL_sum_60] at h
      refine lv_iload_n hx hb dL_sum_60 rfl (lv_at hl 2 rfl) ?_
      refine lv_aload_n hx hb dL_sum_61 rfl (lv_at hl 0 rfl) ?_
      refine rq_V (v := (some (.int (SX5_moonCount f)))) (As := []) (rest := [.int x3_60]) (wc := [(z0, .inr (9, [.ref a0, .ref b0, .ref h0, .ref s0, .ref l0, .ref e0, .ref k0, .int u7, .int u8, .int u9])), (a0, .inr (8, [.ref a1])), (a1, .inr (6, [.ref a2])), (a2, .inl (cA 0, 61, .inl f))]) ⟨hx, hb, hml, hfc, hts⟩ hK hP (kX5_moonCount l D cA z0 a0 b0 h0 s0 l0 e0 k0 a1 a2 u7 u8 u9 f rfl) (cwV 0 hts gL_sum_X5_moonCount rfl rfl rfl (by decide +kernel) ⟨(Nat.le_of_ble_eq_true rfl), (Nat.le_of_ble_eq_true rfl)⟩) [0, 1, 2, 3] rfl 0 9 rfl rfl rfl rfl rfl rfl hl.1 (Nat.le_of_ble_eq_true rfl) dL_sum_62 ⟨(room_w (k := 0) hce1 (Nat.le_of_ble_eq_true rfl) (Nat.le_of_ble_eq_true rfl)), (room_w (k := 0) hse1 (Nat.le_of_ble_eq_true rfl) (Nat.le_of_ble_eq_true rfl))⟩ ?_
      refine lv_icmp_ge (tgt := 140) hx hb dL_sum_65 (by decide) (fun c9 => ?_) (fun c9 => ?_)
      · have h := ite_t c9 h
        refine W.widen (k := 36) (n := 216) (room_le (k := 0) hce1 (Nat.le_of_ble_eq_true rfl)) (room_le (k := 0) hse1 (Nat.le_of_ble_eq_true rfl)) ?_
        exact hKk x1_60 _ _ _ (lv_sub hl [0, 1] rfl) hP hD hS h
      · have h := ite_f c9 h
        refine lv_ldc2 (v := 37) hx hb hfc (hts (.constantLong RL 360 (37)) (List.mem_of_getElem? (i := 3) rfl)) dL_sum_68 ?_
        refine lv_lload_n hx hb dL_sum_71 rfl (lv_at hl 1 rfl) ?_
        refine lv_lmul hx hb dL_sum_72 ?_
        refine lv_sipush (v := 1000) hx hb dL_sum_73 (by decide) ?_
        refine lv_aload_n hx hb dL_sum_76 rfl (lv_at hl 0 rfl) ?_
        refine lv_iload_n hx hb dL_sum_77 rfl (lv_at hl 2 rfl) ?_
        obtain ⟨o10, ho10, h⟩ := lt_i h
        refine xq_V (G := G) (v := (fun as => (some (.int o10.2)))) (As := [.int x3_60]) (rest := [.int 1000, .long (37 * x1_60)]) (wc := [(z0, .inr (9, [.ref a0, .ref b0, .ref h0, .ref s0, .ref l0, .ref e0, .ref k0, .int u7, .int u8, .int u9])), (a0, .inr (8, [.ref a1])), (a1, .inr (6, [.ref a2])), (a2, .inl (cA 0, 61, .inl f))]) (wr := []) (w1 := (fun as => [(z0, .inr (9, [.ref a0, .ref b0, .ref h0, .ref s0, .ref l0, .ref e0, .ref k0, .int u7, .int u8, .int u9])), (a0, .inr (8, [.ref a1])), (a1, .inr (6, [.ref a2])), (a2, .inl (cA 0, 61, .inl f))])) (ws2 := (fun as => [(z0, .inr (9, [.ref a0, .ref b0, .ref h0, .ref s0, .ref l0, .ref e0, .ref k0, .int u7, .int u8, .int u9])), (a0, .inr (8, [.ref a1])), (a1, .inr (6, [.ref a2])), (a2, .inl (cA 0, 61, .inl f))])) (st1 := (fun as => [.int o10.2, .int 1000, .long (37 * x1_60)])) ⟨hx, hb, hml, hfc, hts⟩ hK hP hD hS hA hEV (kX5_ageOf l hst D cA G z0 a0 b0 h0 s0 l0 e0 k0 a1 a2 u7 u8 u9 f x3_60 ho10) (cwV 1 hts gL_sum_X5_ageOf rfl rfl rfl (by decide +kernel) ⟨(Nat.le_of_ble_eq_true rfl), (Nat.le_of_ble_eq_true rfl)⟩) [0, 1, 2, 3] [] [0, 1, 2, 3] rfl rfl rfl rfl (by decide) (fun _ => rfl) rfl 0 9 rfl rfl rfl rfl (fun _ => rfl) rfl hl.1 (Nat.le_of_ble_eq_true rfl) dL_sum_78 ⟨(room_w (k := 1) hce1 (Nat.le_of_ble_eq_true rfl) (Nat.le_of_ble_eq_true rfl)), (room_w (k := 6) hse1 (Nat.le_of_ble_eq_true rfl) (Nat.le_of_ble_eq_true rfl))⟩ (fun c12 as11 H locs hP hD hS => ?_) (fun c12 as11 H locs q9 ce hP hD hS z1 z2 z3 => ?_)
        · have h := ite_t c12 h
          have hP : va_P D vwCl [(z0, .inr (9, [.ref a0, .ref b0, .ref h0, .ref s0, .ref l0, .ref e0, .ref k0, .int u7, .int u8, .int u9])), (a0, .inr (8, [.ref a1])), (a1, .inr (6, [.ref a2])), (a2, .inl (cA 0, 61, .inl f))] H := hP
          have hD : va_D A [(z0, .inr (9, [.ref a0, .ref b0, .ref h0, .ref s0, .ref l0, .ref e0, .ref k0, .int u7, .int u8, .int u9])), (a0, .inr (8, [.ref a1])), (a1, .inr (6, [.ref a2])), (a2, .inl (cA 0, 61, .inl f))] := hD
          refine W.cs (cells' := ce1 + 1) (slots' := se1 + 6) rfl rfl ?_
          refine lv_imul hx hb dL_sum_81 ?_
          refine lv_i2l (v := (1000 * o10.2).toInt64) hx hb dL_sum_82 rfl ?_
          refine lv_ladd hx hb dL_sum_83 ?_
          refine lv_bipush (v := 50) hx hb dL_sum_84 (by decide) ?_
          refine lv_aload_n hx hb dL_sum_86 rfl (lv_at hl 0 rfl) ?_
          refine lv_iload_n hx hb dL_sum_87 rfl (lv_at hl 2 rfl) ?_
          obtain ⟨o13, ho13, h⟩ := lt_i h
          refine xq_V (G := G) (v := (fun as => (some (.int o13.2)))) (As := [.int x3_60]) (rest := [.int 50, .long ((37 * x1_60) + ((1000 * o10.2).toInt64))]) (wc := [(z0, .inr (9, [.ref a0, .ref b0, .ref h0, .ref s0, .ref l0, .ref e0, .ref k0, .int u7, .int u8, .int u9])), (a0, .inr (8, [.ref a1])), (a1, .inr (6, [.ref a2])), (a2, .inl (cA 0, 61, .inl f))]) (wr := []) (w1 := (fun as => [(z0, .inr (9, [.ref a0, .ref b0, .ref h0, .ref s0, .ref l0, .ref e0, .ref k0, .int u7, .int u8, .int u9])), (a0, .inr (8, [.ref a1])), (a1, .inr (6, [.ref a2])), (a2, .inl (cA 0, 61, .inl f))])) (ws2 := (fun as => [(z0, .inr (9, [.ref a0, .ref b0, .ref h0, .ref s0, .ref l0, .ref e0, .ref k0, .int u7, .int u8, .int u9])), (a0, .inr (8, [.ref a1])), (a1, .inr (6, [.ref a2])), (a2, .inl (cA 0, 61, .inl f))])) (st1 := (fun as => [.int o13.2, .int 50, .long ((37 * x1_60) + ((1000 * o10.2).toInt64))])) ⟨hx, hb, hml, hfc, hts⟩ hK hP hD hS hA hEV (kX5_positionOf l hst D cA G z0 a0 b0 h0 s0 l0 e0 k0 a1 a2 u7 u8 u9 f x3_60 ho13) (cwV 1 hts gL_sum_X5_positionOf rfl rfl rfl (by decide +kernel) ⟨(Nat.le_of_ble_eq_true rfl), (Nat.le_of_ble_eq_true rfl)⟩) [0, 1, 2, 3] [] [0, 1, 2, 3] rfl rfl rfl rfl (by decide) (fun _ => rfl) rfl 0 9 rfl rfl rfl rfl (fun _ => rfl) rfl hl.1 (Nat.le_of_ble_eq_true rfl) dL_sum_88 ⟨(room_w (k := 2) hce1 (Nat.le_of_ble_eq_true rfl) (Nat.le_of_ble_eq_true rfl)), (room_w (k := 12) hse1 (Nat.le_of_ble_eq_true rfl) (Nat.le_of_ble_eq_true rfl))⟩ (fun c15 as14 H locs hP hD hS => ?_) (fun c15 as14 H locs q9 ce hP hD hS z1 z2 z3 => ?_)
          · have h := ite_t c15 h
            have hP : va_P D vwCl [(z0, .inr (9, [.ref a0, .ref b0, .ref h0, .ref s0, .ref l0, .ref e0, .ref k0, .int u7, .int u8, .int u9])), (a0, .inr (8, [.ref a1])), (a1, .inr (6, [.ref a2])), (a2, .inl (cA 0, 61, .inl f))] H := hP
            have hD : va_D A [(z0, .inr (9, [.ref a0, .ref b0, .ref h0, .ref s0, .ref l0, .ref e0, .ref k0, .int u7, .int u8, .int u9])), (a0, .inr (8, [.ref a1])), (a1, .inr (6, [.ref a2])), (a2, .inl (cA 0, 61, .inl f))] := hD
            refine W.cs (cells' := ce1 + 2) (slots' := se1 + 12) rfl rfl ?_
            refine lv_imul hx hb dL_sum_91 ?_
            refine lv_i2l (v := (50 * o13.2).toInt64) hx hb dL_sum_92 rfl ?_
            refine lv_ladd hx hb dL_sum_93 ?_
            refine lv_iconst (v := 4) hx hb dL_sum_94 (by decide) ?_
            refine lv_aload_n hx hb dL_sum_95 rfl (lv_at hl 0 rfl) ?_
            refine lv_iload_n hx hb dL_sum_96 rfl (lv_at hl 2 rfl) ?_
            obtain ⟨o16, ho16, h⟩ := lt_i h
            refine xq_V (G := G) (v := (fun as => (some (.int o16.2)))) (As := [.int x3_60]) (rest := [.int 4, .long (((37 * x1_60) + ((1000 * o10.2).toInt64)) + ((50 * o13.2).toInt64))]) (wc := [(z0, .inr (9, [.ref a0, .ref b0, .ref h0, .ref s0, .ref l0, .ref e0, .ref k0, .int u7, .int u8, .int u9])), (a0, .inr (8, [.ref a1])), (a1, .inr (6, [.ref a2])), (a2, .inl (cA 0, 61, .inl f))]) (wr := []) (w1 := (fun as => [(z0, .inr (9, [.ref a0, .ref b0, .ref h0, .ref s0, .ref l0, .ref e0, .ref k0, .int u7, .int u8, .int u9])), (a0, .inr (8, [.ref a1])), (a1, .inr (6, [.ref a2])), (a2, .inl (cA 0, 61, .inl f))])) (ws2 := (fun as => [(z0, .inr (9, [.ref a0, .ref b0, .ref h0, .ref s0, .ref l0, .ref e0, .ref k0, .int u7, .int u8, .int u9])), (a0, .inr (8, [.ref a1])), (a1, .inr (6, [.ref a2])), (a2, .inl (cA 0, 61, .inl f))])) (st1 := (fun as => [.int o16.2, .int 4, .long (((37 * x1_60) + ((1000 * o10.2).toInt64)) + ((50 * o13.2).toInt64))])) ⟨hx, hb, hml, hfc, hts⟩ hK hP hD hS hA hEV (kX5_massOf l hst D cA G z0 a0 b0 h0 s0 l0 e0 k0 a1 a2 u7 u8 u9 f x3_60 ho16) (cwV 1 hts gL_sum_X5_massOf rfl rfl rfl (by decide +kernel) ⟨(Nat.le_of_ble_eq_true rfl), (Nat.le_of_ble_eq_true rfl)⟩) [0, 1, 2, 3] [] [0, 1, 2, 3] rfl rfl rfl rfl (by decide) (fun _ => rfl) rfl 0 9 rfl rfl rfl rfl (fun _ => rfl) rfl hl.1 (Nat.le_of_ble_eq_true rfl) dL_sum_97 ⟨(room_w (k := 3) hce1 (Nat.le_of_ble_eq_true rfl) (Nat.le_of_ble_eq_true rfl)), (room_w (k := 18) hse1 (Nat.le_of_ble_eq_true rfl) (Nat.le_of_ble_eq_true rfl))⟩ (fun c18 as17 H locs hP hD hS => ?_) (fun c18 as17 H locs q9 ce hP hD hS z1 z2 z3 => ?_)
            · have h := ite_t c18 h
              have hP : va_P D vwCl [(z0, .inr (9, [.ref a0, .ref b0, .ref h0, .ref s0, .ref l0, .ref e0, .ref k0, .int u7, .int u8, .int u9])), (a0, .inr (8, [.ref a1])), (a1, .inr (6, [.ref a2])), (a2, .inl (cA 0, 61, .inl f))] H := hP
              have hD : va_D A [(z0, .inr (9, [.ref a0, .ref b0, .ref h0, .ref s0, .ref l0, .ref e0, .ref k0, .int u7, .int u8, .int u9])), (a0, .inr (8, [.ref a1])), (a1, .inr (6, [.ref a2])), (a2, .inl (cA 0, 61, .inl f))] := hD
              refine W.cs (cells' := ce1 + 3) (slots' := se1 + 18) rfl rfl ?_
              refine lv_imul hx hb dL_sum_100 ?_
              refine lv_i2l (v := (4 * o16.2).toInt64) hx hb dL_sum_101 rfl ?_
              refine lv_ladd hx hb dL_sum_102 ?_
              refine lv_aload_n hx hb dL_sum_103 rfl (lv_at hl 0 rfl) ?_
              refine lv_iload_n hx hb dL_sum_104 rfl (lv_at hl 2 rfl) ?_
              obtain ⟨o19, ho19, h⟩ := lt_i h
              refine xq_V (G := G) (v := (fun as => (some (.int o19.2)))) (As := [.int x3_60]) (rest := [.long ((((37 * x1_60) + ((1000 * o10.2).toInt64)) + ((50 * o13.2).toInt64)) + ((4 * o16.2).toInt64))]) (wc := [(z0, .inr (9, [.ref a0, .ref b0, .ref h0, .ref s0, .ref l0, .ref e0, .ref k0, .int u7, .int u8, .int u9])), (a0, .inr (8, [.ref a1])), (a1, .inr (6, [.ref a2])), (a2, .inl (cA 0, 61, .inl f))]) (wr := []) (w1 := (fun as => [(z0, .inr (9, [.ref a0, .ref b0, .ref h0, .ref s0, .ref l0, .ref e0, .ref k0, .int u7, .int u8, .int u9])), (a0, .inr (8, [.ref a1])), (a1, .inr (6, [.ref a2])), (a2, .inl (cA 0, 61, .inl f))])) (ws2 := (fun as => [(z0, .inr (9, [.ref a0, .ref b0, .ref h0, .ref s0, .ref l0, .ref e0, .ref k0, .int u7, .int u8, .int u9])), (a0, .inr (8, [.ref a1])), (a1, .inr (6, [.ref a2])), (a2, .inl (cA 0, 61, .inl f))])) (st1 := (fun as => [.int o19.2, .long ((((37 * x1_60) + ((1000 * o10.2).toInt64)) + ((50 * o13.2).toInt64)) + ((4 * o16.2).toInt64))])) ⟨hx, hb, hml, hfc, hts⟩ hK hP hD hS hA hEV (kX5_isHard l hst D cA G z0 a0 b0 h0 s0 l0 e0 k0 a1 a2 u7 u8 u9 f x3_60 ho19) (cwV 1 hts gL_sum_X5_isHard rfl rfl rfl (by decide +kernel) ⟨(Nat.le_of_ble_eq_true rfl), (Nat.le_of_ble_eq_true rfl)⟩) [0, 1, 2, 3] [] [0, 1, 2, 3] rfl rfl rfl rfl (by decide) (fun _ => rfl) rfl 0 9 rfl rfl rfl rfl (fun _ => rfl) rfl hl.1 (Nat.le_of_ble_eq_true rfl) dL_sum_105 ⟨(room_w (k := 4) hce1 (Nat.le_of_ble_eq_true rfl) (Nat.le_of_ble_eq_true rfl)), (room_w (k := 24) hse1 (Nat.le_of_ble_eq_true rfl) (Nat.le_of_ble_eq_true rfl))⟩ (fun c21 as20 H locs hP hD hS => ?_) (fun c21 as20 H locs q9 ce hP hD hS z1 z2 z3 => ?_)
              · have h := ite_t c21 h
                have hP : va_P D vwCl [(z0, .inr (9, [.ref a0, .ref b0, .ref h0, .ref s0, .ref l0, .ref e0, .ref k0, .int u7, .int u8, .int u9])), (a0, .inr (8, [.ref a1])), (a1, .inr (6, [.ref a2])), (a2, .inl (cA 0, 61, .inl f))] H := hP
                have hD : va_D A [(z0, .inr (9, [.ref a0, .ref b0, .ref h0, .ref s0, .ref l0, .ref e0, .ref k0, .int u7, .int u8, .int u9])), (a0, .inr (8, [.ref a1])), (a1, .inr (6, [.ref a2])), (a2, .inl (cA 0, 61, .inl f))] := hD
                refine W.cs (cells' := ce1 + 4) (slots' := se1 + 24) rfl rfl ?_
                obtain ⟨o23, ho23, h⟩ := lt_i h
                have ko23 : ∀ (ls : Array Slot) (H : Heap) (locs : List Loc), lv_has ls 4 [(0, .ref z0), (3, .int x3_60)] → va_P D vwCl [(z0, .inr (9, [.ref a0, .ref b0, .ref h0, .ref s0, .ref l0, .ref e0, .ref k0, .int u7, .int u8, .int u9])), (a0, .inr (8, [.ref a1])), (a1, .inr (6, [.ref a2])), (a2, .inl (cA 0, 61, .inl f))] H → va_D A [(z0, .inr (9, [.ref a0, .ref b0, .ref h0, .ref s0, .ref l0, .ref e0, .ref k0, .int u7, .int u8, .int u9])), (a0, .inr (8, [.ref a1])), (a1, .inr (6, [.ref a2])), (a2, .inl (cA 0, 61, .inl f))] → va_S A s.heap H locs → W p l e RM_L_sum s m args below meth c H locs (ce1 + 4) (se1 + 24) Q (F0 m 116 ls [.int o23, .long ((((37 * x1_60) + ((1000 * o10.2).toInt64)) + ((50 * o13.2).toInt64)) + ((4 * o16.2).toInt64))]) := by
                  intro ls H locs hl hP hD hS
                  refine lv_i2l (v := o23.toInt64) hx hb dL_sum_116 rfl ?_
                  refine lv_ladd hx hb dL_sum_117 ?_
                  refine lv_aload_n hx hb dL_sum_118 rfl (lv_at hl 0 rfl) ?_
                  refine lv_iload_n hx hb dL_sum_119 rfl (lv_at hl 1 rfl) ?_
                  obtain ⟨o24, ho24, h⟩ := lt_i h
                  refine xq_V (G := G) (v := (fun as => (some (.int o24.2)))) (As := [.int x3_60]) (rest := [.long (((((37 * x1_60) + ((1000 * o10.2).toInt64)) + ((50 * o13.2).toInt64)) + ((4 * o16.2).toInt64)) + o23.toInt64)]) (wc := [(z0, .inr (9, [.ref a0, .ref b0, .ref h0, .ref s0, .ref l0, .ref e0, .ref k0, .int u7, .int u8, .int u9])), (a0, .inr (8, [.ref a1])), (a1, .inr (6, [.ref a2])), (a2, .inl (cA 0, 61, .inl f))]) (wr := []) (w1 := (fun as => [(z0, .inr (9, [.ref a0, .ref b0, .ref h0, .ref s0, .ref l0, .ref e0, .ref k0, .int u7, .int u8, .int u9])), (a0, .inr (8, [.ref a1])), (a1, .inr (6, [.ref a2])), (a2, .inl (cA 0, 61, .inl f))])) (ws2 := (fun as => [(z0, .inr (9, [.ref a0, .ref b0, .ref h0, .ref s0, .ref l0, .ref e0, .ref k0, .int u7, .int u8, .int u9])), (a0, .inr (8, [.ref a1])), (a1, .inr (6, [.ref a2])), (a2, .inl (cA 0, 61, .inl f))])) (st1 := (fun as => [.int o24.2, .long (((((37 * x1_60) + ((1000 * o10.2).toInt64)) + ((50 * o13.2).toInt64)) + ((4 * o16.2).toInt64)) + o23.toInt64)])) ⟨hx, hb, hml, hfc, hts⟩ hK hP hD hS hA hEV (kX5_isSoft l hst D cA G z0 a0 b0 h0 s0 l0 e0 k0 a1 a2 u7 u8 u9 f x3_60 ho24) (cwV 1 hts gL_sum_X5_isSoft rfl rfl rfl (by decide +kernel) ⟨(Nat.le_of_ble_eq_true rfl), (Nat.le_of_ble_eq_true rfl)⟩) [0, 1, 2, 3] [] [0, 1, 2, 3] rfl rfl rfl rfl (by decide) (fun _ => rfl) rfl 0 9 rfl rfl rfl rfl (fun _ => rfl) rfl hl.1 (Nat.le_of_ble_eq_true rfl) dL_sum_120 ⟨(room_w (k := 5) hce1 (Nat.le_of_ble_eq_true rfl) (Nat.le_of_ble_eq_true rfl)), (room_w (k := 30) hse1 (Nat.le_of_ble_eq_true rfl) (Nat.le_of_ble_eq_true rfl))⟩ (fun c26 as25 H locs hP hD hS => ?_) (fun c26 as25 H locs q9 ce hP hD hS z1 z2 z3 => ?_)
                  · have h := ite_t c26 h
                    have hP : va_P D vwCl [(z0, .inr (9, [.ref a0, .ref b0, .ref h0, .ref s0, .ref l0, .ref e0, .ref k0, .int u7, .int u8, .int u9])), (a0, .inr (8, [.ref a1])), (a1, .inr (6, [.ref a2])), (a2, .inl (cA 0, 61, .inl f))] H := hP
                    have hD : va_D A [(z0, .inr (9, [.ref a0, .ref b0, .ref h0, .ref s0, .ref l0, .ref e0, .ref k0, .int u7, .int u8, .int u9])), (a0, .inr (8, [.ref a1])), (a1, .inr (6, [.ref a2])), (a2, .inl (cA 0, 61, .inl f))] := hD
                    refine W.cs (cells' := ce1 + 5) (slots' := se1 + 30) rfl rfl ?_
                    obtain ⟨o28, ho28, h⟩ := lt_i h
                    have ko28 : ∀ (ls : Array Slot) (H : Heap) (locs : List Loc), lv_has ls 4 [(0, .ref z0), (3, .int x3_60)] → va_P D vwCl [(z0, .inr (9, [.ref a0, .ref b0, .ref h0, .ref s0, .ref l0, .ref e0, .ref k0, .int u7, .int u8, .int u9])), (a0, .inr (8, [.ref a1])), (a1, .inr (6, [.ref a2])), (a2, .inl (cA 0, 61, .inl f))] H → va_D A [(z0, .inr (9, [.ref a0, .ref b0, .ref h0, .ref s0, .ref l0, .ref e0, .ref k0, .int u7, .int u8, .int u9])), (a0, .inr (8, [.ref a1])), (a1, .inr (6, [.ref a2])), (a2, .inl (cA 0, 61, .inl f))] → va_S A s.heap H locs → W p l e RM_L_sum s m args below meth c H locs (ce1 + 5) (se1 + 30) Q (F0 m 131 ls [.int o28, .long (((((37 * x1_60) + ((1000 * o10.2).toInt64)) + ((50 * o13.2).toInt64)) + ((4 * o16.2).toInt64)) + o23.toInt64)]) := by
                      intro ls H locs hl hP hD hS
                      refine lv_i2l (v := o28.toInt64) hx hb dL_sum_131 rfl ?_
                      refine lv_ladd hx hb dL_sum_132 ?_
                      refine lv_lstore_n hx hb dL_sum_133 rfl hl (Nat.le_of_ble_eq_true rfl) rfl (fun ls hl => ?_)
                      have hl : lv_has ls 4 [(1, .long ((((((37 * x1_60) + ((1000 * o10.2).toInt64)) + ((50 * o13.2).toInt64)) + ((4 * o16.2).toInt64)) + o23.toInt64) + o28.toInt64)), (0, .ref z0), (3, .int x3_60)] := hl
                      refine lv_iinc (k := 2) (v := x3_60 + 1) hx hb dL_sum_134 hl rfl (congrArg (fun z => x3_60 + z) lit1) (Nat.le_of_ble_eq_true rfl) rfl (fun ls hl => ?_)
                      have hl : lv_has ls 4 [(3, .int (x3_60 + 1)), (1, .long ((((((37 * x1_60) + ((1000 * o10.2).toInt64)) + ((50 * o13.2).toInt64)) + ((4 * o16.2).toInt64)) + o23.toInt64) + o28.toInt64)), (0, .ref z0)] := hl
                      refine lv_goto (tgt := 60) hx hb dL_sum_137 (by decide) ?_
                      exact ih ((((((37 * x1_60) + ((1000 * o10.2).toInt64)) + ((50 * o13.2).toInt64)) + ((4 * o16.2).toInt64)) + o23.toInt64) + o28.toInt64) (x3_60 + 1) _ _ (room_bk (k := 5) hce1 (Nat.le_of_ble_eq_true rfl)) (room_bk (k := 30) hse1 (Nat.le_of_ble_eq_true rfl)) _ _ _ (lv_sub hl [2, 1, 0] rfl) hP hD hS h
                    clear h
                    have h := ho28
                    clear ho28
                    refine lv_if_eq (tgt := 130) hx hb dL_sum_123 (by decide) (fun c27 => ?_) (fun c27 => ?_)
                    · have h := ite_t c27 h
                      refine lv_iconst (v := 0) hx hb dL_sum_130 (by decide) ?_
                      subst h
                      exact ko28 _ _ _ (lv_sub hl [0, 1] rfl) hP hD hS
                    · have h := ite_f c27 h
                      refine lv_iconst (v := 1) hx hb dL_sum_126 (by decide) ?_
                      refine lv_goto (tgt := 131) hx hb dL_sum_127 (by decide) ?_
                      subst h
                      exact ko28 _ _ _ (lv_sub hl [0, 1] rfl) hP hD hS
                  · have h := ite_f c26 h
                    have hP : va_P D vwCl [(z0, .inr (9, [.ref a0, .ref b0, .ref h0, .ref s0, .ref l0, .ref e0, .ref k0, .int u7, .int u8, .int u9])), (a0, .inr (8, [.ref a1])), (a1, .inr (6, [.ref a2])), (a2, .inl (cA 0, 61, .inl f))] H := hP
                    have hD : va_D A [(z0, .inr (9, [.ref a0, .ref b0, .ref h0, .ref s0, .ref l0, .ref e0, .ref k0, .int u7, .int u8, .int u9])), (a0, .inr (8, [.ref a1])), (a1, .inr (6, [.ref a2])), (a2, .inl (cA 0, 61, .inl f))] := hD
                    exact nn h
                clear h
                have h := ho23
                clear ho23
                refine lv_if_eq (tgt := 115) hx hb dL_sum_108 (by decide) (fun c22 => ?_) (fun c22 => ?_)
                · have h := ite_t c22 h
                  refine lv_iconst (v := 0) hx hb dL_sum_115 (by decide) ?_
                  subst h
                  exact ko23 _ _ _ (lv_sub hl [0, 2] rfl) hP hD hS
                · have h := ite_f c22 h
                  refine lv_iconst (v := 2) hx hb dL_sum_111 (by decide) ?_
                  refine lv_goto (tgt := 116) hx hb dL_sum_112 (by decide) ?_
                  subst h
                  exact ko23 _ _ _ (lv_sub hl [0, 2] rfl) hP hD hS
              · have h := ite_f c21 h
                have hP : va_P D vwCl [(z0, .inr (9, [.ref a0, .ref b0, .ref h0, .ref s0, .ref l0, .ref e0, .ref k0, .int u7, .int u8, .int u9])), (a0, .inr (8, [.ref a1])), (a1, .inr (6, [.ref a2])), (a2, .inl (cA 0, 61, .inl f))] H := hP
                have hD : va_D A [(z0, .inr (9, [.ref a0, .ref b0, .ref h0, .ref s0, .ref l0, .ref e0, .ref k0, .int u7, .int u8, .int u9])), (a0, .inr (8, [.ref a1])), (a1, .inr (6, [.ref a2])), (a2, .inl (cA 0, 61, .inl f))] := hD
                exact nn h
            · have h := ite_f c18 h
              have hP : va_P D vwCl [(z0, .inr (9, [.ref a0, .ref b0, .ref h0, .ref s0, .ref l0, .ref e0, .ref k0, .int u7, .int u8, .int u9])), (a0, .inr (8, [.ref a1])), (a1, .inr (6, [.ref a2])), (a2, .inl (cA 0, 61, .inl f))] H := hP
              have hD : va_D A [(z0, .inr (9, [.ref a0, .ref b0, .ref h0, .ref s0, .ref l0, .ref e0, .ref k0, .int u7, .int u8, .int u9])), (a0, .inr (8, [.ref a1])), (a1, .inr (6, [.ref a2])), (a2, .inl (cA 0, 61, .inl f))] := hD
              exact nn h
          · have h := ite_f c15 h
            have hP : va_P D vwCl [(z0, .inr (9, [.ref a0, .ref b0, .ref h0, .ref s0, .ref l0, .ref e0, .ref k0, .int u7, .int u8, .int u9])), (a0, .inr (8, [.ref a1])), (a1, .inr (6, [.ref a2])), (a2, .inl (cA 0, 61, .inl f))] H := hP
            have hD : va_D A [(z0, .inr (9, [.ref a0, .ref b0, .ref h0, .ref s0, .ref l0, .ref e0, .ref k0, .int u7, .int u8, .int u9])), (a0, .inr (8, [.ref a1])), (a1, .inr (6, [.ref a2])), (a2, .inl (cA 0, 61, .inl f))] := hD
            exact nn h
        · have h := ite_f c12 h
          have hP : va_P D vwCl [(z0, .inr (9, [.ref a0, .ref b0, .ref h0, .ref s0, .ref l0, .ref e0, .ref k0, .int u7, .int u8, .int u9])), (a0, .inr (8, [.ref a1])), (a1, .inr (6, [.ref a2])), (a2, .inl (cA 0, 61, .inl f))] H := hP
          have hD : va_D A [(z0, .inr (9, [.ref a0, .ref b0, .ref h0, .ref s0, .ref l0, .ref e0, .ref k0, .int u7, .int u8, .int u9])), (a0, .inr (8, [.ref a1])), (a1, .inr (6, [.ref a2])), (a2, .inl (cA 0, 61, .inl f))] := hD
          exact nn h
  refine hLL_sum_60 _ ?_ 7 ((31 * ((31 * ((31 * ((31 * (7 + ((SX5_time f).toInt64))) + ((SX5_baseLevel f).toInt64))) + ((SX5_flow f).toInt64))) + ((SX5_spilled f).toInt64))) + o5.toInt64) 0 1 6 (Nat.le_of_ble_eq_true rfl) (Nat.le_of_ble_eq_true rfl) _ _ _ (lv_sub hl [2, 1, 0] rfl) hP hD hS h
  intro o7 ls H locs hl hP hD hS h
  refine lv_iconst (v := 0) hx hb dL_sum_140 (by decide) ?_
  refine lv_istore_n hx hb dL_sum_141 rfl hl (Nat.le_of_ble_eq_true rfl) rfl (fun ls hl => ?_)
  have hl : lv_has ls 4 [(3, .int 0), (0, .ref z0), (1, .long o7)] := hl
  have hLL_sum_142 : ∀ (K : Int64 → Option (Int64)), (∀ (o29 : Int64) (ls : Array Slot) (H : Heap) (locs : List Loc), lv_has ls 4 [(0, .ref z0), (1, .long o29)] → va_P D vwCl [(z0, .inr (9, [.ref a0, .ref b0, .ref h0, .ref s0, .ref l0, .ref e0, .ref k0, .int u7, .int u8, .int u9])), (a0, .inr (8, [.ref a1])), (a1, .inr (6, [.ref a2])), (a2, .inl (cA 0, 61, .inl f))] H → va_D A [(z0, .inr (9, [.ref a0, .ref b0, .ref h0, .ref s0, .ref l0, .ref e0, .ref k0, .int u7, .int u8, .int u9])), (a0, .inr (8, [.ref a1])), (a1, .inr (6, [.ref a2])), (a2, .inl (cA 0, 61, .inl f))] → va_S A s.heap H locs → K o29 = some r → W p l e RM_L_sum s m args below meth c H locs 64 384 Q (F0 m 201 ls [])) → ∀ (fu : Nat) (x1_142 : Int64) (x3_142 : Int32) (ce1 se1 : Nat), ce1 + 4 * fu ≤ 64 → se1 + 24 * fu ≤ 384 → ∀ (ls : Array Slot) (H : Heap) (locs : List Loc), lv_has ls 4 [(0, .ref z0), (1, .long x1_142), (3, .int x3_142)] → va_P D vwCl [(z0, .inr (9, [.ref a0, .ref b0, .ref h0, .ref s0, .ref l0, .ref e0, .ref k0, .int u7, .int u8, .int u9])), (a0, .inr (8, [.ref a1])), (a1, .inr (6, [.ref a2])), (a2, .inl (cA 0, 61, .inl f))] H → va_D A [(z0, .inr (9, [.ref a0, .ref b0, .ref h0, .ref s0, .ref l0, .ref e0, .ref k0, .int u7, .int u8, .int u9])), (a0, .inr (8, [.ref a1])), (a1, .inr (6, [.ref a2])), (a2, .inl (cA 0, 61, .inl f))] → va_S A s.heap H locs → LL_sum_142 K f fu x1_142 x3_142 = some r → W p l e RM_L_sum s m args below meth c H locs ce1 se1 Q (F0 m 142 ls []) := by
    intro K hKk fu
    induction fu with
    | zero =>
      intro x1_142 x3_142 ce1 se1 hce1 hse1 ls H locs hl hP hD hS h
      rw [LL_sum_142] at h
      exact nn h
    | succ fu ih =>
      intro x1_142 x3_142 ce1 se1 hce1 hse1 ls H locs hl hP hD hS h
      rw [LL_sum_142] at h
      refine lv_iload_n hx hb dL_sum_142 rfl (lv_at hl 2 rfl) ?_
      refine lv_aload_n hx hb dL_sum_143 rfl (lv_at hl 0 rfl) ?_
      refine rq_V (v := (some (.int (SX5_towelCount f)))) (As := []) (rest := [.int x3_142]) (wc := [(z0, .inr (9, [.ref a0, .ref b0, .ref h0, .ref s0, .ref l0, .ref e0, .ref k0, .int u7, .int u8, .int u9])), (a0, .inr (8, [.ref a1])), (a1, .inr (6, [.ref a2])), (a2, .inl (cA 0, 61, .inl f))]) ⟨hx, hb, hml, hfc, hts⟩ hK hP (kX5_towelCount l D cA z0 a0 b0 h0 s0 l0 e0 k0 a1 a2 u7 u8 u9 f rfl) (cwV 0 hts gL_sum_X5_towelCount rfl rfl rfl (by decide +kernel) ⟨(Nat.le_of_ble_eq_true rfl), (Nat.le_of_ble_eq_true rfl)⟩) [0, 1, 2, 3] rfl 0 9 rfl rfl rfl rfl rfl rfl hl.1 (Nat.le_of_ble_eq_true rfl) dL_sum_144 ⟨(room_w (k := 0) hce1 (Nat.le_of_ble_eq_true rfl) (Nat.le_of_ble_eq_true rfl)), (room_w (k := 0) hse1 (Nat.le_of_ble_eq_true rfl) (Nat.le_of_ble_eq_true rfl))⟩ ?_
      refine lv_icmp_ge (tgt := 201) hx hb dL_sum_147 (by decide) (fun c31 => ?_) (fun c31 => ?_)
      · have h := ite_t c31 h
        refine W.widen (k := 64) (n := 384) (room_le (k := 0) hce1 (Nat.le_of_ble_eq_true rfl)) (room_le (k := 0) hse1 (Nat.le_of_ble_eq_true rfl)) ?_
        exact hKk x1_142 _ _ _ (lv_sub hl [0, 1] rfl) hP hD hS h
      · have h := ite_f c31 h
        refine lv_ldc2 (v := 41) hx hb hfc (hts (.constantLong RL 362 (41)) (List.mem_of_getElem? (i := 4) rfl)) dL_sum_150 ?_
        refine lv_lload_n hx hb dL_sum_153 rfl (lv_at hl 1 rfl) ?_
        refine lv_lmul hx hb dL_sum_154 ?_
        refine lv_sipush (v := 1000) hx hb dL_sum_155 (by decide) ?_
        refine lv_aload_n hx hb dL_sum_158 rfl (lv_at hl 0 rfl) ?_
        refine lv_iload_n hx hb dL_sum_159 rfl (lv_at hl 2 rfl) ?_
        obtain ⟨o32, ho32, h⟩ := lt_i h
        refine xq_V (G := G) (v := (fun as => (some (.int o32.2)))) (As := [.int x3_142]) (rest := [.int 1000, .long (41 * x1_142)]) (wc := [(z0, .inr (9, [.ref a0, .ref b0, .ref h0, .ref s0, .ref l0, .ref e0, .ref k0, .int u7, .int u8, .int u9])), (a0, .inr (8, [.ref a1])), (a1, .inr (6, [.ref a2])), (a2, .inl (cA 0, 61, .inl f))]) (wr := []) (w1 := (fun as => [(z0, .inr (9, [.ref a0, .ref b0, .ref h0, .ref s0, .ref l0, .ref e0, .ref k0, .int u7, .int u8, .int u9])), (a0, .inr (8, [.ref a1])), (a1, .inr (6, [.ref a2])), (a2, .inl (cA 0, 61, .inl f))])) (ws2 := (fun as => [(z0, .inr (9, [.ref a0, .ref b0, .ref h0, .ref s0, .ref l0, .ref e0, .ref k0, .int u7, .int u8, .int u9])), (a0, .inr (8, [.ref a1])), (a1, .inr (6, [.ref a2])), (a2, .inl (cA 0, 61, .inl f))])) (st1 := (fun as => [.int o32.2, .int 1000, .long (41 * x1_142)])) ⟨hx, hb, hml, hfc, hts⟩ hK hP hD hS hA hEV (kX5_shoreOf l hst D cA G z0 a0 b0 h0 s0 l0 e0 k0 a1 a2 u7 u8 u9 f x3_142 ho32) (cwV 1 hts gL_sum_X5_shoreOf rfl rfl rfl (by decide +kernel) ⟨(Nat.le_of_ble_eq_true rfl), (Nat.le_of_ble_eq_true rfl)⟩) [0, 1, 2, 3] [] [0, 1, 2, 3] rfl rfl rfl rfl (by decide) (fun _ => rfl) rfl 0 9 rfl rfl rfl rfl (fun _ => rfl) rfl hl.1 (Nat.le_of_ble_eq_true rfl) dL_sum_160 ⟨(room_w (k := 1) hce1 (Nat.le_of_ble_eq_true rfl) (Nat.le_of_ble_eq_true rfl)), (room_w (k := 6) hse1 (Nat.le_of_ble_eq_true rfl) (Nat.le_of_ble_eq_true rfl))⟩ (fun c34 as33 H locs hP hD hS => ?_) (fun c34 as33 H locs q9 ce hP hD hS z1 z2 z3 => ?_)
        · have h := ite_t c34 h
          have hP : va_P D vwCl [(z0, .inr (9, [.ref a0, .ref b0, .ref h0, .ref s0, .ref l0, .ref e0, .ref k0, .int u7, .int u8, .int u9])), (a0, .inr (8, [.ref a1])), (a1, .inr (6, [.ref a2])), (a2, .inl (cA 0, 61, .inl f))] H := hP
          have hD : va_D A [(z0, .inr (9, [.ref a0, .ref b0, .ref h0, .ref s0, .ref l0, .ref e0, .ref k0, .int u7, .int u8, .int u9])), (a0, .inr (8, [.ref a1])), (a1, .inr (6, [.ref a2])), (a2, .inl (cA 0, 61, .inl f))] := hD
          refine W.cs (cells' := ce1 + 1) (slots' := se1 + 6) rfl rfl ?_
          refine lv_imul hx hb dL_sum_163 ?_
          refine lv_i2l (v := (1000 * o32.2).toInt64) hx hb dL_sum_164 rfl ?_
          refine lv_ladd hx hb dL_sum_165 ?_
          refine lv_bipush (v := 10) hx hb dL_sum_166 (by decide) ?_
          refine lv_aload_n hx hb dL_sum_168 rfl (lv_at hl 0 rfl) ?_
          refine lv_iload_n hx hb dL_sum_169 rfl (lv_at hl 2 rfl) ?_
          obtain ⟨o35, ho35, h⟩ := lt_i h
          refine xq_V (G := G) (v := (fun as => (some (.int o35.2)))) (As := [.int x3_142]) (rest := [.int 10, .long ((41 * x1_142) + ((1000 * o32.2).toInt64))]) (wc := [(z0, .inr (9, [.ref a0, .ref b0, .ref h0, .ref s0, .ref l0, .ref e0, .ref k0, .int u7, .int u8, .int u9])), (a0, .inr (8, [.ref a1])), (a1, .inr (6, [.ref a2])), (a2, .inl (cA 0, 61, .inl f))]) (wr := []) (w1 := (fun as => [(z0, .inr (9, [.ref a0, .ref b0, .ref h0, .ref s0, .ref l0, .ref e0, .ref k0, .int u7, .int u8, .int u9])), (a0, .inr (8, [.ref a1])), (a1, .inr (6, [.ref a2])), (a2, .inl (cA 0, 61, .inl f))])) (ws2 := (fun as => [(z0, .inr (9, [.ref a0, .ref b0, .ref h0, .ref s0, .ref l0, .ref e0, .ref k0, .int u7, .int u8, .int u9])), (a0, .inr (8, [.ref a1])), (a1, .inr (6, [.ref a2])), (a2, .inl (cA 0, 61, .inl f))])) (st1 := (fun as => [.int o35.2, .int 10, .long ((41 * x1_142) + ((1000 * o32.2).toInt64))])) ⟨hx, hb, hml, hfc, hts⟩ hK hP hD hS hA hEV (kX5_heightOf l hst D cA G z0 a0 b0 h0 s0 l0 e0 k0 a1 a2 u7 u8 u9 f x3_142 ho35) (cwV 1 hts gL_sum_X5_heightOf rfl rfl rfl (by decide +kernel) ⟨(Nat.le_of_ble_eq_true rfl), (Nat.le_of_ble_eq_true rfl)⟩) [0, 1, 2, 3] [] [0, 1, 2, 3] rfl rfl rfl rfl (by decide) (fun _ => rfl) rfl 0 9 rfl rfl rfl rfl (fun _ => rfl) rfl hl.1 (Nat.le_of_ble_eq_true rfl) dL_sum_170 ⟨(room_w (k := 2) hce1 (Nat.le_of_ble_eq_true rfl) (Nat.le_of_ble_eq_true rfl)), (room_w (k := 12) hse1 (Nat.le_of_ble_eq_true rfl) (Nat.le_of_ble_eq_true rfl))⟩ (fun c37 as36 H locs hP hD hS => ?_) (fun c37 as36 H locs q9 ce hP hD hS z1 z2 z3 => ?_)
          · have h := ite_t c37 h
            have hP : va_P D vwCl [(z0, .inr (9, [.ref a0, .ref b0, .ref h0, .ref s0, .ref l0, .ref e0, .ref k0, .int u7, .int u8, .int u9])), (a0, .inr (8, [.ref a1])), (a1, .inr (6, [.ref a2])), (a2, .inl (cA 0, 61, .inl f))] H := hP
            have hD : va_D A [(z0, .inr (9, [.ref a0, .ref b0, .ref h0, .ref s0, .ref l0, .ref e0, .ref k0, .int u7, .int u8, .int u9])), (a0, .inr (8, [.ref a1])), (a1, .inr (6, [.ref a2])), (a2, .inl (cA 0, 61, .inl f))] := hD
            refine W.cs (cells' := ce1 + 2) (slots' := se1 + 12) rfl rfl ?_
            refine lv_imul hx hb dL_sum_173 ?_
            refine lv_i2l (v := (10 * o35.2).toInt64) hx hb dL_sum_174 rfl ?_
            refine lv_ladd hx hb dL_sum_175 ?_
            refine lv_aload_n hx hb dL_sum_176 rfl (lv_at hl 0 rfl) ?_
            refine lv_iload_n hx hb dL_sum_177 rfl (lv_at hl 2 rfl) ?_
            obtain ⟨o38, ho38, h⟩ := lt_i h
            refine xq_V (G := G) (v := (fun as => (some (.int o38.2)))) (As := [.int x3_142]) (rest := [.long (((41 * x1_142) + ((1000 * o32.2).toInt64)) + ((10 * o35.2).toInt64))]) (wc := [(z0, .inr (9, [.ref a0, .ref b0, .ref h0, .ref s0, .ref l0, .ref e0, .ref k0, .int u7, .int u8, .int u9])), (a0, .inr (8, [.ref a1])), (a1, .inr (6, [.ref a2])), (a2, .inl (cA 0, 61, .inl f))]) (wr := []) (w1 := (fun as => [(z0, .inr (9, [.ref a0, .ref b0, .ref h0, .ref s0, .ref l0, .ref e0, .ref k0, .int u7, .int u8, .int u9])), (a0, .inr (8, [.ref a1])), (a1, .inr (6, [.ref a2])), (a2, .inl (cA 0, 61, .inl f))])) (ws2 := (fun as => [(z0, .inr (9, [.ref a0, .ref b0, .ref h0, .ref s0, .ref l0, .ref e0, .ref k0, .int u7, .int u8, .int u9])), (a0, .inr (8, [.ref a1])), (a1, .inr (6, [.ref a2])), (a2, .inl (cA 0, 61, .inl f))])) (st1 := (fun as => [.int o38.2, .long (((41 * x1_142) + ((1000 * o32.2).toInt64)) + ((10 * o35.2).toInt64))])) ⟨hx, hb, hml, hfc, hts⟩ hK hP hD hS hA hEV (kX5_absorbedBy l hst D cA G z0 a0 b0 h0 s0 l0 e0 k0 a1 a2 u7 u8 u9 f x3_142 ho38) (cwV 1 hts gL_sum_X5_absorbedBy rfl rfl rfl (by decide +kernel) ⟨(Nat.le_of_ble_eq_true rfl), (Nat.le_of_ble_eq_true rfl)⟩) [0, 1, 2, 3] [] [0, 1, 2, 3] rfl rfl rfl rfl (by decide) (fun _ => rfl) rfl 0 9 rfl rfl rfl rfl (fun _ => rfl) rfl hl.1 (Nat.le_of_ble_eq_true rfl) dL_sum_178 ⟨(room_w (k := 3) hce1 (Nat.le_of_ble_eq_true rfl) (Nat.le_of_ble_eq_true rfl)), (room_w (k := 18) hse1 (Nat.le_of_ble_eq_true rfl) (Nat.le_of_ble_eq_true rfl))⟩ (fun c40 as39 H locs hP hD hS => ?_) (fun c40 as39 H locs q9 ce hP hD hS z1 z2 z3 => ?_)
            · have h := ite_t c40 h
              have hP : va_P D vwCl [(z0, .inr (9, [.ref a0, .ref b0, .ref h0, .ref s0, .ref l0, .ref e0, .ref k0, .int u7, .int u8, .int u9])), (a0, .inr (8, [.ref a1])), (a1, .inr (6, [.ref a2])), (a2, .inl (cA 0, 61, .inl f))] H := hP
              have hD : va_D A [(z0, .inr (9, [.ref a0, .ref b0, .ref h0, .ref s0, .ref l0, .ref e0, .ref k0, .int u7, .int u8, .int u9])), (a0, .inr (8, [.ref a1])), (a1, .inr (6, [.ref a2])), (a2, .inl (cA 0, 61, .inl f))] := hD
              refine W.cs (cells' := ce1 + 3) (slots' := se1 + 18) rfl rfl ?_
              refine lv_i2l (v := o38.2.toInt64) hx hb dL_sum_181 rfl ?_
              refine lv_ladd hx hb dL_sum_182 ?_
              refine lv_ldcw (v := 100000) hx hb hfc (hts (.constant RL 364 (100000)) (List.mem_of_getElem? (i := 5) rfl)) dL_sum_183 ?_
              refine lv_aload_n hx hb dL_sum_186 rfl (lv_at hl 0 rfl) ?_
              refine lv_iload_n hx hb dL_sum_187 rfl (lv_at hl 2 rfl) ?_
              obtain ⟨o41, ho41, h⟩ := lt_i h
              refine xq_V (G := G) (v := (fun as => (some (.int o41.2)))) (As := [.int x3_142]) (rest := [.int 100000, .long ((((41 * x1_142) + ((1000 * o32.2).toInt64)) + ((10 * o35.2).toInt64)) + o38.2.toInt64)]) (wc := [(z0, .inr (9, [.ref a0, .ref b0, .ref h0, .ref s0, .ref l0, .ref e0, .ref k0, .int u7, .int u8, .int u9])), (a0, .inr (8, [.ref a1])), (a1, .inr (6, [.ref a2])), (a2, .inl (cA 0, 61, .inl f))]) (wr := []) (w1 := (fun as => [(z0, .inr (9, [.ref a0, .ref b0, .ref h0, .ref s0, .ref l0, .ref e0, .ref k0, .int u7, .int u8, .int u9])), (a0, .inr (8, [.ref a1])), (a1, .inr (6, [.ref a2])), (a2, .inl (cA 0, 61, .inl f))])) (ws2 := (fun as => [(z0, .inr (9, [.ref a0, .ref b0, .ref h0, .ref s0, .ref l0, .ref e0, .ref k0, .int u7, .int u8, .int u9])), (a0, .inr (8, [.ref a1])), (a1, .inr (6, [.ref a2])), (a2, .inl (cA 0, 61, .inl f))])) (st1 := (fun as => [.int o41.2, .int 100000, .long ((((41 * x1_142) + ((1000 * o32.2).toInt64)) + ((10 * o35.2).toInt64)) + o38.2.toInt64)])) ⟨hx, hb, hml, hfc, hts⟩ hK hP hD hS hA hEV (kX5_floodsOf l hst D cA G z0 a0 b0 h0 s0 l0 e0 k0 a1 a2 u7 u8 u9 f x3_142 ho41) (cwV 1 hts gL_sum_X5_floodsOf rfl rfl rfl (by decide +kernel) ⟨(Nat.le_of_ble_eq_true rfl), (Nat.le_of_ble_eq_true rfl)⟩) [0, 1, 2, 3] [] [0, 1, 2, 3] rfl rfl rfl rfl (by decide) (fun _ => rfl) rfl 0 9 rfl rfl rfl rfl (fun _ => rfl) rfl hl.1 (Nat.le_of_ble_eq_true rfl) dL_sum_188 ⟨(room_w (k := 4) hce1 (Nat.le_of_ble_eq_true rfl) (Nat.le_of_ble_eq_true rfl)), (room_w (k := 24) hse1 (Nat.le_of_ble_eq_true rfl) (Nat.le_of_ble_eq_true rfl))⟩ (fun c43 as42 H locs hP hD hS => ?_) (fun c43 as42 H locs q9 ce hP hD hS z1 z2 z3 => ?_)
              · have h := ite_t c43 h
                have hP : va_P D vwCl [(z0, .inr (9, [.ref a0, .ref b0, .ref h0, .ref s0, .ref l0, .ref e0, .ref k0, .int u7, .int u8, .int u9])), (a0, .inr (8, [.ref a1])), (a1, .inr (6, [.ref a2])), (a2, .inl (cA 0, 61, .inl f))] H := hP
                have hD : va_D A [(z0, .inr (9, [.ref a0, .ref b0, .ref h0, .ref s0, .ref l0, .ref e0, .ref k0, .int u7, .int u8, .int u9])), (a0, .inr (8, [.ref a1])), (a1, .inr (6, [.ref a2])), (a2, .inl (cA 0, 61, .inl f))] := hD
                refine W.cs (cells' := ce1 + 4) (slots' := se1 + 24) rfl rfl ?_
                refine lv_imul hx hb dL_sum_191 ?_
                refine lv_i2l (v := (100000 * o41.2).toInt64) hx hb dL_sum_192 rfl ?_
                refine lv_ladd hx hb dL_sum_193 ?_
                refine lv_lstore_n hx hb dL_sum_194 rfl hl (Nat.le_of_ble_eq_true rfl) rfl (fun ls hl => ?_)
                have hl : lv_has ls 4 [(1, .long (((((41 * x1_142) + ((1000 * o32.2).toInt64)) + ((10 * o35.2).toInt64)) + o38.2.toInt64) + ((100000 * o41.2).toInt64))), (0, .ref z0), (3, .int x3_142)] := hl
                refine lv_iinc (k := 2) (v := x3_142 + 1) hx hb dL_sum_195 hl rfl (congrArg (fun z => x3_142 + z) lit1) (Nat.le_of_ble_eq_true rfl) rfl (fun ls hl => ?_)
                have hl : lv_has ls 4 [(3, .int (x3_142 + 1)), (1, .long (((((41 * x1_142) + ((1000 * o32.2).toInt64)) + ((10 * o35.2).toInt64)) + o38.2.toInt64) + ((100000 * o41.2).toInt64))), (0, .ref z0)] := hl
                refine lv_goto (tgt := 142) hx hb dL_sum_198 (by decide) ?_
                exact ih (((((41 * x1_142) + ((1000 * o32.2).toInt64)) + ((10 * o35.2).toInt64)) + o38.2.toInt64) + ((100000 * o41.2).toInt64)) (x3_142 + 1) _ _ (room_bk (k := 4) hce1 (Nat.le_of_ble_eq_true rfl)) (room_bk (k := 24) hse1 (Nat.le_of_ble_eq_true rfl)) _ _ _ (lv_sub hl [2, 1, 0] rfl) hP hD hS h
              · have h := ite_f c43 h
                have hP : va_P D vwCl [(z0, .inr (9, [.ref a0, .ref b0, .ref h0, .ref s0, .ref l0, .ref e0, .ref k0, .int u7, .int u8, .int u9])), (a0, .inr (8, [.ref a1])), (a1, .inr (6, [.ref a2])), (a2, .inl (cA 0, 61, .inl f))] H := hP
                have hD : va_D A [(z0, .inr (9, [.ref a0, .ref b0, .ref h0, .ref s0, .ref l0, .ref e0, .ref k0, .int u7, .int u8, .int u9])), (a0, .inr (8, [.ref a1])), (a1, .inr (6, [.ref a2])), (a2, .inl (cA 0, 61, .inl f))] := hD
                exact nn h
            · have h := ite_f c40 h
              have hP : va_P D vwCl [(z0, .inr (9, [.ref a0, .ref b0, .ref h0, .ref s0, .ref l0, .ref e0, .ref k0, .int u7, .int u8, .int u9])), (a0, .inr (8, [.ref a1])), (a1, .inr (6, [.ref a2])), (a2, .inl (cA 0, 61, .inl f))] H := hP
              have hD : va_D A [(z0, .inr (9, [.ref a0, .ref b0, .ref h0, .ref s0, .ref l0, .ref e0, .ref k0, .int u7, .int u8, .int u9])), (a0, .inr (8, [.ref a1])), (a1, .inr (6, [.ref a2])), (a2, .inl (cA 0, 61, .inl f))] := hD
              exact nn h
          · have h := ite_f c37 h
            have hP : va_P D vwCl [(z0, .inr (9, [.ref a0, .ref b0, .ref h0, .ref s0, .ref l0, .ref e0, .ref k0, .int u7, .int u8, .int u9])), (a0, .inr (8, [.ref a1])), (a1, .inr (6, [.ref a2])), (a2, .inl (cA 0, 61, .inl f))] H := hP
            have hD : va_D A [(z0, .inr (9, [.ref a0, .ref b0, .ref h0, .ref s0, .ref l0, .ref e0, .ref k0, .int u7, .int u8, .int u9])), (a0, .inr (8, [.ref a1])), (a1, .inr (6, [.ref a2])), (a2, .inl (cA 0, 61, .inl f))] := hD
            exact nn h
        · have h := ite_f c34 h
          have hP : va_P D vwCl [(z0, .inr (9, [.ref a0, .ref b0, .ref h0, .ref s0, .ref l0, .ref e0, .ref k0, .int u7, .int u8, .int u9])), (a0, .inr (8, [.ref a1])), (a1, .inr (6, [.ref a2])), (a2, .inl (cA 0, 61, .inl f))] H := hP
          have hD : va_D A [(z0, .inr (9, [.ref a0, .ref b0, .ref h0, .ref s0, .ref l0, .ref e0, .ref k0, .int u7, .int u8, .int u9])), (a0, .inr (8, [.ref a1])), (a1, .inr (6, [.ref a2])), (a2, .inl (cA 0, 61, .inl f))] := hD
          exact nn h
  refine hLL_sum_142 _ ?_ 7 o7 0 36 216 (Nat.le_of_ble_eq_true rfl) (Nat.le_of_ble_eq_true rfl) _ _ _ (lv_sub hl [1, 2, 0] rfl) hP hD hS h
  intro o29 ls H locs hl hP hD hS h
  refine lv_iconst (v := 0) hx hb dL_sum_201 (by decide) ?_
  refine lv_istore_n hx hb dL_sum_202 rfl hl (Nat.le_of_ble_eq_true rfl) rfl (fun ls hl => ?_)
  have hl : lv_has ls 4 [(3, .int 0), (0, .ref z0), (1, .long o29)] := hl
  have hLL_sum_203 : ∀ (K : Int64 → Option (Int64)), (∀ (o44 : Int64) (ls : Array Slot) (H : Heap) (locs : List Loc), lv_has ls 4 [(1, .long o44)] → va_P D vwCl [(z0, .inr (9, [.ref a0, .ref b0, .ref h0, .ref s0, .ref l0, .ref e0, .ref k0, .int u7, .int u8, .int u9])), (a0, .inr (8, [.ref a1])), (a1, .inr (6, [.ref a2])), (a2, .inl (cA 0, 61, .inl f))] H → va_D A [(z0, .inr (9, [.ref a0, .ref b0, .ref h0, .ref s0, .ref l0, .ref e0, .ref k0, .int u7, .int u8, .int u9])), (a0, .inr (8, [.ref a1])), (a1, .inr (6, [.ref a2])), (a2, .inl (cA 0, 61, .inl f))] → va_S A s.heap H locs → K o44 = some r → W p l e RM_L_sum s m args below meth c H locs 78 468 Q (F0 m 236 ls [])) → ∀ (fu : Nat) (x1_203 : Int64) (x3_203 : Int32) (ce1 se1 : Nat), ce1 + 1 * fu ≤ 78 → se1 + 6 * fu ≤ 468 → ∀ (ls : Array Slot) (H : Heap) (locs : List Loc), lv_has ls 4 [(0, .ref z0), (1, .long x1_203), (3, .int x3_203)] → va_P D vwCl [(z0, .inr (9, [.ref a0, .ref b0, .ref h0, .ref s0, .ref l0, .ref e0, .ref k0, .int u7, .int u8, .int u9])), (a0, .inr (8, [.ref a1])), (a1, .inr (6, [.ref a2])), (a2, .inl (cA 0, 61, .inl f))] H → va_D A [(z0, .inr (9, [.ref a0, .ref b0, .ref h0, .ref s0, .ref l0, .ref e0, .ref k0, .int u7, .int u8, .int u9])), (a0, .inr (8, [.ref a1])), (a1, .inr (6, [.ref a2])), (a2, .inl (cA 0, 61, .inl f))] → va_S A s.heap H locs → LL_sum_203 K f fu x1_203 x3_203 = some r → W p l e RM_L_sum s m args below meth c H locs ce1 se1 Q (F0 m 203 ls []) := by
    intro K hKk fu
    induction fu with
    | zero =>
      intro x1_203 x3_203 ce1 se1 hce1 hse1 ls H locs hl hP hD hS h
      rw [LL_sum_203] at h
      exact nn h
    | succ fu ih =>
      intro x1_203 x3_203 ce1 se1 hce1 hse1 ls H locs hl hP hD hS h
      rw [LL_sum_203] at h
      refine lv_iload_n hx hb dL_sum_203 rfl (lv_at hl 2 rfl) ?_
      refine lv_bipush (v := 12) hx hb dL_sum_204 (by decide) ?_
      refine lv_icmp_ge (tgt := 236) hx hb dL_sum_206 (by decide) (fun c45 => ?_) (fun c45 => ?_)
      · have h := ite_t c45 h
        refine W.widen (k := 78) (n := 468) (room_le (k := 0) hce1 (Nat.le_of_ble_eq_true rfl)) (room_le (k := 0) hse1 (Nat.le_of_ble_eq_true rfl)) ?_
        exact hKk x1_203 _ _ _ (lv_sub hl [1] rfl) hP hD hS h
      · have h := ite_f c45 h
        refine lv_ldc2 (v := 43) hx hb hfc (hts (.constantLong RL 365 (43)) (List.mem_of_getElem? (i := 6) rfl)) dL_sum_209 ?_
        refine lv_lload_n hx hb dL_sum_212 rfl (lv_at hl 1 rfl) ?_
        refine lv_lmul hx hb dL_sum_213 ?_
        refine lv_aload_n hx hb dL_sum_214 rfl (lv_at hl 0 rfl) ?_
        refine lv_iload_n hx hb dL_sum_215 rfl (lv_at hl 2 rfl) ?_
        obtain ⟨o46, ho46, h⟩ := bnd_i h
        refine xq_V (G := G) (v := (fun as => (some (.int o46.2)))) (As := [.int x3_203]) (rest := [.long (43 * x1_203)]) (wc := [(z0, .inr (9, [.ref a0, .ref b0, .ref h0, .ref s0, .ref l0, .ref e0, .ref k0, .int u7, .int u8, .int u9])), (a0, .inr (8, [.ref a1])), (a1, .inr (6, [.ref a2])), (a2, .inl (cA 0, 61, .inl f))]) (wr := []) (w1 := (fun as => [(z0, .inr (9, [.ref a0, .ref b0, .ref h0, .ref s0, .ref l0, .ref e0, .ref k0, .int u7, .int u8, .int u9])), (a0, .inr (8, [.ref a1])), (a1, .inr (6, [.ref a2])), (a2, .inl (cA 0, 61, .inl f))])) (ws2 := (fun as => [(z0, .inr (9, [.ref a0, .ref b0, .ref h0, .ref s0, .ref l0, .ref e0, .ref k0, .int u7, .int u8, .int u9])), (a0, .inr (8, [.ref a1])), (a1, .inr (6, [.ref a2])), (a2, .inl (cA 0, 61, .inl f))])) (st1 := (fun as => [.int o46.2, .long (43 * x1_203)])) ⟨hx, hb, hml, hfc, hts⟩ hK hP hD hS hA hEV (kX5_hasToe l hst D cA G z0 a0 b0 h0 s0 l0 e0 k0 a1 a2 u7 u8 u9 f x3_203 ho46) (cwV 1 hts gL_sum_X5_hasToe rfl rfl rfl (by decide +kernel) ⟨(Nat.le_of_ble_eq_true rfl), (Nat.le_of_ble_eq_true rfl)⟩) [0, 1, 2, 3] [] [0, 1, 2, 3] rfl rfl rfl rfl (by decide) (fun _ => rfl) rfl 0 9 rfl rfl rfl rfl (fun _ => rfl) rfl hl.1 (Nat.le_of_ble_eq_true rfl) dL_sum_216 ⟨(room_w (k := 1) hce1 (Nat.le_of_ble_eq_true rfl) (Nat.le_of_ble_eq_true rfl)), (room_w (k := 6) hse1 (Nat.le_of_ble_eq_true rfl) (Nat.le_of_ble_eq_true rfl))⟩ (fun c48 as47 H locs hP hD hS => ?_) (fun c48 as47 H locs q9 ce hP hD hS z1 z2 z3 => ?_)
        · have h := ite_t c48 h
          have hP : va_P D vwCl [(z0, .inr (9, [.ref a0, .ref b0, .ref h0, .ref s0, .ref l0, .ref e0, .ref k0, .int u7, .int u8, .int u9])), (a0, .inr (8, [.ref a1])), (a1, .inr (6, [.ref a2])), (a2, .inl (cA 0, 61, .inl f))] H := hP
          have hD : va_D A [(z0, .inr (9, [.ref a0, .ref b0, .ref h0, .ref s0, .ref l0, .ref e0, .ref k0, .int u7, .int u8, .int u9])), (a0, .inr (8, [.ref a1])), (a1, .inr (6, [.ref a2])), (a2, .inl (cA 0, 61, .inl f))] := hD
          refine W.cs (cells' := ce1 + 1) (slots' := se1 + 6) rfl rfl ?_
          obtain ⟨o50, ho50, h⟩ := lt_i h
          have ko50 : ∀ (ls : Array Slot) (H : Heap) (locs : List Loc), lv_has ls 4 [(0, .ref z0), (3, .int x3_203)] → va_P D vwCl [(z0, .inr (9, [.ref a0, .ref b0, .ref h0, .ref s0, .ref l0, .ref e0, .ref k0, .int u7, .int u8, .int u9])), (a0, .inr (8, [.ref a1])), (a1, .inr (6, [.ref a2])), (a2, .inl (cA 0, 61, .inl f))] H → va_D A [(z0, .inr (9, [.ref a0, .ref b0, .ref h0, .ref s0, .ref l0, .ref e0, .ref k0, .int u7, .int u8, .int u9])), (a0, .inr (8, [.ref a1])), (a1, .inr (6, [.ref a2])), (a2, .inl (cA 0, 61, .inl f))] → va_S A s.heap H locs → W p l e RM_L_sum s m args below meth c H locs (ce1 + 1) (se1 + 6) Q (F0 m 227 ls [.int o50, .long (43 * x1_203)]) := by
            intro ls H locs hl hP hD hS
            refine lv_i2l (v := o50.toInt64) hx hb dL_sum_227 rfl ?_
            refine lv_ladd hx hb dL_sum_228 ?_
            refine lv_lstore_n hx hb dL_sum_229 rfl hl (Nat.le_of_ble_eq_true rfl) rfl (fun ls hl => ?_)
            have hl : lv_has ls 4 [(1, .long ((43 * x1_203) + o50.toInt64)), (0, .ref z0), (3, .int x3_203)] := hl
            refine lv_iinc (k := 2) (v := x3_203 + 1) hx hb dL_sum_230 hl rfl (congrArg (fun z => x3_203 + z) lit1) (Nat.le_of_ble_eq_true rfl) rfl (fun ls hl => ?_)
            have hl : lv_has ls 4 [(3, .int (x3_203 + 1)), (1, .long ((43 * x1_203) + o50.toInt64)), (0, .ref z0)] := hl
            refine lv_goto (tgt := 203) hx hb dL_sum_233 (by decide) ?_
            exact ih ((43 * x1_203) + o50.toInt64) (x3_203 + 1) _ _ (room_bk (k := 1) hce1 (Nat.le_of_ble_eq_true rfl)) (room_bk (k := 6) hse1 (Nat.le_of_ble_eq_true rfl)) _ _ _ (lv_sub hl [2, 1, 0] rfl) hP hD hS h
          clear h
          have h := ho50
          clear ho50
          refine lv_if_eq (tgt := 226) hx hb dL_sum_219 (by decide) (fun c49 => ?_) (fun c49 => ?_)
          · have h := ite_t c49 h
            refine lv_iconst (v := 0) hx hb dL_sum_226 (by decide) ?_
            subst h
            exact ko50 _ _ _ (lv_sub hl [0, 2] rfl) hP hD hS
          · have h := ite_f c49 h
            refine lv_iconst (v := 1) hx hb dL_sum_222 (by decide) ?_
            refine lv_goto (tgt := 227) hx hb dL_sum_223 (by decide) ?_
            subst h
            exact ko50 _ _ _ (lv_sub hl [0, 2] rfl) hP hD hS
        · have h := ite_f c48 h
          have hP : va_P D vwCl [(z0, .inr (9, [.ref a0, .ref b0, .ref h0, .ref s0, .ref l0, .ref e0, .ref k0, .int u7, .int u8, .int u9])), (a0, .inr (8, [.ref a1])), (a1, .inr (6, [.ref a2])), (a2, .inl (cA 0, 61, .inl f))] H := hP
          have hD : va_D A [(z0, .inr (9, [.ref a0, .ref b0, .ref h0, .ref s0, .ref l0, .ref e0, .ref k0, .int u7, .int u8, .int u9])), (a0, .inr (8, [.ref a1])), (a1, .inr (6, [.ref a2])), (a2, .inl (cA 0, 61, .inl f))] := hD
          exact nn h
  refine hLL_sum_203 _ ?_ 14 o29 0 64 384 (Nat.le_of_ble_eq_true rfl) (Nat.le_of_ble_eq_true rfl) _ _ _ (lv_sub hl [1, 2, 0] rfl) hP hD hS h
  intro o44 ls H locs hl hP hD hS h
  refine lv_lload_n hx hb dL_sum_236 rfl (lv_at hl 0 rfl) ?_
  have h := Option.some.inj h
  subst h
  refine W.widen (k := 78) (n := 468) (Nat.le_of_ble_eq_true rfl) (Nat.le_of_ble_eq_true rfl) ?_
  exact hend (adr []) _ _ _ _ _ _ _ rfl rfl (rtn_l _) hP hD hS dL_sum_237
