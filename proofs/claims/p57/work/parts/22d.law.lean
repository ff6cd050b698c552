noncomputable def LL_met_15 (K : Int32 → Option (Unit)) (f : Nat → Int32) (x3_7 : Int32) (mn : Nat) (mv : Nat → Nat → Int32) : Nat → Int32 → Option (Unit)
  | 0, _ => none
  | fu + 1, x4_15 => bnd (SL_plugPosition f) (fun o5 : Int32 => if o5 < 0 then (K x4_15) else (gd (vp_in x3_7 5) (gd ((Int32.toNatClampNeg x3_7) < mn) (bnd (SL_isDark f (mv (Int32.toNatClampNeg x3_7)) x4_15) (fun o10 : Int32 => if o10 = 0 then (LL_met_15 K f x3_7 mn mv fu (x4_15 + 1)) else (K x4_15))))))
noncomputable def LL_met_82 (K : Int32 → Option (Unit)) (x3_7 : Int32) (mn : Nat) (f : Nat → Int32) (mv : Nat → Nat → Int32) (x5_67 : Int32) : Nat → Int32 → Int32 → Option (Unit)
  | 0, _, _ => none
  | fu + 1, x6_82, x7_82 => if x7_82 < 0 then (K x6_82) else (gd (vp_in x3_7 5) (gd ((Int32.toNatClampNeg x3_7) < mn) (bnd (SL_placeIn f (mv (Int32.toNatClampNeg x3_7)) x7_82) (fun o26 : Int32 => gd (vp_in x5_67 5) (gd ((Int32.toNatClampNeg x5_67) < mn) (bnd (SL_placeIn f (mv (Int32.toNatClampNeg x5_67)) x7_82) (fun o30 : Int32 => lt_ (if o26 = o30 then (x7_82) else (x6_82)) (fun o33 : Int32 => LL_met_82 K x3_7 mn f mv x5_67 fu o33 (x7_82 + (-1))))))))))
noncomputable def LL_met_67 (K : Unit → Option (Unit)) (N : Nat) (f : Nat → Int32) (x3_7 : Int32) (mn : Nat) (mv : Nat → Nat → Int32) : Nat → Int32 → Option (Unit)
  | 0, _ => none
  | fu + 1, x5_67 => if (SX5_moonCount f) ≤ x5_67 then (K ()) else (LL_met_82 (fun o22 : Int32 => bnd (SL_conjunctionIn N f x3_7 x5_67) (fun o34 : Int32 => if o34 = o22 then (bnd (SL_conjunctionByMoves N f x3_7 x5_67) (fun o37 : Int32 => if o37 = o22 then (LL_met_67 K N f x3_7 mn mv fu (x5_67 + 1)) else (none))) else (none))) x3_7 mn f mv x5_67 2003 (-13) 2000)
noncomputable def LL_met_7 (K : Unit → Option (Unit)) (N : Nat) (f : Nat → Int32) (mn : Nat) (mv : Nat → Nat → Int32) : Nat → Int32 → Option (Unit)
  | 0, _ => none
  | fu + 1, x3_7 => if (SX5_moonCount f) ≤ x3_7 then (K ()) else (LL_met_15 (fun o4 : Int32 => bnd (SL_eclipseIn f x3_7) (fun o13 : Int32 => bnd (SL_plugPosition f) (fun o15 : Int32 => lt_ (if 0 ≤ o15 then (o4) else ((-13))) (fun o18 : Int32 => if o13 = o18 then (LL_met_67 (fun o20 : Unit => LL_met_7 K N f mn mv fu (x3_7 + 1)) N f x3_7 mn mv 7 0) else (none))))) f x3_7 mn mv 150 0)
noncomputable def SL_met (N : Nat) (f : Nat → Int32) (mn : Nat) (mv : Nat → Nat → Int32) : Option (Unit) := LL_met_7 (fun o2 : Unit => bnd (SL_eclipseIn f (SX5_moonCount f)) (fun o40 : Int32 => if o40 = (-11) then (bnd (SL_conjunctionIn N f 0 (SX5_moonCount f)) (fun o43 : Int32 => if o43 = (-11) then (bnd (SL_conjunctionByMoves N f (-1) 0) (fun o46 : Int32 => if o46 = (-11) then (some (())) else (none))) else (none))) else (none))) N f mn mv 7 0
abbrev RM_L_met : Room := { frames := 10, cells := 2423, slots := 14538, locals := 166 }
set_option maxRecDepth 20000 in
set_option maxHeartbeats 4000000 in
theorem kL_met (l : Launch) (hst : l.stackTraces = false) (D : va_G) (cA : Nat → ClassId) (G : eG) (z0 a0 b0 h0 s0 l0 e0 k0 a1 a2 mo : Nat) (N : Nat) (u7 : Int32) (u8 : Int32) (u9 : Int32) (f : Nat → Int32) (mn : Nat) (mr : Nat → Nat) (mv : Nat → Nat → Int32) {r : Unit} (hr : SL_met N f mn mv = some r) {sz : Nat} : Met l yL_met wsL_met RM_L_met (va_Pc [.ref z0, .ref mo] (gqTB G (moonT mo mn mr mv) D cA [(z0, .inr (9, [.ref a0, .ref b0, .ref h0, .ref s0, .ref l0, .ref e0, .ref k0, .int u7, .int u8, .int u9])), (a0, .inr (8, [.ref a1])), (a1, .inr (6, [.ref a2])), (a2, .inl (cA 0, 61, .inl f))] sz)) (gqQ D (fun as => (some (.int 1))) (fun as => [(z0, .inr (9, [.ref a0, .ref b0, .ref h0, .ref s0, .ref l0, .ref e0, .ref k0, .int u7, .int u8, .int u9])), (a0, .inr (8, [.ref a1])), (a1, .inr (6, [.ref a2])), (a2, .inl (cA 0, 61, .inl f))]) (va_A [(z0, .inr (9, [.ref a0, .ref b0, .ref h0, .ref s0, .ref l0, .ref e0, .ref k0, .int u7, .int u8, .int u9])), (a0, .inr (8, [.ref a1])), (a1, .inr (6, [.ref a2])), (a2, .inl (cA 0, 61, .inl f))] sz)) 2423 14538 (va_A [(z0, .inr (9, [.ref a0, .ref b0, .ref h0, .ref s0, .ref l0, .ref e0, .ref k0, .int u7, .int u8, .int u9])), (a0, .inr (8, [.ref a1])), (a1, .inr (6, [.ref a2])), (a2, .inl (cA 0, 61, .inl f))] sz) := by
  refine gqT_ofW (cc := cL_met) (maxL := 8) (ret := (some .boolean)) (by decide) rfl (Nat.le_of_ble_eq_true rfl) (fun p e s m args below meth c ls Q A hx hb hml hts hfc hK hP hD hS hA hEV hL9 hTX hAX hN hl hend => ?_)
  have hfc : s.vm.findClass RL = some m.cls := hfc
  have hl : lv_has ls 8 [(0, .ref z0), (1, .ref mo)] := hl
  have h := hr
  clear hr
  unfold SL_met at h
  refine lv_aload_n hx hb dL_met_0 rfl (lv_at hl 0 rfl) ?_
  refine rq_V (v := (some (.int (SX5_moonCount f)))) (As := []) (rest := []) (wc := [(z0, .inr (9, [.ref a0, .ref b0, .ref h0, .ref s0, .ref l0, .ref e0, .ref k0, .int u7, .int u8, .int u9])), (a0, .inr (8, [.ref a1])), (a1, .inr (6, [.ref a2])), (a2, .inl (cA 0, 61, .inl f))]) ⟨hx, hb, hml, hfc, hts⟩ hK hP (kX5_moonCount l D cA z0 a0 b0 h0 s0 l0 e0 k0 a1 a2 u7 u8 u9 f rfl) (cwV 0 hts gL_met_X5_moonCount rfl rfl rfl (by decide +kernel) ⟨(Nat.le_of_ble_eq_true rfl), (Nat.le_of_ble_eq_true rfl)⟩) [0, 1, 2, 3] rfl 0 9 rfl rfl rfl rfl rfl rfl hl.1 (Nat.le_of_ble_eq_true rfl) dL_met_1 ⟨(Nat.zero_le _), (Nat.zero_le _)⟩ ?_
  refine lv_istore_n hx hb dL_met_4 rfl hl (Nat.le_of_ble_eq_true rfl) rfl (fun ls hl => ?_)
  have hl : lv_has ls 8 [(2, .int (SX5_moonCount f)), (0, .ref z0), (1, .ref mo)] := hl
  refine lv_iconst (v := 0) hx hb dL_met_5 (by decide) ?_
  refine lv_istore_n hx hb dL_met_6 rfl hl (Nat.le_of_ble_eq_true rfl) rfl (fun ls hl => ?_)
  have hl : lv_has ls 8 [(3, .int 0), (2, .int (SX5_moonCount f)), (0, .ref z0), (1, .ref mo)] := hl
  have hLL_met_7 : ∀ (K : Unit → Option (Unit)), (∀ (o2 : Unit) (ls : Array Slot) (H : Heap) (locs : List Loc), lv_has ls 8 [(0, .ref z0), (2, .int (SX5_moonCount f))] → va_P D vwCl [(z0, .inr (9, [.ref a0, .ref b0, .ref h0, .ref s0, .ref l0, .ref e0, .ref k0, .int u7, .int u8, .int u9])), (a0, .inr (8, [.ref a1])), (a1, .inr (6, [.ref a2])), (a2, .inl (cA 0, 61, .inl f))] H → va_D A [(z0, .inr (9, [.ref a0, .ref b0, .ref h0, .ref s0, .ref l0, .ref e0, .ref k0, .int u7, .int u8, .int u9])), (a0, .inr (8, [.ref a1])), (a1, .inr (6, [.ref a2])), (a2, .inl (cA 0, 61, .inl f))] → va_S A s.heap H locs → K o2 = some r → W p l e RM_L_met s m args below meth c H locs 2415 14490 Q (F0 m 162 ls [])) → ∀ (fu : Nat) (x3_7 : Int32) (ce1 se1 : Nat), ce1 + 345 * fu ≤ 2415 → se1 + 2070 * fu ≤ 14490 → ∀ (ls : Array Slot) (H : Heap) (locs : List Loc), lv_has ls 8 [(0, .ref z0), (1, .ref mo), (2, .int (SX5_moonCount f)), (3, .int x3_7)] → va_P D vwCl [(z0, .inr (9, [.ref a0, .ref b0, .ref h0, .ref s0, .ref l0, .ref e0, .ref k0, .int u7, .int u8, .int u9])), (a0, .inr (8, [.ref a1])), (a1, .inr (6, [.ref a2])), (a2, .inl (cA 0, 61, .inl f))] H → va_D A [(z0, .inr (9, [.ref a0, .ref b0, .ref h0, .ref s0, .ref l0, .ref e0, .ref k0, .int u7, .int u8, .int u9])), (a0, .inr (8, [.ref a1])), (a1, .inr (6, [.ref a2])), (a2, .inl (cA 0, 61, .inl f))] → va_S A s.heap H locs → LL_met_7 K N f mn mv fu x3_7 = some r → W p l e RM_L_met s m args below meth c H locs ce1 se1 Q (F0 m 7 ls []) := by
    intro K hKk fu
    induction fu with
    | zero =>
      intro x3_7 ce1 se1 hce1 hse1 ls H locs hl hP hD hS h
      rw [LL_met_7] at h
      exact nn h
    | succ fu ih =>
      intro x3_7 ce1 se1 hce1 hse1 ls H locs hl hP hD hS h
      rw [LL_met_7] at h
      refine lv_iload_n hx hb dL_met_7 rfl (lv_at hl 3 rfl) ?_
      refine lv_iload_n hx hb dL_met_8 rfl (lv_at hl 2 rfl) ?_
      refine lv_icmp_ge (tgt := 162) hx hb dL_met_9 (by decide) (fun c3 => ?_) (fun c3 => ?_)
      · have h := ite_t c3 h
        refine W.widen (k := 2415) (n := 14490) (room_le (k := 0) hce1 (Nat.le_of_ble_eq_true rfl)) (room_le (k := 0) hse1 (Nat.le_of_ble_eq_true rfl)) ?_
        exact hKk () _ _ _ (lv_sub hl [0, 2] rfl) hP hD hS h
      · have h := ite_f c3 h
        refine lv_iconst (v := 0) hx hb dL_met_12 (by decide) ?_
        refine lv_istore hx hb dL_met_13 hl (Nat.le_of_ble_eq_true rfl) rfl (fun ls hl => ?_)
        have hl : lv_has ls 8 [(4, .int 0), (0, .ref z0), (1, .ref mo), (2, .int (SX5_moonCount f)), (3, .int x3_7)] := hl
        have hLL_met_15 : ∀ (K : Int32 → Option (Unit)), (∀ (o4 : Int32) (ls : Array Slot) (H : Heap) (locs : List Loc), lv_has ls 8 [(0, .ref z0), (1, .ref mo), (2, .int (SX5_moonCount f)), (3, .int x3_7), (4, .int o4)] → va_P D vwCl [(z0, .inr (9, [.ref a0, .ref b0, .ref h0, .ref s0, .ref l0, .ref e0, .ref k0, .int u7, .int u8, .int u9])), (a0, .inr (8, [.ref a1])), (a1, .inr (6, [.ref a2])), (a2, .inl (cA 0, 61, .inl f))] H → va_D A [(z0, .inr (9, [.ref a0, .ref b0, .ref h0, .ref s0, .ref l0, .ref e0, .ref k0, .int u7, .int u8, .int u9])), (a0, .inr (8, [.ref a1])), (a1, .inr (6, [.ref a2])), (a2, .inl (cA 0, 61, .inl f))] → va_S A s.heap H locs → K o4 = some r → W p l e RM_L_met s m args below meth c H locs (ce1 + 300) (se1 + 1800) Q (F0 m 40 ls [])) → ∀ (fu : Nat) (x4_15 : Int32) (ce2 se2 : Nat), ce2 + 2 * fu ≤ ce1 + 300 → se2 + 12 * fu ≤ se1 + 1800 → ∀ (ls : Array Slot) (H : Heap) (locs : List Loc), lv_has ls 8 [(0, .ref z0), (1, .ref mo), (2, .int (SX5_moonCount f)), (3, .int x3_7), (4, .int x4_15)] → va_P D vwCl [(z0, .inr (9, [.ref a0, .ref b0, .ref h0, .ref s0, .ref l0, .ref e0, .ref k0, .int u7, .int u8, .int u9])), (a0, .inr (8, [.ref a1])), (a1, .inr (6, [.ref a2])), (a2, .inl (cA 0, 61, .inl f))] H → va_D A [(z0, .inr (9, [.ref a0, .ref b0, .ref h0, .ref s0, .ref l0, .ref e0, .ref k0, .int u7, .int u8, .int u9])), (a0, .inr (8, [.ref a1])), (a1, .inr (6, [.ref a2])), (a2, .inl (cA 0, 61, .inl f))] → va_S A s.heap H locs → LL_met_15 K f x3_7 mn mv fu x4_15 = some r → W p l e RM_L_met s m args below meth c H locs ce2 se2 Q (F0 m 15 ls []) := by
          intro K hKk fu
          induction fu with
          | zero =>
            intro x4_15 ce2 se2 hce2 hse2 ls H locs hl hP hD hS h
            rw [LL_met_15] at h
            exact nn h
          | succ fu ih =>
            intro x4_15 ce2 se2 hce2 hse2 ls H locs hl hP hD hS h
            rw [LL_met_15] at h
            refine lv_aload_n hx hb dL_met_15 rfl (lv_at hl 0 rfl) ?_
            obtain ⟨o5, ho5, h⟩ := bnd_i h
            refine gqL_S (G := G) (v := (fun as => (some (.int o5)))) (As := [.ref z0]) (rest := []) (wc := [(z0, .inr (9, [.ref a0, .ref b0, .ref h0, .ref s0, .ref l0, .ref e0, .ref k0, .int u7, .int u8, .int u9])), (a0, .inr (8, [.ref a1])), (a1, .inr (6, [.ref a2])), (a2, .inl (cA 0, 61, .inl f))]) (wr := []) (w1 := (fun as => [(z0, .inr (9, [.ref a0, .ref b0, .ref h0, .ref s0, .ref l0, .ref e0, .ref k0, .int u7, .int u8, .int u9])), (a0, .inr (8, [.ref a1])), (a1, .inr (6, [.ref a2])), (a2, .inl (cA 0, 61, .inl f))])) (ws2 := (fun as => [(z0, .inr (9, [.ref a0, .ref b0, .ref h0, .ref s0, .ref l0, .ref e0, .ref k0, .int u7, .int u8, .int u9])), (a0, .inr (8, [.ref a1])), (a1, .inr (6, [.ref a2])), (a2, .inl (cA 0, 61, .inl f))])) (st1 := (fun as => [.int o5])) ⟨hx, hb, hml, hfc, hts⟩ hK hP hD hS hA hEV hL9 (kL_plugPosition l hst D cA G z0 a0 b0 h0 s0 l0 e0 k0 a1 a2 u7 u8 u9 f ho5) (vx_cwSW 1 hts gL_met_L_plugPosition rfl rfl rfl (by decide +kernel) ⟨(Nat.le_of_ble_eq_true rfl), (Nat.le_of_ble_eq_true rfl)⟩) [0, 1, 2, 3] [] [0, 1, 2, 3] rfl rfl rfl rfl (by decide) (fun _ => rfl) rfl rfl (fun _ => rfl) rfl hl.1 (Nat.le_of_ble_eq_true rfl) dL_met_16 ⟨(room_w (k := 1) hce2 (Nat.le_of_ble_eq_true rfl) (room_w (k := 300) hce1 (Nat.le_of_ble_eq_true rfl) (Nat.le_of_ble_eq_true rfl))), (room_w (k := 6) hse2 (Nat.le_of_ble_eq_true rfl) (room_w (k := 1800) hse1 (Nat.le_of_ble_eq_true rfl) (Nat.le_of_ble_eq_true rfl)))⟩ (fun as6 H locs hP hD hS => ?_)
            have hP : va_P D vwCl [(z0, .inr (9, [.ref a0, .ref b0, .ref h0, .ref s0, .ref l0, .ref e0, .ref k0, .int u7, .int u8, .int u9])), (a0, .inr (8, [.ref a1])), (a1, .inr (6, [.ref a2])), (a2, .inl (cA 0, 61, .inl f))] H := hP
            have hD : va_D A [(z0, .inr (9, [.ref a0, .ref b0, .ref h0, .ref s0, .ref l0, .ref e0, .ref k0, .int u7, .int u8, .int u9])), (a0, .inr (8, [.ref a1])), (a1, .inr (6, [.ref a2])), (a2, .inl (cA 0, 61, .inl f))] := hD
            refine W.cs (cells' := ce2 + 1) (slots' := se2 + 6) rfl rfl ?_
            refine lv_if_lt (tgt := 40) hx hb dL_met_19 (by decide) (fun c7 => ?_) (fun c7 => ?_)
            · have h := ite_t c7 h
              refine W.widen (k := ce1 + 300) (n := se1 + 1800) (room_le (k := 1) hce2 (Nat.le_of_ble_eq_true rfl)) (room_le (k := 6) hse2 (Nat.le_of_ble_eq_true rfl)) ?_
              exact hKk x4_15 _ _ _ (lv_sub hl [0, 1, 2, 3, 4] rfl) hP hD hS h
            · have h := ite_f c7 h
              refine lv_aload_n hx hb dL_met_22 rfl (lv_at hl 0 rfl) ?_
              refine lv_aload_n hx hb dL_met_23 rfl (lv_at hl 1 rfl) ?_
              refine lv_iload_n hx hb dL_met_24 rfl (lv_at hl 3 rfl) ?_
              obtain ⟨g8, h⟩ := gd_i h
              obtain ⟨g9, h⟩ := gd_i h
              refine va_ta hx hb (moon_arr hTX) hS g8 (v := .ref (mr (Int32.toNatClampNeg x3_7))) (moon_v g9) dL_met_25 ?_
              refine lv_iload hx hb dL_met_26 (lv_at hl 4 rfl) ?_
              obtain ⟨o10, ho10, h⟩ := bnd_i h
              refine gqT_S (G := G) (ts := (rowT (mr (Int32.toNatClampNeg x3_7)) (mv (Int32.toNatClampNeg x3_7)))) (v := (fun as => (some (.int o10)))) (As := [.ref z0, .ref (mr (Int32.toNatClampNeg x3_7)), .int x4_15]) (rest := []) (wc := [(z0, .inr (9, [.ref a0, .ref b0, .ref h0, .ref s0, .ref l0, .ref e0, .ref k0, .int u7, .int u8, .int u9])), (a0, .inr (8, [.ref a1])), (a1, .inr (6, [.ref a2])), (a2, .inl (cA 0, 61, .inl f))]) (wr := []) (w1 := (fun as => [(z0, .inr (9, [.ref a0, .ref b0, .ref h0, .ref s0, .ref l0, .ref e0, .ref k0, .int u7, .int u8, .int u9])), (a0, .inr (8, [.ref a1])), (a1, .inr (6, [.ref a2])), (a2, .inl (cA 0, 61, .inl f))])) (ws2 := (fun as => [(z0, .inr (9, [.ref a0, .ref b0, .ref h0, .ref s0, .ref l0, .ref e0, .ref k0, .int u7, .int u8, .int u9])), (a0, .inr (8, [.ref a1])), (a1, .inr (6, [.ref a2])), (a2, .inl (cA 0, 61, .inl f))])) (st1 := (fun as => [.int o10])) ⟨hx, hb, hml, hfc, hts⟩ hK hP hD hS hA hEV hL9 (tX.to hTX hD hS hA [0, 1, 2, 3] rfl (row_in g9)) hAX hN (kL_isDark l hst D cA G z0 a0 b0 h0 s0 l0 e0 k0 a1 a2 (mr (Int32.toNatClampNeg x3_7)) u7 u8 u9 f (mv (Int32.toNatClampNeg x3_7)) x4_15 ho10) (va_cwS 3 hts gL_met_L_isDark rfl rfl rfl (by decide +kernel) ⟨(Nat.le_of_ble_eq_true rfl), (Nat.le_of_ble_eq_true rfl)⟩) [0, 1, 2, 3] [] [0, 1, 2, 3] rfl rfl rfl rfl (by decide) (fun _ => rfl) rfl rfl (fun _ => rfl) rfl hl.1 (Nat.le_of_ble_eq_true rfl) dL_met_28 ⟨(room_w (k := 2) hce2 (Nat.le_of_ble_eq_true rfl) (room_w (k := 300) hce1 (Nat.le_of_ble_eq_true rfl) (Nat.le_of_ble_eq_true rfl))), (room_w (k := 12) hse2 (Nat.le_of_ble_eq_true rfl) (room_w (k := 1800) hse1 (Nat.le_of_ble_eq_true rfl) (Nat.le_of_ble_eq_true rfl)))⟩ (fun as11 H locs hP hD hS => ?_)
              have hP : va_P D vwCl [(z0, .inr (9, [.ref a0, .ref b0, .ref h0, .ref s0, .ref l0, .ref e0, .ref k0, .int u7, .int u8, .int u9])), (a0, .inr (8, [.ref a1])), (a1, .inr (6, [.ref a2])), (a2, .inl (cA 0, 61, .inl f))] H := hP
              have hD : va_D A [(z0, .inr (9, [.ref a0, .ref b0, .ref h0, .ref s0, .ref l0, .ref e0, .ref k0, .int u7, .int u8, .int u9])), (a0, .inr (8, [.ref a1])), (a1, .inr (6, [.ref a2])), (a2, .inl (cA 0, 61, .inl f))] := hD
              refine W.cs (cells' := ce2 + 2) (slots' := se2 + 12) rfl rfl ?_
              refine lv_if_ne (tgt := 40) hx hb dL_met_31 (by decide) (fun c12 => ?_) (fun c12 => ?_)
              · have h := ite_f c12 h
                refine W.widen (k := ce1 + 300) (n := se1 + 1800) (room_le (k := 2) hce2 (Nat.le_of_ble_eq_true rfl)) (room_le (k := 12) hse2 (Nat.le_of_ble_eq_true rfl)) ?_
                exact hKk x4_15 _ _ _ (lv_sub hl [0, 1, 2, 3, 4] rfl) hP hD hS h
              · have h := ite_t c12 h
                refine lv_iinc (k := 4) (v := x4_15 + 1) hx hb dL_met_34 hl rfl (congrArg (fun z => x4_15 + z) lit1) (Nat.le_of_ble_eq_true rfl) rfl (fun ls hl => ?_)
                have hl : lv_has ls 8 [(4, .int (x4_15 + 1)), (0, .ref z0), (1, .ref mo), (2, .int (SX5_moonCount f)), (3, .int x3_7)] := hl
                refine lv_goto (tgt := 15) hx hb dL_met_37 (by decide) ?_
                exact ih (x4_15 + 1) _ _ (room_bk (k := 2) hce2 (Nat.le_of_ble_eq_true rfl)) (room_bk (k := 12) hse2 (Nat.le_of_ble_eq_true rfl)) _ _ _ (lv_sub hl [1, 2, 3, 4, 0] rfl) hP hD hS h
        refine hLL_met_15 _ ?_ 150 0 ce1 se1 (room_n0 ce1 (p := 2 * 150) (t := 300) rfl) (room_n0 se1 (p := 12 * 150) (t := 1800) rfl) _ _ _ (lv_sub hl [1, 2, 3, 4, 0] rfl) hP hD hS h
        intro o4 ls H locs hl hP hD hS h
        refine lv_aload_n hx hb dL_met_40 rfl (lv_at hl 0 rfl) ?_
        refine lv_iload_n hx hb dL_met_41 rfl (lv_at hl 3 rfl) ?_
        obtain ⟨o13, ho13, h⟩ := bnd_i h
        refine gqL_S (G := G) (v := (fun as => (some (.int o13)))) (As := [.ref z0, .int x3_7]) (rest := []) (wc := [(z0, .inr (9, [.ref a0, .ref b0, .ref h0, .ref s0, .ref l0, .ref e0, .ref k0, .int u7, .int u8, .int u9])), (a0, .inr (8, [.ref a1])), (a1, .inr (6, [.ref a2])), (a2, .inl (cA 0, 61, .inl f))]) (wr := []) (w1 := (fun as => [(z0, .inr (9, [.ref a0, .ref b0, .ref h0, .ref s0, .ref l0, .ref e0, .ref k0, .int u7, .int u8, .int u9])), (a0, .inr (8, [.ref a1])), (a1, .inr (6, [.ref a2])), (a2, .inl (cA 0, 61, .inl f))])) (ws2 := (fun as => [(z0, .inr (9, [.ref a0, .ref b0, .ref h0, .ref s0, .ref l0, .ref e0, .ref k0, .int u7, .int u8, .int u9])), (a0, .inr (8, [.ref a1])), (a1, .inr (6, [.ref a2])), (a2, .inl (cA 0, 61, .inl f))])) (st1 := (fun as => [.int o13])) ⟨hx, hb, hml, hfc, hts⟩ hK hP hD hS hA hEV hL9 (kL_eclipseIn l hst D cA G z0 a0 b0 h0 s0 l0 e0 k0 a1 a2 u7 u8 u9 f x3_7 ho13) (vx_cwSW 2 hts gL_met_L_eclipseIn rfl rfl rfl (by decide +kernel) ⟨(Nat.le_of_ble_eq_true rfl), (Nat.le_of_ble_eq_true rfl)⟩) [0, 1, 2, 3] [] [0, 1, 2, 3] rfl rfl rfl rfl (by decide) (fun _ => rfl) rfl rfl (fun _ => rfl) rfl hl.1 (Nat.le_of_ble_eq_true rfl) dL_met_42 ⟨(room_w (k := 302) hce1 (Nat.le_of_ble_eq_true rfl) (Nat.le_of_ble_eq_true rfl)), (room_w (k := 1812) hse1 (Nat.le_of_ble_eq_true rfl) (Nat.le_of_ble_eq_true rfl))⟩ (fun as14 H locs hP hD hS => ?_)
        have hP : va_P D vwCl [(z0, .inr (9, [.ref a0, .ref b0, .ref h0, .ref s0, .ref l0, .ref e0, .ref k0, .int u7, .int u8, .int u9])), (a0, .inr (8, [.ref a1])), (a1, .inr (6, [.ref a2])), (a2, .inl (cA 0, 61, .inl f))] H := hP
        have hD : va_D A [(z0, .inr (9, [.ref a0, .ref b0, .ref h0, .ref s0, .ref l0, .ref e0, .ref k0, .int u7, .int u8, .int u9])), (a0, .inr (8, [.ref a1])), (a1, .inr (6, [.ref a2])), (a2, .inl (cA 0, 61, .inl f))] := hD
        refine W.cs (cells' := ce1 + 302) (slots' := se1 + 1812) rfl rfl ?_
        refine lv_aload_n hx hb dL_met_45 rfl (lv_at hl 0 rfl) ?_
        obtain ⟨o15, ho15, h⟩ := bnd_i h
        refine gqL_S (G := G) (v := (fun as => (some (.int o15)))) (As := [.ref z0]) (rest := [.int o13]) (wc := [(z0, .inr (9, [.ref a0, .ref b0, .ref h0, .ref s0, .ref l0, .ref e0, .ref k0, .int u7, .int u8, .int u9])), (a0, .inr (8, [.ref a1])), (a1, .inr (6, [.ref a2])), (a2, .inl (cA 0, 61, .inl f))]) (wr := []) (w1 := (fun as => [(z0, .inr (9, [.ref a0, .ref b0, .ref h0, .ref s0, .ref l0, .ref e0, .ref k0, .int u7, .int u8, .int u9])), (a0, .inr (8, [.ref a1])), (a1, .inr (6, [.ref a2])), (a2, .inl (cA 0, 61, .inl f))])) (ws2 := (fun as => [(z0, .inr (9, [.ref a0, .ref b0, .ref h0, .ref s0, .ref l0, .ref e0, .ref k0, .int u7, .int u8, .int u9])), (a0, .inr (8, [.ref a1])), (a1, .inr (6, [.ref a2])), (a2, .inl (cA 0, 61, .inl f))])) (st1 := (fun as => [.int o15, .int o13])) ⟨hx, hb, hml, hfc, hts⟩ hK hP hD hS hA hEV hL9 (kL_plugPosition l hst D cA G z0 a0 b0 h0 s0 l0 e0 k0 a1 a2 u7 u8 u9 f ho15) (vx_cwSW 1 hts gL_met_L_plugPosition rfl rfl rfl (by decide +kernel) ⟨(Nat.le_of_ble_eq_true rfl), (Nat.le_of_ble_eq_true rfl)⟩) [0, 1, 2, 3] [] [0, 1, 2, 3] rfl rfl rfl rfl (by decide) (fun _ => rfl) rfl rfl (fun _ => rfl) rfl hl.1 (Nat.le_of_ble_eq_true rfl) dL_met_46 ⟨(room_w (k := 303) hce1 (Nat.le_of_ble_eq_true rfl) (Nat.le_of_ble_eq_true rfl)), (room_w (k := 1818) hse1 (Nat.le_of_ble_eq_true rfl) (Nat.le_of_ble_eq_true rfl))⟩ (fun as16 H locs hP hD hS => ?_)
        have hP : va_P D vwCl [(z0, .inr (9, [.ref a0, .ref b0, .ref h0, .ref s0, .ref l0, .ref e0, .ref k0, .int u7, .int u8, .int u9])), (a0, .inr (8, [.ref a1])), (a1, .inr (6, [.ref a2])), (a2, .inl (cA 0, 61, .inl f))] H := hP
        have hD : va_D A [(z0, .inr (9, [.ref a0, .ref b0, .ref h0, .ref s0, .ref l0, .ref e0, .ref k0, .int u7, .int u8, .int u9])), (a0, .inr (8, [.ref a1])), (a1, .inr (6, [.ref a2])), (a2, .inl (cA 0, 61, .inl f))] := hD
        refine W.cs (cells' := ce1 + 303) (slots' := se1 + 1818) rfl rfl ?_
        obtain ⟨o18, ho18, h⟩ := lt_i h
        have ko18 : ∀ (ls : Array Slot) (H : Heap) (locs : List Loc), lv_has ls 8 [(0, .ref z0), (1, .ref mo), (2, .int (SX5_moonCount f)), (3, .int x3_7)] → va_P D vwCl [(z0, .inr (9, [.ref a0, .ref b0, .ref h0, .ref s0, .ref l0, .ref e0, .ref k0, .int u7, .int u8, .int u9])), (a0, .inr (8, [.ref a1])), (a1, .inr (6, [.ref a2])), (a2, .inl (cA 0, 61, .inl f))] H → va_D A [(z0, .inr (9, [.ref a0, .ref b0, .ref h0, .ref s0, .ref l0, .ref e0, .ref k0, .int u7, .int u8, .int u9])), (a0, .inr (8, [.ref a1])), (a1, .inr (6, [.ref a2])), (a2, .inl (cA 0, 61, .inl f))] → va_S A s.heap H locs → W p l e RM_L_met s m args below meth c H locs (ce1 + 303) (se1 + 1818) Q (F0 m 59 ls [.int o18, .int o13]) := by
          intro ls H locs hl hP hD hS
          refine lv_icmp_eq (tgt := 64) hx hb dL_met_59 (by decide) (fun c19 => ?_) (fun c19 => ?_)
          · have h := ite_t c19 h
            refine lv_iconst (v := 0) hx hb dL_met_64 (by decide) ?_
            refine lv_istore hx hb dL_met_65 hl (Nat.le_of_ble_eq_true rfl) rfl (fun ls hl => ?_)
            have hl : lv_has ls 8 [(5, .int 0), (0, .ref z0), (1, .ref mo), (2, .int (SX5_moonCount f)), (3, .int x3_7)] := hl
            have hLL_met_67 : ∀ (K : Unit → Option (Unit)), (∀ (o20 : Unit) (ls : Array Slot) (H : Heap) (locs : List Loc), lv_has ls 8 [(0, .ref z0), (1, .ref mo), (2, .int (SX5_moonCount f)), (3, .int x3_7)] → va_P D vwCl [(z0, .inr (9, [.ref a0, .ref b0, .ref h0, .ref s0, .ref l0, .ref e0, .ref k0, .int u7, .int u8, .int u9])), (a0, .inr (8, [.ref a1])), (a1, .inr (6, [.ref a2])), (a2, .inl (cA 0, 61, .inl f))] H → va_D A [(z0, .inr (9, [.ref a0, .ref b0, .ref h0, .ref s0, .ref l0, .ref e0, .ref k0, .int u7, .int u8, .int u9])), (a0, .inr (8, [.ref a1])), (a1, .inr (6, [.ref a2])), (a2, .inl (cA 0, 61, .inl f))] → va_S A s.heap H locs → K o20 = some r → W p l e RM_L_met s m args below meth c H locs (ce1 + 345) (se1 + 2070) Q (F0 m 156 ls [])) → ∀ (fu : Nat) (x5_67 : Int32) (ce2 se2 : Nat), ce2 + 6 * fu ≤ ce1 + 345 → se2 + 36 * fu ≤ se1 + 2070 → ∀ (ls : Array Slot) (H : Heap) (locs : List Loc), lv_has ls 8 [(0, .ref z0), (1, .ref mo), (2, .int (SX5_moonCount f)), (3, .int x3_7), (5, .int x5_67)] → va_P D vwCl [(z0, .inr (9, [.ref a0, .ref b0, .ref h0, .ref s0, .ref l0, .ref e0, .ref k0, .int u7, .int u8, .int u9])), (a0, .inr (8, [.ref a1])), (a1, .inr (6, [.ref a2])), (a2, .inl (cA 0, 61, .inl f))] H → va_D A [(z0, .inr (9, [.ref a0, .ref b0, .ref h0, .ref s0, .ref l0, .ref e0, .ref k0, .int u7, .int u8, .int u9])), (a0, .inr (8, [.ref a1])), (a1, .inr (6, [.ref a2])), (a2, .inl (cA 0, 61, .inl f))] → va_S A s.heap H locs → LL_met_67 K N f x3_7 mn mv fu x5_67 = some r → W p l e RM_L_met s m args below meth c H locs ce2 se2 Q (F0 m 67 ls []) := by
              intro K hKk fu
              induction fu with
              | zero =>
                intro x5_67 ce2 se2 hce2 hse2 ls H locs hl hP hD hS h
                rw [LL_met_67] at h
                exact nn h
              | succ fu ih =>
                intro x5_67 ce2 se2 hce2 hse2 ls H locs hl hP hD hS h
                rw [LL_met_67] at h
                refine lv_iload hx hb dL_met_67 (lv_at hl 4 rfl) ?_
                refine lv_iload_n hx hb dL_met_69 rfl (lv_at hl 2 rfl) ?_
                refine lv_icmp_ge (tgt := 156) hx hb dL_met_70 (by decide) (fun c21 => ?_) (fun c21 => ?_)
                · have h := ite_t c21 h
                  refine W.widen (k := ce1 + 345) (n := se1 + 2070) (room_le (k := 0) hce2 (Nat.le_of_ble_eq_true rfl)) (room_le (k := 0) hse2 (Nat.le_of_ble_eq_true rfl)) ?_
                  exact hKk () _ _ _ (lv_sub hl [0, 1, 2, 3] rfl) hP hD hS h
                · have h := ite_f c21 h
                  refine lv_bipush (v := (-13)) hx hb dL_met_73 (by decide) ?_
                  refine lv_istore hx hb dL_met_75 hl (Nat.le_of_ble_eq_true rfl) rfl (fun ls hl => ?_)
                  have hl : lv_has ls 8 [(6, .int (-13)), (0, .ref z0), (1, .ref mo), (2, .int (SX5_moonCount f)), (3, .int x3_7), (5, .int x5_67)] := hl
                  refine lv_sipush (v := 2000) hx hb dL_met_77 (by decide) ?_
                  refine lv_istore hx hb dL_met_80 hl (Nat.le_of_ble_eq_true rfl) rfl (fun ls hl => ?_)
                  have hl : lv_has ls 8 [(7, .int 2000), (6, .int (-13)), (0, .ref z0), (1, .ref mo), (2, .int (SX5_moonCount f)), (3, .int x3_7), (5, .int x5_67)] := hl
                  have hLL_met_82 : ∀ (K : Int32 → Option (Unit)), (∀ (o22 : Int32) (ls : Array Slot) (H : Heap) (locs : List Loc), lv_has ls 8 [(0, .ref z0), (1, .ref mo), (2, .int (SX5_moonCount f)), (3, .int x3_7), (5, .int x5_67), (6, .int o22)] → va_P D vwCl [(z0, .inr (9, [.ref a0, .ref b0, .ref h0, .ref s0, .ref l0, .ref e0, .ref k0, .int u7, .int u8, .int u9])), (a0, .inr (8, [.ref a1])), (a1, .inr (6, [.ref a2])), (a2, .inl (cA 0, 61, .inl f))] H → va_D A [(z0, .inr (9, [.ref a0, .ref b0, .ref h0, .ref s0, .ref l0, .ref e0, .ref k0, .int u7, .int u8, .int u9])), (a0, .inr (8, [.ref a1])), (a1, .inr (6, [.ref a2])), (a2, .inl (cA 0, 61, .inl f))] → va_S A s.heap H locs → K o22 = some r → W p l e RM_L_met s m args below meth c H locs ce2 se2 Q (F0 m 124 ls [])) → ∀ (fu : Nat) (x6_82 : Int32) (x7_82 : Int32) (ce3 se3 : Nat), ce3 + 0 * fu ≤ ce2 → se3 + 0 * fu ≤ se2 → ∀ (ls : Array Slot) (H : Heap) (locs : List Loc), lv_has ls 8 [(0, .ref z0), (1, .ref mo), (2, .int (SX5_moonCount f)), (3, .int x3_7), (5, .int x5_67), (6, .int x6_82), (7, .int x7_82)] → va_P D vwCl [(z0, .inr (9, [.ref a0, .ref b0, .ref h0, .ref s0, .ref l0, .ref e0, .ref k0, .int u7, .int u8, .int u9])), (a0, .inr (8, [.ref a1])), (a1, .inr (6, [.ref a2])), (a2, .inl (cA 0, 61, .inl f))] H → va_D A [(z0, .inr (9, [.ref a0, .ref b0, .ref h0, .ref s0, .ref l0, .ref e0, .ref k0, .int u7, .int u8, .int u9])), (a0, .inr (8, [.ref a1])), (a1, .inr (6, [.ref a2])), (a2, .inl (cA 0, 61, .inl f))] → va_S A s.heap H locs → LL_met_82 K x3_7 mn f mv x5_67 fu x6_82 x7_82 = some r → W p l e RM_L_met s m args below meth c H locs ce3 se3 Q (F0 m 82 ls []) := by
                    intro K hKk fu
                    induction fu with
                    | zero =>
                      intro x6_82 x7_82 ce3 se3 hce3 hse3 ls H locs hl hP hD hS h
                      rw [LL_met_82] at h
                      exact nn h
                    | succ fu ih =>
                      intro x6_82 x7_82 ce3 se3 hce3 hse3 ls H locs hl hP hD hS h
                      rw [LL_met_82] at h
                      refine lv_iload hx hb dL_met_82 (lv_at hl 6 rfl) ?_
                      refine lv_if_lt (tgt := 124) hx hb dL_met_84 (by decide) (fun c23 => ?_) (fun c23 => ?_)
                      · have h := ite_t c23 h
                        refine W.widen (k := ce2) (n := se2) (room_le (k := 0) hce3 (Nat.le_of_ble_eq_true rfl)) (room_le (k := 0) hse3 (Nat.le_of_ble_eq_true rfl)) ?_
                        exact hKk x6_82 _ _ _ (lv_sub hl [0, 1, 2, 3, 4, 5] rfl) hP hD hS h
                      · have h := ite_f c23 h
                        refine lv_aload_n hx hb dL_met_87 rfl (lv_at hl 0 rfl) ?_
                        refine lv_aload_n hx hb dL_met_88 rfl (lv_at hl 1 rfl) ?_
                        refine lv_iload_n hx hb dL_met_89 rfl (lv_at hl 3 rfl) ?_
                        obtain ⟨g24, h⟩ := gd_i h
                        obtain ⟨g25, h⟩ := gd_i h
                        refine va_ta hx hb (moon_arr hTX) hS g24 (v := .ref (mr (Int32.toNatClampNeg x3_7))) (moon_v g25) dL_met_90 ?_
                        refine lv_iload hx hb dL_met_91 (lv_at hl 6 rfl) ?_
                        obtain ⟨o26, ho26, h⟩ := bnd_i h
                        refine gqT_S (G := G) (ts := (rowT (mr (Int32.toNatClampNeg x3_7)) (mv (Int32.toNatClampNeg x3_7)))) (v := (fun as => (some (.int o26)))) (As := [.ref z0, .ref (mr (Int32.toNatClampNeg x3_7)), .int x7_82]) (rest := []) (wc := [(z0, .inr (9, [.ref a0, .ref b0, .ref h0, .ref s0, .ref l0, .ref e0, .ref k0, .int u7, .int u8, .int u9])), (a0, .inr (8, [.ref a1])), (a1, .inr (6, [.ref a2])), (a2, .inl (cA 0, 61, .inl f))]) (wr := []) (w1 := (fun as => [(z0, .inr (9, [.ref a0, .ref b0, .ref h0, .ref s0, .ref l0, .ref e0, .ref k0, .int u7, .int u8, .int u9])), (a0, .inr (8, [.ref a1])), (a1, .inr (6, [.ref a2])), (a2, .inl (cA 0, 61, .inl f))])) (ws2 := (fun as => [(z0, .inr (9, [.ref a0, .ref b0, .ref h0, .ref s0, .ref l0, .ref e0, .ref k0, .int u7, .int u8, .int u9])), (a0, .inr (8, [.ref a1])), (a1, .inr (6, [.ref a2])), (a2, .inl (cA 0, 61, .inl f))])) (st1 := (fun as => [.int o26])) ⟨hx, hb, hml, hfc, hts⟩ hK hP hD hS hA hEV hL9 (tX.to hTX hD hS hA [0, 1, 2, 3] rfl (row_in g25)) hAX hN (kL_placeIn l hst D cA G z0 a0 b0 h0 s0 l0 e0 k0 a1 a2 (mr (Int32.toNatClampNeg x3_7)) u7 u8 u9 f (mv (Int32.toNatClampNeg x3_7)) x7_82 ho26) (va_cwS 3 hts gL_met_L_placeIn rfl rfl rfl (by decide +kernel) ⟨(Nat.le_of_ble_eq_true rfl), (Nat.le_of_ble_eq_true rfl)⟩) [0, 1, 2, 3] [] [0, 1, 2, 3] rfl rfl rfl rfl (by decide) (fun _ => rfl) rfl rfl (fun _ => rfl) rfl hl.1 (Nat.le_of_ble_eq_true rfl) dL_met_93 ⟨(room_w (k := 0) hce3 (Nat.le_of_ble_eq_true rfl) (room_w (k := 0) hce2 (Nat.le_of_ble_eq_true rfl) (room_w (k := 345) hce1 (Nat.le_of_ble_eq_true rfl) (Nat.le_of_ble_eq_true rfl)))), (room_w (k := 0) hse3 (Nat.le_of_ble_eq_true rfl) (room_w (k := 0) hse2 (Nat.le_of_ble_eq_true rfl) (room_w (k := 2070) hse1 (Nat.le_of_ble_eq_true rfl) (Nat.le_of_ble_eq_true rfl))))⟩ (fun as27 H locs hP hD hS => ?_)
                        have hP : va_P D vwCl [(z0, .inr (9, [.ref a0, .ref b0, .ref h0, .ref s0, .ref l0, .ref e0, .ref k0, .int u7, .int u8, .int u9])), (a0, .inr (8, [.ref a1])), (a1, .inr (6, [.ref a2])), (a2, .inl (cA 0, 61, .inl f))] H := hP
                        have hD : va_D A [(z0, .inr (9, [.ref a0, .ref b0, .ref h0, .ref s0, .ref l0, .ref e0, .ref k0, .int u7, .int u8, .int u9])), (a0, .inr (8, [.ref a1])), (a1, .inr (6, [.ref a2])), (a2, .inl (cA 0, 61, .inl f))] := hD
                        refine W.cs (cells' := ce3) (slots' := se3) rfl rfl ?_
                        refine lv_aload_n hx hb dL_met_96 rfl (lv_at hl 0 rfl) ?_
                        refine lv_aload_n hx hb dL_met_97 rfl (lv_at hl 1 rfl) ?_
                        refine lv_iload hx hb dL_met_98 (lv_at hl 4 rfl) ?_
                        obtain ⟨g28, h⟩ := gd_i h
                        obtain ⟨g29, h⟩ := gd_i h
                        refine va_ta hx hb (moon_arr hTX) hS g28 (v := .ref (mr (Int32.toNatClampNeg x5_67))) (moon_v g29) dL_met_100 ?_
                        refine lv_iload hx hb dL_met_101 (lv_at hl 6 rfl) ?_
                        obtain ⟨o30, ho30, h⟩ := bnd_i h
                        refine gqT_S (G := G) (ts := (rowT (mr (Int32.toNatClampNeg x5_67)) (mv (Int32.toNatClampNeg x5_67)))) (v := (fun as => (some (.int o30)))) (As := [.ref z0, .ref (mr (Int32.toNatClampNeg x5_67)), .int x7_82]) (rest := [.int o26]) (wc := [(z0, .inr (9, [.ref a0, .ref b0, .ref h0, .ref s0, .ref l0, .ref e0, .ref k0, .int u7, .int u8, .int u9])), (a0, .inr (8, [.ref a1])), (a1, .inr (6, [.ref a2])), (a2, .inl (cA 0, 61, .inl f))]) (wr := []) (w1 := (fun as => [(z0, .inr (9, [.ref a0, .ref b0, .ref h0, .ref s0, .ref l0, .ref e0, .ref k0, .int u7, .int u8, .int u9])), (a0, .inr (8, [.ref a1])), (a1, .inr (6, [.ref a2])), (a2, .inl (cA 0, 61, .inl f))])) (ws2 := (fun as => [(z0, .inr (9, [.ref a0, .ref b0, .ref h0, .ref s0, .ref l0, .ref e0, .ref k0, .int u7, .int u8, .int u9])), (a0, .inr (8, [.ref a1])), (a1, .inr (6, [.ref a2])), (a2, .inl (cA 0, 61, .inl f))])) (st1 := (fun as => [.int o30, .int o26])) ⟨hx, hb, hml, hfc, hts⟩ hK hP hD hS hA hEV hL9 (tX.to hTX hD hS hA [0, 1, 2, 3] rfl (row_in g29)) hAX hN (kL_placeIn l hst D cA G z0 a0 b0 h0 s0 l0 e0 k0 a1 a2 (mr (Int32.toNatClampNeg x5_67)) u7 u8 u9 f (mv (Int32.toNatClampNeg x5_67)) x7_82 ho30) (va_cwS 3 hts gL_met_L_placeIn rfl rfl rfl (by decide +kernel) ⟨(Nat.le_of_ble_eq_true rfl), (Nat.le_of_ble_eq_true rfl)⟩) [0, 1, 2, 3] [] [0, 1, 2, 3] rfl rfl rfl rfl (by decide) (fun _ => rfl) rfl rfl (fun _ => rfl) rfl hl.1 (Nat.le_of_ble_eq_true rfl) dL_met_103 ⟨(room_w (k := 0) hce3 (Nat.le_of_ble_eq_true rfl) (room_w (k := 0) hce2 (Nat.le_of_ble_eq_true rfl) (room_w (k := 345) hce1 (Nat.le_of_ble_eq_true rfl) (Nat.le_of_ble_eq_true rfl)))), (room_w (k := 0) hse3 (Nat.le_of_ble_eq_true rfl) (room_w (k := 0) hse2 (Nat.le_of_ble_eq_true rfl) (room_w (k := 2070) hse1 (Nat.le_of_ble_eq_true rfl) (Nat.le_of_ble_eq_true rfl))))⟩ (fun as31 H locs hP hD hS => ?_)
                        have hP : va_P D vwCl [(z0, .inr (9, [.ref a0, .ref b0, .ref h0, .ref s0, .ref l0, .ref e0, .ref k0, .int u7, .int u8, .int u9])), (a0, .inr (8, [.ref a1])), (a1, .inr (6, [.ref a2])), (a2, .inl (cA 0, 61, .inl f))] H := hP
                        have hD : va_D A [(z0, .inr (9, [.ref a0, .ref b0, .ref h0, .ref s0, .ref l0, .ref e0, .ref k0, .int u7, .int u8, .int u9])), (a0, .inr (8, [.ref a1])), (a1, .inr (6, [.ref a2])), (a2, .inl (cA 0, 61, .inl f))] := hD
                        refine W.cs (cells' := ce3) (slots' := se3) rfl rfl ?_
                        obtain ⟨o33, ho33, h⟩ := lt_i h
                        have ko33 : ∀ (ls : Array Slot) (H : Heap) (locs : List Loc), lv_has ls 8 [(0, .ref z0), (1, .ref mo), (2, .int (SX5_moonCount f)), (3, .int x3_7), (5, .int x5_67), (7, .int x7_82)] → va_P D vwCl [(z0, .inr (9, [.ref a0, .ref b0, .ref h0, .ref s0, .ref l0, .ref e0, .ref k0, .int u7, .int u8, .int u9])), (a0, .inr (8, [.ref a1])), (a1, .inr (6, [.ref a2])), (a2, .inl (cA 0, 61, .inl f))] H → va_D A [(z0, .inr (9, [.ref a0, .ref b0, .ref h0, .ref s0, .ref l0, .ref e0, .ref k0, .int u7, .int u8, .int u9])), (a0, .inr (8, [.ref a1])), (a1, .inr (6, [.ref a2])), (a2, .inl (cA 0, 61, .inl f))] → va_S A s.heap H locs → W p l e RM_L_met s m args below meth c H locs ce3 se3 Q (F0 m 116 ls [.int o33]) := by
                          intro ls H locs hl hP hD hS
                          refine lv_istore hx hb dL_met_116 hl (Nat.le_of_ble_eq_true rfl) rfl (fun ls hl => ?_)
                          have hl : lv_has ls 8 [(6, .int o33), (0, .ref z0), (1, .ref mo), (2, .int (SX5_moonCount f)), (3, .int x3_7), (5, .int x5_67), (7, .int x7_82)] := hl
                          refine lv_iinc (k := 6) (v := x7_82 + (-1)) hx hb dL_met_118 hl rfl (congrArg (fun z => x7_82 + z) litm1) (Nat.le_of_ble_eq_true rfl) rfl (fun ls hl => ?_)
                          have hl : lv_has ls 8 [(7, .int (x7_82 + (-1))), (6, .int o33), (0, .ref z0), (1, .ref mo), (2, .int (SX5_moonCount f)), (3, .int x3_7), (5, .int x5_67)] := hl
                          refine lv_goto (tgt := 82) hx hb dL_met_121 (by decide) ?_
                          exact ih o33 (x7_82 + (-1)) _ _ (room_bk (k := 0) hce3 (Nat.le_of_ble_eq_true rfl)) (room_bk (k := 0) hse3 (Nat.le_of_ble_eq_true rfl)) _ _ _ (lv_sub hl [2, 3, 4, 5, 6, 1, 0] rfl) hP hD hS h
                        clear h
                        have h := ho33
                        clear ho33
                        refine lv_icmp_ne (tgt := 114) hx hb dL_met_106 (by decide) (fun c32 => ?_) (fun c32 => ?_)
                        · have h := ite_f c32 h
                          refine lv_iload hx hb dL_met_114 (lv_at hl 5 rfl) ?_
                          subst h
                          exact ko33 _ _ _ (lv_sub hl [0, 1, 2, 3, 4, 6] rfl) hP hD hS
                        · have h := ite_t c32 h
                          refine lv_iload hx hb dL_met_109 (lv_at hl 6 rfl) ?_
                          refine lv_goto (tgt := 116) hx hb dL_met_111 (by decide) ?_
                          subst h
                          exact ko33 _ _ _ (lv_sub hl [0, 1, 2, 3, 4, 6] rfl) hP hD hS
                  refine hLL_met_82 _ ?_ 2003 (-13) 2000 ce2 se2 (room_n0 ce2 (p := 0 * 2003) (t := 0) rfl) (room_n0 se2 (p := 0 * 2003) (t := 0) rfl) _ _ _ (lv_sub hl [2, 3, 4, 5, 6, 1, 0] rfl) hP hD hS h
                  intro o22 ls H locs hl hP hD hS h
                  refine lv_aload_n hx hb dL_met_124 rfl (lv_at hl 0 rfl) ?_
                  refine lv_iload_n hx hb dL_met_125 rfl (lv_at hl 3 rfl) ?_
                  refine lv_iload hx hb dL_met_126 (lv_at hl 4 rfl) ?_
                  obtain ⟨o34, ho34, h⟩ := bnd_i h
                  refine gqL_S (G := G) (v := (fun as => (some (.int o34)))) (As := [.ref z0, .int x3_7, .int x5_67]) (rest := []) (wc := [(z0, .inr (9, [.ref a0, .ref b0, .ref h0, .ref s0, .ref l0, .ref e0, .ref k0, .int u7, .int u8, .int u9])), (a0, .inr (8, [.ref a1])), (a1, .inr (6, [.ref a2])), (a2, .inl (cA 0, 61, .inl f))]) (wr := []) (w1 := (fun as => [(z0, .inr (9, [.ref a0, .ref b0, .ref h0, .ref s0, .ref l0, .ref e0, .ref k0, .int u7, .int u8, .int u9])), (a0, .inr (8, [.ref a1])), (a1, .inr (6, [.ref a2])), (a2, .inl (cA 0, 61, .inl f))])) (ws2 := (fun as => [(z0, .inr (9, [.ref a0, .ref b0, .ref h0, .ref s0, .ref l0, .ref e0, .ref k0, .int u7, .int u8, .int u9])), (a0, .inr (8, [.ref a1])), (a1, .inr (6, [.ref a2])), (a2, .inl (cA 0, 61, .inl f))])) (st1 := (fun as => [.int o34])) ⟨hx, hb, hml, hfc, hts⟩ hK hP hD hS hA hEV hL9 (kL_conjunctionIn l hst D cA G z0 a0 b0 h0 s0 l0 e0 k0 a1 a2 N u7 u8 u9 f x3_7 x5_67 ho34) (vx_cwSW 3 hts gL_met_L_conjunctionIn rfl rfl rfl (by decide +kernel) ⟨(Nat.le_of_ble_eq_true rfl), (Nat.le_of_ble_eq_true rfl)⟩) [0, 1, 2, 3] [] [0, 1, 2, 3] rfl rfl rfl rfl (by decide) (fun _ => rfl) rfl rfl (fun _ => rfl) rfl hl.1 (Nat.le_of_ble_eq_true rfl) dL_met_128 ⟨(room_w (k := 3) hce2 (Nat.le_of_ble_eq_true rfl) (room_w (k := 345) hce1 (Nat.le_of_ble_eq_true rfl) (Nat.le_of_ble_eq_true rfl))), (room_w (k := 18) hse2 (Nat.le_of_ble_eq_true rfl) (room_w (k := 2070) hse1 (Nat.le_of_ble_eq_true rfl) (Nat.le_of_ble_eq_true rfl)))⟩ (fun as35 H locs hP hD hS => ?_)
                  have hP : va_P D vwCl [(z0, .inr (9, [.ref a0, .ref b0, .ref h0, .ref s0, .ref l0, .ref e0, .ref k0, .int u7, .int u8, .int u9])), (a0, .inr (8, [.ref a1])), (a1, .inr (6, [.ref a2])), (a2, .inl (cA 0, 61, .inl f))] H := hP
                  have hD : va_D A [(z0, .inr (9, [.ref a0, .ref b0, .ref h0, .ref s0, .ref l0, .ref e0, .ref k0, .int u7, .int u8, .int u9])), (a0, .inr (8, [.ref a1])), (a1, .inr (6, [.ref a2])), (a2, .inl (cA 0, 61, .inl f))] := hD
                  refine W.cs (cells' := ce2 + 3) (slots' := se2 + 18) rfl rfl ?_
                  refine lv_iload hx hb dL_met_131 (lv_at hl 5 rfl) ?_
                  refine lv_icmp_ne (tgt := 148) hx hb dL_met_133 (by decide) (fun c36 => ?_) (fun c36 => ?_)
                  · have h := ite_f c36 h
                    refine lv_iconst (v := 0) hx hb dL_met_148 (by decide) ?_
                    exact nn h
                  · have h := ite_t c36 h
                    refine lv_aload_n hx hb dL_met_136 rfl (lv_at hl 0 rfl) ?_
                    refine lv_iload_n hx hb dL_met_137 rfl (lv_at hl 3 rfl) ?_
                    refine lv_iload hx hb dL_met_138 (lv_at hl 4 rfl) ?_
                    obtain ⟨o37, ho37, h⟩ := bnd_i h
                    refine gqL_S (G := G) (v := (fun as => (some (.int o37)))) (As := [.ref z0, .int x3_7, .int x5_67]) (rest := []) (wc := [(z0, .inr (9, [.ref a0, .ref b0, .ref h0, .ref s0, .ref l0, .ref e0, .ref k0, .int u7, .int u8, .int u9])), (a0, .inr (8, [.ref a1])), (a1, .inr (6, [.ref a2])), (a2, .inl (cA 0, 61, .inl f))]) (wr := []) (w1 := (fun as => [(z0, .inr (9, [.ref a0, .ref b0, .ref h0, .ref s0, .ref l0, .ref e0, .ref k0, .int u7, .int u8, .int u9])), (a0, .inr (8, [.ref a1])), (a1, .inr (6, [.ref a2])), (a2, .inl (cA 0, 61, .inl f))])) (ws2 := (fun as => [(z0, .inr (9, [.ref a0, .ref b0, .ref h0, .ref s0, .ref l0, .ref e0, .ref k0, .int u7, .int u8, .int u9])), (a0, .inr (8, [.ref a1])), (a1, .inr (6, [.ref a2])), (a2, .inl (cA 0, 61, .inl f))])) (st1 := (fun as => [.int o37])) ⟨hx, hb, hml, hfc, hts⟩ hK hP hD hS hA hEV hL9 (kL_conjunctionByMoves l hst D cA G z0 a0 b0 h0 s0 l0 e0 k0 a1 a2 N u7 u8 u9 f x3_7 x5_67 ho37) (vx_cwSW 3 hts gL_met_L_conjunctionByMoves rfl rfl rfl (by decide +kernel) ⟨(Nat.le_of_ble_eq_true rfl), (Nat.le_of_ble_eq_true rfl)⟩) [0, 1, 2, 3] [] [0, 1, 2, 3] rfl rfl rfl rfl (by decide) (fun _ => rfl) rfl rfl (fun _ => rfl) rfl hl.1 (Nat.le_of_ble_eq_true rfl) dL_met_140 ⟨(room_w (k := 6) hce2 (Nat.le_of_ble_eq_true rfl) (room_w (k := 345) hce1 (Nat.le_of_ble_eq_true rfl) (Nat.le_of_ble_eq_true rfl))), (room_w (k := 36) hse2 (Nat.le_of_ble_eq_true rfl) (room_w (k := 2070) hse1 (Nat.le_of_ble_eq_true rfl) (Nat.le_of_ble_eq_true rfl)))⟩ (fun as38 H locs hP hD hS => ?_)
                    have hP : va_P D vwCl [(z0, .inr (9, [.ref a0, .ref b0, .ref h0, .ref s0, .ref l0, .ref e0, .ref k0, .int u7, .int u8, .int u9])), (a0, .inr (8, [.ref a1])), (a1, .inr (6, [.ref a2])), (a2, .inl (cA 0, 61, .inl f))] H := hP
                    have hD : va_D A [(z0, .inr (9, [.ref a0, .ref b0, .ref h0, .ref s0, .ref l0, .ref e0, .ref k0, .int u7, .int u8, .int u9])), (a0, .inr (8, [.ref a1])), (a1, .inr (6, [.ref a2])), (a2, .inl (cA 0, 61, .inl f))] := hD
                    refine W.cs (cells' := ce2 + 6) (slots' := se2 + 36) rfl rfl ?_
                    refine lv_iload hx hb dL_met_143 (lv_at hl 5 rfl) ?_
                    refine lv_icmp_eq (tgt := 150) hx hb dL_met_145 (by decide) (fun c39 => ?_) (fun c39 => ?_)
                    · have h := ite_t c39 h
                      refine lv_iinc (k := 4) (v := x5_67 + 1) hx hb dL_met_150 hl rfl (congrArg (fun z => x5_67 + z) lit1) (Nat.le_of_ble_eq_true rfl) rfl (fun ls hl => ?_)
                      have hl : lv_has ls 8 [(5, .int (x5_67 + 1)), (0, .ref z0), (1, .ref mo), (2, .int (SX5_moonCount f)), (3, .int x3_7), (6, .int o22)] := hl
                      refine lv_goto (tgt := 67) hx hb dL_met_153 (by decide) ?_
                      exact ih (x5_67 + 1) _ _ (room_bk (k := 6) hce2 (Nat.le_of_ble_eq_true rfl)) (room_bk (k := 36) hse2 (Nat.le_of_ble_eq_true rfl)) _ _ _ (lv_sub hl [1, 2, 3, 4, 0] rfl) hP hD hS h
                    · have h := ite_f c39 h
                      refine lv_iconst (v := 0) hx hb dL_met_148 (by decide) ?_
                      exact nn h
            refine hLL_met_67 _ ?_ 7 0 (ce1 + 303) (se1 + 1818) (room_n ce1 (a := 303) (p := 6 * 7) (t := 345) rfl) (room_n se1 (a := 1818) (p := 36 * 7) (t := 2070) rfl) _ _ _ (lv_sub hl [1, 2, 3, 4, 0] rfl) hP hD hS h
            intro o20 ls H locs hl hP hD hS h
            refine lv_iinc (k := 3) (v := x3_7 + 1) hx hb dL_met_156 hl rfl (congrArg (fun z => x3_7 + z) lit1) (Nat.le_of_ble_eq_true rfl) rfl (fun ls hl => ?_)
            have hl : lv_has ls 8 [(3, .int (x3_7 + 1)), (0, .ref z0), (1, .ref mo), (2, .int (SX5_moonCount f))] := hl
            refine lv_goto (tgt := 7) hx hb dL_met_159 (by decide) ?_
            exact ih (x3_7 + 1) _ _ (room_bk (k := 345) hce1 (Nat.le_of_ble_eq_true rfl)) (room_bk (k := 2070) hse1 (Nat.le_of_ble_eq_true rfl)) _ _ _ (lv_sub hl [1, 2, 3, 0] rfl) hP hD hS h
          · have h := ite_f c19 h
            refine lv_iconst (v := 0) hx hb dL_met_62 (by decide) ?_
            exact nn h
        clear h
        have h := ho18
        clear ho18
        refine lv_if_ge (tgt := 57) hx hb dL_met_49 (by decide) (fun c17 => ?_) (fun c17 => ?_)
        · have h := ite_t c17 h
          refine lv_iload hx hb dL_met_57 (lv_at hl 4 rfl) ?_
          subst h
          exact ko18 _ _ _ (lv_sub hl [0, 1, 2, 3] rfl) hP hD hS
        · have h := ite_f c17 h
          refine lv_bipush (v := (-13)) hx hb dL_met_52 (by decide) ?_
          refine lv_goto (tgt := 59) hx hb dL_met_54 (by decide) ?_
          subst h
          exact ko18 _ _ _ (lv_sub hl [0, 1, 2, 3] rfl) hP hD hS
  refine hLL_met_7 _ ?_ 7 0 0 0 (Nat.le_of_ble_eq_true rfl) (Nat.le_of_ble_eq_true rfl) _ _ _ (lv_sub hl [2, 3, 1, 0] rfl) hP hD hS h
  intro o2 ls H locs hl hP hD hS h
  refine lv_aload_n hx hb dL_met_162 rfl (lv_at hl 0 rfl) ?_
  refine lv_iload_n hx hb dL_met_163 rfl (lv_at hl 1 rfl) ?_
  obtain ⟨o40, ho40, h⟩ := bnd_i h
  refine gqL_S (G := G) (v := (fun as => (some (.int o40)))) (As := [.ref z0, .int (SX5_moonCount f)]) (rest := []) (wc := [(z0, .inr (9, [.ref a0, .ref b0, .ref h0, .ref s0, .ref l0, .ref e0, .ref k0, .int u7, .int u8, .int u9])), (a0, .inr (8, [.ref a1])), (a1, .inr (6, [.ref a2])), (a2, .inl (cA 0, 61, .inl f))]) (wr := []) (w1 := (fun as => [(z0, .inr (9, [.ref a0, .ref b0, .ref h0, .ref s0, .ref l0, .ref e0, .ref k0, .int u7, .int u8, .int u9])), (a0, .inr (8, [.ref a1])), (a1, .inr (6, [.ref a2])), (a2, .inl (cA 0, 61, .inl f))])) (ws2 := (fun as => [(z0, .inr (9, [.ref a0, .ref b0, .ref h0, .ref s0, .ref l0, .ref e0, .ref k0, .int u7, .int u8, .int u9])), (a0, .inr (8, [.ref a1])), (a1, .inr (6, [.ref a2])), (a2, .inl (cA 0, 61, .inl f))])) (st1 := (fun as => [.int o40])) ⟨hx, hb, hml, hfc, hts⟩ hK hP hD hS hA hEV hL9 (kL_eclipseIn l hst D cA G z0 a0 b0 h0 s0 l0 e0 k0 a1 a2 u7 u8 u9 f (SX5_moonCount f) ho40) (vx_cwSW 2 hts gL_met_L_eclipseIn rfl rfl rfl (by decide +kernel) ⟨(Nat.le_of_ble_eq_true rfl), (Nat.le_of_ble_eq_true rfl)⟩) [0, 1, 2, 3] [] [0, 1, 2, 3] rfl rfl rfl rfl (by decide) (fun _ => rfl) rfl rfl (fun _ => rfl) rfl hl.1 (Nat.le_of_ble_eq_true rfl) dL_met_164 ⟨(Nat.le_of_ble_eq_true rfl), (Nat.le_of_ble_eq_true rfl)⟩ (fun as41 H locs hP hD hS => ?_)
  have hP : va_P D vwCl [(z0, .inr (9, [.ref a0, .ref b0, .ref h0, .ref s0, .ref l0, .ref e0, .ref k0, .int u7, .int u8, .int u9])), (a0, .inr (8, [.ref a1])), (a1, .inr (6, [.ref a2])), (a2, .inl (cA 0, 61, .inl f))] H := hP
  have hD : va_D A [(z0, .inr (9, [.ref a0, .ref b0, .ref h0, .ref s0, .ref l0, .ref e0, .ref k0, .int u7, .int u8, .int u9])), (a0, .inr (8, [.ref a1])), (a1, .inr (6, [.ref a2])), (a2, .inl (cA 0, 61, .inl f))] := hD
  refine W.cs (cells' := 2417) (slots' := 14502) rfl rfl ?_
  refine lv_bipush (v := (-11)) hx hb dL_met_167 (by decide) ?_
  refine lv_icmp_ne (tgt := 198) hx hb dL_met_169 (by decide) (fun c42 => ?_) (fun c42 => ?_)
  · have h := ite_f c42 h
    refine lv_iconst (v := 0) hx hb dL_met_198 (by decide) ?_
    exact nn h
  · have h := ite_t c42 h
    refine lv_aload_n hx hb dL_met_172 rfl (lv_at hl 0 rfl) ?_
    refine lv_iconst (v := 0) hx hb dL_met_173 (by decide) ?_
    refine lv_iload_n hx hb dL_met_174 rfl (lv_at hl 1 rfl) ?_
    obtain ⟨o43, ho43, h⟩ := bnd_i h
    refine gqL_S (G := G) (v := (fun as => (some (.int o43)))) (As := [.ref z0, .int 0, .int (SX5_moonCount f)]) (rest := []) (wc := [(z0, .inr (9, [.ref a0, .ref b0, .ref h0, .ref s0, .ref l0, .ref e0, .ref k0, .int u7, .int u8, .int u9])), (a0, .inr (8, [.ref a1])), (a1, .inr (6, [.ref a2])), (a2, .inl (cA 0, 61, .inl f))]) (wr := []) (w1 := (fun as => [(z0, .inr (9, [.ref a0, .ref b0, .ref h0, .ref s0, .ref l0, .ref e0, .ref k0, .int u7, .int u8, .int u9])), (a0, .inr (8, [.ref a1])), (a1, .inr (6, [.ref a2])), (a2, .inl (cA 0, 61, .inl f))])) (ws2 := (fun as => [(z0, .inr (9, [.ref a0, .ref b0, .ref h0, .ref s0, .ref l0, .ref e0, .ref k0, .int u7, .int u8, .int u9])), (a0, .inr (8, [.ref a1])), (a1, .inr (6, [.ref a2])), (a2, .inl (cA 0, 61, .inl f))])) (st1 := (fun as => [.int o43])) ⟨hx, hb, hml, hfc, hts⟩ hK hP hD hS hA hEV hL9 (kL_conjunctionIn l hst D cA G z0 a0 b0 h0 s0 l0 e0 k0 a1 a2 N u7 u8 u9 f 0 (SX5_moonCount f) ho43) (vx_cwSW 3 hts gL_met_L_conjunctionIn rfl rfl rfl (by decide +kernel) ⟨(Nat.le_of_ble_eq_true rfl), (Nat.le_of_ble_eq_true rfl)⟩) [0, 1, 2, 3] [] [0, 1, 2, 3] rfl rfl rfl rfl (by decide) (fun _ => rfl) rfl rfl (fun _ => rfl) rfl hl.1 (Nat.le_of_ble_eq_true rfl) dL_met_175 ⟨(Nat.le_of_ble_eq_true rfl), (Nat.le_of_ble_eq_true rfl)⟩ (fun as44 H locs hP hD hS => ?_)
    have hP : va_P D vwCl [(z0, .inr (9, [.ref a0, .ref b0, .ref h0, .ref s0, .ref l0, .ref e0, .ref k0, .int u7, .int u8, .int u9])), (a0, .inr (8, [.ref a1])), (a1, .inr (6, [.ref a2])), (a2, .inl (cA 0, 61, .inl f))] H := hP
    have hD : va_D A [(z0, .inr (9, [.ref a0, .ref b0, .ref h0, .ref s0, .ref l0, .ref e0, .ref k0, .int u7, .int u8, .int u9])), (a0, .inr (8, [.ref a1])), (a1, .inr (6, [.ref a2])), (a2, .inl (cA 0, 61, .inl f))] := hD
    refine W.cs (cells' := 2420) (slots' := 14520) rfl rfl ?_
    refine lv_bipush (v := (-11)) hx hb dL_met_178 (by decide) ?_
    refine lv_icmp_ne (tgt := 198) hx hb dL_met_180 (by decide) (fun c45 => ?_) (fun c45 => ?_)
    · have h := ite_f c45 h
      refine lv_iconst (v := 0) hx hb dL_met_198 (by decide) ?_
      exact nn h
    · have h := ite_t c45 h
      refine lv_aload_n hx hb dL_met_183 rfl (lv_at hl 0 rfl) ?_
      refine lv_iconst (v := (-1)) hx hb dL_met_184 (by decide) ?_
      refine lv_iconst (v := 0) hx hb dL_met_185 (by decide) ?_
      obtain ⟨o46, ho46, h⟩ := bnd_i h
      refine gqL_S (G := G) (v := (fun as => (some (.int o46)))) (As := [.ref z0, .int (-1), .int 0]) (rest := []) (wc := [(z0, .inr (9, [.ref a0, .ref b0, .ref h0, .ref s0, .ref l0, .ref e0, .ref k0, .int u7, .int u8, .int u9])), (a0, .inr (8, [.ref a1])), (a1, .inr (6, [.ref a2])), (a2, .inl (cA 0, 61, .inl f))]) (wr := []) (w1 := (fun as => [(z0, .inr (9, [.ref a0, .ref b0, .ref h0, .ref s0, .ref l0, .ref e0, .ref k0, .int u7, .int u8, .int u9])), (a0, .inr (8, [.ref a1])), (a1, .inr (6, [.ref a2])), (a2, .inl (cA 0, 61, .inl f))])) (ws2 := (fun as => [(z0, .inr (9, [.ref a0, .ref b0, .ref h0, .ref s0, .ref l0, .ref e0, .ref k0, .int u7, .int u8, .int u9])), (a0, .inr (8, [.ref a1])), (a1, .inr (6, [.ref a2])), (a2, .inl (cA 0, 61, .inl f))])) (st1 := (fun as => [.int o46])) ⟨hx, hb, hml, hfc, hts⟩ hK hP hD hS hA hEV hL9 (kL_conjunctionByMoves l hst D cA G z0 a0 b0 h0 s0 l0 e0 k0 a1 a2 N u7 u8 u9 f (-1) 0 ho46) (vx_cwSW 3 hts gL_met_L_conjunctionByMoves rfl rfl rfl (by decide +kernel) ⟨(Nat.le_of_ble_eq_true rfl), (Nat.le_of_ble_eq_true rfl)⟩) [0, 1, 2, 3] [] [0, 1, 2, 3] rfl rfl rfl rfl (by decide) (fun _ => rfl) rfl rfl (fun _ => rfl) rfl hl.1 (Nat.le_of_ble_eq_true rfl) dL_met_186 ⟨(Nat.le_of_ble_eq_true rfl), (Nat.le_of_ble_eq_true rfl)⟩ (fun as47 H locs hP hD hS => ?_)
      have hP : va_P D vwCl [(z0, .inr (9, [.ref a0, .ref b0, .ref h0, .ref s0, .ref l0, .ref e0, .ref k0, .int u7, .int u8, .int u9])), (a0, .inr (8, [.ref a1])), (a1, .inr (6, [.ref a2])), (a2, .inl (cA 0, 61, .inl f))] H := hP
      have hD : va_D A [(z0, .inr (9, [.ref a0, .ref b0, .ref h0, .ref s0, .ref l0, .ref e0, .ref k0, .int u7, .int u8, .int u9])), (a0, .inr (8, [.ref a1])), (a1, .inr (6, [.ref a2])), (a2, .inl (cA 0, 61, .inl f))] := hD
      refine W.cs (cells' := 2423) (slots' := 14538) rfl rfl ?_
      refine lv_bipush (v := (-11)) hx hb dL_met_189 (by decide) ?_
      refine lv_icmp_ne (tgt := 198) hx hb dL_met_191 (by decide) (fun c48 => ?_) (fun c48 => ?_)
      · have h := ite_f c48 h
        refine lv_iconst (v := 0) hx hb dL_met_198 (by decide) ?_
        exact nn h
      · have h := ite_t c48 h
        refine lv_iconst (v := 1) hx hb dL_met_194 (by decide) ?_
        refine lv_goto (tgt := 199) hx hb dL_met_195 (by decide) ?_
        have h := Option.some.inj h
        subst h
        refine W.widen (k := 2423) (n := 14538) (Nat.le_of_ble_eq_true rfl) (Nat.le_of_ble_eq_true rfl) ?_
        exact hend (adr []) _ _ _ _ _ _ _ rfl rfl (rtn_n (x := 1) rfl) hP hD hS dL_met_199
