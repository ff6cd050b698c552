noncomputable def LL_moved_10 (K : Int32 → Option (Unit)) (f : Nat → Int32) (mn : Nat) (mv : Nat → Nat → Int32) : Nat → Int32 → Int32 → Option (Unit)
  | 0, _, _ => none
  | fu + 1, x3_10, x4_10 => if (SX5_moonCount f) ≤ x4_10 then (K x3_10) else (gd (vp_in x4_10 5) (gd ((Int32.toNatClampNeg x4_10) < mn) (bnd (SL_isDark f (mv (Int32.toNatClampNeg x4_10)) 0) (fun o6 : Int32 => lt_ (if o6 = 0 then (0) else (1)) (fun o9 : Int32 => bnd (SL_positionOf f x4_10) (fun o10 : Int32 => bnd (SL_placeIn f (mv (Int32.toNatClampNeg x4_10)) 0) (fun o12 : Int32 => bnd (if o10 = o12 then (bnd (SL_massOf f x4_10) (fun o16 : Int32 => lt_ (SL_massIn f (mv (Int32.toNatClampNeg x4_10)) 0) (fun o18 : Int32 => if o16 = o18 then (bnd (SL_ageOf f x4_10) (fun o21 : Int32 => if o21 = ((SX5_time f) - (mv (Int32.toNatClampNeg x4_10) 4)) then (bnd (SL_isHard f x4_10) (fun o25 : Int32 => lt_ (if (mv (Int32.toNatClampNeg x4_10) 0) = 0 then (1) else (0)) (fun o28 : Int32 => if o25 = o28 then (bnd (SL_isSoft f x4_10) (fun o30 : Int32 => lt_ (if (mv (Int32.toNatClampNeg x4_10) 0) = 1 then (1) else (0)) (fun o33 : Int32 => if o30 = o33 then (bnd (SL_isEclipsed f x4_10) (fun o35 : Int32 => lt_ (if o6 = 0 then (0) else (1)) (fun o38 : Int32 => if o35 = o38 then (some (1)) else (some (0))))) else (some (0))))) else (some (0))))) else (some (0)))) else (some (0))))) else (some (0))) (fun o15 : Int32 => if o15 = 0 then (none) else (LL_moved_10 K f mn mv fu (x3_10 + o9) (x4_10 + 1))))))))))
noncomputable def SL_moved (N : Nat) (f : Nat → Int32) (mn : Nat) (mv : Nat → Nat → Int32) : Option (Unit) := LL_moved_10 (fun o2 : Int32 => bnd (SX5_eclipsedShare N f) (fun o41 : Nat × UInt32 => if o41.1 = 0 then (gd (vf_n32 (FP.fdiv (FP.i2f o2) (FP.i2f (SX5_moonCount f)))) (if (Op.cmpValue (FP.fcmp o41.2 (FP.fdiv (FP.i2f o2) (FP.i2f (SX5_moonCount f)))) .l) = 0 then (bnd (SL_positionOf f (SX5_moonCount f)) (fun o46 : Int32 => if o46 = (-11) then (bnd (SL_massOf f (-1)) (fun o49 : Int32 => if o49 = (-11) then (bnd (SL_ageOf f (SX5_moonCount f)) (fun o52 : Int32 => if o52 = (-11) then (bnd (SL_isHard f (SX5_moonCount f)) (fun o55 : Int32 => if o55 = (-11) then (bnd (SL_isSoft f (SX5_moonCount f)) (fun o58 : Int32 => if o58 = (-11) then (bnd (SL_isEclipsed f (SX5_moonCount f)) (fun o61 : Int32 => if o61 = (-11) then (some (())) else (none))) else (none))) else (none))) else (none))) else (none))) else (none))) else (none))) else (none))) f mn mv 7 0 0
abbrev RM_L_moved : Room := { frames := 10, cells := 56, slots := 336, locals := 166 }
set_option maxRecDepth 20000 in
set_option maxHeartbeats 4000000 in
theorem kL_moved (l : Launch) (hst : l.stackTraces = false) (D : va_G) (cA : Nat → ClassId) (G : eG) (z0 a0 b0 h0 s0 l0 e0 k0 a1 a2 mo : Nat) (N : Nat) (u7 : Int32) (u8 : Int32) (u9 : Int32) (f : Nat → Int32) (mn : Nat) (mr : Nat → Nat) (mv : Nat → Nat → Int32) {r : Unit} (hr : SL_moved N f mn mv = some r) {sz : Nat} : Met l yL_moved wsL_moved RM_L_moved (va_Pc [.ref z0, .ref mo] (gqTB G (moonT mo mn mr mv) D cA [(z0, .inr (9, [.ref a0, .ref b0, .ref h0, .ref s0, .ref l0, .ref e0, .ref k0, .int u7, .int u8, .int u9])), (a0, .inr (8, [.ref a1])), (a1, .inr (6, [.ref a2])), (a2, .inl (cA 0, 61, .inl f))] sz)) (gqQ D (fun as => (some (.int 1))) (fun as => [(z0, .inr (9, [.ref a0, .ref b0, .ref h0, .ref s0, .ref l0, .ref e0, .ref k0, .int u7, .int u8, .int u9])), (a0, .inr (8, [.ref a1])), (a1, .inr (6, [.ref a2])), (a2, .inl (cA 0, 61, .inl f))]) (va_A [(z0, .inr (9, [.ref a0, .ref b0, .ref h0, .ref s0, .ref l0, .ref e0, .ref k0, .int u7, .int u8, .int u9])), (a0, .inr (8, [.ref a1])), (a1, .inr (6, [.ref a2])), (a2, .inl (cA 0, 61, .inl f))] sz)) 56 336 (va_A [(z0, .inr (9, [.ref a0, .ref b0, .ref h0, .ref s0, .ref l0, .ref e0, .ref k0, .int u7, .int u8, .int u9])), (a0, .inr (8, [.ref a1])), (a1, .inr (6, [.ref a2])), (a2, .inl (cA 0, 61, .inl f))] sz) := by
  refine gqT_ofW (cc := cL_moved) (maxL := 7) (ret := (some .boolean)) (by decide) rfl (Nat.le_of_ble_eq_true rfl) (fun p e s m args below meth c ls Q A hx hb hml hts hfc hK hP hD hS hA hEV hL9 hTX hAX hN hl hend => ?_)
  have hfc : s.vm.findClass RL = some m.cls := hfc
  have hl : lv_has ls 7 [(0, .ref z0), (1, .ref mo)] := hl
  have h := hr
  clear hr
  unfold SL_moved at h
  refine lv_aload_n hx hb dL_moved_0 rfl (lv_at hl 0 rfl) ?_
  refine rq_V (v := (some (.int (SX5_moonCount f)))) (As := []) (rest := []) (wc := [(z0, .inr (9, [.ref a0, .ref b0, .ref h0, .ref s0, .ref l0, .ref e0, .ref k0, .int u7, .int u8, .int u9])), (a0, .inr (8, [.ref a1])), (a1, .inr (6, [.ref a2])), (a2, .inl (cA 0, 61, .inl f))]) ⟨hx, hb, hml, hfc, hts⟩ hK hP (kX5_moonCount l D cA z0 a0 b0 h0 s0 l0 e0 k0 a1 a2 u7 u8 u9 f rfl) (cwV 0 hts gL_moved_X5_moonCount rfl rfl rfl (by decide +kernel) ⟨(Nat.le_of_ble_eq_true rfl), (Nat.le_of_ble_eq_true rfl)⟩) [0, 1, 2, 3] rfl 0 9 rfl rfl rfl rfl rfl rfl hl.1 (Nat.le_of_ble_eq_true rfl) dL_moved_1 ⟨(Nat.zero_le _), (Nat.zero_le _)⟩ ?_
  refine lv_istore_n hx hb dL_moved_4 rfl hl (Nat.le_of_ble_eq_true rfl) rfl (fun ls hl => ?_)
  have hl : lv_has ls 7 [(2, .int (SX5_moonCount f)), (0, .ref z0), (1, .ref mo)] := hl
  refine lv_iconst (v := 0) hx hb dL_moved_5 (by decide) ?_
  refine lv_istore_n hx hb dL_moved_6 rfl hl (Nat.le_of_ble_eq_true rfl) rfl (fun ls hl => ?_)
  have hl : lv_has ls 7 [(3, .int 0), (2, .int (SX5_moonCount f)), (0, .ref z0), (1, .ref mo)] := hl
  refine lv_iconst (v := 0) hx hb dL_moved_7 (by decide) ?_
  refine lv_istore hx hb dL_moved_8 hl (Nat.le_of_ble_eq_true rfl) rfl (fun ls hl => ?_)
  have hl : lv_has ls 7 [(4, .int 0), (3, .int 0), (2, .int (SX5_moonCount f)), (0, .ref z0), (1, .ref mo)] := hl
  have hLL_moved_10 : ∀ (K : Int32 → Option (Unit)), (∀ (o2 : Int32) (ls : Array Slot) (H : Heap) (locs : List Loc), lv_has ls 7 [(0, .ref z0), (2, .int (SX5_moonCount f)), (3, .int o2)] → va_P D vwCl [(z0, .inr (9, [.ref a0, .ref b0, .ref h0, .ref s0, .ref l0, .ref e0, .ref k0, .int u7, .int u8, .int u9])), (a0, .inr (8, [.ref a1])), (a1, .inr (6, [.ref a2])), (a2, .inl (cA 0, 61, .inl f))] H → va_D A [(z0, .inr (9, [.ref a0, .ref b0, .ref h0, .ref s0, .ref l0, .ref e0, .ref k0, .int u7, .int u8, .int u9])), (a0, .inr (8, [.ref a1])), (a1, .inr (6, [.ref a2])), (a2, .inl (cA 0, 61, .inl f))] → va_S A s.heap H locs → K o2 = some r → W p l e RM_L_moved s m args below meth c H locs 49 294 Q (F0 m 182 ls [])) → ∀ (fu : Nat) (x3_10 : Int32) (x4_10 : Int32) (ce1 se1 : Nat), ce1 + 7 * fu ≤ 49 → se1 + 42 * fu ≤ 294 → ∀ (ls : Array Slot) (H : Heap) (locs : List Loc), lv_has ls 7 [(0, .ref z0), (1, .ref mo), (2, .int (SX5_moonCount f)), (3, .int x3_10), (4, .int x4_10)] → va_P D vwCl [(z0, .inr (9, [.ref a0, .ref b0, .ref h0, .ref s0, .ref l0, .ref e0, .ref k0, .int u7, .int u8, .int u9])), (a0, .inr (8, [.ref a1])), (a1, .inr (6, [.ref a2])), (a2, .inl (cA 0, 61, .inl f))] H → va_D A [(z0, .inr (9, [.ref a0, .ref b0, .ref h0, .ref s0, .ref l0, .ref e0, .ref k0, .int u7, .int u8, .int u9])), (a0, .inr (8, [.ref a1])), (a1, .inr (6, [.ref a2])), (a2, .inl (cA 0, 61, .inl f))] → va_S A s.heap H locs → LL_moved_10 K f mn mv fu x3_10 x4_10 = some r → W p l e RM_L_moved s m args below meth c H locs ce1 se1 Q (F0 m 10 ls []) := by
    intro K hKk fu
    induction fu with
    | zero =>
      intro x3_10 x4_10 ce1 se1 hce1 hse1 ls H locs hl hP hD hS h
      rw [LL_moved_10] at h
      exact nn h
    | succ fu ih =>
      intro x3_10 x4_10 ce1 se1 hce1 hse1 ls H locs hl hP hD hS h
      rw [LL_moved_10] at h
      refine lv_iload hx hb dL_moved_10 (lv_at hl 4 rfl) ?_
      refine lv_iload_n hx hb dL_moved_12 rfl (lv_at hl 2 rfl) ?_
      refine lv_icmp_ge (tgt := 182) hx hb dL_moved_13 (by decide) (fun c3 => ?_) (fun c3 => ?_)
      · have h := ite_t c3 h
        refine W.widen (k := 49) (n := 294) (room_le (k := 0) hce1 (Nat.le_of_ble_eq_true rfl)) (room_le (k := 0) hse1 (Nat.le_of_ble_eq_true rfl)) ?_
        exact hKk x3_10 _ _ _ (lv_sub hl [0, 2, 3] rfl) hP hD hS h
      · have h := ite_f c3 h
        refine lv_aload_n hx hb dL_moved_16 rfl (lv_at hl 0 rfl) ?_
        refine lv_aload_n hx hb dL_moved_17 rfl (lv_at hl 1 rfl) ?_
        refine lv_iload hx hb dL_moved_18 (lv_at hl 4 rfl) ?_
        obtain ⟨g4, h⟩ := gd_i h
        obtain ⟨g5, h⟩ := gd_i h
        refine va_ta hx hb (moon_arr hTX) hS g4 (v := .ref (mr (Int32.toNatClampNeg x4_10))) (moon_v g5) dL_moved_20 ?_
        refine lv_iconst (v := 0) hx hb dL_moved_21 (by decide) ?_
        obtain ⟨o6, ho6, h⟩ := bnd_i h
        refine gqT_S (G := G) (ts := (rowT (mr (Int32.toNatClampNeg x4_10)) (mv (Int32.toNatClampNeg x4_10)))) (v := (fun as => (some (.int o6)))) (As := [.ref z0, .ref (mr (Int32.toNatClampNeg x4_10)), .int 0]) (rest := []) (wc := [(z0, .inr (9, [.ref a0, .ref b0, .ref h0, .ref s0, .ref l0, .ref e0, .ref k0, .int u7, .int u8, .int u9])), (a0, .inr (8, [.ref a1])), (a1, .inr (6, [.ref a2])), (a2, .inl (cA 0, 61, .inl f))]) (wr := []) (w1 := (fun as => [(z0, .inr (9, [.ref a0, .ref b0, .ref h0, .ref s0, .ref l0, .ref e0, .ref k0, .int u7, .int u8, .int u9])), (a0, .inr (8, [.ref a1])), (a1, .inr (6, [.ref a2])), (a2, .inl (cA 0, 61, .inl f))])) (ws2 := (fun as => [(z0, .inr (9, [.ref a0, .ref b0, .ref h0, .ref s0, .ref l0, .ref e0, .ref k0, .int u7, .int u8, .int u9])), (a0, .inr (8, [.ref a1])), (a1, .inr (6, [.ref a2])), (a2, .inl (cA 0, 61, .inl f))])) (st1 := (fun as => [.int o6])) ⟨hx, hb, hml, hfc, hts⟩ hK hP hD hS hA hEV hL9 (tX.to hTX hD hS hA [0, 1, 2, 3] rfl (row_in g5)) hAX hN (kL_isDark l hst D cA G z0 a0 b0 h0 s0 l0 e0 k0 a1 a2 (mr (Int32.toNatClampNeg x4_10)) u7 u8 u9 f (mv (Int32.toNatClampNeg x4_10)) 0 ho6) (va_cwS 3 hts gL_moved_L_isDark rfl rfl rfl (by decide +kernel) ⟨(Nat.le_of_ble_eq_true rfl), (Nat.le_of_ble_eq_true rfl)⟩) [0, 1, 2, 3] [] [0, 1, 2, 3] rfl rfl rfl rfl (by decide) (fun _ => rfl) rfl rfl (fun _ => rfl) rfl hl.1 (Nat.le_of_ble_eq_true rfl) dL_moved_22 ⟨(room_w (k := 1) hce1 (Nat.le_of_ble_eq_true rfl) (Nat.le_of_ble_eq_true rfl)), (room_w (k := 6) hse1 (Nat.le_of_ble_eq_true rfl) (Nat.le_of_ble_eq_true rfl))⟩ (fun as7 H locs hP hD hS => ?_)
        have hP : va_P D vwCl [(z0, .inr (9, [.ref a0, .ref b0, .ref h0, .ref s0, .ref l0, .ref e0, .ref k0, .int u7, .int u8, .int u9])), (a0, .inr (8, [.ref a1])), (a1, .inr (6, [.ref a2])), (a2, .inl (cA 0, 61, .inl f))] H := hP
        have hD : va_D A [(z0, .inr (9, [.ref a0, .ref b0, .ref h0, .ref s0, .ref l0, .ref e0, .ref k0, .int u7, .int u8, .int u9])), (a0, .inr (8, [.ref a1])), (a1, .inr (6, [.ref a2])), (a2, .inl (cA 0, 61, .inl f))] := hD
        refine W.cs (cells' := ce1 + 1) (slots' := se1 + 6) rfl rfl ?_
        refine lv_istore hx hb dL_moved_25 hl (Nat.le_of_ble_eq_true rfl) rfl (fun ls hl => ?_)
        have hl : lv_has ls 7 [(5, .int o6), (0, .ref z0), (1, .ref mo), (2, .int (SX5_moonCount f)), (3, .int x3_10), (4, .int x4_10)] := hl
        refine lv_iload_n hx hb dL_moved_27 rfl (lv_at hl 4 rfl) ?_
        refine lv_iload hx hb dL_moved_28 (lv_at hl 0 rfl) ?_
        obtain ⟨o9, ho9, h⟩ := lt_i h
        have ko9 : ∀ (ls : Array Slot) (H : Heap) (locs : List Loc), lv_has ls 7 [(0, .ref z0), (1, .ref mo), (2, .int (SX5_moonCount f)), (4, .int x4_10), (5, .int o6)] → va_P D vwCl [(z0, .inr (9, [.ref a0, .ref b0, .ref h0, .ref s0, .ref l0, .ref e0, .ref k0, .int u7, .int u8, .int u9])), (a0, .inr (8, [.ref a1])), (a1, .inr (6, [.ref a2])), (a2, .inl (cA 0, 61, .inl f))] H → va_D A [(z0, .inr (9, [.ref a0, .ref b0, .ref h0, .ref s0, .ref l0, .ref e0, .ref k0, .int u7, .int u8, .int u9])), (a0, .inr (8, [.ref a1])), (a1, .inr (6, [.ref a2])), (a2, .inl (cA 0, 61, .inl f))] → va_S A s.heap H locs → W p l e RM_L_moved s m args below meth c H locs (ce1 + 1) (se1 + 6) Q (F0 m 38 ls [.int o9, .int x3_10]) := by
          intro ls H locs hl hP hD hS
          refine lv_iadd hx hb dL_moved_38 ?_
          refine lv_istore_n hx hb dL_moved_39 rfl hl (Nat.le_of_ble_eq_true rfl) rfl (fun ls hl => ?_)
          have hl : lv_has ls 7 [(3, .int (x3_10 + o9)), (0, .ref z0), (1, .ref mo), (2, .int (SX5_moonCount f)), (4, .int x4_10), (5, .int o6)] := hl
          refine lv_aload_n hx hb dL_moved_40 rfl (lv_at hl 1 rfl) ?_
          refine lv_iload hx hb dL_moved_41 (lv_at hl 4 rfl) ?_
          obtain ⟨o10, ho10, h⟩ := bnd_i h
          refine gqL_S (G := G) (v := (fun as => (some (.int o10)))) (As := [.ref z0, .int x4_10]) (rest := []) (wc := [(z0, .inr (9, [.ref a0, .ref b0, .ref h0, .ref s0, .ref l0, .ref e0, .ref k0, .int u7, .int u8, .int u9])), (a0, .inr (8, [.ref a1])), (a1, .inr (6, [.ref a2])), (a2, .inl (cA 0, 61, .inl f))]) (wr := []) (w1 := (fun as => [(z0, .inr (9, [.ref a0, .ref b0, .ref h0, .ref s0, .ref l0, .ref e0, .ref k0, .int u7, .int u8, .int u9])), (a0, .inr (8, [.ref a1])), (a1, .inr (6, [.ref a2])), (a2, .inl (cA 0, 61, .inl f))])) (ws2 := (fun as => [(z0, .inr (9, [.ref a0, .ref b0, .ref h0, .ref s0, .ref l0, .ref e0, .ref k0, .int u7, .int u8, .int u9])), (a0, .inr (8, [.ref a1])), (a1, .inr (6, [.ref a2])), (a2, .inl (cA 0, 61, .inl f))])) (st1 := (fun as => [.int o10])) ⟨hx, hb, hml, hfc, hts⟩ hK hP hD hS hA hEV hL9 (kL_positionOf l hst D cA G z0 a0 b0 h0 s0 l0 e0 k0 a1 a2 u7 u8 u9 f x4_10 ho10) (vx_cwSW 2 hts gL_moved_L_positionOf rfl rfl rfl (by decide +kernel) ⟨(Nat.le_of_ble_eq_true rfl), (Nat.le_of_ble_eq_true rfl)⟩) [0, 1, 2, 3] [] [0, 1, 2, 3] rfl rfl rfl rfl (by decide) (fun _ => rfl) rfl rfl (fun _ => rfl) rfl hl.1 (Nat.le_of_ble_eq_true rfl) dL_moved_43 ⟨(room_w (k := 2) hce1 (Nat.le_of_ble_eq_true rfl) (Nat.le_of_ble_eq_true rfl)), (room_w (k := 12) hse1 (Nat.le_of_ble_eq_true rfl) (Nat.le_of_ble_eq_true rfl))⟩ (fun as11 H locs hP hD hS => ?_)
          have hP : va_P D vwCl [(z0, .inr (9, [.ref a0, .ref b0, .ref h0, .ref s0, .ref l0, .ref e0, .ref k0, .int u7, .int u8, .int u9])), (a0, .inr (8, [.ref a1])), (a1, .inr (6, [.ref a2])), (a2, .inl (cA 0, 61, .inl f))] H := hP
          have hD : va_D A [(z0, .inr (9, [.ref a0, .ref b0, .ref h0, .ref s0, .ref l0, .ref e0, .ref k0, .int u7, .int u8, .int u9])), (a0, .inr (8, [.ref a1])), (a1, .inr (6, [.ref a2])), (a2, .inl (cA 0, 61, .inl f))] := hD
          refine W.cs (cells' := ce1 + 2) (slots' := se1 + 12) rfl rfl ?_
          refine lv_aload_n hx hb dL_moved_46 rfl (lv_at hl 1 rfl) ?_
          refine lv_aload_n hx hb dL_moved_47 rfl (lv_at hl 2 rfl) ?_
          refine lv_iload hx hb dL_moved_48 (lv_at hl 4 rfl) ?_
          refine va_ta hx hb (moon_arr hTX) hS g4 (v := .ref (mr (Int32.toNatClampNeg x4_10))) (moon_v g5) dL_moved_50 ?_
          refine lv_iconst (v := 0) hx hb dL_moved_51 (by decide) ?_
          obtain ⟨o12, ho12, h⟩ := bnd_i h
          refine gqT_S (G := G) (ts := (rowT (mr (Int32.toNatClampNeg x4_10)) (mv (Int32.toNatClampNeg x4_10)))) (v := (fun as => (some (.int o12)))) (As := [.ref z0, .ref (mr (Int32.toNatClampNeg x4_10)), .int 0]) (rest := [.int o10]) (wc := [(z0, .inr (9, [.ref a0, .ref b0, .ref h0, .ref s0, .ref l0, .ref e0, .ref k0, .int u7, .int u8, .int u9])), (a0, .inr (8, [.ref a1])), (a1, .inr (6, [.ref a2])), (a2, .inl (cA 0, 61, .inl f))]) (wr := []) (w1 := (fun as => [(z0, .inr (9, [.ref a0, .ref b0, .ref h0, .ref s0, .ref l0, .ref e0, .ref k0, .int u7, .int u8, .int u9])), (a0, .inr (8, [.ref a1])), (a1, .inr (6, [.ref a2])), (a2, .inl (cA 0, 61, .inl f))])) (ws2 := (fun as => [(z0, .inr (9, [.ref a0, .ref b0, .ref h0, .ref s0, .ref l0, .ref e0, .ref k0, .int u7, .int u8, .int u9])), (a0, .inr (8, [.ref a1])), (a1, .inr (6, [.ref a2])), (a2, .inl (cA 0, 61, .inl f))])) (st1 := (fun as => [.int o12, .int o10])) ⟨hx, hb, hml, hfc, hts⟩ hK hP hD hS hA hEV hL9 (tX.to hTX hD hS hA [0, 1, 2, 3] rfl (row_in g5)) hAX hN (kL_placeIn l hst D cA G z0 a0 b0 h0 s0 l0 e0 k0 a1 a2 (mr (Int32.toNatClampNeg x4_10)) u7 u8 u9 f (mv (Int32.toNatClampNeg x4_10)) 0 ho12) (va_cwS 3 hts gL_moved_L_placeIn rfl rfl rfl (by decide +kernel) ⟨(Nat.le_of_ble_eq_true rfl), (Nat.le_of_ble_eq_true rfl)⟩) [0, 1, 2, 3] [] [0, 1, 2, 3] rfl rfl rfl rfl (by decide) (fun _ => rfl) rfl rfl (fun _ => rfl) rfl hl.1 (Nat.le_of_ble_eq_true rfl) dL_moved_52 ⟨(room_w (k := 2) hce1 (Nat.le_of_ble_eq_true rfl) (Nat.le_of_ble_eq_true rfl)), (room_w (k := 12) hse1 (Nat.le_of_ble_eq_true rfl) (Nat.le_of_ble_eq_true rfl))⟩ (fun as13 H locs hP hD hS => ?_)
          have hP : va_P D vwCl [(z0, .inr (9, [.ref a0, .ref b0, .ref h0, .ref s0, .ref l0, .ref e0, .ref k0, .int u7, .int u8, .int u9])), (a0, .inr (8, [.ref a1])), (a1, .inr (6, [.ref a2])), (a2, .inl (cA 0, 61, .inl f))] H := hP
          have hD : va_D A [(z0, .inr (9, [.ref a0, .ref b0, .ref h0, .ref s0, .ref l0, .ref e0, .ref k0, .int u7, .int u8, .int u9])), (a0, .inr (8, [.ref a1])), (a1, .inr (6, [.ref a2])), (a2, .inl (cA 0, 61, .inl f))] := hD
          refine W.cs (cells' := ce1 + 2) (slots' := se1 + 12) rfl rfl ?_
          obtain ⟨o15, ho15, h⟩ := bnd_i h
          have ko15 : ∀ (ls : Array Slot) (H : Heap) (locs : List Loc), lv_has ls 7 [(0, .ref z0), (1, .ref mo), (2, .int (SX5_moonCount f)), (3, .int (x3_10 + o9)), (4, .int x4_10)] → va_P D vwCl [(z0, .inr (9, [.ref a0, .ref b0, .ref h0, .ref s0, .ref l0, .ref e0, .ref k0, .int u7, .int u8, .int u9])), (a0, .inr (8, [.ref a1])), (a1, .inr (6, [.ref a2])), (a2, .inl (cA 0, 61, .inl f))] H → va_D A [(z0, .inr (9, [.ref a0, .ref b0, .ref h0, .ref s0, .ref l0, .ref e0, .ref k0, .int u7, .int u8, .int u9])), (a0, .inr (8, [.ref a1])), (a1, .inr (6, [.ref a2])), (a2, .inl (cA 0, 61, .inl f))] → va_S A s.heap H locs → W p l e RM_L_moved s m args below meth c H locs (ce1 + 7) (se1 + 42) Q (F0 m 167 ls [.int o15]) := by
            intro ls H locs hl hP hD hS
            refine lv_istore hx hb dL_moved_167 hl (Nat.le_of_ble_eq_true rfl) rfl (fun ls hl => ?_)
            have hl : lv_has ls 7 [(6, .int o15), (0, .ref z0), (1, .ref mo), (2, .int (SX5_moonCount f)), (3, .int (x3_10 + o9)), (4, .int x4_10)] := hl
            refine lv_iload hx hb dL_moved_169 (lv_at hl 0 rfl) ?_
            refine lv_if_ne (tgt := 176) hx hb dL_moved_171 (by decide) (fun c40 => ?_) (fun c40 => ?_)
            · have h := ite_f c40 h
              refine lv_iinc (k := 5) (v := x4_10 + 1) hx hb dL_moved_176 hl rfl (congrArg (fun z => x4_10 + z) lit1) (Nat.le_of_ble_eq_true rfl) rfl (fun ls hl => ?_)
              have hl : lv_has ls 7 [(4, .int (x4_10 + 1)), (6, .int o15), (0, .ref z0), (1, .ref mo), (2, .int (SX5_moonCount f)), (3, .int (x3_10 + o9))] := hl
              refine lv_goto (tgt := 10) hx hb dL_moved_179 (by decide) ?_
              exact ih (x3_10 + o9) (x4_10 + 1) _ _ (room_bk (k := 7) hce1 (Nat.le_of_ble_eq_true rfl)) (room_bk (k := 42) hse1 (Nat.le_of_ble_eq_true rfl)) _ _ _ (lv_sub hl [2, 3, 4, 5, 0] rfl) hP hD hS h
            · have h := ite_t c40 h
              refine lv_iconst (v := 0) hx hb dL_moved_174 (by decide) ?_
              exact nn h
          clear h
          have h := ho15
          clear ho15
          refine lv_icmp_ne (tgt := 166) hx hb dL_moved_55 (by decide) (fun c14 => ?_) (fun c14 => ?_)
          · have h := ite_f c14 h
            refine lv_iconst (v := 0) hx hb dL_moved_166 (by decide) ?_
            have h := Option.some.inj h
            subst h
            refine W.widen (k := ce1 + 7) (n := se1 + 42) (Nat.add_le_add_left (Nat.le_of_ble_eq_true rfl) _) (Nat.add_le_add_left (Nat.le_of_ble_eq_true rfl) _) ?_
            exact ko15 _ _ _ (lv_sub hl [1, 2, 3, 0, 4] rfl) hP hD hS
          · have h := ite_t c14 h
            refine lv_aload_n hx hb dL_moved_58 rfl (lv_at hl 1 rfl) ?_
            refine lv_iload hx hb dL_moved_59 (lv_at hl 4 rfl) ?_
            obtain ⟨o16, ho16, h⟩ := bnd_i h
            refine gqL_S (G := G) (v := (fun as => (some (.int o16)))) (As := [.ref z0, .int x4_10]) (rest := []) (wc := [(z0, .inr (9, [.ref a0, .ref b0, .ref h0, .ref s0, .ref l0, .ref e0, .ref k0, .int u7, .int u8, .int u9])), (a0, .inr (8, [.ref a1])), (a1, .inr (6, [.ref a2])), (a2, .inl (cA 0, 61, .inl f))]) (wr := []) (w1 := (fun as => [(z0, .inr (9, [.ref a0, .ref b0, .ref h0, .ref s0, .ref l0, .ref e0, .ref k0, .int u7, .int u8, .int u9])), (a0, .inr (8, [.ref a1])), (a1, .inr (6, [.ref a2])), (a2, .inl (cA 0, 61, .inl f))])) (ws2 := (fun as => [(z0, .inr (9, [.ref a0, .ref b0, .ref h0, .ref s0, .ref l0, .ref e0, .ref k0, .int u7, .int u8, .int u9])), (a0, .inr (8, [.ref a1])), (a1, .inr (6, [.ref a2])), (a2, .inl (cA 0, 61, .inl f))])) (st1 := (fun as => [.int o16])) ⟨hx, hb, hml, hfc, hts⟩ hK hP hD hS hA hEV hL9 (kL_massOf l hst D cA G z0 a0 b0 h0 s0 l0 e0 k0 a1 a2 u7 u8 u9 f x4_10 ho16) (vx_cwSW 2 hts gL_moved_L_massOf rfl rfl rfl (by decide +kernel) ⟨(Nat.le_of_ble_eq_true rfl), (Nat.le_of_ble_eq_true rfl)⟩) [0, 1, 2, 3] [] [0, 1, 2, 3] rfl rfl rfl rfl (by decide) (fun _ => rfl) rfl rfl (fun _ => rfl) rfl hl.1 (Nat.le_of_ble_eq_true rfl) dL_moved_61 ⟨(room_w (k := 3) hce1 (Nat.le_of_ble_eq_true rfl) (Nat.le_of_ble_eq_true rfl)), (room_w (k := 18) hse1 (Nat.le_of_ble_eq_true rfl) (Nat.le_of_ble_eq_true rfl))⟩ (fun as17 H locs hP hD hS => ?_)
            have hP : va_P D vwCl [(z0, .inr (9, [.ref a0, .ref b0, .ref h0, .ref s0, .ref l0, .ref e0, .ref k0, .int u7, .int u8, .int u9])), (a0, .inr (8, [.ref a1])), (a1, .inr (6, [.ref a2])), (a2, .inl (cA 0, 61, .inl f))] H := hP
            have hD : va_D A [(z0, .inr (9, [.ref a0, .ref b0, .ref h0, .ref s0, .ref l0, .ref e0, .ref k0, .int u7, .int u8, .int u9])), (a0, .inr (8, [.ref a1])), (a1, .inr (6, [.ref a2])), (a2, .inl (cA 0, 61, .inl f))] := hD
            refine W.cs (cells' := ce1 + 3) (slots' := se1 + 18) rfl rfl ?_
            refine lv_aload_n hx hb dL_moved_64 rfl (lv_at hl 1 rfl) ?_
            refine lv_aload_n hx hb dL_moved_65 rfl (lv_at hl 2 rfl) ?_
            refine lv_iload hx hb dL_moved_66 (lv_at hl 4 rfl) ?_
            refine va_ta hx hb (moon_arr hTX) hS g4 (v := .ref (mr (Int32.toNatClampNeg x4_10))) (moon_v g5) dL_moved_68 ?_
            refine lv_iconst (v := 0) hx hb dL_moved_69 (by decide) ?_
            obtain ⟨o18, ho18, h⟩ := lt_i h
            refine gqT_S (G := G) (ts := (rowT (mr (Int32.toNatClampNeg x4_10)) (mv (Int32.toNatClampNeg x4_10)))) (v := (fun as => (some (.int o18)))) (As := [.ref z0, .ref (mr (Int32.toNatClampNeg x4_10)), .int 0]) (rest := [.int o16]) (wc := [(z0, .inr (9, [.ref a0, .ref b0, .ref h0, .ref s0, .ref l0, .ref e0, .ref k0, .int u7, .int u8, .int u9])), (a0, .inr (8, [.ref a1])), (a1, .inr (6, [.ref a2])), (a2, .inl (cA 0, 61, .inl f))]) (wr := []) (w1 := (fun as => [(z0, .inr (9, [.ref a0, .ref b0, .ref h0, .ref s0, .ref l0, .ref e0, .ref k0, .int u7, .int u8, .int u9])), (a0, .inr (8, [.ref a1])), (a1, .inr (6, [.ref a2])), (a2, .inl (cA 0, 61, .inl f))])) (ws2 := (fun as => [(z0, .inr (9, [.ref a0, .ref b0, .ref h0, .ref s0, .ref l0, .ref e0, .ref k0, .int u7, .int u8, .int u9])), (a0, .inr (8, [.ref a1])), (a1, .inr (6, [.ref a2])), (a2, .inl (cA 0, 61, .inl f))])) (st1 := (fun as => [.int o18, .int o16])) ⟨hx, hb, hml, hfc, hts⟩ hK hP hD hS hA hEV hL9 (tX.to hTX hD hS hA [0, 1, 2, 3] rfl (row_in g5)) hAX hN (kL_massIn l hst D cA G z0 a0 b0 h0 s0 l0 e0 k0 a1 a2 (mr (Int32.toNatClampNeg x4_10)) u7 u8 u9 f (mv (Int32.toNatClampNeg x4_10)) 0 ho18) (va_cwS 3 hts gL_moved_L_massIn rfl rfl rfl (by decide +kernel) ⟨(Nat.le_of_ble_eq_true rfl), (Nat.le_of_ble_eq_true rfl)⟩) [0, 1, 2, 3] [] [0, 1, 2, 3] rfl rfl rfl rfl (by decide) (fun _ => rfl) rfl rfl (fun _ => rfl) rfl hl.1 (Nat.le_of_ble_eq_true rfl) dL_moved_70 ⟨(room_w (k := 3) hce1 (Nat.le_of_ble_eq_true rfl) (Nat.le_of_ble_eq_true rfl)), (room_w (k := 18) hse1 (Nat.le_of_ble_eq_true rfl) (Nat.le_of_ble_eq_true rfl))⟩ (fun as19 H locs hP hD hS => ?_)
            have hP : va_P D vwCl [(z0, .inr (9, [.ref a0, .ref b0, .ref h0, .ref s0, .ref l0, .ref e0, .ref k0, .int u7, .int u8, .int u9])), (a0, .inr (8, [.ref a1])), (a1, .inr (6, [.ref a2])), (a2, .inl (cA 0, 61, .inl f))] H := hP
            have hD : va_D A [(z0, .inr (9, [.ref a0, .ref b0, .ref h0, .ref s0, .ref l0, .ref e0, .ref k0, .int u7, .int u8, .int u9])), (a0, .inr (8, [.ref a1])), (a1, .inr (6, [.ref a2])), (a2, .inl (cA 0, 61, .inl f))] := hD
            refine W.cs (cells' := ce1 + 3) (slots' := se1 + 18) rfl rfl ?_
            refine lv_icmp_ne (tgt := 166) hx hb dL_moved_73 (by decide) (fun c20 => ?_) (fun c20 => ?_)
            · have h := ite_f c20 h
              refine lv_iconst (v := 0) hx hb dL_moved_166 (by decide) ?_
              have h := Option.some.inj h
              subst h
              refine W.widen (k := ce1 + 7) (n := se1 + 42) (Nat.add_le_add_left (Nat.le_of_ble_eq_true rfl) _) (Nat.add_le_add_left (Nat.le_of_ble_eq_true rfl) _) ?_
              exact ko15 _ _ _ (lv_sub hl [1, 2, 3, 0, 4] rfl) hP hD hS
            · have h := ite_t c20 h
              refine lv_aload_n hx hb dL_moved_76 rfl (lv_at hl 1 rfl) ?_
              refine lv_iload hx hb dL_moved_77 (lv_at hl 4 rfl) ?_
              obtain ⟨o21, ho21, h⟩ := bnd_i h
              refine gqL_S (G := G) (v := (fun as => (some (.int o21)))) (As := [.ref z0, .int x4_10]) (rest := []) (wc := [(z0, .inr (9, [.ref a0, .ref b0, .ref h0, .ref s0, .ref l0, .ref e0, .ref k0, .int u7, .int u8, .int u9])), (a0, .inr (8, [.ref a1])), (a1, .inr (6, [.ref a2])), (a2, .inl (cA 0, 61, .inl f))]) (wr := []) (w1 := (fun as => [(z0, .inr (9, [.ref a0, .ref b0, .ref h0, .ref s0, .ref l0, .ref e0, .ref k0, .int u7, .int u8, .int u9])), (a0, .inr (8, [.ref a1])), (a1, .inr (6, [.ref a2])), (a2, .inl (cA 0, 61, .inl f))])) (ws2 := (fun as => [(z0, .inr (9, [.ref a0, .ref b0, .ref h0, .ref s0, .ref l0, .ref e0, .ref k0, .int u7, .int u8, .int u9])), (a0, .inr (8, [.ref a1])), (a1, .inr (6, [.ref a2])), (a2, .inl (cA 0, 61, .inl f))])) (st1 := (fun as => [.int o21])) ⟨hx, hb, hml, hfc, hts⟩ hK hP hD hS hA hEV hL9 (kL_ageOf l hst D cA G z0 a0 b0 h0 s0 l0 e0 k0 a1 a2 u7 u8 u9 f x4_10 ho21) (vx_cwSW 2 hts gL_moved_L_ageOf rfl rfl rfl (by decide +kernel) ⟨(Nat.le_of_ble_eq_true rfl), (Nat.le_of_ble_eq_true rfl)⟩) [0, 1, 2, 3] [] [0, 1, 2, 3] rfl rfl rfl rfl (by decide) (fun _ => rfl) rfl rfl (fun _ => rfl) rfl hl.1 (Nat.le_of_ble_eq_true rfl) dL_moved_79 ⟨(room_w (k := 4) hce1 (Nat.le_of_ble_eq_true rfl) (Nat.le_of_ble_eq_true rfl)), (room_w (k := 24) hse1 (Nat.le_of_ble_eq_true rfl) (Nat.le_of_ble_eq_true rfl))⟩ (fun as22 H locs hP hD hS => ?_)
              have hP : va_P D vwCl [(z0, .inr (9, [.ref a0, .ref b0, .ref h0, .ref s0, .ref l0, .ref e0, .ref k0, .int u7, .int u8, .int u9])), (a0, .inr (8, [.ref a1])), (a1, .inr (6, [.ref a2])), (a2, .inl (cA 0, 61, .inl f))] H := hP
              have hD : va_D A [(z0, .inr (9, [.ref a0, .ref b0, .ref h0, .ref s0, .ref l0, .ref e0, .ref k0, .int u7, .int u8, .int u9])), (a0, .inr (8, [.ref a1])), (a1, .inr (6, [.ref a2])), (a2, .inl (cA 0, 61, .inl f))] := hD
              refine W.cs (cells' := ce1 + 4) (slots' := se1 + 24) rfl rfl ?_
              refine lv_aload_n hx hb dL_moved_82 rfl (lv_at hl 1 rfl) ?_
              refine rq_V (v := (some (.int (SX5_time f)))) (As := []) (rest := [.int o21]) (wc := [(z0, .inr (9, [.ref a0, .ref b0, .ref h0, .ref s0, .ref l0, .ref e0, .ref k0, .int u7, .int u8, .int u9])), (a0, .inr (8, [.ref a1])), (a1, .inr (6, [.ref a2])), (a2, .inl (cA 0, 61, .inl f))]) ⟨hx, hb, hml, hfc, hts⟩ hK hP (kX5_time l D cA z0 a0 b0 h0 s0 l0 e0 k0 a1 a2 u7 u8 u9 f rfl) (cwV 0 hts gL_moved_X5_time rfl rfl rfl (by decide +kernel) ⟨(Nat.le_of_ble_eq_true rfl), (Nat.le_of_ble_eq_true rfl)⟩) [0, 1, 2, 3] rfl 0 9 rfl rfl rfl rfl rfl rfl hl.1 (Nat.le_of_ble_eq_true rfl) dL_moved_83 ⟨(room_w (k := 4) hce1 (Nat.le_of_ble_eq_true rfl) (Nat.le_of_ble_eq_true rfl)), (room_w (k := 24) hse1 (Nat.le_of_ble_eq_true rfl) (Nat.le_of_ble_eq_true rfl))⟩ ?_
              refine lv_aload_n hx hb dL_moved_86 rfl (lv_at hl 2 rfl) ?_
              refine lv_iload hx hb dL_moved_87 (lv_at hl 4 rfl) ?_
              refine va_ta hx hb (moon_arr hTX) hS g4 (v := .ref (mr (Int32.toNatClampNeg x4_10))) (moon_v g5) dL_moved_89 ?_
              refine lv_iconst (v := 4) hx hb dL_moved_90 (by decide) ?_
              refine va_ti hx hb (moon_row hTX g5) hS (vin _ _ (by decide)) (v := .int (mv (Int32.toNatClampNeg x4_10) 4)) rfl dL_moved_91 ?_
              refine lv_isub hx hb dL_moved_92 ?_
              refine lv_icmp_ne (tgt := 166) hx hb dL_moved_93 (by decide) (fun c24 => ?_) (fun c24 => ?_)
              · have h := ite_f c24 h
                refine lv_iconst (v := 0) hx hb dL_moved_166 (by decide) ?_
                have h := Option.some.inj h
                subst h
                refine W.widen (k := ce1 + 7) (n := se1 + 42) (Nat.add_le_add_left (Nat.le_of_ble_eq_true rfl) _) (Nat.add_le_add_left (Nat.le_of_ble_eq_true rfl) _) ?_
                exact ko15 _ _ _ (lv_sub hl [1, 2, 3, 0, 4] rfl) hP hD hS
              · have h := ite_t c24 h
                refine lv_aload_n hx hb dL_moved_96 rfl (lv_at hl 1 rfl) ?_
                refine lv_iload hx hb dL_moved_97 (lv_at hl 4 rfl) ?_
                obtain ⟨o25, ho25, h⟩ := bnd_i h
                refine gqL_S (G := G) (v := (fun as => (some (.int o25)))) (As := [.ref z0, .int x4_10]) (rest := []) (wc := [(z0, .inr (9, [.ref a0, .ref b0, .ref h0, .ref s0, .ref l0, .ref e0, .ref k0, .int u7, .int u8, .int u9])), (a0, .inr (8, [.ref a1])), (a1, .inr (6, [.ref a2])), (a2, .inl (cA 0, 61, .inl f))]) (wr := []) (w1 := (fun as => [(z0, .inr (9, [.ref a0, .ref b0, .ref h0, .ref s0, .ref l0, .ref e0, .ref k0, .int u7, .int u8, .int u9])), (a0, .inr (8, [.ref a1])), (a1, .inr (6, [.ref a2])), (a2, .inl (cA 0, 61, .inl f))])) (ws2 := (fun as => [(z0, .inr (9, [.ref a0, .ref b0, .ref h0, .ref s0, .ref l0, .ref e0, .ref k0, .int u7, .int u8, .int u9])), (a0, .inr (8, [.ref a1])), (a1, .inr (6, [.ref a2])), (a2, .inl (cA 0, 61, .inl f))])) (st1 := (fun as => [.int o25])) ⟨hx, hb, hml, hfc, hts⟩ hK hP hD hS hA hEV hL9 (kL_isHard l hst D cA G z0 a0 b0 h0 s0 l0 e0 k0 a1 a2 u7 u8 u9 f x4_10 ho25) (vx_cwSW 2 hts gL_moved_L_isHard rfl rfl rfl (by decide +kernel) ⟨(Nat.le_of_ble_eq_true rfl), (Nat.le_of_ble_eq_true rfl)⟩) [0, 1, 2, 3] [] [0, 1, 2, 3] rfl rfl rfl rfl (by decide) (fun _ => rfl) rfl rfl (fun _ => rfl) rfl hl.1 (Nat.le_of_ble_eq_true rfl) dL_moved_99 ⟨(room_w (k := 5) hce1 (Nat.le_of_ble_eq_true rfl) (Nat.le_of_ble_eq_true rfl)), (room_w (k := 30) hse1 (Nat.le_of_ble_eq_true rfl) (Nat.le_of_ble_eq_true rfl))⟩ (fun as26 H locs hP hD hS => ?_)
                have hP : va_P D vwCl [(z0, .inr (9, [.ref a0, .ref b0, .ref h0, .ref s0, .ref l0, .ref e0, .ref k0, .int u7, .int u8, .int u9])), (a0, .inr (8, [.ref a1])), (a1, .inr (6, [.ref a2])), (a2, .inl (cA 0, 61, .inl f))] H := hP
                have hD : va_D A [(z0, .inr (9, [.ref a0, .ref b0, .ref h0, .ref s0, .ref l0, .ref e0, .ref k0, .int u7, .int u8, .int u9])), (a0, .inr (8, [.ref a1])), (a1, .inr (6, [.ref a2])), (a2, .inl (cA 0, 61, .inl f))] := hD
                refine W.cs (cells' := ce1 + 5) (slots' := se1 + 30) rfl rfl ?_
                refine lv_aload_n hx hb dL_moved_102 rfl (lv_at hl 2 rfl) ?_
                refine lv_iload hx hb dL_moved_103 (lv_at hl 4 rfl) ?_
                refine va_ta hx hb (moon_arr hTX) hS g4 (v := .ref (mr (Int32.toNatClampNeg x4_10))) (moon_v g5) dL_moved_105 ?_
                refine lv_iconst (v := 0) hx hb dL_moved_106 (by decide) ?_
                refine va_ti hx hb (moon_row hTX g5) hS (vin _ _ (by decide)) (v := .int (mv (Int32.toNatClampNeg x4_10) 0)) rfl dL_moved_107 ?_
                obtain ⟨o28, ho28, h⟩ := lt_i h
                have ko28 : ∀ (ls : Array Slot) (H : Heap) (locs : List Loc), lv_has ls 7 [(0, .ref z0), (1, .ref mo), (2, .int (SX5_moonCount f)), (3, .int (x3_10 + o9)), (4, .int x4_10), (5, .int o6)] → va_P D vwCl [(z0, .inr (9, [.ref a0, .ref b0, .ref h0, .ref s0, .ref l0, .ref e0, .ref k0, .int u7, .int u8, .int u9])), (a0, .inr (8, [.ref a1])), (a1, .inr (6, [.ref a2])), (a2, .inl (cA 0, 61, .inl f))] H → va_D A [(z0, .inr (9, [.ref a0, .ref b0, .ref h0, .ref s0, .ref l0, .ref e0, .ref k0, .int u7, .int u8, .int u9])), (a0, .inr (8, [.ref a1])), (a1, .inr (6, [.ref a2])), (a2, .inl (cA 0, 61, .inl f))] → va_S A s.heap H locs → W p l e RM_L_moved s m args below meth c H locs (ce1 + 5) (se1 + 30) Q (F0 m 116 ls [.int o28, .int o25]) := by
                  intro ls H locs hl hP hD hS
                  refine lv_icmp_ne (tgt := 166) hx hb dL_moved_116 (by decide) (fun c29 => ?_) (fun c29 => ?_)
                  · have h := ite_f c29 h
                    refine lv_iconst (v := 0) hx hb dL_moved_166 (by decide) ?_
                    have h := Option.some.inj h
                    subst h
                    refine W.widen (k := ce1 + 7) (n := se1 + 42) (Nat.add_le_add_left (Nat.le_of_ble_eq_true rfl) _) (Nat.add_le_add_left (Nat.le_of_ble_eq_true rfl) _) ?_
                    exact ko15 _ _ _ (lv_sub hl [0, 1, 2, 3, 4] rfl) hP hD hS
                  · have h := ite_t c29 h
                    refine lv_aload_n hx hb dL_moved_119 rfl (lv_at hl 0 rfl) ?_
                    refine lv_iload hx hb dL_moved_120 (lv_at hl 4 rfl) ?_
                    obtain ⟨o30, ho30, h⟩ := bnd_i h
                    refine gqL_S (G := G) (v := (fun as => (some (.int o30)))) (As := [.ref z0, .int x4_10]) (rest := []) (wc := [(z0, .inr (9, [.ref a0, .ref b0, .ref h0, .ref s0, .ref l0, .ref e0, .ref k0, .int u7, .int u8, .int u9])), (a0, .inr (8, [.ref a1])), (a1, .inr (6, [.ref a2])), (a2, .inl (cA 0, 61, .inl f))]) (wr := []) (w1 := (fun as => [(z0, .inr (9, [.ref a0, .ref b0, .ref h0, .ref s0, .ref l0, .ref e0, .ref k0, .int u7, .int u8, .int u9])), (a0, .inr (8, [.ref a1])), (a1, .inr (6, [.ref a2])), (a2, .inl (cA 0, 61, .inl f))])) (ws2 := (fun as => [(z0, .inr (9, [.ref a0, .ref b0, .ref h0, .ref s0, .ref l0, .ref e0, .ref k0, .int u7, .int u8, .int u9])), (a0, .inr (8, [.ref a1])), (a1, .inr (6, [.ref a2])), (a2, .inl (cA 0, 61, .inl f))])) (st1 := (fun as => [.int o30])) ⟨hx, hb, hml, hfc, hts⟩ hK hP hD hS hA hEV hL9 (kL_isSoft l hst D cA G z0 a0 b0 h0 s0 l0 e0 k0 a1 a2 u7 u8 u9 f x4_10 ho30) (vx_cwSW 2 hts gL_moved_L_isSoft rfl rfl rfl (by decide +kernel) ⟨(Nat.le_of_ble_eq_true rfl), (Nat.le_of_ble_eq_true rfl)⟩) [0, 1, 2, 3] [] [0, 1, 2, 3] rfl rfl rfl rfl (by decide) (fun _ => rfl) rfl rfl (fun _ => rfl) rfl hl.1 (Nat.le_of_ble_eq_true rfl) dL_moved_122 ⟨(room_w (k := 6) hce1 (Nat.le_of_ble_eq_true rfl) (Nat.le_of_ble_eq_true rfl)), (room_w (k := 36) hse1 (Nat.le_of_ble_eq_true rfl) (Nat.le_of_ble_eq_true rfl))⟩ (fun as31 H locs hP hD hS => ?_)
                    have hP : va_P D vwCl [(z0, .inr (9, [.ref a0, .ref b0, .ref h0, .ref s0, .ref l0, .ref e0, .ref k0, .int u7, .int u8, .int u9])), (a0, .inr (8, [.ref a1])), (a1, .inr (6, [.ref a2])), (a2, .inl (cA 0, 61, .inl f))] H := hP
                    have hD : va_D A [(z0, .inr (9, [.ref a0, .ref b0, .ref h0, .ref s0, .ref l0, .ref e0, .ref k0, .int u7, .int u8, .int u9])), (a0, .inr (8, [.ref a1])), (a1, .inr (6, [.ref a2])), (a2, .inl (cA 0, 61, .inl f))] := hD
                    refine W.cs (cells' := ce1 + 6) (slots' := se1 + 36) rfl rfl ?_
                    refine lv_aload_n hx hb dL_moved_125 rfl (lv_at hl 1 rfl) ?_
                    refine lv_iload hx hb dL_moved_126 (lv_at hl 4 rfl) ?_
                    refine va_ta hx hb (moon_arr hTX) hS g4 (v := .ref (mr (Int32.toNatClampNeg x4_10))) (moon_v g5) dL_moved_128 ?_
                    refine lv_iconst (v := 0) hx hb dL_moved_129 (by decide) ?_
                    refine va_ti hx hb (moon_row hTX g5) hS (vin _ _ (by decide)) (v := .int (mv (Int32.toNatClampNeg x4_10) 0)) rfl dL_moved_130 ?_
                    refine lv_iconst (v := 1) hx hb dL_moved_131 (by decide) ?_
                    obtain ⟨o33, ho33, h⟩ := lt_i h
                    have ko33 : ∀ (ls : Array Slot) (H : Heap) (locs : List Loc), lv_has ls 7 [(0, .ref z0), (1, .ref mo), (2, .int (SX5_moonCount f)), (3, .int (x3_10 + o9)), (4, .int x4_10), (5, .int o6)] → va_P D vwCl [(z0, .inr (9, [.ref a0, .ref b0, .ref h0, .ref s0, .ref l0, .ref e0, .ref k0, .int u7, .int u8, .int u9])), (a0, .inr (8, [.ref a1])), (a1, .inr (6, [.ref a2])), (a2, .inl (cA 0, 61, .inl f))] H → va_D A [(z0, .inr (9, [.ref a0, .ref b0, .ref h0, .ref s0, .ref l0, .ref e0, .ref k0, .int u7, .int u8, .int u9])), (a0, .inr (8, [.ref a1])), (a1, .inr (6, [.ref a2])), (a2, .inl (cA 0, 61, .inl f))] → va_S A s.heap H locs → W p l e RM_L_moved s m args below meth c H locs (ce1 + 6) (se1 + 36) Q (F0 m 140 ls [.int o33, .int o30]) := by
                      intro ls H locs hl hP hD hS
                      refine lv_icmp_ne (tgt := 166) hx hb dL_moved_140 (by decide) (fun c34 => ?_) (fun c34 => ?_)
                      · have h := ite_f c34 h
                        refine lv_iconst (v := 0) hx hb dL_moved_166 (by decide) ?_
                        have h := Option.some.inj h
                        subst h
                        refine W.widen (k := ce1 + 7) (n := se1 + 42) (Nat.add_le_add_left (Nat.le_of_ble_eq_true rfl) _) (Nat.add_le_add_left (Nat.le_of_ble_eq_true rfl) _) ?_
                        exact ko15 _ _ _ (lv_sub hl [0, 1, 2, 3, 4] rfl) hP hD hS
                      · have h := ite_t c34 h
                        refine lv_aload_n hx hb dL_moved_143 rfl (lv_at hl 0 rfl) ?_
                        refine lv_iload hx hb dL_moved_144 (lv_at hl 4 rfl) ?_
                        obtain ⟨o35, ho35, h⟩ := bnd_i h
                        refine gqL_S (G := G) (v := (fun as => (some (.int o35)))) (As := [.ref z0, .int x4_10]) (rest := []) (wc := [(z0, .inr (9, [.ref a0, .ref b0, .ref h0, .ref s0, .ref l0, .ref e0, .ref k0, .int u7, .int u8, .int u9])), (a0, .inr (8, [.ref a1])), (a1, .inr (6, [.ref a2])), (a2, .inl (cA 0, 61, .inl f))]) (wr := []) (w1 := (fun as => [(z0, .inr (9, [.ref a0, .ref b0, .ref h0, .ref s0, .ref l0, .ref e0, .ref k0, .int u7, .int u8, .int u9])), (a0, .inr (8, [.ref a1])), (a1, .inr (6, [.ref a2])), (a2, .inl (cA 0, 61, .inl f))])) (ws2 := (fun as => [(z0, .inr (9, [.ref a0, .ref b0, .ref h0, .ref s0, .ref l0, .ref e0, .ref k0, .int u7, .int u8, .int u9])), (a0, .inr (8, [.ref a1])), (a1, .inr (6, [.ref a2])), (a2, .inl (cA 0, 61, .inl f))])) (st1 := (fun as => [.int o35])) ⟨hx, hb, hml, hfc, hts⟩ hK hP hD hS hA hEV hL9 (kL_isEclipsed l hst D cA G z0 a0 b0 h0 s0 l0 e0 k0 a1 a2 u7 u8 u9 f x4_10 ho35) (vx_cwSW 2 hts gL_moved_L_isEclipsed rfl rfl rfl (by decide +kernel) ⟨(Nat.le_of_ble_eq_true rfl), (Nat.le_of_ble_eq_true rfl)⟩) [0, 1, 2, 3] [] [0, 1, 2, 3] rfl rfl rfl rfl (by decide) (fun _ => rfl) rfl rfl (fun _ => rfl) rfl hl.1 (Nat.le_of_ble_eq_true rfl) dL_moved_146 ⟨(room_w (k := 7) hce1 (Nat.le_of_ble_eq_true rfl) (Nat.le_of_ble_eq_true rfl)), (room_w (k := 42) hse1 (Nat.le_of_ble_eq_true rfl) (Nat.le_of_ble_eq_true rfl))⟩ (fun as36 H locs hP hD hS => ?_)
                        have hP : va_P D vwCl [(z0, .inr (9, [.ref a0, .ref b0, .ref h0, .ref s0, .ref l0, .ref e0, .ref k0, .int u7, .int u8, .int u9])), (a0, .inr (8, [.ref a1])), (a1, .inr (6, [.ref a2])), (a2, .inl (cA 0, 61, .inl f))] H := hP
                        have hD : va_D A [(z0, .inr (9, [.ref a0, .ref b0, .ref h0, .ref s0, .ref l0, .ref e0, .ref k0, .int u7, .int u8, .int u9])), (a0, .inr (8, [.ref a1])), (a1, .inr (6, [.ref a2])), (a2, .inl (cA 0, 61, .inl f))] := hD
                        refine W.cs (cells' := ce1 + 7) (slots' := se1 + 42) rfl rfl ?_
                        refine lv_iload hx hb dL_moved_149 (lv_at hl 5 rfl) ?_
                        obtain ⟨o38, ho38, h⟩ := lt_i h
                        have ko38 : ∀ (ls : Array Slot) (H : Heap) (locs : List Loc), lv_has ls 7 [(0, .ref z0), (1, .ref mo), (2, .int (SX5_moonCount f)), (3, .int (x3_10 + o9)), (4, .int x4_10)] → va_P D vwCl [(z0, .inr (9, [.ref a0, .ref b0, .ref h0, .ref s0, .ref l0, .ref e0, .ref k0, .int u7, .int u8, .int u9])), (a0, .inr (8, [.ref a1])), (a1, .inr (6, [.ref a2])), (a2, .inl (cA 0, 61, .inl f))] H → va_D A [(z0, .inr (9, [.ref a0, .ref b0, .ref h0, .ref s0, .ref l0, .ref e0, .ref k0, .int u7, .int u8, .int u9])), (a0, .inr (8, [.ref a1])), (a1, .inr (6, [.ref a2])), (a2, .inl (cA 0, 61, .inl f))] → va_S A s.heap H locs → W p l e RM_L_moved s m args below meth c H locs (ce1 + 7) (se1 + 42) Q (F0 m 159 ls [.int o38, .int o35]) := by
                          intro ls H locs hl hP hD hS
                          refine lv_icmp_ne (tgt := 166) hx hb dL_moved_159 (by decide) (fun c39 => ?_) (fun c39 => ?_)
                          · have h := ite_f c39 h
                            refine lv_iconst (v := 0) hx hb dL_moved_166 (by decide) ?_
                            have h := Option.some.inj h
                            subst h
                            exact ko15 _ _ _ (lv_sub hl [0, 1, 2, 3, 4] rfl) hP hD hS
                          · have h := ite_t c39 h
                            refine lv_iconst (v := 1) hx hb dL_moved_162 (by decide) ?_
                            refine lv_goto (tgt := 167) hx hb dL_moved_163 (by decide) ?_
                            have h := Option.some.inj h
                            subst h
                            exact ko15 _ _ _ (lv_sub hl [0, 1, 2, 3, 4] rfl) hP hD hS
                        clear h
                        have h := ho38
                        clear ho38
                        refine lv_if_eq (tgt := 158) hx hb dL_moved_151 (by decide) (fun c37 => ?_) (fun c37 => ?_)
                        · have h := ite_t c37 h
                          refine lv_iconst (v := 0) hx hb dL_moved_158 (by decide) ?_
                          subst h
                          exact ko38 _ _ _ (lv_sub hl [0, 1, 2, 3, 4] rfl) hP hD hS
                        · have h := ite_f c37 h
                          refine lv_iconst (v := 1) hx hb dL_moved_154 (by decide) ?_
                          refine lv_goto (tgt := 159) hx hb dL_moved_155 (by decide) ?_
                          subst h
                          exact ko38 _ _ _ (lv_sub hl [0, 1, 2, 3, 4] rfl) hP hD hS
                    clear h
                    have h := ho33
                    clear ho33
                    refine lv_icmp_ne (tgt := 139) hx hb dL_moved_132 (by decide) (fun c32 => ?_) (fun c32 => ?_)
                    · have h := ite_f c32 h
                      refine lv_iconst (v := 0) hx hb dL_moved_139 (by decide) ?_
                      subst h
                      exact ko33 _ _ _ (lv_sub hl [0, 1, 2, 3, 4, 5] rfl) hP hD hS
                    · have h := ite_t c32 h
                      refine lv_iconst (v := 1) hx hb dL_moved_135 (by decide) ?_
                      refine lv_goto (tgt := 140) hx hb dL_moved_136 (by decide) ?_
                      subst h
                      exact ko33 _ _ _ (lv_sub hl [0, 1, 2, 3, 4, 5] rfl) hP hD hS
                clear h
                have h := ho28
                clear ho28
                refine lv_if_ne (tgt := 115) hx hb dL_moved_108 (by decide) (fun c27 => ?_) (fun c27 => ?_)
                · have h := ite_f c27 h
                  refine lv_iconst (v := 0) hx hb dL_moved_115 (by decide) ?_
                  subst h
                  exact ko28 _ _ _ (lv_sub hl [1, 2, 3, 0, 4, 5] rfl) hP hD hS
                · have h := ite_t c27 h
                  refine lv_iconst (v := 1) hx hb dL_moved_111 (by decide) ?_
                  refine lv_goto (tgt := 116) hx hb dL_moved_112 (by decide) ?_
                  subst h
                  exact ko28 _ _ _ (lv_sub hl [1, 2, 3, 0, 4, 5] rfl) hP hD hS
        clear h
        have h := ho9
        clear ho9
        refine lv_if_eq (tgt := 37) hx hb dL_moved_30 (by decide) (fun c8 => ?_) (fun c8 => ?_)
        · have h := ite_t c8 h
          refine lv_iconst (v := 0) hx hb dL_moved_37 (by decide) ?_
          subst h
          exact ko9 _ _ _ (lv_sub hl [1, 2, 3, 5, 0] rfl) hP hD hS
        · have h := ite_f c8 h
          refine lv_iconst (v := 1) hx hb dL_moved_33 (by decide) ?_
          refine lv_goto (tgt := 38) hx hb dL_moved_34 (by decide) ?_
          subst h
          exact ko9 _ _ _ (lv_sub hl [1, 2, 3, 5, 0] rfl) hP hD hS
  refine hLL_moved_10 _ ?_ 7 0 0 0 0 (Nat.le_of_ble_eq_true rfl) (Nat.le_of_ble_eq_true rfl) _ _ _ (lv_sub hl [3, 4, 2, 1, 0] rfl) hP hD hS h
  intro o2 ls H locs hl hP hD hS h
  refine lv_aload_n hx hb dL_moved_182 rfl (lv_at hl 0 rfl) ?_
  obtain ⟨o41, ho41, h⟩ := bnd_i h
  refine xq_V (G := G) (v := (fun as => (some (.float o41.2)))) (As := []) (rest := []) (wc := [(z0, .inr (9, [.ref a0, .ref b0, .ref h0, .ref s0, .ref l0, .ref e0, .ref k0, .int u7, .int u8, .int u9])), (a0, .inr (8, [.ref a1])), (a1, .inr (6, [.ref a2])), (a2, .inl (cA 0, 61, .inl f))]) (wr := []) (w1 := (fun as => [(z0, .inr (9, [.ref a0, .ref b0, .ref h0, .ref s0, .ref l0, .ref e0, .ref k0, .int u7, .int u8, .int u9])), (a0, .inr (8, [.ref a1])), (a1, .inr (6, [.ref a2])), (a2, .inl (cA 0, 61, .inl f))])) (ws2 := (fun as => [(z0, .inr (9, [.ref a0, .ref b0, .ref h0, .ref s0, .ref l0, .ref e0, .ref k0, .int u7, .int u8, .int u9])), (a0, .inr (8, [.ref a1])), (a1, .inr (6, [.ref a2])), (a2, .inl (cA 0, 61, .inl f))])) (st1 := (fun as => [.float o41.2])) ⟨hx, hb, hml, hfc, hts⟩ hK hP hD hS hA hEV (kX5_eclipsedShare l hst D cA G z0 a0 b0 h0 s0 l0 e0 k0 a1 a2 N u7 u8 u9 f ho41) (cwV 0 hts gL_moved_X5_eclipsedShare rfl rfl rfl (by decide +kernel) ⟨(Nat.le_of_ble_eq_true rfl), (Nat.le_of_ble_eq_true rfl)⟩) [0, 1, 2, 3] [] [0, 1, 2, 3] rfl rfl rfl rfl (by decide) (fun _ => rfl) rfl 0 9 rfl rfl rfl rfl (fun _ => rfl) rfl hl.1 (Nat.le_of_ble_eq_true rfl) dL_moved_183 ⟨(Nat.le_of_ble_eq_true rfl), (Nat.le_of_ble_eq_true rfl)⟩ (fun c43 as42 H locs hP hD hS => ?_) (fun c43 as42 H locs q9 ce hP hD hS z1 z2 z3 => ?_)
  · have h := ite_t c43 h
    have hP : va_P D vwCl [(z0, .inr (9, [.ref a0, .ref b0, .ref h0, .ref s0, .ref l0, .ref e0, .ref k0, .int u7, .int u8, .int u9])), (a0, .inr (8, [.ref a1])), (a1, .inr (6, [.ref a2])), (a2, .inl (cA 0, 61, .inl f))] H := hP
    have hD : va_D A [(z0, .inr (9, [.ref a0, .ref b0, .ref h0, .ref s0, .ref l0, .ref e0, .ref k0, .int u7, .int u8, .int u9])), (a0, .inr (8, [.ref a1])), (a1, .inr (6, [.ref a2])), (a2, .inl (cA 0, 61, .inl f))] := hD
    refine W.cs (cells' := 50) (slots' := 300) rfl rfl ?_
    refine lv_iload_n hx hb dL_moved_186 rfl (lv_at hl 2 rfl) ?_
    refine lv_i2f hx hb dL_moved_187 ?_
    refine lv_iload_n hx hb dL_moved_188 rfl (lv_at hl 1 rfl) ?_
    refine lv_i2f hx hb dL_moved_189 ?_
    obtain ⟨g44, h⟩ := gd_i h
    refine lv_fdiv hx hb dL_moved_190 g44 ?_
    refine lv_fcmp hx hb dL_moved_191 ?_
    refine lv_if_ne (tgt := 259) hx hb dL_moved_192 (by decide) (fun c45 => ?_) (fun c45 => ?_)
    · have h := ite_f c45 h
      refine lv_iconst (v := 0) hx hb dL_moved_259 (by decide) ?_
      exact nn h
    · have h := ite_t c45 h
      refine lv_aload_n hx hb dL_moved_195 rfl (lv_at hl 0 rfl) ?_
      refine lv_iload_n hx hb dL_moved_196 rfl (lv_at hl 1 rfl) ?_
      obtain ⟨o46, ho46, h⟩ := bnd_i h
      refine gqL_S (G := G) (v := (fun as => (some (.int o46)))) (As := [.ref z0, .int (SX5_moonCount f)]) (rest := []) (wc := [(z0, .inr (9, [.ref a0, .ref b0, .ref h0, .ref s0, .ref l0, .ref e0, .ref k0, .int u7, .int u8, .int u9])), (a0, .inr (8, [.ref a1])), (a1, .inr (6, [.ref a2])), (a2, .inl (cA 0, 61, .inl f))]) (wr := []) (w1 := (fun as => [(z0, .inr (9, [.ref a0, .ref b0, .ref h0, .ref s0, .ref l0, .ref e0, .ref k0, .int u7, .int u8, .int u9])), (a0, .inr (8, [.ref a1])), (a1, .inr (6, [.ref a2])), (a2, .inl (cA 0, 61, .inl f))])) (ws2 := (fun as => [(z0, .inr (9, [.ref a0, .ref b0, .ref h0, .ref s0, .ref l0, .ref e0, .ref k0, .int u7, .int u8, .int u9])), (a0, .inr (8, [.ref a1])), (a1, .inr (6, [.ref a2])), (a2, .inl (cA 0, 61, .inl f))])) (st1 := (fun as => [.int o46])) ⟨hx, hb, hml, hfc, hts⟩ hK hP hD hS hA hEV hL9 (kL_positionOf l hst D cA G z0 a0 b0 h0 s0 l0 e0 k0 a1 a2 u7 u8 u9 f (SX5_moonCount f) ho46) (vx_cwSW 2 hts gL_moved_L_positionOf rfl rfl rfl (by decide +kernel) ⟨(Nat.le_of_ble_eq_true rfl), (Nat.le_of_ble_eq_true rfl)⟩) [0, 1, 2, 3] [] [0, 1, 2, 3] rfl rfl rfl rfl (by decide) (fun _ => rfl) rfl rfl (fun _ => rfl) rfl hl.1 (Nat.le_of_ble_eq_true rfl) dL_moved_197 ⟨(Nat.le_of_ble_eq_true rfl), (Nat.le_of_ble_eq_true rfl)⟩ (fun as47 H locs hP hD hS => ?_)
      have hP : va_P D vwCl [(z0, .inr (9, [.ref a0, .ref b0, .ref h0, .ref s0, .ref l0, .ref e0, .ref k0, .int u7, .int u8, .int u9])), (a0, .inr (8, [.ref a1])), (a1, .inr (6, [.ref a2])), (a2, .inl (cA 0, 61, .inl f))] H := hP
      have hD : va_D A [(z0, .inr (9, [.ref a0, .ref b0, .ref h0, .ref s0, .ref l0, .ref e0, .ref k0, .int u7, .int u8, .int u9])), (a0, .inr (8, [.ref a1])), (a1, .inr (6, [.ref a2])), (a2, .inl (cA 0, 61, .inl f))] := hD
      refine W.cs (cells' := 51) (slots' := 306) rfl rfl ?_
      refine lv_bipush (v := (-11)) hx hb dL_moved_200 (by decide) ?_
      refine lv_icmp_ne (tgt := 259) hx hb dL_moved_202 (by decide) (fun c48 => ?_) (fun c48 => ?_)
      · have h := ite_f c48 h
        refine lv_iconst (v := 0) hx hb dL_moved_259 (by decide) ?_
        exact nn h
      · have h := ite_t c48 h
        refine lv_aload_n hx hb dL_moved_205 rfl (lv_at hl 0 rfl) ?_
        refine lv_iconst (v := (-1)) hx hb dL_moved_206 (by decide) ?_
        obtain ⟨o49, ho49, h⟩ := bnd_i h
        refine gqL_S (G := G) (v := (fun as => (some (.int o49)))) (As := [.ref z0, .int (-1)]) (rest := []) (wc := [(z0, .inr (9, [.ref a0, .ref b0, .ref h0, .ref s0, .ref l0, .ref e0, .ref k0, .int u7, .int u8, .int u9])), (a0, .inr (8, [.ref a1])), (a1, .inr (6, [.ref a2])), (a2, .inl (cA 0, 61, .inl f))]) (wr := []) (w1 := (fun as => [(z0, .inr (9, [.ref a0, .ref b0, .ref h0, .ref s0, .ref l0, .ref e0, .ref k0, .int u7, .int u8, .int u9])), (a0, .inr (8, [.ref a1])), (a1, .inr (6, [.ref a2])), (a2, .inl (cA 0, 61, .inl f))])) (ws2 := (fun as => [(z0, .inr (9, [.ref a0, .ref b0, .ref h0, .ref s0, .ref l0, .ref e0, .ref k0, .int u7, .int u8, .int u9])), (a0, .inr (8, [.ref a1])), (a1, .inr (6, [.ref a2])), (a2, .inl (cA 0, 61, .inl f))])) (st1 := (fun as => [.int o49])) ⟨hx, hb, hml, hfc, hts⟩ hK hP hD hS hA hEV hL9 (kL_massOf l hst D cA G z0 a0 b0 h0 s0 l0 e0 k0 a1 a2 u7 u8 u9 f (-1) ho49) (vx_cwSW 2 hts gL_moved_L_massOf rfl rfl rfl (by decide +kernel) ⟨(Nat.le_of_ble_eq_true rfl), (Nat.le_of_ble_eq_true rfl)⟩) [0, 1, 2, 3] [] [0, 1, 2, 3] rfl rfl rfl rfl (by decide) (fun _ => rfl) rfl rfl (fun _ => rfl) rfl hl.1 (Nat.le_of_ble_eq_true rfl) dL_moved_207 ⟨(Nat.le_of_ble_eq_true rfl), (Nat.le_of_ble_eq_true rfl)⟩ (fun as50 H locs hP hD hS => ?_)
        have hP : va_P D vwCl [(z0, .inr (9, [.ref a0, .ref b0, .ref h0, .ref s0, .ref l0, .ref e0, .ref k0, .int u7, .int u8, .int u9])), (a0, .inr (8, [.ref a1])), (a1, .inr (6, [.ref a2])), (a2, .inl (cA 0, 61, .inl f))] H := hP
        have hD : va_D A [(z0, .inr (9, [.ref a0, .ref b0, .ref h0, .ref s0, .ref l0, .ref e0, .ref k0, .int u7, .int u8, .int u9])), (a0, .inr (8, [.ref a1])), (a1, .inr (6, [.ref a2])), (a2, .inl (cA 0, 61, .inl f))] := hD
        refine W.cs (cells' := 52) (slots' := 312) rfl rfl ?_
        refine lv_bipush (v := (-11)) hx hb dL_moved_210 (by decide) ?_
        refine lv_icmp_ne (tgt := 259) hx hb dL_moved_212 (by decide) (fun c51 => ?_) (fun c51 => ?_)
        · have h := ite_f c51 h
          refine lv_iconst (v := 0) hx hb dL_moved_259 (by decide) ?_
          exact nn h
        · have h := ite_t c51 h
          refine lv_aload_n hx hb dL_moved_215 rfl (lv_at hl 0 rfl) ?_
          refine lv_iload_n hx hb dL_moved_216 rfl (lv_at hl 1 rfl) ?_
          obtain ⟨o52, ho52, h⟩ := bnd_i h
          refine gqL_S (G := G) (v := (fun as => (some (.int o52)))) (As := [.ref z0, .int (SX5_moonCount f)]) (rest := []) (wc := [(z0, .inr (9, [.ref a0, .ref b0, .ref h0, .ref s0, .ref l0, .ref e0, .ref k0, .int u7, .int u8, .int u9])), (a0, .inr (8, [.ref a1])), (a1, .inr (6, [.ref a2])), (a2, .inl (cA 0, 61, .inl f))]) (wr := []) (w1 := (fun as => [(z0, .inr (9, [.ref a0, .ref b0, .ref h0, .ref s0, .ref l0, .ref e0, .ref k0, .int u7, .int u8, .int u9])), (a0, .inr (8, [.ref a1])), (a1, .inr (6, [.ref a2])), (a2, .inl (cA 0, 61, .inl f))])) (ws2 := (fun as => [(z0, .inr (9, [.ref a0, .ref b0, .ref h0, .ref s0, .ref l0, .ref e0, .ref k0, .int u7, .int u8, .int u9])), (a0, .inr (8, [.ref a1])), (a1, .inr (6, [.ref a2])), (a2, .inl (cA 0, 61, .inl f))])) (st1 := (fun as => [.int o52])) ⟨hx, hb, hml, hfc, hts⟩ hK hP hD hS hA hEV hL9 (kL_ageOf l hst D cA G z0 a0 b0 h0 s0 l0 e0 k0 a1 a2 u7 u8 u9 f (SX5_moonCount f) ho52) (vx_cwSW 2 hts gL_moved_L_ageOf rfl rfl rfl (by decide +kernel) ⟨(Nat.le_of_ble_eq_true rfl), (Nat.le_of_ble_eq_true rfl)⟩) [0, 1, 2, 3] [] [0, 1, 2, 3] rfl rfl rfl rfl (by decide) (fun _ => rfl) rfl rfl (fun _ => rfl) rfl hl.1 (Nat.le_of_ble_eq_true rfl) dL_moved_217 ⟨(Nat.le_of_ble_eq_true rfl), (Nat.le_of_ble_eq_true rfl)⟩ (fun as53 H locs hP hD hS => ?_)
          have hP : va_P D vwCl [(z0, .inr (9, [.ref a0, .ref b0, .ref h0, .ref s0, .ref l0, .ref e0, .ref k0, .int u7, .int u8, .int u9])), (a0, .inr (8, [.ref a1])), (a1, .inr (6, [.ref a2])), (a2, .inl (cA 0, 61, .inl f))] H := hP
          have hD : va_D A [(z0, .inr (9, [.ref a0, .ref b0, .ref h0, .ref s0, .ref l0, .ref e0, .ref k0, .int u7, .int u8, .int u9])), (a0, .inr (8, [.ref a1])), (a1, .inr (6, [.ref a2])), (a2, .inl (cA 0, 61, .inl f))] := hD
          refine W.cs (cells' := 53) (slots' := 318) rfl rfl ?_
          refine lv_bipush (v := (-11)) hx hb dL_moved_220 (by decide) ?_
          refine lv_icmp_ne (tgt := 259) hx hb dL_moved_222 (by decide) (fun c54 => ?_) (fun c54 => ?_)
          · have h := ite_f c54 h
            refine lv_iconst (v := 0) hx hb dL_moved_259 (by decide) ?_
            exact nn h
          · have h := ite_t c54 h
            refine lv_aload_n hx hb dL_moved_225 rfl (lv_at hl 0 rfl) ?_
            refine lv_iload_n hx hb dL_moved_226 rfl (lv_at hl 1 rfl) ?_
            obtain ⟨o55, ho55, h⟩ := bnd_i h
            refine gqL_S (G := G) (v := (fun as => (some (.int o55)))) (As := [.ref z0, .int (SX5_moonCount f)]) (rest := []) (wc := [(z0, .inr (9, [.ref a0, .ref b0, .ref h0, .ref s0, .ref l0, .ref e0, .ref k0, .int u7, .int u8, .int u9])), (a0, .inr (8, [.ref a1])), (a1, .inr (6, [.ref a2])), (a2, .inl (cA 0, 61, .inl f))]) (wr := []) (w1 := (fun as => [(z0, .inr (9, [.ref a0, .ref b0, .ref h0, .ref s0, .ref l0, .ref e0, .ref k0, .int u7, .int u8, .int u9])), (a0, .inr (8, [.ref a1])), (a1, .inr (6, [.ref a2])), (a2, .inl (cA 0, 61, .inl f))])) (ws2 := (fun as => [(z0, .inr (9, [.ref a0, .ref b0, .ref h0, .ref s0, .ref l0, .ref e0, .ref k0, .int u7, .int u8, .int u9])), (a0, .inr (8, [.ref a1])), (a1, .inr (6, [.ref a2])), (a2, .inl (cA 0, 61, .inl f))])) (st1 := (fun as => [.int o55])) ⟨hx, hb, hml, hfc, hts⟩ hK hP hD hS hA hEV hL9 (kL_isHard l hst D cA G z0 a0 b0 h0 s0 l0 e0 k0 a1 a2 u7 u8 u9 f (SX5_moonCount f) ho55) (vx_cwSW 2 hts gL_moved_L_isHard rfl rfl rfl (by decide +kernel) ⟨(Nat.le_of_ble_eq_true rfl), (Nat.le_of_ble_eq_true rfl)⟩) [0, 1, 2, 3] [] [0, 1, 2, 3] rfl rfl rfl rfl (by decide) (fun _ => rfl) rfl rfl (fun _ => rfl) rfl hl.1 (Nat.le_of_ble_eq_true rfl) dL_moved_227 ⟨(Nat.le_of_ble_eq_true rfl), (Nat.le_of_ble_eq_true rfl)⟩ (fun as56 H locs hP hD hS => ?_)
            have hP : va_P D vwCl [(z0, .inr (9, [.ref a0, .ref b0, .ref h0, .ref s0, .ref l0, .ref e0, .ref k0, .int u7, .int u8, .int u9])), (a0, .inr (8, [.ref a1])), (a1, .inr (6, [.ref a2])), (a2, .inl (cA 0, 61, .inl f))] H := hP
            have hD : va_D A [(z0, .inr (9, [.ref a0, .ref b0, .ref h0, .ref s0, .ref l0, .ref e0, .ref k0, .int u7, .int u8, .int u9])), (a0, .inr (8, [.ref a1])), (a1, .inr (6, [.ref a2])), (a2, .inl (cA 0, 61, .inl f))] := hD
            refine W.cs (cells' := 54) (slots' := 324) rfl rfl ?_
            refine lv_bipush (v := (-11)) hx hb dL_moved_230 (by decide) ?_
            refine lv_icmp_ne (tgt := 259) hx hb dL_moved_232 (by decide) (fun c57 => ?_) (fun c57 => ?_)
            · have h := ite_f c57 h
              refine lv_iconst (v := 0) hx hb dL_moved_259 (by decide) ?_
              exact nn h
            · have h := ite_t c57 h
              refine lv_aload_n hx hb dL_moved_235 rfl (lv_at hl 0 rfl) ?_
              refine lv_iload_n hx hb dL_moved_236 rfl (lv_at hl 1 rfl) ?_
              obtain ⟨o58, ho58, h⟩ := bnd_i h
              refine gqL_S (G := G) (v := (fun as => (some (.int o58)))) (As := [.ref z0, .int (SX5_moonCount f)]) (rest := []) (wc := [(z0, .inr (9, [.ref a0, .ref b0, .ref h0, .ref s0, .ref l0, .ref e0, .ref k0, .int u7, .int u8, .int u9])), (a0, .inr (8, [.ref a1])), (a1, .inr (6, [.ref a2])), (a2, .inl (cA 0, 61, .inl f))]) (wr := []) (w1 := (fun as => [(z0, .inr (9, [.ref a0, .ref b0, .ref h0, .ref s0, .ref l0, .ref e0, .ref k0, .int u7, .int u8, .int u9])), (a0, .inr (8, [.ref a1])), (a1, .inr (6, [.ref a2])), (a2, .inl (cA 0, 61, .inl f))])) (ws2 := (fun as => [(z0, .inr (9, [.ref a0, .ref b0, .ref h0, .ref s0, .ref l0, .ref e0, .ref k0, .int u7, .int u8, .int u9])), (a0, .inr (8, [.ref a1])), (a1, .inr (6, [.ref a2])), (a2, .inl (cA 0, 61, .inl f))])) (st1 := (fun as => [.int o58])) ⟨hx, hb, hml, hfc, hts⟩ hK hP hD hS hA hEV hL9 (kL_isSoft l hst D cA G z0 a0 b0 h0 s0 l0 e0 k0 a1 a2 u7 u8 u9 f (SX5_moonCount f) ho58) (vx_cwSW 2 hts gL_moved_L_isSoft rfl rfl rfl (by decide +kernel) ⟨(Nat.le_of_ble_eq_true rfl), (Nat.le_of_ble_eq_true rfl)⟩) [0, 1, 2, 3] [] [0, 1, 2, 3] rfl rfl rfl rfl (by decide) (fun _ => rfl) rfl rfl (fun _ => rfl) rfl hl.1 (Nat.le_of_ble_eq_true rfl) dL_moved_237 ⟨(Nat.le_of_ble_eq_true rfl), (Nat.le_of_ble_eq_true rfl)⟩ (fun as59 H locs hP hD hS => ?_)
              have hP : va_P D vwCl [(z0, .inr (9, [.ref a0, .ref b0, .ref h0, .ref s0, .ref l0, .ref e0, .ref k0, .int u7, .int u8, .int u9])), (a0, .inr (8, [.ref a1])), (a1, .inr (6, [.ref a2])), (a2, .inl (cA 0, 61, .inl f))] H := hP
              have hD : va_D A [(z0, .inr (9, [.ref a0, .ref b0, .ref h0, .ref s0, .ref l0, .ref e0, .ref k0, .int u7, .int u8, .int u9])), (a0, .inr (8, [.ref a1])), (a1, .inr (6, [.ref a2])), (a2, .inl (cA 0, 61, .inl f))] := hD
              refine W.cs (cells' := 55) (slots' := 330) rfl rfl ?_
              refine lv_bipush (v := (-11)) hx hb dL_moved_240 (by decide) ?_
              refine lv_icmp_ne (tgt := 259) hx hb dL_moved_242 (by decide) (fun c60 => ?_) (fun c60 => ?_)
              · have h := ite_f c60 h
                refine lv_iconst (v := 0) hx hb dL_moved_259 (by decide) ?_
                exact nn h
              · have h := ite_t c60 h
                refine lv_aload_n hx hb dL_moved_245 rfl (lv_at hl 0 rfl) ?_
                refine lv_iload_n hx hb dL_moved_246 rfl (lv_at hl 1 rfl) ?_
                obtain ⟨o61, ho61, h⟩ := bnd_i h
                refine gqL_S (G := G) (v := (fun as => (some (.int o61)))) (As := [.ref z0, .int (SX5_moonCount f)]) (rest := []) (wc := [(z0, .inr (9, [.ref a0, .ref b0, .ref h0, .ref s0, .ref l0, .ref e0, .ref k0, .int u7, .int u8, .int u9])), (a0, .inr (8, [.ref a1])), (a1, .inr (6, [.ref a2])), (a2, .inl (cA 0, 61, .inl f))]) (wr := []) (w1 := (fun as => [(z0, .inr (9, [.ref a0, .ref b0, .ref h0, .ref s0, .ref l0, .ref e0, .ref k0, .int u7, .int u8, .int u9])), (a0, .inr (8, [.ref a1])), (a1, .inr (6, [.ref a2])), (a2, .inl (cA 0, 61, .inl f))])) (ws2 := (fun as => [(z0, .inr (9, [.ref a0, .ref b0, .ref h0, .ref s0, .ref l0, .ref e0, .ref k0, .int u7, .int u8, .int u9])), (a0, .inr (8, [.ref a1])), (a1, .inr (6, [.ref a2])), (a2, .inl (cA 0, 61, .inl f))])) (st1 := (fun as => [.int o61])) ⟨hx, hb, hml, hfc, hts⟩ hK hP hD hS hA hEV hL9 (kL_isEclipsed l hst D cA G z0 a0 b0 h0 s0 l0 e0 k0 a1 a2 u7 u8 u9 f (SX5_moonCount f) ho61) (vx_cwSW 2 hts gL_moved_L_isEclipsed rfl rfl rfl (by decide +kernel) ⟨(Nat.le_of_ble_eq_true rfl), (Nat.le_of_ble_eq_true rfl)⟩) [0, 1, 2, 3] [] [0, 1, 2, 3] rfl rfl rfl rfl (by decide) (fun _ => rfl) rfl rfl (fun _ => rfl) rfl hl.1 (Nat.le_of_ble_eq_true rfl) dL_moved_247 ⟨(Nat.le_of_ble_eq_true rfl), (Nat.le_of_ble_eq_true rfl)⟩ (fun as62 H locs hP hD hS => ?_)
                have hP : va_P D vwCl [(z0, .inr (9, [.ref a0, .ref b0, .ref h0, .ref s0, .ref l0, .ref e0, .ref k0, .int u7, .int u8, .int u9])), (a0, .inr (8, [.ref a1])), (a1, .inr (6, [.ref a2])), (a2, .inl (cA 0, 61, .inl f))] H := hP
                have hD : va_D A [(z0, .inr (9, [.ref a0, .ref b0, .ref h0, .ref s0, .ref l0, .ref e0, .ref k0, .int u7, .int u8, .int u9])), (a0, .inr (8, [.ref a1])), (a1, .inr (6, [.ref a2])), (a2, .inl (cA 0, 61, .inl f))] := hD
                refine W.cs (cells' := 56) (slots' := 336) rfl rfl ?_
                refine lv_bipush (v := (-11)) hx hb dL_moved_250 (by decide) ?_
                refine lv_icmp_ne (tgt := 259) hx hb dL_moved_252 (by decide) (fun c63 => ?_) (fun c63 => ?_)
                · have h := ite_f c63 h
                  refine lv_iconst (v := 0) hx hb dL_moved_259 (by decide) ?_
                  exact nn h
                · have h := ite_t c63 h
                  refine lv_iconst (v := 1) hx hb dL_moved_255 (by decide) ?_
                  refine lv_goto (tgt := 260) hx hb dL_moved_256 (by decide) ?_
                  have h := Option.some.inj h
                  subst h
                  refine W.widen (k := 56) (n := 336) (Nat.le_of_ble_eq_true rfl) (Nat.le_of_ble_eq_true rfl) ?_
                  exact hend (adr []) _ _ _ _ _ _ _ rfl rfl (rtn_n (x := 1) rfl) hP hD hS dL_moved_260
  · have h := ite_f c43 h
    have hP : va_P D vwCl [(z0, .inr (9, [.ref a0, .ref b0, .ref h0, .ref s0, .ref l0, .ref e0, .ref k0, .int u7, .int u8, .int u9])), (a0, .inr (8, [.ref a1])), (a1, .inr (6, [.ref a2])), (a2, .inl (cA 0, 61, .inl f))] H := hP
    have hD : va_D A [(z0, .inr (9, [.ref a0, .ref b0, .ref h0, .ref s0, .ref l0, .ref e0, .ref k0, .int u7, .int u8, .int u9])), (a0, .inr (8, [.ref a1])), (a1, .inr (6, [.ref a2])), (a2, .inl (cA 0, 61, .inl f))] := hD
    exact nn h
