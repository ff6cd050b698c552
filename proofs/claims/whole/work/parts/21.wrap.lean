noncomputable def SL_addHardMoon (N : Nat) (f : Nat → Int32) (v1 : Int32) (v2 : Int32) (g : Nat → Int32) (x1 : Int32) (x2 : Int32) (x3 : Int32) (wo : Nat → Int64) : Option (Int32 × (Nat → Int32) × Int32 × Int32 × (Nat → Int32) × (Nat → Int64)) := bnd (SX5_addHardMoon N f v1 v2 g x1 x2 x3) (fun o1 : Nat × Int32 × (Nat → Int32) × (Nat → Int32) × Int32 × Int32 => if o1.1 = 0 then (some ((0, o1.2.2.1, o1.2.2.2.2.1, o1.2.2.2.2.2, o1.2.2.2.1, vp_updL wo 0 o1.2.1.toInt64))) else (if o1.1 = 1 then (some ((1, o1.2.2.1, o1.2.2.2.2.1, o1.2.2.2.2.2, o1.2.2.2.1, wo))) else (if o1.1 = 2 then (some ((2, o1.2.2.1, o1.2.2.2.2.1, o1.2.2.2.2.2, o1.2.2.2.1, wo))) else (none))))
abbrev RM_L_addHardMoon : Room := { frames := 8, cells := 1, slots := 6, locals := 131 }
set_option maxHeartbeats 4000000 in
theorem kL_addHardMoon (l : Launch) (hst : l.stackTraces = false) (D : va_G) (cA : Nat → ClassId) (G : eG) (z0 a0 b0 h0 s0 l0 e0 k0 a1 a2 h1 h2 w0 : Nat) (N : Nat) (u7 : Int32) (u8 : Int32) (u9 : Int32) (f : Nat → Int32) (v1 : Int32) (v2 : Int32) (g : Nat → Int32) (x1 : Int32) (x2 : Int32) (x3 : Int32) (wo : Nat → Int64) {r : Int32 × (Nat → Int32) × Int32 × Int32 × (Nat → Int32) × (Nat → Int64)} (hr : SL_addHardMoon N f v1 v2 g x1 x2 x3 wo = some r) {sz : Nat} : Met l yL_addHardMoon wsL_addHardMoon RM_L_addHardMoon (va_Pc [.ref z0, .int x1, .int x2, .int x3, .ref w0] (gqLB G D cA [(z0, .inr (9, [.ref a0, .ref b0, .ref h0, .ref s0, .ref l0, .ref e0, .ref k0, .int u7, .int u8, .int u9])), (a0, .inr (8, [.ref a1])), (a1, .inr (6, [.ref a2])), (a2, .inl (cA 0, 61, .inl f)), (h0, .inr (5, [.ref h1, .int v1, .int v2])), (h1, .inr (6, [.ref h2])), (h2, .inl (cA 0, 488, .inl g)), (w0, .inl (cA 3, 1, .inr (.inl wo)))] sz)) (gqQ D (fun as => (some (.int r.1))) (fun as => [(z0, .inr (9, [.ref a0, .ref b0, .ref h0, .ref s0, .ref l0, .ref e0, .ref k0, .int u7, .int u8, .int u9])), (a0, .inr (8, [.ref a1])), (a1, .inr (6, [.ref a2])), (a2, .inl (cA 0, 61, .inl r.2.1)), (h0, .inr (5, [.ref h1, .int r.2.2.1, .int r.2.2.2.1])), (h1, .inr (6, [.ref h2])), (h2, .inl (cA 0, 488, .inl r.2.2.2.2.1)), (w0, .inl (cA 3, 1, .inr (.inl r.2.2.2.2.2)))]) (va_A [(z0, .inr (9, [.ref a0, .ref b0, .ref h0, .ref s0, .ref l0, .ref e0, .ref k0, .int u7, .int u8, .int u9])), (a0, .inr (8, [.ref a1])), (a1, .inr (6, [.ref a2])), (a2, .inl (cA 0, 61, .inl f)), (h0, .inr (5, [.ref h1, .int v1, .int v2])), (h1, .inr (6, [.ref h2])), (h2, .inl (cA 0, 488, .inl g)), (w0, .inl (cA 3, 1, .inr (.inl wo)))] sz)) 1 6 (va_A [(z0, .inr (9, [.ref a0, .ref b0, .ref h0, .ref s0, .ref l0, .ref e0, .ref k0, .int u7, .int u8, .int u9])), (a0, .inr (8, [.ref a1])), (a1, .inr (6, [.ref a2])), (a2, .inl (cA 0, 61, .inl f)), (h0, .inr (5, [.ref h1, .int v1, .int v2])), (h1, .inr (6, [.ref h2])), (h2, .inl (cA 0, 488, .inl g)), (w0, .inl (cA 3, 1, .inr (.inl wo)))] sz) := by
  refine gqL_ofW (hh := [(0, 12, 15, 13), (0, 12, 19, 15)]) (cc := cL_addHardMoon) (maxL := 6) (ret := (some .int)) (by decide) rfl (Nat.le_of_ble_eq_true rfl) (fun p e s m args below meth c ls Q A hx hb hml hT9 hts hfc hK hP hD hS hA hEV hL9 hl hend => ?_)
  have hfc : s.vm.findClass RL = some m.cls := hfc
  have hl : lv_has ls 6 [(0, .ref z0), (1, .int x1), (2, .int x2), (3, .int x3), (4, .ref w0)] := hl
  have h := hr
  clear hr
  unfold SL_addHardMoon at h
  refine lv_aload hx hb dL_addHardMoon_0 (lv_at hl 4 rfl) ?_
  refine lv_iconst (v := 0) hx hb dL_addHardMoon_2 (by decide) ?_
  refine lv_aload_n hx hb dL_addHardMoon_3 rfl (lv_at hl 0 rfl) ?_
  refine lv_iload_n hx hb dL_addHardMoon_4 rfl (lv_at hl 1 rfl) ?_
  refine lv_iload_n hx hb dL_addHardMoon_5 rfl (lv_at hl 2 rfl) ?_
  refine lv_iload_n hx hb dL_addHardMoon_6 rfl (lv_at hl 3 rfl) ?_
  obtain ⟨o1, ho1, h⟩ := bnd_i h
  refine xq_V (G := G) (v := (fun as => (some (.int o1.2.1)))) (As := [.int x1, .int x2, .int x3]) (rest := [.int 0, .ref w0]) (wc := [(z0, .inr (9, [.ref a0, .ref b0, .ref h0, .ref s0, .ref l0, .ref e0, .ref k0, .int u7, .int u8, .int u9])), (a0, .inr (8, [.ref a1])), (a1, .inr (6, [.ref a2])), (a2, .inl (cA 0, 61, .inl f)), (h0, .inr (5, [.ref h1, .int v1, .int v2])), (h1, .inr (6, [.ref h2])), (h2, .inl (cA 0, 488, .inl g))]) (wr := [(w0, .inl (cA 3, 1, .inr (.inl wo)))]) (w1 := (fun as => [(z0, .inr (9, [.ref a0, .ref b0, .ref h0, .ref s0, .ref l0, .ref e0, .ref k0, .int u7, .int u8, .int u9])), (a0, .inr (8, [.ref a1])), (a1, .inr (6, [.ref a2])), (a2, .inl (cA 0, 61, .inl o1.2.2.1)), (h0, .inr (5, [.ref h1, .int o1.2.2.2.2.1, .int o1.2.2.2.2.2])), (h1, .inr (6, [.ref h2])), (h2, .inl (cA 0, 488, .inl o1.2.2.2.1))])) (ws2 := (fun as => [(z0, .inr (9, [.ref a0, .ref b0, .ref h0, .ref s0, .ref l0, .ref e0, .ref k0, .int u7, .int u8, .int u9])), (a0, .inr (8, [.ref a1])), (a1, .inr (6, [.ref a2])), (a2, .inl (cA 0, 61, .inl o1.2.2.1)), (h0, .inr (5, [.ref h1, .int o1.2.2.2.2.1, .int o1.2.2.2.2.2])), (h1, .inr (6, [.ref h2])), (h2, .inl (cA 0, 488, .inl o1.2.2.2.1)), (w0, .inl (cA 3, 1, .inr (.inl wo)))])) (st1 := (fun as => [.int o1.2.1, .int 0, .ref w0])) ⟨hx, hb, hml, hfc, hts⟩ hK hP hD hS hA hEV (kX5_addHardMoon l hst D cA G z0 a0 b0 h0 s0 l0 e0 k0 a1 a2 h1 h2 N u7 u8 u9 f v1 v2 g x1 x2 x3 ho1) (cwV 3 hts gL_addHardMoon_X5_addHardMoon rfl rfl rfl (by decide +kernel) ⟨(Nat.le_of_ble_eq_true rfl), (Nat.le_of_ble_eq_true rfl)⟩) [0, 1, 2, 3, 4, 5, 6] [7] [1, 2, 3, 4, 5, 6, 7, 0] rfl rfl rfl rfl (by decide) (fun _ => rfl) rfl 0 9 rfl rfl rfl rfl (fun _ => rfl) rfl hl.1 (Nat.le_of_ble_eq_true rfl) dL_addHardMoon_7 ⟨(Nat.le_of_ble_eq_true rfl), (Nat.le_of_ble_eq_true rfl)⟩ (fun c3 as2 H locs hP hD hS => ?_) (fun c3 as2 H locs q9 ce hP hD hS z1 z2 z3 => ?_)
  · have h := ite_t c3 h
    have hP : va_P D vwCl [(z0, .inr (9, [.ref a0, .ref b0, .ref h0, .ref s0, .ref l0, .ref e0, .ref k0, .int u7, .int u8, .int u9])), (a0, .inr (8, [.ref a1])), (a1, .inr (6, [.ref a2])), (a2, .inl (cA 0, 61, .inl o1.2.2.1)), (h0, .inr (5, [.ref h1, .int o1.2.2.2.2.1, .int o1.2.2.2.2.2])), (h1, .inr (6, [.ref h2])), (h2, .inl (cA 0, 488, .inl o1.2.2.2.1)), (w0, .inl (cA 3, 1, .inr (.inl wo)))] H := hP
    have hD : va_D A [(z0, .inr (9, [.ref a0, .ref b0, .ref h0, .ref s0, .ref l0, .ref e0, .ref k0, .int u7, .int u8, .int u9])), (a0, .inr (8, [.ref a1])), (a1, .inr (6, [.ref a2])), (a2, .inl (cA 0, 61, .inl o1.2.2.1)), (h0, .inr (5, [.ref h1, .int o1.2.2.2.2.1, .int o1.2.2.2.2.2])), (h1, .inr (6, [.ref h2])), (h2, .inl (cA 0, 488, .inl o1.2.2.2.1)), (w0, .inl (cA 3, 1, .inr (.inl wo)))] := hD
    refine W.cs (cells' := 1) (slots' := 6) rfl rfl ?_
    refine lv_i2l (v := o1.2.1.toInt64) hx hb dL_addHardMoon_10 rfl ?_
    refine va_last hx hb hK hP hD hS 7 3 rfl rfl (vin _ _ (by decide)) dL_addHardMoon_11 (fun H locs hP hD hS => ?_)
    have hP : va_P D vwCl [(z0, .inr (9, [.ref a0, .ref b0, .ref h0, .ref s0, .ref l0, .ref e0, .ref k0, .int u7, .int u8, .int u9])), (a0, .inr (8, [.ref a1])), (a1, .inr (6, [.ref a2])), (a2, .inl (cA 0, 61, .inl o1.2.2.1)), (h0, .inr (5, [.ref h1, .int o1.2.2.2.2.1, .int o1.2.2.2.2.2])), (h1, .inr (6, [.ref h2])), (h2, .inl (cA 0, 488, .inl o1.2.2.2.1)), (w0, .inl (cA 3, 1, .inr (.inl (vp_updL wo 0 o1.2.1.toInt64))))] H := hP
    have hD : va_D A [(z0, .inr (9, [.ref a0, .ref b0, .ref h0, .ref s0, .ref l0, .ref e0, .ref k0, .int u7, .int u8, .int u9])), (a0, .inr (8, [.ref a1])), (a1, .inr (6, [.ref a2])), (a2, .inl (cA 0, 61, .inl o1.2.2.1)), (h0, .inr (5, [.ref h1, .int o1.2.2.2.2.1, .int o1.2.2.2.2.2])), (h1, .inr (6, [.ref h2])), (h2, .inl (cA 0, 488, .inl o1.2.2.2.1)), (w0, .inl (cA 3, 1, .inr (.inl (vp_updL wo 0 o1.2.1.toInt64))))] := hD
    refine lv_goto (tgt := 23) hx hb dL_addHardMoon_12 (by decide) ?_
    refine lv_iconst (v := 0) hx hb dL_addHardMoon_23 (by decide) ?_
    have h := Option.some.inj h
    subst h
    refine W.widen (k := 1) (n := 6) (Nat.le_of_ble_eq_true rfl) (Nat.le_of_ble_eq_true rfl) ?_
    exact hend (adr []) _ _ _ _ _ _ _ rfl rfl (rtn_i _) hP hD hS dL_addHardMoon_24
  · have h := ite_f c3 h
    have hP : va_P D vwCl [(z0, .inr (9, [.ref a0, .ref b0, .ref h0, .ref s0, .ref l0, .ref e0, .ref k0, .int u7, .int u8, .int u9])), (a0, .inr (8, [.ref a1])), (a1, .inr (6, [.ref a2])), (a2, .inl (cA 0, 61, .inl o1.2.2.1)), (h0, .inr (5, [.ref h1, .int o1.2.2.2.2.1, .int o1.2.2.2.2.2])), (h1, .inr (6, [.ref h2])), (h2, .inl (cA 0, 488, .inl o1.2.2.2.1)), (w0, .inl (cA 3, 1, .inr (.inl wo)))] H := hP
    have hD : va_D A [(z0, .inr (9, [.ref a0, .ref b0, .ref h0, .ref s0, .ref l0, .ref e0, .ref k0, .int u7, .int u8, .int u9])), (a0, .inr (8, [.ref a1])), (a1, .inr (6, [.ref a2])), (a2, .inl (cA 0, 61, .inl o1.2.2.1)), (h0, .inr (5, [.ref h1, .int o1.2.2.2.2.1, .int o1.2.2.2.2.2])), (h1, .inr (6, [.ref h2])), (h2, .inl (cA 0, 488, .inl o1.2.2.2.1)), (w0, .inl (cA 3, 1, .inr (.inl wo)))] := hD
    by_cases c4 : o1.1 = 1
    · have h := ite_t c4 h
      have z4 : s.vm.findClass "java/lang/IllegalArgumentException" = some ce.cls := by rw [c4] at z3; exact z3
      refine vx_catch (own := RL) (name := "java/lang/IllegalArgumentException") (E := "java/lang/IllegalArgumentException") hfc [] ⟨0, 12, 15, 13⟩ [⟨0, 12, 19, 15⟩] hT9 (fun z hz => absurd hz List.not_mem_nil) rfl (by decide) (hL9.link (List.mem_of_getElem? (i := 0) rfl)) ((hEV.1.2.2.2.2 "java/lang/IllegalArgumentException" (by decide +kernel)).use rfl) z1 z2 z4 ?_
      refine W.cs (cells' := 1) (slots' := 6) rfl rfl ?_
      refine lv_astore hx hb dL_addHardMoon_15 hl (Nat.le_of_ble_eq_true rfl) rfl (fun ls hl => ?_)
      have hl : lv_has ls 6 [(5, .ref q9), (0, .ref z0), (1, .int x1), (2, .int x2), (3, .int x3), (4, .ref w0)] := hl
      refine lv_iconst (v := 1) hx hb dL_addHardMoon_17 (by decide) ?_
      have h := Option.some.inj h
      subst h
      refine W.widen (k := 1) (n := 6) (Nat.le_of_ble_eq_true rfl) (Nat.le_of_ble_eq_true rfl) ?_
      exact hend (adr []) _ _ _ _ _ _ _ rfl rfl (rtn_i _) hP hD hS dL_addHardMoon_18
    · have h := ite_f c4 h
      by_cases c5 : o1.1 = 2
      · have h := ite_t c5 h
        have z4 : s.vm.findClass "java/lang/IllegalStateException" = some ce.cls := by rw [c5] at z3; exact z3
        have hp9 : ∀ z ∈ ([⟨0, 12, 15, 13⟩] : List ExceptionTableEntry), covers z 7 = false ∨ (z.catchType ≠ 0 ∧ ∃ nm : String, (Cond.classLink RL z.catchType nm).before args s = true ∧ va_Nc "java/lang/IllegalStateException" nm s) := by
          intro z hz
          rcases List.mem_cons.mp hz with rfl | hz
          · exact Or.inr ⟨by decide, _, (hL9.link (List.mem_of_getElem? (i := 0) rfl)), hL9.1.1⟩
          exact absurd hz List.not_mem_nil
        refine vx_catch (own := RL) (name := "java/lang/IllegalStateException") (E := "java/lang/IllegalStateException") hfc [⟨0, 12, 15, 13⟩] ⟨0, 12, 19, 15⟩ [] hT9 hp9 rfl (by decide) (hL9.link (List.mem_of_getElem? (i := 1) rfl)) ((hEV.1.2.2.2.2 "java/lang/IllegalStateException" (by decide +kernel)).use rfl) z1 z2 z4 ?_
        refine W.cs (cells' := 1) (slots' := 6) rfl rfl ?_
        refine lv_astore hx hb dL_addHardMoon_19 hl (Nat.le_of_ble_eq_true rfl) rfl (fun ls hl => ?_)
        have hl : lv_has ls 6 [(5, .ref q9), (0, .ref z0), (1, .int x1), (2, .int x2), (3, .int x3), (4, .ref w0)] := hl
        refine lv_iconst (v := 2) hx hb dL_addHardMoon_21 (by decide) ?_
        have h := Option.some.inj h
        subst h
        refine W.widen (k := 1) (n := 6) (Nat.le_of_ble_eq_true rfl) (Nat.le_of_ble_eq_true rfl) ?_
        exact hend (adr []) _ _ _ _ _ _ _ rfl rfl (rtn_i _) hP hD hS dL_addHardMoon_22
      · have h := ite_f c5 h
        exact nn h

noncomputable def SL_addSoftMoon (N : Nat) (f : Nat → Int32) (v1 : Int32) (v2 : Int32) (g : Nat → Int32) (x1 : Int32) (x2 : Int32) (x3 : Int32) (wo : Nat → Int64) : Option (Int32 × (Nat → Int32) × Int32 × Int32 × (Nat → Int32) × (Nat → Int64)) := bnd (SX5_addSoftMoon N f v1 v2 g x1 x2 x3) (fun o1 : Nat × Int32 × (Nat → Int32) × (Nat → Int32) × Int32 × Int32 => if o1.1 = 0 then (some ((0, o1.2.2.1, o1.2.2.2.2.1, o1.2.2.2.2.2, o1.2.2.2.1, vp_updL wo 0 o1.2.1.toInt64))) else (if o1.1 = 1 then (some ((1, o1.2.2.1, o1.2.2.2.2.1, o1.2.2.2.2.2, o1.2.2.2.1, wo))) else (if o1.1 = 2 then (some ((2, o1.2.2.1, o1.2.2.2.2.1, o1.2.2.2.2.2, o1.2.2.2.1, wo))) else (none))))
abbrev RM_L_addSoftMoon : Room := { frames := 8, cells := 1, slots := 6, locals := 131 }
set_option maxHeartbeats 4000000 in
theorem kL_addSoftMoon (l : Launch) (hst : l.stackTraces = false) (D : va_G) (cA : Nat → ClassId) (G : eG) (z0 a0 b0 h0 s0 l0 e0 k0 a1 a2 h1 h2 w0 : Nat) (N : Nat) (u7 : Int32) (u8 : Int32) (u9 : Int32) (f : Nat → Int32) (v1 : Int32) (v2 : Int32) (g : Nat → Int32) (x1 : Int32) (x2 : Int32) (x3 : Int32) (wo : Nat → Int64) {r : Int32 × (Nat → Int32) × Int32 × Int32 × (Nat → Int32) × (Nat → Int64)} (hr : SL_addSoftMoon N f v1 v2 g x1 x2 x3 wo = some r) {sz : Nat} : Met l yL_addSoftMoon wsL_addSoftMoon RM_L_addSoftMoon (va_Pc [.ref z0, .int x1, .int x2, .int x3, .ref w0] (gqLB G D cA [(z0, .inr (9, [.ref a0, .ref b0, .ref h0, .ref s0, .ref l0, .ref e0, .ref k0, .int u7, .int u8, .int u9])), (a0, .inr (8, [.ref a1])), (a1, .inr (6, [.ref a2])), (a2, .inl (cA 0, 61, .inl f)), (h0, .inr (5, [.ref h1, .int v1, .int v2])), (h1, .inr (6, [.ref h2])), (h2, .inl (cA 0, 488, .inl g)), (w0, .inl (cA 3, 1, .inr (.inl wo)))] sz)) (gqQ D (fun as => (some (.int r.1))) (fun as => [(z0, .inr (9, [.ref a0, .ref b0, .ref h0, .ref s0, .ref l0, .ref e0, .ref k0, .int u7, .int u8, .int u9])), (a0, .inr (8, [.ref a1])), (a1, .inr (6, [.ref a2])), (a2, .inl (cA 0, 61, .inl r.2.1)), (h0, .inr (5, [.ref h1, .int r.2.2.1, .int r.2.2.2.1])), (h1, .inr (6, [.ref h2])), (h2, .inl (cA 0, 488, .inl r.2.2.2.2.1)), (w0, .inl (cA 3, 1, .inr (.inl r.2.2.2.2.2)))]) (va_A [(z0, .inr (9, [.ref a0, .ref b0, .ref h0, .ref s0, .ref l0, .ref e0, .ref k0, .int u7, .int u8, .int u9])), (a0, .inr (8, [.ref a1])), (a1, .inr (6, [.ref a2])), (a2, .inl (cA 0, 61, .inl f)), (h0, .inr (5, [.ref h1, .int v1, .int v2])), (h1, .inr (6, [.ref h2])), (h2, .inl (cA 0, 488, .inl g)), (w0, .inl (cA 3, 1, .inr (.inl wo)))] sz)) 1 6 (va_A [(z0, .inr (9, [.ref a0, .ref b0, .ref h0, .ref s0, .ref l0, .ref e0, .ref k0, .int u7, .int u8, .int u9])), (a0, .inr (8, [.ref a1])), (a1, .inr (6, [.ref a2])), (a2, .inl (cA 0, 61, .inl f)), (h0, .inr (5, [.ref h1, .int v1, .int v2])), (h1, .inr (6, [.ref h2])), (h2, .inl (cA 0, 488, .inl g)), (w0, .inl (cA 3, 1, .inr (.inl wo)))] sz) := by
  refine gqL_ofW (hh := [(0, 12, 15, 13), (0, 12, 19, 15)]) (cc := cL_addSoftMoon) (maxL := 6) (ret := (some .int)) (by decide) rfl (Nat.le_of_ble_eq_true rfl) (fun p e s m args below meth c ls Q A hx hb hml hT9 hts hfc hK hP hD hS hA hEV hL9 hl hend => ?_)
  have hfc : s.vm.findClass RL = some m.cls := hfc
  have hl : lv_has ls 6 [(0, .ref z0), (1, .int x1), (2, .int x2), (3, .int x3), (4, .ref w0)] := hl
  have h := hr
  clear hr
  unfold SL_addSoftMoon at h
  refine lv_aload hx hb dL_addSoftMoon_0 (lv_at hl 4 rfl) ?_
  refine lv_iconst (v := 0) hx hb dL_addSoftMoon_2 (by decide) ?_
  refine lv_aload_n hx hb dL_addSoftMoon_3 rfl (lv_at hl 0 rfl) ?_
  refine lv_iload_n hx hb dL_addSoftMoon_4 rfl (lv_at hl 1 rfl) ?_
  refine lv_iload_n hx hb dL_addSoftMoon_5 rfl (lv_at hl 2 rfl) ?_
  refine lv_iload_n hx hb dL_addSoftMoon_6 rfl (lv_at hl 3 rfl) ?_
  obtain ⟨o1, ho1, h⟩ := bnd_i h
  refine xq_V (G := G) (v := (fun as => (some (.int o1.2.1)))) (As := [.int x1, .int x2, .int x3]) (rest := [.int 0, .ref w0]) (wc := [(z0, .inr (9, [.ref a0, .ref b0, .ref h0, .ref s0, .ref l0, .ref e0, .ref k0, .int u7, .int u8, .int u9])), (a0, .inr (8, [.ref a1])), (a1, .inr (6, [.ref a2])), (a2, .inl (cA 0, 61, .inl f)), (h0, .inr (5, [.ref h1, .int v1, .int v2])), (h1, .inr (6, [.ref h2])), (h2, .inl (cA 0, 488, .inl g))]) (wr := [(w0, .inl (cA 3, 1, .inr (.inl wo)))]) (w1 := (fun as => [(z0, .inr (9, [.ref a0, .ref b0, .ref h0, .ref s0, .ref l0, .ref e0, .ref k0, .int u7, .int u8, .int u9])), (a0, .inr (8, [.ref a1])), (a1, .inr (6, [.ref a2])), (a2, .inl (cA 0, 61, .inl o1.2.2.1)), (h0, .inr (5, [.ref h1, .int o1.2.2.2.2.1, .int o1.2.2.2.2.2])), (h1, .inr (6, [.ref h2])), (h2, .inl (cA 0, 488, .inl o1.2.2.2.1))])) (ws2 := (fun as => [(z0, .inr (9, [.ref a0, .ref b0, .ref h0, .ref s0, .ref l0, .ref e0, .ref k0, .int u7, .int u8, .int u9])), (a0, .inr (8, [.ref a1])), (a1, .inr (6, [.ref a2])), (a2, .inl (cA 0, 61, .inl o1.2.2.1)), (h0, .inr (5, [.ref h1, .int o1.2.2.2.2.1, .int o1.2.2.2.2.2])), (h1, .inr (6, [.ref h2])), (h2, .inl (cA 0, 488, .inl o1.2.2.2.1)), (w0, .inl (cA 3, 1, .inr (.inl wo)))])) (st1 := (fun as => [.int o1.2.1, .int 0, .ref w0])) ⟨hx, hb, hml, hfc, hts⟩ hK hP hD hS hA hEV (kX5_addSoftMoon l hst D cA G z0 a0 b0 h0 s0 l0 e0 k0 a1 a2 h1 h2 N u7 u8 u9 f v1 v2 g x1 x2 x3 ho1) (cwV 3 hts gL_addSoftMoon_X5_addSoftMoon rfl rfl rfl (by decide +kernel) ⟨(Nat.le_of_ble_eq_true rfl), (Nat.le_of_ble_eq_true rfl)⟩) [0, 1, 2, 3, 4, 5, 6] [7] [1, 2, 3, 4, 5, 6, 7, 0] rfl rfl rfl rfl (by decide) (fun _ => rfl) rfl 0 9 rfl rfl rfl rfl (fun _ => rfl) rfl hl.1 (Nat.le_of_ble_eq_true rfl) dL_addSoftMoon_7 ⟨(Nat.le_of_ble_eq_true rfl), (Nat.le_of_ble_eq_true rfl)⟩ (fun c3 as2 H locs hP hD hS => ?_) (fun c3 as2 H locs q9 ce hP hD hS z1 z2 z3 => ?_)
  · have h := ite_t c3 h
    have hP : va_P D vwCl [(z0, .inr (9, [.ref a0, .ref b0, .ref h0, .ref s0, .ref l0, .ref e0, .ref k0, .int u7, .int u8, .int u9])), (a0, .inr (8, [.ref a1])), (a1, .inr (6, [.ref a2])), (a2, .inl (cA 0, 61, .inl o1.2.2.1)), (h0, .inr (5, [.ref h1, .int o1.2.2.2.2.1, .int o1.2.2.2.2.2])), (h1, .inr (6, [.ref h2])), (h2, .inl (cA 0, 488, .inl o1.2.2.2.1)), (w0, .inl (cA 3, 1, .inr (.inl wo)))] H := hP
    have hD : va_D A [(z0, .inr (9, [.ref a0, .ref b0, .ref h0, .ref s0, .ref l0, .ref e0, .ref k0, .int u7, .int u8, .int u9])), (a0, .inr (8, [.ref a1])), (a1, .inr (6, [.ref a2])), (a2, .inl (cA 0, 61, .inl o1.2.2.1)), (h0, .inr (5, [.ref h1, .int o1.2.2.2.2.1, .int o1.2.2.2.2.2])), (h1, .inr (6, [.ref h2])), (h2, .inl (cA 0, 488, .inl o1.2.2.2.1)), (w0, .inl (cA 3, 1, .inr (.inl wo)))] := hD
    refine W.cs (cells' := 1) (slots' := 6) rfl rfl ?_
    refine lv_i2l (v := o1.2.1.toInt64) hx hb dL_addSoftMoon_10 rfl ?_
    refine va_last hx hb hK hP hD hS 7 3 rfl rfl (vin _ _ (by decide)) dL_addSoftMoon_11 (fun H locs hP hD hS => ?_)
    have hP : va_P D vwCl [(z0, .inr (9, [.ref a0, .ref b0, .ref h0, .ref s0, .ref l0, .ref e0, .ref k0, .int u7, .int u8, .int u9])), (a0, .inr (8, [.ref a1])), (a1, .inr (6, [.ref a2])), (a2, .inl (cA 0, 61, .inl o1.2.2.1)), (h0, .inr (5, [.ref h1, .int o1.2.2.2.2.1, .int o1.2.2.2.2.2])), (h1, .inr (6, [.ref h2])), (h2, .inl (cA 0, 488, .inl o1.2.2.2.1)), (w0, .inl (cA 3, 1, .inr (.inl (vp_updL wo 0 o1.2.1.toInt64))))] H := hP
    have hD : va_D A [(z0, .inr (9, [.ref a0, .ref b0, .ref h0, .ref s0, .ref l0, .ref e0, .ref k0, .int u7, .int u8, .int u9])), (a0, .inr (8, [.ref a1])), (a1, .inr (6, [.ref a2])), (a2, .inl (cA 0, 61, .inl o1.2.2.1)), (h0, .inr (5, [.ref h1, .int o1.2.2.2.2.1, .int o1.2.2.2.2.2])), (h1, .inr (6, [.ref h2])), (h2, .inl (cA 0, 488, .inl o1.2.2.2.1)), (w0, .inl (cA 3, 1, .inr (.inl (vp_updL wo 0 o1.2.1.toInt64))))] := hD
    refine lv_goto (tgt := 23) hx hb dL_addSoftMoon_12 (by decide) ?_
    refine lv_iconst (v := 0) hx hb dL_addSoftMoon_23 (by decide) ?_
    have h := Option.some.inj h
    subst h
    refine W.widen (k := 1) (n := 6) (Nat.le_of_ble_eq_true rfl) (Nat.le_of_ble_eq_true rfl) ?_
    exact hend (adr []) _ _ _ _ _ _ _ rfl rfl (rtn_i _) hP hD hS dL_addSoftMoon_24
  · have h := ite_f c3 h
    have hP : va_P D vwCl [(z0, .inr (9, [.ref a0, .ref b0, .ref h0, .ref s0, .ref l0, .ref e0, .ref k0, .int u7, .int u8, .int u9])), (a0, .inr (8, [.ref a1])), (a1, .inr (6, [.ref a2])), (a2, .inl (cA 0, 61, .inl o1.2.2.1)), (h0, .inr (5, [.ref h1, .int o1.2.2.2.2.1, .int o1.2.2.2.2.2])), (h1, .inr (6, [.ref h2])), (h2, .inl (cA 0, 488, .inl o1.2.2.2.1)), (w0, .inl (cA 3, 1, .inr (.inl wo)))] H := hP
    have hD : va_D A [(z0, .inr (9, [.ref a0, .ref b0, .ref h0, .ref s0, .ref l0, .ref e0, .ref k0, .int u7, .int u8, .int u9])), (a0, .inr (8, [.ref a1])), (a1, .inr (6, [.ref a2])), (a2, .inl (cA 0, 61, .inl o1.2.2.1)), (h0, .inr (5, [.ref h1, .int o1.2.2.2.2.1, .int o1.2.2.2.2.2])), (h1, .inr (6, [.ref h2])), (h2, .inl (cA 0, 488, .inl o1.2.2.2.1)), (w0, .inl (cA 3, 1, .inr (.inl wo)))] := hD
    by_cases c4 : o1.1 = 1
    · have h := ite_t c4 h
      have z4 : s.vm.findClass "java/lang/IllegalArgumentException" = some ce.cls := by rw [c4] at z3; exact z3
      refine vx_catch (own := RL) (name := "java/lang/IllegalArgumentException") (E := "java/lang/IllegalArgumentException") hfc [] ⟨0, 12, 15, 13⟩ [⟨0, 12, 19, 15⟩] hT9 (fun z hz => absurd hz List.not_mem_nil) rfl (by decide) (hL9.link (List.mem_of_getElem? (i := 0) rfl)) ((hEV.1.2.2.2.2 "java/lang/IllegalArgumentException" (by decide +kernel)).use rfl) z1 z2 z4 ?_
      refine W.cs (cells' := 1) (slots' := 6) rfl rfl ?_
      refine lv_astore hx hb dL_addSoftMoon_15 hl (Nat.le_of_ble_eq_true rfl) rfl (fun ls hl => ?_)
      have hl : lv_has ls 6 [(5, .ref q9), (0, .ref z0), (1, .int x1), (2, .int x2), (3, .int x3), (4, .ref w0)] := hl
      refine lv_iconst (v := 1) hx hb dL_addSoftMoon_17 (by decide) ?_
      have h := Option.some.inj h
      subst h
      refine W.widen (k := 1) (n := 6) (Nat.le_of_ble_eq_true rfl) (Nat.le_of_ble_eq_true rfl) ?_
      exact hend (adr []) _ _ _ _ _ _ _ rfl rfl (rtn_i _) hP hD hS dL_addSoftMoon_18
    · have h := ite_f c4 h
      by_cases c5 : o1.1 = 2
      · have h := ite_t c5 h
        have z4 : s.vm.findClass "java/lang/IllegalStateException" = some ce.cls := by rw [c5] at z3; exact z3
        have hp9 : ∀ z ∈ ([⟨0, 12, 15, 13⟩] : List ExceptionTableEntry), covers z 7 = false ∨ (z.catchType ≠ 0 ∧ ∃ nm : String, (Cond.classLink RL z.catchType nm).before args s = true ∧ va_Nc "java/lang/IllegalStateException" nm s) := by
          intro z hz
          rcases List.mem_cons.mp hz with rfl | hz
          · exact Or.inr ⟨by decide, _, (hL9.link (List.mem_of_getElem? (i := 0) rfl)), hL9.1.1⟩
          exact absurd hz List.not_mem_nil
        refine vx_catch (own := RL) (name := "java/lang/IllegalStateException") (E := "java/lang/IllegalStateException") hfc [⟨0, 12, 15, 13⟩] ⟨0, 12, 19, 15⟩ [] hT9 hp9 rfl (by decide) (hL9.link (List.mem_of_getElem? (i := 1) rfl)) ((hEV.1.2.2.2.2 "java/lang/IllegalStateException" (by decide +kernel)).use rfl) z1 z2 z4 ?_
        refine W.cs (cells' := 1) (slots' := 6) rfl rfl ?_
        refine lv_astore hx hb dL_addSoftMoon_19 hl (Nat.le_of_ble_eq_true rfl) rfl (fun ls hl => ?_)
        have hl : lv_has ls 6 [(5, .ref q9), (0, .ref z0), (1, .int x1), (2, .int x2), (3, .int x3), (4, .ref w0)] := hl
        refine lv_iconst (v := 2) hx hb dL_addSoftMoon_21 (by decide) ?_
        have h := Option.some.inj h
        subst h
        refine W.widen (k := 1) (n := 6) (Nat.le_of_ble_eq_true rfl) (Nat.le_of_ble_eq_true rfl) ?_
        exact hend (adr []) _ _ _ _ _ _ _ rfl rfl (rtn_i _) hP hD hS dL_addSoftMoon_22
      · have h := ite_f c5 h
        exact nn h

noncomputable def SL_addBubbleMoon (N : Nat) (f : Nat → Int32) (v1 : Int32) (v2 : Int32) (g : Nat → Int32) (x1 : Int32) (x2 : Int32) (x3 : Int32) (wo : Nat → Int64) : Option (Int32 × (Nat → Int32) × Int32 × Int32 × (Nat → Int32) × (Nat → Int64)) := bnd (SX5_addBubbleMoon N f v1 v2 g x1 x2 x3) (fun o1 : Nat × Int32 × (Nat → Int32) × (Nat → Int32) × Int32 × Int32 => if o1.1 = 0 then (some ((0, o1.2.2.1, o1.2.2.2.2.1, o1.2.2.2.2.2, o1.2.2.2.1, vp_updL wo 0 o1.2.1.toInt64))) else (if o1.1 = 1 then (some ((1, o1.2.2.1, o1.2.2.2.2.1, o1.2.2.2.2.2, o1.2.2.2.1, wo))) else (if o1.1 = 2 then (some ((2, o1.2.2.1, o1.2.2.2.2.1, o1.2.2.2.2.2, o1.2.2.2.1, wo))) else (none))))
abbrev RM_L_addBubbleMoon : Room := { frames := 8, cells := 1, slots := 6, locals := 131 }
set_option maxHeartbeats 4000000 in
theorem kL_addBubbleMoon (l : Launch) (hst : l.stackTraces = false) (D : va_G) (cA : Nat → ClassId) (G : eG) (z0 a0 b0 h0 s0 l0 e0 k0 a1 a2 h1 h2 w0 : Nat) (N : Nat) (u7 : Int32) (u8 : Int32) (u9 : Int32) (f : Nat → Int32) (v1 : Int32) (v2 : Int32) (g : Nat → Int32) (x1 : Int32) (x2 : Int32) (x3 : Int32) (wo : Nat → Int64) {r : Int32 × (Nat → Int32) × Int32 × Int32 × (Nat → Int32) × (Nat → Int64)} (hr : SL_addBubbleMoon N f v1 v2 g x1 x2 x3 wo = some r) {sz : Nat} : Met l yL_addBubbleMoon wsL_addBubbleMoon RM_L_addBubbleMoon (va_Pc [.ref z0, .int x1, .int x2, .int x3, .ref w0] (gqLB G D cA [(z0, .inr (9, [.ref a0, .ref b0, .ref h0, .ref s0, .ref l0, .ref e0, .ref k0, .int u7, .int u8, .int u9])), (a0, .inr (8, [.ref a1])), (a1, .inr (6, [.ref a2])), (a2, .inl (cA 0, 61, .inl f)), (h0, .inr (5, [.ref h1, .int v1, .int v2])), (h1, .inr (6, [.ref h2])), (h2, .inl (cA 0, 488, .inl g)), (w0, .inl (cA 3, 1, .inr (.inl wo)))] sz)) (gqQ D (fun as => (some (.int r.1))) (fun as => [(z0, .inr (9, [.ref a0, .ref b0, .ref h0, .ref s0, .ref l0, .ref e0, .ref k0, .int u7, .int u8, .int u9])), (a0, .inr (8, [.ref a1])), (a1, .inr (6, [.ref a2])), (a2, .inl (cA 0, 61, .inl r.2.1)), (h0, .inr (5, [.ref h1, .int r.2.2.1, .int r.2.2.2.1])), (h1, .inr (6, [.ref h2])), (h2, .inl (cA 0, 488, .inl r.2.2.2.2.1)), (w0, .inl (cA 3, 1, .inr (.inl r.2.2.2.2.2)))]) (va_A [(z0, .inr (9, [.ref a0, .ref b0, .ref h0, .ref s0, .ref l0, .ref e0, .ref k0, .int u7, .int u8, .int u9])), (a0, .inr (8, [.ref a1])), (a1, .inr (6, [.ref a2])), (a2, .inl (cA 0, 61, .inl f)), (h0, .inr (5, [.ref h1, .int v1, .int v2])), (h1, .inr (6, [.ref h2])), (h2, .inl (cA 0, 488, .inl g)), (w0, .inl (cA 3, 1, .inr (.inl wo)))] sz)) 1 6 (va_A [(z0, .inr (9, [.ref a0, .ref b0, .ref h0, .ref s0, .ref l0, .ref e0, .ref k0, .int u7, .int u8, .int u9])), (a0, .inr (8, [.ref a1])), (a1, .inr (6, [.ref a2])), (a2, .inl (cA 0, 61, .inl f)), (h0, .inr (5, [.ref h1, .int v1, .int v2])), (h1, .inr (6, [.ref h2])), (h2, .inl (cA 0, 488, .inl g)), (w0, .inl (cA 3, 1, .inr (.inl wo)))] sz) := by
  refine gqL_ofW (hh := [(0, 12, 15, 13), (0, 12, 19, 15)]) (cc := cL_addBubbleMoon) (maxL := 6) (ret := (some .int)) (by decide) rfl (Nat.le_of_ble_eq_true rfl) (fun p e s m args below meth c ls Q A hx hb hml hT9 hts hfc hK hP hD hS hA hEV hL9 hl hend => ?_)
  have hfc : s.vm.findClass RL = some m.cls := hfc
  have hl : lv_has ls 6 [(0, .ref z0), (1, .int x1), (2, .int x2), (3, .int x3), (4, .ref w0)] := hl
  have h := hr
  clear hr
  unfold SL_addBubbleMoon at h
  refine lv_aload hx hb dL_addBubbleMoon_0 (lv_at hl 4 rfl) ?_
  refine lv_iconst (v := 0) hx hb dL_addBubbleMoon_2 (by decide) ?_
  refine lv_aload_n hx hb dL_addBubbleMoon_3 rfl (lv_at hl 0 rfl) ?_
  refine lv_iload_n hx hb dL_addBubbleMoon_4 rfl (lv_at hl 1 rfl) ?_
  refine lv_iload_n hx hb dL_addBubbleMoon_5 rfl (lv_at hl 2 rfl) ?_
  refine lv_iload_n hx hb dL_addBubbleMoon_6 rfl (lv_at hl 3 rfl) ?_
  obtain ⟨o1, ho1, h⟩ := bnd_i h
  refine xq_V (G := G) (v := (fun as => (some (.int o1.2.1)))) (As := [.int x1, .int x2, .int x3]) (rest := [.int 0, .ref w0]) (wc := [(z0, .inr (9, [.ref a0, .ref b0, .ref h0, .ref s0, .ref l0, .ref e0, .ref k0, .int u7, .int u8, .int u9])), (a0, .inr (8, [.ref a1])), (a1, .inr (6, [.ref a2])), (a2, .inl (cA 0, 61, .inl f)), (h0, .inr (5, [.ref h1, .int v1, .int v2])), (h1, .inr (6, [.ref h2])), (h2, .inl (cA 0, 488, .inl g))]) (wr := [(w0, .inl (cA 3, 1, .inr (.inl wo)))]) (w1 := (fun as => [(z0, .inr (9, [.ref a0, .ref b0, .ref h0, .ref s0, .ref l0, .ref e0, .ref k0, .int u7, .int u8, .int u9])), (a0, .inr (8, [.ref a1])), (a1, .inr (6, [.ref a2])), (a2, .inl (cA 0, 61, .inl o1.2.2.1)), (h0, .inr (5, [.ref h1, .int o1.2.2.2.2.1, .int o1.2.2.2.2.2])), (h1, .inr (6, [.ref h2])), (h2, .inl (cA 0, 488, .inl o1.2.2.2.1))])) (ws2 := (fun as => [(z0, .inr (9, [.ref a0, .ref b0, .ref h0, .ref s0, .ref l0, .ref e0, .ref k0, .int u7, .int u8, .int u9])), (a0, .inr (8, [.ref a1])), (a1, .inr (6, [.ref a2])), (a2, .inl (cA 0, 61, .inl o1.2.2.1)), (h0, .inr (5, [.ref h1, .int o1.2.2.2.2.1, .int o1.2.2.2.2.2])), (h1, .inr (6, [.ref h2])), (h2, .inl (cA 0, 488, .inl o1.2.2.2.1)), (w0, .inl (cA 3, 1, .inr (.inl wo)))])) (st1 := (fun as => [.int o1.2.1, .int 0, .ref w0])) ⟨hx, hb, hml, hfc, hts⟩ hK hP hD hS hA hEV (kX5_addBubbleMoon l hst D cA G z0 a0 b0 h0 s0 l0 e0 k0 a1 a2 h1 h2 N u7 u8 u9 f v1 v2 g x1 x2 x3 ho1) (cwV 3 hts gL_addBubbleMoon_X5_addBubbleMoon rfl rfl rfl (by decide +kernel) ⟨(Nat.le_of_ble_eq_true rfl), (Nat.le_of_ble_eq_true rfl)⟩) [0, 1, 2, 3, 4, 5, 6] [7] [1, 2, 3, 4, 5, 6, 7, 0] rfl rfl rfl rfl (by decide) (fun _ => rfl) rfl 0 9 rfl rfl rfl rfl (fun _ => rfl) rfl hl.1 (Nat.le_of_ble_eq_true rfl) dL_addBubbleMoon_7 ⟨(Nat.le_of_ble_eq_true rfl), (Nat.le_of_ble_eq_true rfl)⟩ (fun c3 as2 H locs hP hD hS => ?_) (fun c3 as2 H locs q9 ce hP hD hS z1 z2 z3 => ?_)
  · have h := ite_t c3 h
    have hP : va_P D vwCl [(z0, .inr (9, [.ref a0, .ref b0, .ref h0, .ref s0, .ref l0, .ref e0, .ref k0, .int u7, .int u8, .int u9])), (a0, .inr (8, [.ref a1])), (a1, .inr (6, [.ref a2])), (a2, .inl (cA 0, 61, .inl o1.2.2.1)), (h0, .inr (5, [.ref h1, .int o1.2.2.2.2.1, .int o1.2.2.2.2.2])), (h1, .inr (6, [.ref h2])), (h2, .inl (cA 0, 488, .inl o1.2.2.2.1)), (w0, .inl (cA 3, 1, .inr (.inl wo)))] H := hP
    have hD : va_D A [(z0, .inr (9, [.ref a0, .ref b0, .ref h0, .ref s0, .ref l0, .ref e0, .ref k0, .int u7, .int u8, .int u9])), (a0, .inr (8, [.ref a1])), (a1, .inr (6, [.ref a2])), (a2, .inl (cA 0, 61, .inl o1.2.2.1)), (h0, .inr (5, [.ref h1, .int o1.2.2.2.2.1, .int o1.2.2.2.2.2])), (h1, .inr (6, [.ref h2])), (h2, .inl (cA 0, 488, .inl o1.2.2.2.1)), (w0, .inl (cA 3, 1, .inr (.inl wo)))] := hD
    refine W.cs (cells' := 1) (slots' := 6) rfl rfl ?_
    refine lv_i2l (v := o1.2.1.toInt64) hx hb dL_addBubbleMoon_10 rfl ?_
    refine va_last hx hb hK hP hD hS 7 3 rfl rfl (vin _ _ (by decide)) dL_addBubbleMoon_11 (fun H locs hP hD hS => ?_)
    have hP : va_P D vwCl [(z0, .inr (9, [.ref a0, .ref b0, .ref h0, .ref s0, .ref l0, .ref e0, .ref k0, .int u7, .int u8, .int u9])), (a0, .inr (8, [.ref a1])), (a1, .inr (6, [.ref a2])), (a2, .inl (cA 0, 61, .inl o1.2.2.1)), (h0, .inr (5, [.ref h1, .int o1.2.2.2.2.1, .int o1.2.2.2.2.2])), (h1, .inr (6, [.ref h2])), (h2, .inl (cA 0, 488, .inl o1.2.2.2.1)), (w0, .inl (cA 3, 1, .inr (.inl (vp_updL wo 0 o1.2.1.toInt64))))] H := hP
    have hD : va_D A [(z0, .inr (9, [.ref a0, .ref b0, .ref h0, .ref s0, .ref l0, .ref e0, .ref k0, .int u7, .int u8, .int u9])), (a0, .inr (8, [.ref a1])), (a1, .inr (6, [.ref a2])), (a2, .inl (cA 0, 61, .inl o1.2.2.1)), (h0, .inr (5, [.ref h1, .int o1.2.2.2.2.1, .int o1.2.2.2.2.2])), (h1, .inr (6, [.ref h2])), (h2, .inl (cA 0, 488, .inl o1.2.2.2.1)), (w0, .inl (cA 3, 1, .inr (.inl (vp_updL wo 0 o1.2.1.toInt64))))] := hD
    refine lv_goto (tgt := 23) hx hb dL_addBubbleMoon_12 (by decide) ?_
    refine lv_iconst (v := 0) hx hb dL_addBubbleMoon_23 (by decide) ?_
    have h := Option.some.inj h
    subst h
    refine W.widen (k := 1) (n := 6) (Nat.le_of_ble_eq_true rfl) (Nat.le_of_ble_eq_true rfl) ?_
    exact hend (adr []) _ _ _ _ _ _ _ rfl rfl (rtn_i _) hP hD hS dL_addBubbleMoon_24
  · have h := ite_f c3 h
    have hP : va_P D vwCl [(z0, .inr (9, [.ref a0, .ref b0, .ref h0, .ref s0, .ref l0, .ref e0, .ref k0, .int u7, .int u8, .int u9])), (a0, .inr (8, [.ref a1])), (a1, .inr (6, [.ref a2])), (a2, .inl (cA 0, 61, .inl o1.2.2.1)), (h0, .inr (5, [.ref h1, .int o1.2.2.2.2.1, .int o1.2.2.2.2.2])), (h1, .inr (6, [.ref h2])), (h2, .inl (cA 0, 488, .inl o1.2.2.2.1)), (w0, .inl (cA 3, 1, .inr (.inl wo)))] H := hP
    have hD : va_D A [(z0, .inr (9, [.ref a0, .ref b0, .ref h0, .ref s0, .ref l0, .ref e0, .ref k0, .int u7, .int u8, .int u9])), (a0, .inr (8, [.ref a1])), (a1, .inr (6, [.ref a2])), (a2, .inl (cA 0, 61, .inl o1.2.2.1)), (h0, .inr (5, [.ref h1, .int o1.2.2.2.2.1, .int o1.2.2.2.2.2])), (h1, .inr (6, [.ref h2])), (h2, .inl (cA 0, 488, .inl o1.2.2.2.1)), (w0, .inl (cA 3, 1, .inr (.inl wo)))] := hD
    by_cases c4 : o1.1 = 1
    · have h := ite_t c4 h
      have z4 : s.vm.findClass "java/lang/IllegalArgumentException" = some ce.cls := by rw [c4] at z3; exact z3
      refine vx_catch (own := RL) (name := "java/lang/IllegalArgumentException") (E := "java/lang/IllegalArgumentException") hfc [] ⟨0, 12, 15, 13⟩ [⟨0, 12, 19, 15⟩] hT9 (fun z hz => absurd hz List.not_mem_nil) rfl (by decide) (hL9.link (List.mem_of_getElem? (i := 0) rfl)) ((hEV.1.2.2.2.2 "java/lang/IllegalArgumentException" (by decide +kernel)).use rfl) z1 z2 z4 ?_
      refine W.cs (cells' := 1) (slots' := 6) rfl rfl ?_
      refine lv_astore hx hb dL_addBubbleMoon_15 hl (Nat.le_of_ble_eq_true rfl) rfl (fun ls hl => ?_)
      have hl : lv_has ls 6 [(5, .ref q9), (0, .ref z0), (1, .int x1), (2, .int x2), (3, .int x3), (4, .ref w0)] := hl
      refine lv_iconst (v := 1) hx hb dL_addBubbleMoon_17 (by decide) ?_
      have h := Option.some.inj h
      subst h
      refine W.widen (k := 1) (n := 6) (Nat.le_of_ble_eq_true rfl) (Nat.le_of_ble_eq_true rfl) ?_
      exact hend (adr []) _ _ _ _ _ _ _ rfl rfl (rtn_i _) hP hD hS dL_addBubbleMoon_18
    · have h := ite_f c4 h
      by_cases c5 : o1.1 = 2
      · have h := ite_t c5 h
        have z4 : s.vm.findClass "java/lang/IllegalStateException" = some ce.cls := by rw [c5] at z3; exact z3
        have hp9 : ∀ z ∈ ([⟨0, 12, 15, 13⟩] : List ExceptionTableEntry), covers z 7 = false ∨ (z.catchType ≠ 0 ∧ ∃ nm : String, (Cond.classLink RL z.catchType nm).before args s = true ∧ va_Nc "java/lang/IllegalStateException" nm s) := by
          intro z hz
          rcases List.mem_cons.mp hz with rfl | hz
          · exact Or.inr ⟨by decide, _, (hL9.link (List.mem_of_getElem? (i := 0) rfl)), hL9.1.1⟩
          exact absurd hz List.not_mem_nil
        refine vx_catch (own := RL) (name := "java/lang/IllegalStateException") (E := "java/lang/IllegalStateException") hfc [⟨0, 12, 15, 13⟩] ⟨0, 12, 19, 15⟩ [] hT9 hp9 rfl (by decide) (hL9.link (List.mem_of_getElem? (i := 1) rfl)) ((hEV.1.2.2.2.2 "java/lang/IllegalStateException" (by decide +kernel)).use rfl) z1 z2 z4 ?_
        refine W.cs (cells' := 1) (slots' := 6) rfl rfl ?_
        refine lv_astore hx hb dL_addBubbleMoon_19 hl (Nat.le_of_ble_eq_true rfl) rfl (fun ls hl => ?_)
        have hl : lv_has ls 6 [(5, .ref q9), (0, .ref z0), (1, .int x1), (2, .int x2), (3, .int x3), (4, .ref w0)] := hl
        refine lv_iconst (v := 2) hx hb dL_addBubbleMoon_21 (by decide) ?_
        have h := Option.some.inj h
        subst h
        refine W.widen (k := 1) (n := 6) (Nat.le_of_ble_eq_true rfl) (Nat.le_of_ble_eq_true rfl) ?_
        exact hend (adr []) _ _ _ _ _ _ _ rfl rfl (rtn_i _) hP hD hS dL_addBubbleMoon_22
      · have h := ite_f c5 h
        exact nn h

noncomputable def SL_removeMoon (N : Nat) (f : Nat → Int32) (v1 : Int32) (v2 : Int32) (g : Nat → Int32) (x1 : Int32) (wo : Nat → Int64) : Option (Int32 × (Nat → Int32) × Int32 × Int32 × (Nat → Int32) × (Nat → Int64)) := bnd (SX5_removeMoon N f v1 v2 g x1) (fun o1 : Nat × Int32 × (Nat → Int32) × (Nat → Int32) × Int32 × Int32 => if o1.1 = 0 then (some ((0, o1.2.2.1, o1.2.2.2.2.1, o1.2.2.2.2.2, o1.2.2.2.1, vp_updL wo 0 o1.2.1.toInt64))) else (if o1.1 = 3 then (some ((1, o1.2.2.1, o1.2.2.2.2.1, o1.2.2.2.2.2, o1.2.2.2.1, wo))) else (none)))
abbrev RM_L_removeMoon : Room := { frames := 8, cells := 1, slots := 6, locals := 126 }
set_option maxHeartbeats 4000000 in
theorem kL_removeMoon (l : Launch) (hst : l.stackTraces = false) (D : va_G) (cA : Nat → ClassId) (G : eG) (z0 a0 b0 h0 s0 l0 e0 k0 a1 a2 h1 h2 w0 : Nat) (N : Nat) (u7 : Int32) (u8 : Int32) (u9 : Int32) (f : Nat → Int32) (v1 : Int32) (v2 : Int32) (g : Nat → Int32) (x1 : Int32) (wo : Nat → Int64) {r : Int32 × (Nat → Int32) × Int32 × Int32 × (Nat → Int32) × (Nat → Int64)} (hr : SL_removeMoon N f v1 v2 g x1 wo = some r) {sz : Nat} : Met l yL_removeMoon wsL_removeMoon RM_L_removeMoon (va_Pc [.ref z0, .int x1, .ref w0] (gqLB G D cA [(z0, .inr (9, [.ref a0, .ref b0, .ref h0, .ref s0, .ref l0, .ref e0, .ref k0, .int u7, .int u8, .int u9])), (a0, .inr (8, [.ref a1])), (a1, .inr (6, [.ref a2])), (a2, .inl (cA 0, 61, .inl f)), (h0, .inr (5, [.ref h1, .int v1, .int v2])), (h1, .inr (6, [.ref h2])), (h2, .inl (cA 0, 488, .inl g)), (w0, .inl (cA 3, 1, .inr (.inl wo)))] sz)) (gqQ D (fun as => (some (.int r.1))) (fun as => [(z0, .inr (9, [.ref a0, .ref b0, .ref h0, .ref s0, .ref l0, .ref e0, .ref k0, .int u7, .int u8, .int u9])), (a0, .inr (8, [.ref a1])), (a1, .inr (6, [.ref a2])), (a2, .inl (cA 0, 61, .inl r.2.1)), (h0, .inr (5, [.ref h1, .int r.2.2.1, .int r.2.2.2.1])), (h1, .inr (6, [.ref h2])), (h2, .inl (cA 0, 488, .inl r.2.2.2.2.1)), (w0, .inl (cA 3, 1, .inr (.inl r.2.2.2.2.2)))]) (va_A [(z0, .inr (9, [.ref a0, .ref b0, .ref h0, .ref s0, .ref l0, .ref e0, .ref k0, .int u7, .int u8, .int u9])), (a0, .inr (8, [.ref a1])), (a1, .inr (6, [.ref a2])), (a2, .inl (cA 0, 61, .inl f)), (h0, .inr (5, [.ref h1, .int v1, .int v2])), (h1, .inr (6, [.ref h2])), (h2, .inl (cA 0, 488, .inl g)), (w0, .inl (cA 3, 1, .inr (.inl wo)))] sz)) 1 6 (va_A [(z0, .inr (9, [.ref a0, .ref b0, .ref h0, .ref s0, .ref l0, .ref e0, .ref k0, .int u7, .int u8, .int u9])), (a0, .inr (8, [.ref a1])), (a1, .inr (6, [.ref a2])), (a2, .inl (cA 0, 61, .inl f)), (h0, .inr (5, [.ref h1, .int v1, .int v2])), (h1, .inr (6, [.ref h2])), (h2, .inl (cA 0, 488, .inl g)), (w0, .inl (cA 3, 1, .inr (.inl wo)))] sz) := by
  refine gqL_ofW (hh := [(0, 9, 12, 27)]) (cc := cL_removeMoon) (maxL := 4) (ret := (some .int)) (by decide) rfl (Nat.le_of_ble_eq_true rfl) (fun p e s m args below meth c ls Q A hx hb hml hT9 hts hfc hK hP hD hS hA hEV hL9 hl hend => ?_)
  have hfc : s.vm.findClass RL = some m.cls := hfc
  have hl : lv_has ls 4 [(0, .ref z0), (1, .int x1), (2, .ref w0)] := hl
  have h := hr
  clear hr
  unfold SL_removeMoon at h
  refine lv_aload_n hx hb dL_removeMoon_0 rfl (lv_at hl 2 rfl) ?_
  refine lv_iconst (v := 0) hx hb dL_removeMoon_1 (by decide) ?_
  refine lv_aload_n hx hb dL_removeMoon_2 rfl (lv_at hl 0 rfl) ?_
  refine lv_iload_n hx hb dL_removeMoon_3 rfl (lv_at hl 1 rfl) ?_
  obtain ⟨o1, ho1, h⟩ := bnd_i h
  refine xq_V (G := G) (v := (fun as => (some (.int o1.2.1)))) (As := [.int x1]) (rest := [.int 0, .ref w0]) (wc := [(z0, .inr (9, [.ref a0, .ref b0, .ref h0, .ref s0, .ref l0, .ref e0, .ref k0, .int u7, .int u8, .int u9])), (a0, .inr (8, [.ref a1])), (a1, .inr (6, [.ref a2])), (a2, .inl (cA 0, 61, .inl f)), (h0, .inr (5, [.ref h1, .int v1, .int v2])), (h1, .inr (6, [.ref h2])), (h2, .inl (cA 0, 488, .inl g))]) (wr := [(w0, .inl (cA 3, 1, .inr (.inl wo)))]) (w1 := (fun as => [(z0, .inr (9, [.ref a0, .ref b0, .ref h0, .ref s0, .ref l0, .ref e0, .ref k0, .int u7, .int u8, .int u9])), (a0, .inr (8, [.ref a1])), (a1, .inr (6, [.ref a2])), (a2, .inl (cA 0, 61, .inl o1.2.2.1)), (h0, .inr (5, [.ref h1, .int o1.2.2.2.2.1, .int o1.2.2.2.2.2])), (h1, .inr (6, [.ref h2])), (h2, .inl (cA 0, 488, .inl o1.2.2.2.1))])) (ws2 := (fun as => [(z0, .inr (9, [.ref a0, .ref b0, .ref h0, .ref s0, .ref l0, .ref e0, .ref k0, .int u7, .int u8, .int u9])), (a0, .inr (8, [.ref a1])), (a1, .inr (6, [.ref a2])), (a2, .inl (cA 0, 61, .inl o1.2.2.1)), (h0, .inr (5, [.ref h1, .int o1.2.2.2.2.1, .int o1.2.2.2.2.2])), (h1, .inr (6, [.ref h2])), (h2, .inl (cA 0, 488, .inl o1.2.2.2.1)), (w0, .inl (cA 3, 1, .inr (.inl wo)))])) (st1 := (fun as => [.int o1.2.1, .int 0, .ref w0])) ⟨hx, hb, hml, hfc, hts⟩ hK hP hD hS hA hEV (kX5_removeMoon l hst D cA G z0 a0 b0 h0 s0 l0 e0 k0 a1 a2 h1 h2 N u7 u8 u9 f v1 v2 g x1 ho1) (cwV 1 hts gL_removeMoon_X5_removeMoon rfl rfl rfl (by decide +kernel) ⟨(Nat.le_of_ble_eq_true rfl), (Nat.le_of_ble_eq_true rfl)⟩) [0, 1, 2, 3, 4, 5, 6] [7] [1, 2, 3, 4, 5, 6, 7, 0] rfl rfl rfl rfl (by decide) (fun _ => rfl) rfl 0 9 rfl rfl rfl rfl (fun _ => rfl) rfl hl.1 (Nat.le_of_ble_eq_true rfl) dL_removeMoon_4 ⟨(Nat.le_of_ble_eq_true rfl), (Nat.le_of_ble_eq_true rfl)⟩ (fun c3 as2 H locs hP hD hS => ?_) (fun c3 as2 H locs q9 ce hP hD hS z1 z2 z3 => ?_)
  · have h := ite_t c3 h
    have hP : va_P D vwCl [(z0, .inr (9, [.ref a0, .ref b0, .ref h0, .ref s0, .ref l0, .ref e0, .ref k0, .int u7, .int u8, .int u9])), (a0, .inr (8, [.ref a1])), (a1, .inr (6, [.ref a2])), (a2, .inl (cA 0, 61, .inl o1.2.2.1)), (h0, .inr (5, [.ref h1, .int o1.2.2.2.2.1, .int o1.2.2.2.2.2])), (h1, .inr (6, [.ref h2])), (h2, .inl (cA 0, 488, .inl o1.2.2.2.1)), (w0, .inl (cA 3, 1, .inr (.inl wo)))] H := hP
    have hD : va_D A [(z0, .inr (9, [.ref a0, .ref b0, .ref h0, .ref s0, .ref l0, .ref e0, .ref k0, .int u7, .int u8, .int u9])), (a0, .inr (8, [.ref a1])), (a1, .inr (6, [.ref a2])), (a2, .inl (cA 0, 61, .inl o1.2.2.1)), (h0, .inr (5, [.ref h1, .int o1.2.2.2.2.1, .int o1.2.2.2.2.2])), (h1, .inr (6, [.ref h2])), (h2, .inl (cA 0, 488, .inl o1.2.2.2.1)), (w0, .inl (cA 3, 1, .inr (.inl wo)))] := hD
    refine W.cs (cells' := 1) (slots' := 6) rfl rfl ?_
    refine lv_i2l (v := o1.2.1.toInt64) hx hb dL_removeMoon_7 rfl ?_
    refine va_last hx hb hK hP hD hS 7 3 rfl rfl (vin _ _ (by decide)) dL_removeMoon_8 (fun H locs hP hD hS => ?_)
    have hP : va_P D vwCl [(z0, .inr (9, [.ref a0, .ref b0, .ref h0, .ref s0, .ref l0, .ref e0, .ref k0, .int u7, .int u8, .int u9])), (a0, .inr (8, [.ref a1])), (a1, .inr (6, [.ref a2])), (a2, .inl (cA 0, 61, .inl o1.2.2.1)), (h0, .inr (5, [.ref h1, .int o1.2.2.2.2.1, .int o1.2.2.2.2.2])), (h1, .inr (6, [.ref h2])), (h2, .inl (cA 0, 488, .inl o1.2.2.2.1)), (w0, .inl (cA 3, 1, .inr (.inl (vp_updL wo 0 o1.2.1.toInt64))))] H := hP
    have hD : va_D A [(z0, .inr (9, [.ref a0, .ref b0, .ref h0, .ref s0, .ref l0, .ref e0, .ref k0, .int u7, .int u8, .int u9])), (a0, .inr (8, [.ref a1])), (a1, .inr (6, [.ref a2])), (a2, .inl (cA 0, 61, .inl o1.2.2.1)), (h0, .inr (5, [.ref h1, .int o1.2.2.2.2.1, .int o1.2.2.2.2.2])), (h1, .inr (6, [.ref h2])), (h2, .inl (cA 0, 488, .inl o1.2.2.2.1)), (w0, .inl (cA 3, 1, .inr (.inl (vp_updL wo 0 o1.2.1.toInt64))))] := hD
    refine lv_goto (tgt := 15) hx hb dL_removeMoon_9 (by decide) ?_
    refine lv_iconst (v := 0) hx hb dL_removeMoon_15 (by decide) ?_
    have h := Option.some.inj h
    subst h
    refine W.widen (k := 1) (n := 6) (Nat.le_of_ble_eq_true rfl) (Nat.le_of_ble_eq_true rfl) ?_
    exact hend (adr []) _ _ _ _ _ _ _ rfl rfl (rtn_i _) hP hD hS dL_removeMoon_16
  · have h := ite_f c3 h
    have hP : va_P D vwCl [(z0, .inr (9, [.ref a0, .ref b0, .ref h0, .ref s0, .ref l0, .ref e0, .ref k0, .int u7, .int u8, .int u9])), (a0, .inr (8, [.ref a1])), (a1, .inr (6, [.ref a2])), (a2, .inl (cA 0, 61, .inl o1.2.2.1)), (h0, .inr (5, [.ref h1, .int o1.2.2.2.2.1, .int o1.2.2.2.2.2])), (h1, .inr (6, [.ref h2])), (h2, .inl (cA 0, 488, .inl o1.2.2.2.1)), (w0, .inl (cA 3, 1, .inr (.inl wo)))] H := hP
    have hD : va_D A [(z0, .inr (9, [.ref a0, .ref b0, .ref h0, .ref s0, .ref l0, .ref e0, .ref k0, .int u7, .int u8, .int u9])), (a0, .inr (8, [.ref a1])), (a1, .inr (6, [.ref a2])), (a2, .inl (cA 0, 61, .inl o1.2.2.1)), (h0, .inr (5, [.ref h1, .int o1.2.2.2.2.1, .int o1.2.2.2.2.2])), (h1, .inr (6, [.ref h2])), (h2, .inl (cA 0, 488, .inl o1.2.2.2.1)), (w0, .inl (cA 3, 1, .inr (.inl wo)))] := hD
    by_cases c4 : o1.1 = 3
    · have h := ite_t c4 h
      have z4 : s.vm.findClass "java/lang/IndexOutOfBoundsException" = some ce.cls := by rw [c4] at z3; exact z3
      refine vx_catch (own := RL) (name := "java/lang/IndexOutOfBoundsException") (E := "java/lang/IndexOutOfBoundsException") hfc [] ⟨0, 9, 12, 27⟩ [] hT9 (fun z hz => absurd hz List.not_mem_nil) rfl (by decide) (hL9.link (List.mem_of_getElem? (i := 2) rfl)) ((hEV.1.2.2.2.2 "java/lang/IndexOutOfBoundsException" (by decide +kernel)).use rfl) z1 z2 z4 ?_
      refine W.cs (cells' := 1) (slots' := 6) rfl rfl ?_
      refine lv_astore_n hx hb dL_removeMoon_12 rfl hl (Nat.le_of_ble_eq_true rfl) rfl (fun ls hl => ?_)
      have hl : lv_has ls 4 [(3, .ref q9), (0, .ref z0), (1, .int x1), (2, .ref w0)] := hl
      refine lv_iconst (v := 1) hx hb dL_removeMoon_13 (by decide) ?_
      have h := Option.some.inj h
      subst h
      refine W.widen (k := 1) (n := 6) (Nat.le_of_ble_eq_true rfl) (Nat.le_of_ble_eq_true rfl) ?_
      exact hend (adr []) _ _ _ _ _ _ _ rfl rfl (rtn_i _) hP hD hS dL_removeMoon_14
    · have h := ite_f c4 h
      exact nn h

noncomputable def SL_positionOf (f : Nat → Int32) (x1 : Int32) (wo : Nat → Int64) : Option (Int32 × (Nat → Int64)) := lt_ (SX5_positionOf f x1) (fun o1 : Nat × Int32 => if o1.1 = 0 then (some ((0, vp_updL wo 0 o1.2.toInt64))) else (if o1.1 = 3 then (some ((1, wo))) else (none)))
abbrev RM_L_positionOf : Room := { frames := 8, cells := 1, slots := 6, locals := 126 }
set_option maxHeartbeats 4000000 in
theorem kL_positionOf (l : Launch) (hst : l.stackTraces = false) (D : va_G) (cA : Nat → ClassId) (G : eG) (z0 a0 b0 h0 s0 l0 e0 k0 a1 a2 w0 : Nat) (u7 : Int32) (u8 : Int32) (u9 : Int32) (f : Nat → Int32) (x1 : Int32) (wo : Nat → Int64) {r : Int32 × (Nat → Int64)} (hr : SL_positionOf f x1 wo = some r) {sz : Nat} : Met l yL_positionOf wsL_positionOf RM_L_positionOf (va_Pc [.ref z0, .int x1, .ref w0] (gqLB G D cA [(z0, .inr (9, [.ref a0, .ref b0, .ref h0, .ref s0, .ref l0, .ref e0, .ref k0, .int u7, .int u8, .int u9])), (a0, .inr (8, [.ref a1])), (a1, .inr (6, [.ref a2])), (a2, .inl (cA 0, 61, .inl f)), (w0, .inl (cA 3, 1, .inr (.inl wo)))] sz)) (gqQ D (fun as => (some (.int r.1))) (fun as => [(z0, .inr (9, [.ref a0, .ref b0, .ref h0, .ref s0, .ref l0, .ref e0, .ref k0, .int u7, .int u8, .int u9])), (a0, .inr (8, [.ref a1])), (a1, .inr (6, [.ref a2])), (a2, .inl (cA 0, 61, .inl f)), (w0, .inl (cA 3, 1, .inr (.inl r.2)))]) (va_A [(z0, .inr (9, [.ref a0, .ref b0, .ref h0, .ref s0, .ref l0, .ref e0, .ref k0, .int u7, .int u8, .int u9])), (a0, .inr (8, [.ref a1])), (a1, .inr (6, [.ref a2])), (a2, .inl (cA 0, 61, .inl f)), (w0, .inl (cA 3, 1, .inr (.inl wo)))] sz)) 1 6 (va_A [(z0, .inr (9, [.ref a0, .ref b0, .ref h0, .ref s0, .ref l0, .ref e0, .ref k0, .int u7, .int u8, .int u9])), (a0, .inr (8, [.ref a1])), (a1, .inr (6, [.ref a2])), (a2, .inl (cA 0, 61, .inl f)), (w0, .inl (cA 3, 1, .inr (.inl wo)))] sz) := by
  refine gqL_ofW (hh := [(0, 9, 12, 27)]) (cc := cL_positionOf) (maxL := 4) (ret := (some .int)) (by decide) rfl (Nat.le_of_ble_eq_true rfl) (fun p e s m args below meth c ls Q A hx hb hml hT9 hts hfc hK hP hD hS hA hEV hL9 hl hend => ?_)
  have hfc : s.vm.findClass RL = some m.cls := hfc
  have hl : lv_has ls 4 [(0, .ref z0), (1, .int x1), (2, .ref w0)] := hl
  have h := hr
  clear hr
  unfold SL_positionOf at h
  refine lv_aload_n hx hb dL_positionOf_0 rfl (lv_at hl 2 rfl) ?_
  refine lv_iconst (v := 0) hx hb dL_positionOf_1 (by decide) ?_
  refine lv_aload_n hx hb dL_positionOf_2 rfl (lv_at hl 0 rfl) ?_
  refine lv_iload_n hx hb dL_positionOf_3 rfl (lv_at hl 1 rfl) ?_
  obtain ⟨o1, ho1, h⟩ := lt_i h
  refine xq_V (G := G) (v := (fun as => (some (.int o1.2)))) (As := [.int x1]) (rest := [.int 0, .ref w0]) (wc := [(z0, .inr (9, [.ref a0, .ref b0, .ref h0, .ref s0, .ref l0, .ref e0, .ref k0, .int u7, .int u8, .int u9])), (a0, .inr (8, [.ref a1])), (a1, .inr (6, [.ref a2])), (a2, .inl (cA 0, 61, .inl f))]) (wr := [(w0, .inl (cA 3, 1, .inr (.inl wo)))]) (w1 := (fun as => [(z0, .inr (9, [.ref a0, .ref b0, .ref h0, .ref s0, .ref l0, .ref e0, .ref k0, .int u7, .int u8, .int u9])), (a0, .inr (8, [.ref a1])), (a1, .inr (6, [.ref a2])), (a2, .inl (cA 0, 61, .inl f))])) (ws2 := (fun as => [(z0, .inr (9, [.ref a0, .ref b0, .ref h0, .ref s0, .ref l0, .ref e0, .ref k0, .int u7, .int u8, .int u9])), (a0, .inr (8, [.ref a1])), (a1, .inr (6, [.ref a2])), (a2, .inl (cA 0, 61, .inl f)), (w0, .inl (cA 3, 1, .inr (.inl wo)))])) (st1 := (fun as => [.int o1.2, .int 0, .ref w0])) ⟨hx, hb, hml, hfc, hts⟩ hK hP hD hS hA hEV (kX5_positionOf l hst D cA G z0 a0 b0 h0 s0 l0 e0 k0 a1 a2 u7 u8 u9 f x1 ho1) (cwV 1 hts gL_positionOf_X5_positionOf rfl rfl rfl (by decide +kernel) ⟨(Nat.le_of_ble_eq_true rfl), (Nat.le_of_ble_eq_true rfl)⟩) [0, 1, 2, 3] [4] [1, 2, 3, 4, 0] rfl rfl rfl rfl (by decide) (fun _ => rfl) rfl 0 9 rfl rfl rfl rfl (fun _ => rfl) rfl hl.1 (Nat.le_of_ble_eq_true rfl) dL_positionOf_4 ⟨(Nat.le_of_ble_eq_true rfl), (Nat.le_of_ble_eq_true rfl)⟩ (fun c3 as2 H locs hP hD hS => ?_) (fun c3 as2 H locs q9 ce hP hD hS z1 z2 z3 => ?_)
  · have h := ite_t c3 h
    have hP : va_P D vwCl [(z0, .inr (9, [.ref a0, .ref b0, .ref h0, .ref s0, .ref l0, .ref e0, .ref k0, .int u7, .int u8, .int u9])), (a0, .inr (8, [.ref a1])), (a1, .inr (6, [.ref a2])), (a2, .inl (cA 0, 61, .inl f)), (w0, .inl (cA 3, 1, .inr (.inl wo)))] H := hP
    have hD : va_D A [(z0, .inr (9, [.ref a0, .ref b0, .ref h0, .ref s0, .ref l0, .ref e0, .ref k0, .int u7, .int u8, .int u9])), (a0, .inr (8, [.ref a1])), (a1, .inr (6, [.ref a2])), (a2, .inl (cA 0, 61, .inl f)), (w0, .inl (cA 3, 1, .inr (.inl wo)))] := hD
    refine W.cs (cells' := 1) (slots' := 6) rfl rfl ?_
    refine lv_i2l (v := o1.2.toInt64) hx hb dL_positionOf_7 rfl ?_
    refine va_last hx hb hK hP hD hS 4 3 rfl rfl (vin _ _ (by decide)) dL_positionOf_8 (fun H locs hP hD hS => ?_)
    have hP : va_P D vwCl [(z0, .inr (9, [.ref a0, .ref b0, .ref h0, .ref s0, .ref l0, .ref e0, .ref k0, .int u7, .int u8, .int u9])), (a0, .inr (8, [.ref a1])), (a1, .inr (6, [.ref a2])), (a2, .inl (cA 0, 61, .inl f)), (w0, .inl (cA 3, 1, .inr (.inl (vp_updL wo 0 o1.2.toInt64))))] H := hP
    have hD : va_D A [(z0, .inr (9, [.ref a0, .ref b0, .ref h0, .ref s0, .ref l0, .ref e0, .ref k0, .int u7, .int u8, .int u9])), (a0, .inr (8, [.ref a1])), (a1, .inr (6, [.ref a2])), (a2, .inl (cA 0, 61, .inl f)), (w0, .inl (cA 3, 1, .inr (.inl (vp_updL wo 0 o1.2.toInt64))))] := hD
    refine lv_goto (tgt := 15) hx hb dL_positionOf_9 (by decide) ?_
    refine lv_iconst (v := 0) hx hb dL_positionOf_15 (by decide) ?_
    have h := Option.some.inj h
    subst h
    refine W.widen (k := 1) (n := 6) (Nat.le_of_ble_eq_true rfl) (Nat.le_of_ble_eq_true rfl) ?_
    exact hend (adr []) _ _ _ _ _ _ _ rfl rfl (rtn_i _) hP hD hS dL_positionOf_16
  · have h := ite_f c3 h
    have hP : va_P D vwCl [(z0, .inr (9, [.ref a0, .ref b0, .ref h0, .ref s0, .ref l0, .ref e0, .ref k0, .int u7, .int u8, .int u9])), (a0, .inr (8, [.ref a1])), (a1, .inr (6, [.ref a2])), (a2, .inl (cA 0, 61, .inl f)), (w0, .inl (cA 3, 1, .inr (.inl wo)))] H := hP
    have hD : va_D A [(z0, .inr (9, [.ref a0, .ref b0, .ref h0, .ref s0, .ref l0, .ref e0, .ref k0, .int u7, .int u8, .int u9])), (a0, .inr (8, [.ref a1])), (a1, .inr (6, [.ref a2])), (a2, .inl (cA 0, 61, .inl f)), (w0, .inl (cA 3, 1, .inr (.inl wo)))] := hD
    by_cases c4 : o1.1 = 3
    · have h := ite_t c4 h
      have z4 : s.vm.findClass "java/lang/IndexOutOfBoundsException" = some ce.cls := by rw [c4] at z3; exact z3
      refine vx_catch (own := RL) (name := "java/lang/IndexOutOfBoundsException") (E := "java/lang/IndexOutOfBoundsException") hfc [] ⟨0, 9, 12, 27⟩ [] hT9 (fun z hz => absurd hz List.not_mem_nil) rfl (by decide) (hL9.link (List.mem_of_getElem? (i := 2) rfl)) ((hEV.1.2.2.2.2 "java/lang/IndexOutOfBoundsException" (by decide +kernel)).use rfl) z1 z2 z4 ?_
      refine W.cs (cells' := 1) (slots' := 6) rfl rfl ?_
      refine lv_astore_n hx hb dL_positionOf_12 rfl hl (Nat.le_of_ble_eq_true rfl) rfl (fun ls hl => ?_)
      have hl : lv_has ls 4 [(3, .ref q9), (0, .ref z0), (1, .int x1), (2, .ref w0)] := hl
      refine lv_iconst (v := 1) hx hb dL_positionOf_13 (by decide) ?_
      have h := Option.some.inj h
      subst h
      refine W.widen (k := 1) (n := 6) (Nat.le_of_ble_eq_true rfl) (Nat.le_of_ble_eq_true rfl) ?_
      exact hend (adr []) _ _ _ _ _ _ _ rfl rfl (rtn_i _) hP hD hS dL_positionOf_14
    · have h := ite_f c4 h
      exact nn h

noncomputable def SL_massOf (f : Nat → Int32) (x1 : Int32) (wo : Nat → Int64) : Option (Int32 × (Nat → Int64)) := lt_ (SX5_massOf f x1) (fun o1 : Nat × Int32 => if o1.1 = 0 then (some ((0, vp_updL wo 0 o1.2.toInt64))) else (if o1.1 = 3 then (some ((1, wo))) else (none)))
abbrev RM_L_massOf : Room := { frames := 8, cells := 1, slots := 6, locals := 126 }
set_option maxHeartbeats 4000000 in
theorem kL_massOf (l : Launch) (hst : l.stackTraces = false) (D : va_G) (cA : Nat → ClassId) (G : eG) (z0 a0 b0 h0 s0 l0 e0 k0 a1 a2 w0 : Nat) (u7 : Int32) (u8 : Int32) (u9 : Int32) (f : Nat → Int32) (x1 : Int32) (wo : Nat → Int64) {r : Int32 × (Nat → Int64)} (hr : SL_massOf f x1 wo = some r) {sz : Nat} : Met l yL_massOf wsL_massOf RM_L_massOf (va_Pc [.ref z0, .int x1, .ref w0] (gqLB G D cA [(z0, .inr (9, [.ref a0, .ref b0, .ref h0, .ref s0, .ref l0, .ref e0, .ref k0, .int u7, .int u8, .int u9])), (a0, .inr (8, [.ref a1])), (a1, .inr (6, [.ref a2])), (a2, .inl (cA 0, 61, .inl f)), (w0, .inl (cA 3, 1, .inr (.inl wo)))] sz)) (gqQ D (fun as => (some (.int r.1))) (fun as => [(z0, .inr (9, [.ref a0, .ref b0, .ref h0, .ref s0, .ref l0, .ref e0, .ref k0, .int u7, .int u8, .int u9])), (a0, .inr (8, [.ref a1])), (a1, .inr (6, [.ref a2])), (a2, .inl (cA 0, 61, .inl f)), (w0, .inl (cA 3, 1, .inr (.inl r.2)))]) (va_A [(z0, .inr (9, [.ref a0, .ref b0, .ref h0, .ref s0, .ref l0, .ref e0, .ref k0, .int u7, .int u8, .int u9])), (a0, .inr (8, [.ref a1])), (a1, .inr (6, [.ref a2])), (a2, .inl (cA 0, 61, .inl f)), (w0, .inl (cA 3, 1, .inr (.inl wo)))] sz)) 1 6 (va_A [(z0, .inr (9, [.ref a0, .ref b0, .ref h0, .ref s0, .ref l0, .ref e0, .ref k0, .int u7, .int u8, .int u9])), (a0, .inr (8, [.ref a1])), (a1, .inr (6, [.ref a2])), (a2, .inl (cA 0, 61, .inl f)), (w0, .inl (cA 3, 1, .inr (.inl wo)))] sz) := by
  refine gqL_ofW (hh := [(0, 9, 12, 27)]) (cc := cL_massOf) (maxL := 4) (ret := (some .int)) (by decide) rfl (Nat.le_of_ble_eq_true rfl) (fun p e s m args below meth c ls Q A hx hb hml hT9 hts hfc hK hP hD hS hA hEV hL9 hl hend => ?_)
  have hfc : s.vm.findClass RL = some m.cls := hfc
  have hl : lv_has ls 4 [(0, .ref z0), (1, .int x1), (2, .ref w0)] := hl
  have h := hr
  clear hr
  unfold SL_massOf at h
  refine lv_aload_n hx hb dL_massOf_0 rfl (lv_at hl 2 rfl) ?_
  refine lv_iconst (v := 0) hx hb dL_massOf_1 (by decide) ?_
  refine lv_aload_n hx hb dL_massOf_2 rfl (lv_at hl 0 rfl) ?_
  refine lv_iload_n hx hb dL_massOf_3 rfl (lv_at hl 1 rfl) ?_
  obtain ⟨o1, ho1, h⟩ := lt_i h
  refine xq_V (G := G) (v := (fun as => (some (.int o1.2)))) (As := [.int x1]) (rest := [.int 0, .ref w0]) (wc := [(z0, .inr (9, [.ref a0, .ref b0, .ref h0, .ref s0, .ref l0, .ref e0, .ref k0, .int u7, .int u8, .int u9])), (a0, .inr (8, [.ref a1])), (a1, .inr (6, [.ref a2])), (a2, .inl (cA 0, 61, .inl f))]) (wr := [(w0, .inl (cA 3, 1, .inr (.inl wo)))]) (w1 := (fun as => [(z0, .inr (9, [.ref a0, .ref b0, .ref h0, .ref s0, .ref l0, .ref e0, .ref k0, .int u7, .int u8, .int u9])), (a0, .inr (8, [.ref a1])), (a1, .inr (6, [.ref a2])), (a2, .inl (cA 0, 61, .inl f))])) (ws2 := (fun as => [(z0, .inr (9, [.ref a0, .ref b0, .ref h0, .ref s0, .ref l0, .ref e0, .ref k0, .int u7, .int u8, .int u9])), (a0, .inr (8, [.ref a1])), (a1, .inr (6, [.ref a2])), (a2, .inl (cA 0, 61, .inl f)), (w0, .inl (cA 3, 1, .inr (.inl wo)))])) (st1 := (fun as => [.int o1.2, .int 0, .ref w0])) ⟨hx, hb, hml, hfc, hts⟩ hK hP hD hS hA hEV (kX5_massOf l hst D cA G z0 a0 b0 h0 s0 l0 e0 k0 a1 a2 u7 u8 u9 f x1 ho1) (cwV 1 hts gL_massOf_X5_massOf rfl rfl rfl (by decide +kernel) ⟨(Nat.le_of_ble_eq_true rfl), (Nat.le_of_ble_eq_true rfl)⟩) [0, 1, 2, 3] [4] [1, 2, 3, 4, 0] rfl rfl rfl rfl (by decide) (fun _ => rfl) rfl 0 9 rfl rfl rfl rfl (fun _ => rfl) rfl hl.1 (Nat.le_of_ble_eq_true rfl) dL_massOf_4 ⟨(Nat.le_of_ble_eq_true rfl), (Nat.le_of_ble_eq_true rfl)⟩ (fun c3 as2 H locs hP hD hS => ?_) (fun c3 as2 H locs q9 ce hP hD hS z1 z2 z3 => ?_)
  · have h := ite_t c3 h
    have hP : va_P D vwCl [(z0, .inr (9, [.ref a0, .ref b0, .ref h0, .ref s0, .ref l0, .ref e0, .ref k0, .int u7, .int u8, .int u9])), (a0, .inr (8, [.ref a1])), (a1, .inr (6, [.ref a2])), (a2, .inl (cA 0, 61, .inl f)), (w0, .inl (cA 3, 1, .inr (.inl wo)))] H := hP
    have hD : va_D A [(z0, .inr (9, [.ref a0, .ref b0, .ref h0, .ref s0, .ref l0, .ref e0, .ref k0, .int u7, .int u8, .int u9])), (a0, .inr (8, [.ref a1])), (a1, .inr (6, [.ref a2])), (a2, .inl (cA 0, 61, .inl f)), (w0, .inl (cA 3, 1, .inr (.inl wo)))] := hD
    refine W.cs (cells' := 1) (slots' := 6) rfl rfl ?_
    refine lv_i2l (v := o1.2.toInt64) hx hb dL_massOf_7 rfl ?_
    refine va_last hx hb hK hP hD hS 4 3 rfl rfl (vin _ _ (by decide)) dL_massOf_8 (fun H locs hP hD hS => ?_)
    have hP : va_P D vwCl [(z0, .inr (9, [.ref a0, .ref b0, .ref h0, .ref s0, .ref l0, .ref e0, .ref k0, .int u7, .int u8, .int u9])), (a0, .inr (8, [.ref a1])), (a1, .inr (6, [.ref a2])), (a2, .inl (cA 0, 61, .inl f)), (w0, .inl (cA 3, 1, .inr (.inl (vp_updL wo 0 o1.2.toInt64))))] H := hP
    have hD : va_D A [(z0, .inr (9, [.ref a0, .ref b0, .ref h0, .ref s0, .ref l0, .ref e0, .ref k0, .int u7, .int u8, .int u9])), (a0, .inr (8, [.ref a1])), (a1, .inr (6, [.ref a2])), (a2, .inl (cA 0, 61, .inl f)), (w0, .inl (cA 3, 1, .inr (.inl (vp_updL wo 0 o1.2.toInt64))))] := hD
    refine lv_goto (tgt := 15) hx hb dL_massOf_9 (by decide) ?_
    refine lv_iconst (v := 0) hx hb dL_massOf_15 (by decide) ?_
    have h := Option.some.inj h
    subst h
    refine W.widen (k := 1) (n := 6) (Nat.le_of_ble_eq_true rfl) (Nat.le_of_ble_eq_true rfl) ?_
    exact hend (adr []) _ _ _ _ _ _ _ rfl rfl (rtn_i _) hP hD hS dL_massOf_16
  · have h := ite_f c3 h
    have hP : va_P D vwCl [(z0, .inr (9, [.ref a0, .ref b0, .ref h0, .ref s0, .ref l0, .ref e0, .ref k0, .int u7, .int u8, .int u9])), (a0, .inr (8, [.ref a1])), (a1, .inr (6, [.ref a2])), (a2, .inl (cA 0, 61, .inl f)), (w0, .inl (cA 3, 1, .inr (.inl wo)))] H := hP
    have hD : va_D A [(z0, .inr (9, [.ref a0, .ref b0, .ref h0, .ref s0, .ref l0, .ref e0, .ref k0, .int u7, .int u8, .int u9])), (a0, .inr (8, [.ref a1])), (a1, .inr (6, [.ref a2])), (a2, .inl (cA 0, 61, .inl f)), (w0, .inl (cA 3, 1, .inr (.inl wo)))] := hD
    by_cases c4 : o1.1 = 3
    · have h := ite_t c4 h
      have z4 : s.vm.findClass "java/lang/IndexOutOfBoundsException" = some ce.cls := by rw [c4] at z3; exact z3
      refine vx_catch (own := RL) (name := "java/lang/IndexOutOfBoundsException") (E := "java/lang/IndexOutOfBoundsException") hfc [] ⟨0, 9, 12, 27⟩ [] hT9 (fun z hz => absurd hz List.not_mem_nil) rfl (by decide) (hL9.link (List.mem_of_getElem? (i := 2) rfl)) ((hEV.1.2.2.2.2 "java/lang/IndexOutOfBoundsException" (by decide +kernel)).use rfl) z1 z2 z4 ?_
      refine W.cs (cells' := 1) (slots' := 6) rfl rfl ?_
      refine lv_astore_n hx hb dL_massOf_12 rfl hl (Nat.le_of_ble_eq_true rfl) rfl (fun ls hl => ?_)
      have hl : lv_has ls 4 [(3, .ref q9), (0, .ref z0), (1, .int x1), (2, .ref w0)] := hl
      refine lv_iconst (v := 1) hx hb dL_massOf_13 (by decide) ?_
      have h := Option.some.inj h
      subst h
      refine W.widen (k := 1) (n := 6) (Nat.le_of_ble_eq_true rfl) (Nat.le_of_ble_eq_true rfl) ?_
      exact hend (adr []) _ _ _ _ _ _ _ rfl rfl (rtn_i _) hP hD hS dL_massOf_14
    · have h := ite_f c4 h
      exact nn h

noncomputable def SL_ageOf (f : Nat → Int32) (x1 : Int32) (wo : Nat → Int64) : Option (Int32 × (Nat → Int64)) := lt_ (SX5_ageOf f x1) (fun o1 : Nat × Int32 => if o1.1 = 0 then (some ((0, vp_updL wo 0 o1.2.toInt64))) else (if o1.1 = 3 then (some ((1, wo))) else (none)))
abbrev RM_L_ageOf : Room := { frames := 8, cells := 1, slots := 6, locals := 126 }
set_option maxHeartbeats 4000000 in
theorem kL_ageOf (l : Launch) (hst : l.stackTraces = false) (D : va_G) (cA : Nat → ClassId) (G : eG) (z0 a0 b0 h0 s0 l0 e0 k0 a1 a2 w0 : Nat) (u7 : Int32) (u8 : Int32) (u9 : Int32) (f : Nat → Int32) (x1 : Int32) (wo : Nat → Int64) {r : Int32 × (Nat → Int64)} (hr : SL_ageOf f x1 wo = some r) {sz : Nat} : Met l yL_ageOf wsL_ageOf RM_L_ageOf (va_Pc [.ref z0, .int x1, .ref w0] (gqLB G D cA [(z0, .inr (9, [.ref a0, .ref b0, .ref h0, .ref s0, .ref l0, .ref e0, .ref k0, .int u7, .int u8, .int u9])), (a0, .inr (8, [.ref a1])), (a1, .inr (6, [.ref a2])), (a2, .inl (cA 0, 61, .inl f)), (w0, .inl (cA 3, 1, .inr (.inl wo)))] sz)) (gqQ D (fun as => (some (.int r.1))) (fun as => [(z0, .inr (9, [.ref a0, .ref b0, .ref h0, .ref s0, .ref l0, .ref e0, .ref k0, .int u7, .int u8, .int u9])), (a0, .inr (8, [.ref a1])), (a1, .inr (6, [.ref a2])), (a2, .inl (cA 0, 61, .inl f)), (w0, .inl (cA 3, 1, .inr (.inl r.2)))]) (va_A [(z0, .inr (9, [.ref a0, .ref b0, .ref h0, .ref s0, .ref l0, .ref e0, .ref k0, .int u7, .int u8, .int u9])), (a0, .inr (8, [.ref a1])), (a1, .inr (6, [.ref a2])), (a2, .inl (cA 0, 61, .inl f)), (w0, .inl (cA 3, 1, .inr (.inl wo)))] sz)) 1 6 (va_A [(z0, .inr (9, [.ref a0, .ref b0, .ref h0, .ref s0, .ref l0, .ref e0, .ref k0, .int u7, .int u8, .int u9])), (a0, .inr (8, [.ref a1])), (a1, .inr (6, [.ref a2])), (a2, .inl (cA 0, 61, .inl f)), (w0, .inl (cA 3, 1, .inr (.inl wo)))] sz) := by
  refine gqL_ofW (hh := [(0, 9, 12, 27)]) (cc := cL_ageOf) (maxL := 4) (ret := (some .int)) (by decide) rfl (Nat.le_of_ble_eq_true rfl) (fun p e s m args below meth c ls Q A hx hb hml hT9 hts hfc hK hP hD hS hA hEV hL9 hl hend => ?_)
  have hfc : s.vm.findClass RL = some m.cls := hfc
  have hl : lv_has ls 4 [(0, .ref z0), (1, .int x1), (2, .ref w0)] := hl
  have h := hr
  clear hr
  unfold SL_ageOf at h
  refine lv_aload_n hx hb dL_ageOf_0 rfl (lv_at hl 2 rfl) ?_
  refine lv_iconst (v := 0) hx hb dL_ageOf_1 (by decide) ?_
  refine lv_aload_n hx hb dL_ageOf_2 rfl (lv_at hl 0 rfl) ?_
  refine lv_iload_n hx hb dL_ageOf_3 rfl (lv_at hl 1 rfl) ?_
  obtain ⟨o1, ho1, h⟩ := lt_i h
  refine xq_V (G := G) (v := (fun as => (some (.int o1.2)))) (As := [.int x1]) (rest := [.int 0, .ref w0]) (wc := [(z0, .inr (9, [.ref a0, .ref b0, .ref h0, .ref s0, .ref l0, .ref e0, .ref k0, .int u7, .int u8, .int u9])), (a0, .inr (8, [.ref a1])), (a1, .inr (6, [.ref a2])), (a2, .inl (cA 0, 61, .inl f))]) (wr := [(w0, .inl (cA 3, 1, .inr (.inl wo)))]) (w1 := (fun as => [(z0, .inr (9, [.ref a0, .ref b0, .ref h0, .ref s0, .ref l0, .ref e0, .ref k0, .int u7, .int u8, .int u9])), (a0, .inr (8, [.ref a1])), (a1, .inr (6, [.ref a2])), (a2, .inl (cA 0, 61, .inl f))])) (ws2 := (fun as => [(z0, .inr (9, [.ref a0, .ref b0, .ref h0, .ref s0, .ref l0, .ref e0, .ref k0, .int u7, .int u8, .int u9])), (a0, .inr (8, [.ref a1])), (a1, .inr (6, [.ref a2])), (a2, .inl (cA 0, 61, .inl f)), (w0, .inl (cA 3, 1, .inr (.inl wo)))])) (st1 := (fun as => [.int o1.2, .int 0, .ref w0])) ⟨hx, hb, hml, hfc, hts⟩ hK hP hD hS hA hEV (kX5_ageOf l hst D cA G z0 a0 b0 h0 s0 l0 e0 k0 a1 a2 u7 u8 u9 f x1 ho1) (cwV 1 hts gL_ageOf_X5_ageOf rfl rfl rfl (by decide +kernel) ⟨(Nat.le_of_ble_eq_true rfl), (Nat.le_of_ble_eq_true rfl)⟩) [0, 1, 2, 3] [4] [1, 2, 3, 4, 0] rfl rfl rfl rfl (by decide) (fun _ => rfl) rfl 0 9 rfl rfl rfl rfl (fun _ => rfl) rfl hl.1 (Nat.le_of_ble_eq_true rfl) dL_ageOf_4 ⟨(Nat.le_of_ble_eq_true rfl), (Nat.le_of_ble_eq_true rfl)⟩ (fun c3 as2 H locs hP hD hS => ?_) (fun c3 as2 H locs q9 ce hP hD hS z1 z2 z3 => ?_)
  · have h := ite_t c3 h
    have hP : va_P D vwCl [(z0, .inr (9, [.ref a0, .ref b0, .ref h0, .ref s0, .ref l0, .ref e0, .ref k0, .int u7, .int u8, .int u9])), (a0, .inr (8, [.ref a1])), (a1, .inr (6, [.ref a2])), (a2, .inl (cA 0, 61, .inl f)), (w0, .inl (cA 3, 1, .inr (.inl wo)))] H := hP
    have hD : va_D A [(z0, .inr (9, [.ref a0, .ref b0, .ref h0, .ref s0, .ref l0, .ref e0, .ref k0, .int u7, .int u8, .int u9])), (a0, .inr (8, [.ref a1])), (a1, .inr (6, [.ref a2])), (a2, .inl (cA 0, 61, .inl f)), (w0, .inl (cA 3, 1, .inr (.inl wo)))] := hD
    refine W.cs (cells' := 1) (slots' := 6) rfl rfl ?_
    refine lv_i2l (v := o1.2.toInt64) hx hb dL_ageOf_7 rfl ?_
    refine va_last hx hb hK hP hD hS 4 3 rfl rfl (vin _ _ (by decide)) dL_ageOf_8 (fun H locs hP hD hS => ?_)
    have hP : va_P D vwCl [(z0, .inr (9, [.ref a0, .ref b0, .ref h0, .ref s0, .ref l0, .ref e0, .ref k0, .int u7, .int u8, .int u9])), (a0, .inr (8, [.ref a1])), (a1, .inr (6, [.ref a2])), (a2, .inl (cA 0, 61, .inl f)), (w0, .inl (cA 3, 1, .inr (.inl (vp_updL wo 0 o1.2.toInt64))))] H := hP
    have hD : va_D A [(z0, .inr (9, [.ref a0, .ref b0, .ref h0, .ref s0, .ref l0, .ref e0, .ref k0, .int u7, .int u8, .int u9])), (a0, .inr (8, [.ref a1])), (a1, .inr (6, [.ref a2])), (a2, .inl (cA 0, 61, .inl f)), (w0, .inl (cA 3, 1, .inr (.inl (vp_updL wo 0 o1.2.toInt64))))] := hD
    refine lv_goto (tgt := 15) hx hb dL_ageOf_9 (by decide) ?_
    refine lv_iconst (v := 0) hx hb dL_ageOf_15 (by decide) ?_
    have h := Option.some.inj h
    subst h
    refine W.widen (k := 1) (n := 6) (Nat.le_of_ble_eq_true rfl) (Nat.le_of_ble_eq_true rfl) ?_
    exact hend (adr []) _ _ _ _ _ _ _ rfl rfl (rtn_i _) hP hD hS dL_ageOf_16
  · have h := ite_f c3 h
    have hP : va_P D vwCl [(z0, .inr (9, [.ref a0, .ref b0, .ref h0, .ref s0, .ref l0, .ref e0, .ref k0, .int u7, .int u8, .int u9])), (a0, .inr (8, [.ref a1])), (a1, .inr (6, [.ref a2])), (a2, .inl (cA 0, 61, .inl f)), (w0, .inl (cA 3, 1, .inr (.inl wo)))] H := hP
    have hD : va_D A [(z0, .inr (9, [.ref a0, .ref b0, .ref h0, .ref s0, .ref l0, .ref e0, .ref k0, .int u7, .int u8, .int u9])), (a0, .inr (8, [.ref a1])), (a1, .inr (6, [.ref a2])), (a2, .inl (cA 0, 61, .inl f)), (w0, .inl (cA 3, 1, .inr (.inl wo)))] := hD
    by_cases c4 : o1.1 = 3
    · have h := ite_t c4 h
      have z4 : s.vm.findClass "java/lang/IndexOutOfBoundsException" = some ce.cls := by rw [c4] at z3; exact z3
      refine vx_catch (own := RL) (name := "java/lang/IndexOutOfBoundsException") (E := "java/lang/IndexOutOfBoundsException") hfc [] ⟨0, 9, 12, 27⟩ [] hT9 (fun z hz => absurd hz List.not_mem_nil) rfl (by decide) (hL9.link (List.mem_of_getElem? (i := 2) rfl)) ((hEV.1.2.2.2.2 "java/lang/IndexOutOfBoundsException" (by decide +kernel)).use rfl) z1 z2 z4 ?_
      refine W.cs (cells' := 1) (slots' := 6) rfl rfl ?_
      refine lv_astore_n hx hb dL_ageOf_12 rfl hl (Nat.le_of_ble_eq_true rfl) rfl (fun ls hl => ?_)
      have hl : lv_has ls 4 [(3, .ref q9), (0, .ref z0), (1, .int x1), (2, .ref w0)] := hl
      refine lv_iconst (v := 1) hx hb dL_ageOf_13 (by decide) ?_
      have h := Option.some.inj h
      subst h
      refine W.widen (k := 1) (n := 6) (Nat.le_of_ble_eq_true rfl) (Nat.le_of_ble_eq_true rfl) ?_
      exact hend (adr []) _ _ _ _ _ _ _ rfl rfl (rtn_i _) hP hD hS dL_ageOf_14
    · have h := ite_f c4 h
      exact nn h

noncomputable def SL_isHard (f : Nat → Int32) (x1 : Int32) (wo : Nat → Int64) : Option (Int32 × (Nat → Int64)) := lt_ (SX5_isHard f x1) (fun o1 : Nat × Int32 => if o1.1 = 0 then (lt_ (if o1.2 = 0 then (0) else (1)) (fun o6 : Int64 => some ((0, vp_updL wo 0 o6)))) else (if o1.1 = 3 then (some ((1, wo))) else (none)))
abbrev RM_L_isHard : Room := { frames := 8, cells := 1, slots := 6, locals := 126 }
set_option maxHeartbeats 4000000 in
theorem kL_isHard (l : Launch) (hst : l.stackTraces = false) (D : va_G) (cA : Nat → ClassId) (G : eG) (z0 a0 b0 h0 s0 l0 e0 k0 a1 a2 w0 : Nat) (u7 : Int32) (u8 : Int32) (u9 : Int32) (f : Nat → Int32) (x1 : Int32) (wo : Nat → Int64) {r : Int32 × (Nat → Int64)} (hr : SL_isHard f x1 wo = some r) {sz : Nat} : Met l yL_isHard wsL_isHard RM_L_isHard (va_Pc [.ref z0, .int x1, .ref w0] (gqLB G D cA [(z0, .inr (9, [.ref a0, .ref b0, .ref h0, .ref s0, .ref l0, .ref e0, .ref k0, .int u7, .int u8, .int u9])), (a0, .inr (8, [.ref a1])), (a1, .inr (6, [.ref a2])), (a2, .inl (cA 0, 61, .inl f)), (w0, .inl (cA 3, 1, .inr (.inl wo)))] sz)) (gqQ D (fun as => (some (.int r.1))) (fun as => [(z0, .inr (9, [.ref a0, .ref b0, .ref h0, .ref s0, .ref l0, .ref e0, .ref k0, .int u7, .int u8, .int u9])), (a0, .inr (8, [.ref a1])), (a1, .inr (6, [.ref a2])), (a2, .inl (cA 0, 61, .inl f)), (w0, .inl (cA 3, 1, .inr (.inl r.2)))]) (va_A [(z0, .inr (9, [.ref a0, .ref b0, .ref h0, .ref s0, .ref l0, .ref e0, .ref k0, .int u7, .int u8, .int u9])), (a0, .inr (8, [.ref a1])), (a1, .inr (6, [.ref a2])), (a2, .inl (cA 0, 61, .inl f)), (w0, .inl (cA 3, 1, .inr (.inl wo)))] sz)) 1 6 (va_A [(z0, .inr (9, [.ref a0, .ref b0, .ref h0, .ref s0, .ref l0, .ref e0, .ref k0, .int u7, .int u8, .int u9])), (a0, .inr (8, [.ref a1])), (a1, .inr (6, [.ref a2])), (a2, .inl (cA 0, 61, .inl f)), (w0, .inl (cA 3, 1, .inr (.inl wo)))] sz) := by
  refine gqL_ofW (hh := [(0, 16, 19, 27)]) (cc := cL_isHard) (maxL := 4) (ret := (some .int)) (by decide) rfl (Nat.le_of_ble_eq_true rfl) (fun p e s m args below meth c ls Q A hx hb hml hT9 hts hfc hK hP hD hS hA hEV hL9 hl hend => ?_)
  have hfc : s.vm.findClass RL = some m.cls := hfc
  have hl : lv_has ls 4 [(0, .ref z0), (1, .int x1), (2, .ref w0)] := hl
  have h := hr
  clear hr
  unfold SL_isHard at h
  refine lv_aload_n hx hb dL_isHard_0 rfl (lv_at hl 2 rfl) ?_
  refine lv_iconst (v := 0) hx hb dL_isHard_1 (by decide) ?_
  refine lv_aload_n hx hb dL_isHard_2 rfl (lv_at hl 0 rfl) ?_
  refine lv_iload_n hx hb dL_isHard_3 rfl (lv_at hl 1 rfl) ?_
  obtain ⟨o1, ho1, h⟩ := lt_i h
  refine xq_V (G := G) (v := (fun as => (some (.int o1.2)))) (As := [.int x1]) (rest := [.int 0, .ref w0]) (wc := [(z0, .inr (9, [.ref a0, .ref b0, .ref h0, .ref s0, .ref l0, .ref e0, .ref k0, .int u7, .int u8, .int u9])), (a0, .inr (8, [.ref a1])), (a1, .inr (6, [.ref a2])), (a2, .inl (cA 0, 61, .inl f))]) (wr := [(w0, .inl (cA 3, 1, .inr (.inl wo)))]) (w1 := (fun as => [(z0, .inr (9, [.ref a0, .ref b0, .ref h0, .ref s0, .ref l0, .ref e0, .ref k0, .int u7, .int u8, .int u9])), (a0, .inr (8, [.ref a1])), (a1, .inr (6, [.ref a2])), (a2, .inl (cA 0, 61, .inl f))])) (ws2 := (fun as => [(z0, .inr (9, [.ref a0, .ref b0, .ref h0, .ref s0, .ref l0, .ref e0, .ref k0, .int u7, .int u8, .int u9])), (a0, .inr (8, [.ref a1])), (a1, .inr (6, [.ref a2])), (a2, .inl (cA 0, 61, .inl f)), (w0, .inl (cA 3, 1, .inr (.inl wo)))])) (st1 := (fun as => [.int o1.2, .int 0, .ref w0])) ⟨hx, hb, hml, hfc, hts⟩ hK hP hD hS hA hEV (kX5_isHard l hst D cA G z0 a0 b0 h0 s0 l0 e0 k0 a1 a2 u7 u8 u9 f x1 ho1) (cwV 1 hts gL_isHard_X5_isHard rfl rfl rfl (by decide +kernel) ⟨(Nat.le_of_ble_eq_true rfl), (Nat.le_of_ble_eq_true rfl)⟩) [0, 1, 2, 3] [4] [1, 2, 3, 4, 0] rfl rfl rfl rfl (by decide) (fun _ => rfl) rfl 0 9 rfl rfl rfl rfl (fun _ => rfl) rfl hl.1 (Nat.le_of_ble_eq_true rfl) dL_isHard_4 ⟨(Nat.le_of_ble_eq_true rfl), (Nat.le_of_ble_eq_true rfl)⟩ (fun c3 as2 H locs hP hD hS => ?_) (fun c3 as2 H locs q9 ce hP hD hS z1 z2 z3 => ?_)
  · have h := ite_t c3 h
    have hP : va_P D vwCl [(z0, .inr (9, [.ref a0, .ref b0, .ref h0, .ref s0, .ref l0, .ref e0, .ref k0, .int u7, .int u8, .int u9])), (a0, .inr (8, [.ref a1])), (a1, .inr (6, [.ref a2])), (a2, .inl (cA 0, 61, .inl f)), (w0, .inl (cA 3, 1, .inr (.inl wo)))] H := hP
    have hD : va_D A [(z0, .inr (9, [.ref a0, .ref b0, .ref h0, .ref s0, .ref l0, .ref e0, .ref k0, .int u7, .int u8, .int u9])), (a0, .inr (8, [.ref a1])), (a1, .inr (6, [.ref a2])), (a2, .inl (cA 0, 61, .inl f)), (w0, .inl (cA 3, 1, .inr (.inl wo)))] := hD
    refine W.cs (cells' := 1) (slots' := 6) rfl rfl ?_
    obtain ⟨o6, ho6, h⟩ := lt_i h
    have ko6 : ∀ (ls : Array Slot) (H : Heap) (locs : List Loc), lv_has ls 4 [(0, .ref z0), (1, .int x1), (2, .ref w0)] → va_P D vwCl [(z0, .inr (9, [.ref a0, .ref b0, .ref h0, .ref s0, .ref l0, .ref e0, .ref k0, .int u7, .int u8, .int u9])), (a0, .inr (8, [.ref a1])), (a1, .inr (6, [.ref a2])), (a2, .inl (cA 0, 61, .inl f)), (w0, .inl (cA 3, 1, .inr (.inl wo)))] H → va_D A [(z0, .inr (9, [.ref a0, .ref b0, .ref h0, .ref s0, .ref l0, .ref e0, .ref k0, .int u7, .int u8, .int u9])), (a0, .inr (8, [.ref a1])), (a1, .inr (6, [.ref a2])), (a2, .inl (cA 0, 61, .inl f)), (w0, .inl (cA 3, 1, .inr (.inl wo)))] → va_S A s.heap H locs → W p l e RM_L_isHard s m args below meth c H locs 1 6 Q (F0 m 15 ls [.long o6, .int 0, .ref w0]) := by
      intro ls H locs hl hP hD hS
      refine va_last hx hb hK hP hD hS 4 3 rfl rfl (vin _ _ (by decide)) dL_isHard_15 (fun H locs hP hD hS => ?_)
      have hP : va_P D vwCl [(z0, .inr (9, [.ref a0, .ref b0, .ref h0, .ref s0, .ref l0, .ref e0, .ref k0, .int u7, .int u8, .int u9])), (a0, .inr (8, [.ref a1])), (a1, .inr (6, [.ref a2])), (a2, .inl (cA 0, 61, .inl f)), (w0, .inl (cA 3, 1, .inr (.inl (vp_updL wo 0 o6))))] H := hP
      have hD : va_D A [(z0, .inr (9, [.ref a0, .ref b0, .ref h0, .ref s0, .ref l0, .ref e0, .ref k0, .int u7, .int u8, .int u9])), (a0, .inr (8, [.ref a1])), (a1, .inr (6, [.ref a2])), (a2, .inl (cA 0, 61, .inl f)), (w0, .inl (cA 3, 1, .inr (.inl (vp_updL wo 0 o6))))] := hD
      refine lv_goto (tgt := 22) hx hb dL_isHard_16 (by decide) ?_
      refine lv_iconst (v := 0) hx hb dL_isHard_22 (by decide) ?_
      have h := Option.some.inj h
      subst h
      refine W.widen (k := 1) (n := 6) (Nat.le_of_ble_eq_true rfl) (Nat.le_of_ble_eq_true rfl) ?_
      exact hend (adr []) _ _ _ _ _ _ _ rfl rfl (rtn_i _) hP hD hS dL_isHard_23
    clear h
    have h := ho6
    clear ho6
    refine lv_if_eq (tgt := 14) hx hb dL_isHard_7 (by decide) (fun c5 => ?_) (fun c5 => ?_)
    · have h := ite_t c5 h
      refine lv_lconst (v := 0) hx hb dL_isHard_14 (by decide) ?_
      subst h
      exact ko6 _ _ _ (lv_sub hl [0, 1, 2] rfl) hP hD hS
    · have h := ite_f c5 h
      refine lv_lconst (v := 1) hx hb dL_isHard_10 (by decide) ?_
      refine lv_goto (tgt := 15) hx hb dL_isHard_11 (by decide) ?_
      subst h
      exact ko6 _ _ _ (lv_sub hl [0, 1, 2] rfl) hP hD hS
  · have h := ite_f c3 h
    have hP : va_P D vwCl [(z0, .inr (9, [.ref a0, .ref b0, .ref h0, .ref s0, .ref l0, .ref e0, .ref k0, .int u7, .int u8, .int u9])), (a0, .inr (8, [.ref a1])), (a1, .inr (6, [.ref a2])), (a2, .inl (cA 0, 61, .inl f)), (w0, .inl (cA 3, 1, .inr (.inl wo)))] H := hP
    have hD : va_D A [(z0, .inr (9, [.ref a0, .ref b0, .ref h0, .ref s0, .ref l0, .ref e0, .ref k0, .int u7, .int u8, .int u9])), (a0, .inr (8, [.ref a1])), (a1, .inr (6, [.ref a2])), (a2, .inl (cA 0, 61, .inl f)), (w0, .inl (cA 3, 1, .inr (.inl wo)))] := hD
    by_cases c4 : o1.1 = 3
    · have h := ite_t c4 h
      have z4 : s.vm.findClass "java/lang/IndexOutOfBoundsException" = some ce.cls := by rw [c4] at z3; exact z3
      refine vx_catch (own := RL) (name := "java/lang/IndexOutOfBoundsException") (E := "java/lang/IndexOutOfBoundsException") hfc [] ⟨0, 16, 19, 27⟩ [] hT9 (fun z hz => absurd hz List.not_mem_nil) rfl (by decide) (hL9.link (List.mem_of_getElem? (i := 2) rfl)) ((hEV.1.2.2.2.2 "java/lang/IndexOutOfBoundsException" (by decide +kernel)).use rfl) z1 z2 z4 ?_
      refine W.cs (cells' := 1) (slots' := 6) rfl rfl ?_
      refine lv_astore_n hx hb dL_isHard_19 rfl hl (Nat.le_of_ble_eq_true rfl) rfl (fun ls hl => ?_)
      have hl : lv_has ls 4 [(3, .ref q9), (0, .ref z0), (1, .int x1), (2, .ref w0)] := hl
      refine lv_iconst (v := 1) hx hb dL_isHard_20 (by decide) ?_
      have h := Option.some.inj h
      subst h
      refine W.widen (k := 1) (n := 6) (Nat.le_of_ble_eq_true rfl) (Nat.le_of_ble_eq_true rfl) ?_
      exact hend (adr []) _ _ _ _ _ _ _ rfl rfl (rtn_i _) hP hD hS dL_isHard_21
    · have h := ite_f c4 h
      exact nn h

noncomputable def SL_isSoft (f : Nat → Int32) (x1 : Int32) (wo : Nat → Int64) : Option (Int32 × (Nat → Int64)) := lt_ (SX5_isSoft f x1) (fun o1 : Nat × Int32 => if o1.1 = 0 then (lt_ (if o1.2 = 0 then (0) else (1)) (fun o6 : Int64 => some ((0, vp_updL wo 0 o6)))) else (if o1.1 = 3 then (some ((1, wo))) else (none)))
abbrev RM_L_isSoft : Room := { frames := 8, cells := 1, slots := 6, locals := 126 }
set_option maxHeartbeats 4000000 in
theorem kL_isSoft (l : Launch) (hst : l.stackTraces = false) (D : va_G) (cA : Nat → ClassId) (G : eG) (z0 a0 b0 h0 s0 l0 e0 k0 a1 a2 w0 : Nat) (u7 : Int32) (u8 : Int32) (u9 : Int32) (f : Nat → Int32) (x1 : Int32) (wo : Nat → Int64) {r : Int32 × (Nat → Int64)} (hr : SL_isSoft f x1 wo = some r) {sz : Nat} : Met l yL_isSoft wsL_isSoft RM_L_isSoft (va_Pc [.ref z0, .int x1, .ref w0] (gqLB G D cA [(z0, .inr (9, [.ref a0, .ref b0, .ref h0, .ref s0, .ref l0, .ref e0, .ref k0, .int u7, .int u8, .int u9])), (a0, .inr (8, [.ref a1])), (a1, .inr (6, [.ref a2])), (a2, .inl (cA 0, 61, .inl f)), (w0, .inl (cA 3, 1, .inr (.inl wo)))] sz)) (gqQ D (fun as => (some (.int r.1))) (fun as => [(z0, .inr (9, [.ref a0, .ref b0, .ref h0, .ref s0, .ref l0, .ref e0, .ref k0, .int u7, .int u8, .int u9])), (a0, .inr (8, [.ref a1])), (a1, .inr (6, [.ref a2])), (a2, .inl (cA 0, 61, .inl f)), (w0, .inl (cA 3, 1, .inr (.inl r.2)))]) (va_A [(z0, .inr (9, [.ref a0, .ref b0, .ref h0, .ref s0, .ref l0, .ref e0, .ref k0, .int u7, .int u8, .int u9])), (a0, .inr (8, [.ref a1])), (a1, .inr (6, [.ref a2])), (a2, .inl (cA 0, 61, .inl f)), (w0, .inl (cA 3, 1, .inr (.inl wo)))] sz)) 1 6 (va_A [(z0, .inr (9, [.ref a0, .ref b0, .ref h0, .ref s0, .ref l0, .ref e0, .ref k0, .int u7, .int u8, .int u9])), (a0, .inr (8, [.ref a1])), (a1, .inr (6, [.ref a2])), (a2, .inl (cA 0, 61, .inl f)), (w0, .inl (cA 3, 1, .inr (.inl wo)))] sz) := by
  refine gqL_ofW (hh := [(0, 16, 19, 27)]) (cc := cL_isSoft) (maxL := 4) (ret := (some .int)) (by decide) rfl (Nat.le_of_ble_eq_true rfl) (fun p e s m args below meth c ls Q A hx hb hml hT9 hts hfc hK hP hD hS hA hEV hL9 hl hend => ?_)
  have hfc : s.vm.findClass RL = some m.cls := hfc
  have hl : lv_has ls 4 [(0, .ref z0), (1, .int x1), (2, .ref w0)] := hl
  have h := hr
  clear hr
  unfold SL_isSoft at h
  refine lv_aload_n hx hb dL_isSoft_0 rfl (lv_at hl 2 rfl) ?_
  refine lv_iconst (v := 0) hx hb dL_isSoft_1 (by decide) ?_
  refine lv_aload_n hx hb dL_isSoft_2 rfl (lv_at hl 0 rfl) ?_
  refine lv_iload_n hx hb dL_isSoft_3 rfl (lv_at hl 1 rfl) ?_
  obtain ⟨o1, ho1, h⟩ := lt_i h
  refine xq_V (G := G) (v := (fun as => (some (.int o1.2)))) (As := [.int x1]) (rest := [.int 0, .ref w0]) (wc := [(z0, .inr (9, [.ref a0, .ref b0, .ref h0, .ref s0, .ref l0, .ref e0, .ref k0, .int u7, .int u8, .int u9])), (a0, .inr (8, [.ref a1])), (a1, .inr (6, [.ref a2])), (a2, .inl (cA 0, 61, .inl f))]) (wr := [(w0, .inl (cA 3, 1, .inr (.inl wo)))]) (w1 := (fun as => [(z0, .inr (9, [.ref a0, .ref b0, .ref h0, .ref s0, .ref l0, .ref e0, .ref k0, .int u7, .int u8, .int u9])), (a0, .inr (8, [.ref a1])), (a1, .inr (6, [.ref a2])), (a2, .inl (cA 0, 61, .inl f))])) (ws2 := (fun as => [(z0, .inr (9, [.ref a0, .ref b0, .ref h0, .ref s0, .ref l0, .ref e0, .ref k0, .int u7, .int u8, .int u9])), (a0, .inr (8, [.ref a1])), (a1, .inr (6, [.ref a2])), (a2, .inl (cA 0, 61, .inl f)), (w0, .inl (cA 3, 1, .inr (.inl wo)))])) (st1 := (fun as => [.int o1.2, .int 0, .ref w0])) ⟨hx, hb, hml, hfc, hts⟩ hK hP hD hS hA hEV (kX5_isSoft l hst D cA G z0 a0 b0 h0 s0 l0 e0 k0 a1 a2 u7 u8 u9 f x1 ho1) (cwV 1 hts gL_isSoft_X5_isSoft rfl rfl rfl (by decide +kernel) ⟨(Nat.le_of_ble_eq_true rfl), (Nat.le_of_ble_eq_true rfl)⟩) [0, 1, 2, 3] [4] [1, 2, 3, 4, 0] rfl rfl rfl rfl (by decide) (fun _ => rfl) rfl 0 9 rfl rfl rfl rfl (fun _ => rfl) rfl hl.1 (Nat.le_of_ble_eq_true rfl) dL_isSoft_4 ⟨(Nat.le_of_ble_eq_true rfl), (Nat.le_of_ble_eq_true rfl)⟩ (fun c3 as2 H locs hP hD hS => ?_) (fun c3 as2 H locs q9 ce hP hD hS z1 z2 z3 => ?_)
  · have h := ite_t c3 h
    have hP : va_P D vwCl [(z0, .inr (9, [.ref a0, .ref b0, .ref h0, .ref s0, .ref l0, .ref e0, .ref k0, .int u7, .int u8, .int u9])), (a0, .inr (8, [.ref a1])), (a1, .inr (6, [.ref a2])), (a2, .inl (cA 0, 61, .inl f)), (w0, .inl (cA 3, 1, .inr (.inl wo)))] H := hP
    have hD : va_D A [(z0, .inr (9, [.ref a0, .ref b0, .ref h0, .ref s0, .ref l0, .ref e0, .ref k0, .int u7, .int u8, .int u9])), (a0, .inr (8, [.ref a1])), (a1, .inr (6, [.ref a2])), (a2, .inl (cA 0, 61, .inl f)), (w0, .inl (cA 3, 1, .inr (.inl wo)))] := hD
    refine W.cs (cells' := 1) (slots' := 6) rfl rfl ?_
    obtain ⟨o6, ho6, h⟩ := lt_i h
    have ko6 : ∀ (ls : Array Slot) (H : Heap) (locs : List Loc), lv_has ls 4 [(0, .ref z0), (1, .int x1), (2, .ref w0)] → va_P D vwCl [(z0, .inr (9, [.ref a0, .ref b0, .ref h0, .ref s0, .ref l0, .ref e0, .ref k0, .int u7, .int u8, .int u9])), (a0, .inr (8, [.ref a1])), (a1, .inr (6, [.ref a2])), (a2, .inl (cA 0, 61, .inl f)), (w0, .inl (cA 3, 1, .inr (.inl wo)))] H → va_D A [(z0, .inr (9, [.ref a0, .ref b0, .ref h0, .ref s0, .ref l0, .ref e0, .ref k0, .int u7, .int u8, .int u9])), (a0, .inr (8, [.ref a1])), (a1, .inr (6, [.ref a2])), (a2, .inl (cA 0, 61, .inl f)), (w0, .inl (cA 3, 1, .inr (.inl wo)))] → va_S A s.heap H locs → W p l e RM_L_isSoft s m args below meth c H locs 1 6 Q (F0 m 15 ls [.long o6, .int 0, .ref w0]) := by
      intro ls H locs hl hP hD hS
      refine va_last hx hb hK hP hD hS 4 3 rfl rfl (vin _ _ (by decide)) dL_isSoft_15 (fun H locs hP hD hS => ?_)
      have hP : va_P D vwCl [(z0, .inr (9, [.ref a0, .ref b0, .ref h0, .ref s0, .ref l0, .ref e0, .ref k0, .int u7, .int u8, .int u9])), (a0, .inr (8, [.ref a1])), (a1, .inr (6, [.ref a2])), (a2, .inl (cA 0, 61, .inl f)), (w0, .inl (cA 3, 1, .inr (.inl (vp_updL wo 0 o6))))] H := hP
      have hD : va_D A [(z0, .inr (9, [.ref a0, .ref b0, .ref h0, .ref s0, .ref l0, .ref e0, .ref k0, .int u7, .int u8, .int u9])), (a0, .inr (8, [.ref a1])), (a1, .inr (6, [.ref a2])), (a2, .inl (cA 0, 61, .inl f)), (w0, .inl (cA 3, 1, .inr (.inl (vp_updL wo 0 o6))))] := hD
      refine lv_goto (tgt := 22) hx hb dL_isSoft_16 (by decide) ?_
      refine lv_iconst (v := 0) hx hb dL_isSoft_22 (by decide) ?_
      have h := Option.some.inj h
      subst h
      refine W.widen (k := 1) (n := 6) (Nat.le_of_ble_eq_true rfl) (Nat.le_of_ble_eq_true rfl) ?_
      exact hend (adr []) _ _ _ _ _ _ _ rfl rfl (rtn_i _) hP hD hS dL_isSoft_23
    clear h
    have h := ho6
    clear ho6
    refine lv_if_eq (tgt := 14) hx hb dL_isSoft_7 (by decide) (fun c5 => ?_) (fun c5 => ?_)
    · have h := ite_t c5 h
      refine lv_lconst (v := 0) hx hb dL_isSoft_14 (by decide) ?_
      subst h
      exact ko6 _ _ _ (lv_sub hl [0, 1, 2] rfl) hP hD hS
    · have h := ite_f c5 h
      refine lv_lconst (v := 1) hx hb dL_isSoft_10 (by decide) ?_
      refine lv_goto (tgt := 15) hx hb dL_isSoft_11 (by decide) ?_
      subst h
      exact ko6 _ _ _ (lv_sub hl [0, 1, 2] rfl) hP hD hS
  · have h := ite_f c3 h
    have hP : va_P D vwCl [(z0, .inr (9, [.ref a0, .ref b0, .ref h0, .ref s0, .ref l0, .ref e0, .ref k0, .int u7, .int u8, .int u9])), (a0, .inr (8, [.ref a1])), (a1, .inr (6, [.ref a2])), (a2, .inl (cA 0, 61, .inl f)), (w0, .inl (cA 3, 1, .inr (.inl wo)))] H := hP
    have hD : va_D A [(z0, .inr (9, [.ref a0, .ref b0, .ref h0, .ref s0, .ref l0, .ref e0, .ref k0, .int u7, .int u8, .int u9])), (a0, .inr (8, [.ref a1])), (a1, .inr (6, [.ref a2])), (a2, .inl (cA 0, 61, .inl f)), (w0, .inl (cA 3, 1, .inr (.inl wo)))] := hD
    by_cases c4 : o1.1 = 3
    · have h := ite_t c4 h
      have z4 : s.vm.findClass "java/lang/IndexOutOfBoundsException" = some ce.cls := by rw [c4] at z3; exact z3
      refine vx_catch (own := RL) (name := "java/lang/IndexOutOfBoundsException") (E := "java/lang/IndexOutOfBoundsException") hfc [] ⟨0, 16, 19, 27⟩ [] hT9 (fun z hz => absurd hz List.not_mem_nil) rfl (by decide) (hL9.link (List.mem_of_getElem? (i := 2) rfl)) ((hEV.1.2.2.2.2 "java/lang/IndexOutOfBoundsException" (by decide +kernel)).use rfl) z1 z2 z4 ?_
      refine W.cs (cells' := 1) (slots' := 6) rfl rfl ?_
      refine lv_astore_n hx hb dL_isSoft_19 rfl hl (Nat.le_of_ble_eq_true rfl) rfl (fun ls hl => ?_)
      have hl : lv_has ls 4 [(3, .ref q9), (0, .ref z0), (1, .int x1), (2, .ref w0)] := hl
      refine lv_iconst (v := 1) hx hb dL_isSoft_20 (by decide) ?_
      have h := Option.some.inj h
      subst h
      refine W.widen (k := 1) (n := 6) (Nat.le_of_ble_eq_true rfl) (Nat.le_of_ble_eq_true rfl) ?_
      exact hend (adr []) _ _ _ _ _ _ _ rfl rfl (rtn_i _) hP hD hS dL_isSoft_21
    · have h := ite_f c4 h
      exact nn h

noncomputable def SL_isEclipsed (f : Nat → Int32) (x1 : Int32) (wo : Nat → Int64) : Option (Int32 × (Nat → Int64)) := bnd (SX5_isEclipsed f x1) (fun o1 : Nat × Int32 => if o1.1 = 0 then (lt_ (if o1.2 = 0 then (0) else (1)) (fun o6 : Int64 => some ((0, vp_updL wo 0 o6)))) else (if o1.1 = 3 then (some ((1, wo))) else (none)))
abbrev RM_L_isEclipsed : Room := { frames := 8, cells := 1, slots := 6, locals := 126 }
set_option maxHeartbeats 4000000 in
theorem kL_isEclipsed (l : Launch) (hst : l.stackTraces = false) (D : va_G) (cA : Nat → ClassId) (G : eG) (z0 a0 b0 h0 s0 l0 e0 k0 a1 a2 w0 : Nat) (u7 : Int32) (u8 : Int32) (u9 : Int32) (f : Nat → Int32) (x1 : Int32) (wo : Nat → Int64) {r : Int32 × (Nat → Int64)} (hr : SL_isEclipsed f x1 wo = some r) {sz : Nat} : Met l yL_isEclipsed wsL_isEclipsed RM_L_isEclipsed (va_Pc [.ref z0, .int x1, .ref w0] (gqLB G D cA [(z0, .inr (9, [.ref a0, .ref b0, .ref h0, .ref s0, .ref l0, .ref e0, .ref k0, .int u7, .int u8, .int u9])), (a0, .inr (8, [.ref a1])), (a1, .inr (6, [.ref a2])), (a2, .inl (cA 0, 61, .inl f)), (w0, .inl (cA 3, 1, .inr (.inl wo)))] sz)) (gqQ D (fun as => (some (.int r.1))) (fun as => [(z0, .inr (9, [.ref a0, .ref b0, .ref h0, .ref s0, .ref l0, .ref e0, .ref k0, .int u7, .int u8, .int u9])), (a0, .inr (8, [.ref a1])), (a1, .inr (6, [.ref a2])), (a2, .inl (cA 0, 61, .inl f)), (w0, .inl (cA 3, 1, .inr (.inl r.2)))]) (va_A [(z0, .inr (9, [.ref a0, .ref b0, .ref h0, .ref s0, .ref l0, .ref e0, .ref k0, .int u7, .int u8, .int u9])), (a0, .inr (8, [.ref a1])), (a1, .inr (6, [.ref a2])), (a2, .inl (cA 0, 61, .inl f)), (w0, .inl (cA 3, 1, .inr (.inl wo)))] sz)) 1 6 (va_A [(z0, .inr (9, [.ref a0, .ref b0, .ref h0, .ref s0, .ref l0, .ref e0, .ref k0, .int u7, .int u8, .int u9])), (a0, .inr (8, [.ref a1])), (a1, .inr (6, [.ref a2])), (a2, .inl (cA 0, 61, .inl f)), (w0, .inl (cA 3, 1, .inr (.inl wo)))] sz) := by
  refine gqL_ofW (hh := [(0, 16, 19, 27)]) (cc := cL_isEclipsed) (maxL := 4) (ret := (some .int)) (by decide) rfl (Nat.le_of_ble_eq_true rfl) (fun p e s m args below meth c ls Q A hx hb hml hT9 hts hfc hK hP hD hS hA hEV hL9 hl hend => ?_)
  have hfc : s.vm.findClass RL = some m.cls := hfc
  have hl : lv_has ls 4 [(0, .ref z0), (1, .int x1), (2, .ref w0)] := hl
  have h := hr
  clear hr
  unfold SL_isEclipsed at h
  refine lv_aload_n hx hb dL_isEclipsed_0 rfl (lv_at hl 2 rfl) ?_
  refine lv_iconst (v := 0) hx hb dL_isEclipsed_1 (by decide) ?_
  refine lv_aload_n hx hb dL_isEclipsed_2 rfl (lv_at hl 0 rfl) ?_
  refine lv_iload_n hx hb dL_isEclipsed_3 rfl (lv_at hl 1 rfl) ?_
  obtain ⟨o1, ho1, h⟩ := bnd_i h
  refine xq_V (G := G) (v := (fun as => (some (.int o1.2)))) (As := [.int x1]) (rest := [.int 0, .ref w0]) (wc := [(z0, .inr (9, [.ref a0, .ref b0, .ref h0, .ref s0, .ref l0, .ref e0, .ref k0, .int u7, .int u8, .int u9])), (a0, .inr (8, [.ref a1])), (a1, .inr (6, [.ref a2])), (a2, .inl (cA 0, 61, .inl f))]) (wr := [(w0, .inl (cA 3, 1, .inr (.inl wo)))]) (w1 := (fun as => [(z0, .inr (9, [.ref a0, .ref b0, .ref h0, .ref s0, .ref l0, .ref e0, .ref k0, .int u7, .int u8, .int u9])), (a0, .inr (8, [.ref a1])), (a1, .inr (6, [.ref a2])), (a2, .inl (cA 0, 61, .inl f))])) (ws2 := (fun as => [(z0, .inr (9, [.ref a0, .ref b0, .ref h0, .ref s0, .ref l0, .ref e0, .ref k0, .int u7, .int u8, .int u9])), (a0, .inr (8, [.ref a1])), (a1, .inr (6, [.ref a2])), (a2, .inl (cA 0, 61, .inl f)), (w0, .inl (cA 3, 1, .inr (.inl wo)))])) (st1 := (fun as => [.int o1.2, .int 0, .ref w0])) ⟨hx, hb, hml, hfc, hts⟩ hK hP hD hS hA hEV (kX5_isEclipsed l hst D cA G z0 a0 b0 h0 s0 l0 e0 k0 a1 a2 u7 u8 u9 f x1 ho1) (cwV 1 hts gL_isEclipsed_X5_isEclipsed rfl rfl rfl (by decide +kernel) ⟨(Nat.le_of_ble_eq_true rfl), (Nat.le_of_ble_eq_true rfl)⟩) [0, 1, 2, 3] [4] [1, 2, 3, 4, 0] rfl rfl rfl rfl (by decide) (fun _ => rfl) rfl 0 9 rfl rfl rfl rfl (fun _ => rfl) rfl hl.1 (Nat.le_of_ble_eq_true rfl) dL_isEclipsed_4 ⟨(Nat.le_of_ble_eq_true rfl), (Nat.le_of_ble_eq_true rfl)⟩ (fun c3 as2 H locs hP hD hS => ?_) (fun c3 as2 H locs q9 ce hP hD hS z1 z2 z3 => ?_)
  · have h := ite_t c3 h
    have hP : va_P D vwCl [(z0, .inr (9, [.ref a0, .ref b0, .ref h0, .ref s0, .ref l0, .ref e0, .ref k0, .int u7, .int u8, .int u9])), (a0, .inr (8, [.ref a1])), (a1, .inr (6, [.ref a2])), (a2, .inl (cA 0, 61, .inl f)), (w0, .inl (cA 3, 1, .inr (.inl wo)))] H := hP
    have hD : va_D A [(z0, .inr (9, [.ref a0, .ref b0, .ref h0, .ref s0, .ref l0, .ref e0, .ref k0, .int u7, .int u8, .int u9])), (a0, .inr (8, [.ref a1])), (a1, .inr (6, [.ref a2])), (a2, .inl (cA 0, 61, .inl f)), (w0, .inl (cA 3, 1, .inr (.inl wo)))] := hD
    refine W.cs (cells' := 1) (slots' := 6) rfl rfl ?_
    obtain ⟨o6, ho6, h⟩ := lt_i h
    have ko6 : ∀ (ls : Array Slot) (H : Heap) (locs : List Loc), lv_has ls 4 [(0, .ref z0), (1, .int x1), (2, .ref w0)] → va_P D vwCl [(z0, .inr (9, [.ref a0, .ref b0, .ref h0, .ref s0, .ref l0, .ref e0, .ref k0, .int u7, .int u8, .int u9])), (a0, .inr (8, [.ref a1])), (a1, .inr (6, [.ref a2])), (a2, .inl (cA 0, 61, .inl f)), (w0, .inl (cA 3, 1, .inr (.inl wo)))] H → va_D A [(z0, .inr (9, [.ref a0, .ref b0, .ref h0, .ref s0, .ref l0, .ref e0, .ref k0, .int u7, .int u8, .int u9])), (a0, .inr (8, [.ref a1])), (a1, .inr (6, [.ref a2])), (a2, .inl (cA 0, 61, .inl f)), (w0, .inl (cA 3, 1, .inr (.inl wo)))] → va_S A s.heap H locs → W p l e RM_L_isEclipsed s m args below meth c H locs 1 6 Q (F0 m 15 ls [.long o6, .int 0, .ref w0]) := by
      intro ls H locs hl hP hD hS
      refine va_last hx hb hK hP hD hS 4 3 rfl rfl (vin _ _ (by decide)) dL_isEclipsed_15 (fun H locs hP hD hS => ?_)
      have hP : va_P D vwCl [(z0, .inr (9, [.ref a0, .ref b0, .ref h0, .ref s0, .ref l0, .ref e0, .ref k0, .int u7, .int u8, .int u9])), (a0, .inr (8, [.ref a1])), (a1, .inr (6, [.ref a2])), (a2, .inl (cA 0, 61, .inl f)), (w0, .inl (cA 3, 1, .inr (.inl (vp_updL wo 0 o6))))] H := hP
      have hD : va_D A [(z0, .inr (9, [.ref a0, .ref b0, .ref h0, .ref s0, .ref l0, .ref e0, .ref k0, .int u7, .int u8, .int u9])), (a0, .inr (8, [.ref a1])), (a1, .inr (6, [.ref a2])), (a2, .inl (cA 0, 61, .inl f)), (w0, .inl (cA 3, 1, .inr (.inl (vp_updL wo 0 o6))))] := hD
      refine lv_goto (tgt := 22) hx hb dL_isEclipsed_16 (by decide) ?_
      refine lv_iconst (v := 0) hx hb dL_isEclipsed_22 (by decide) ?_
      have h := Option.some.inj h
      subst h
      refine W.widen (k := 1) (n := 6) (Nat.le_of_ble_eq_true rfl) (Nat.le_of_ble_eq_true rfl) ?_
      exact hend (adr []) _ _ _ _ _ _ _ rfl rfl (rtn_i _) hP hD hS dL_isEclipsed_23
    clear h
    have h := ho6
    clear ho6
    refine lv_if_eq (tgt := 14) hx hb dL_isEclipsed_7 (by decide) (fun c5 => ?_) (fun c5 => ?_)
    · have h := ite_t c5 h
      refine lv_lconst (v := 0) hx hb dL_isEclipsed_14 (by decide) ?_
      subst h
      exact ko6 _ _ _ (lv_sub hl [0, 1, 2] rfl) hP hD hS
    · have h := ite_f c5 h
      refine lv_lconst (v := 1) hx hb dL_isEclipsed_10 (by decide) ?_
      refine lv_goto (tgt := 15) hx hb dL_isEclipsed_11 (by decide) ?_
      subst h
      exact ko6 _ _ _ (lv_sub hl [0, 1, 2] rfl) hP hD hS
  · have h := ite_f c3 h
    have hP : va_P D vwCl [(z0, .inr (9, [.ref a0, .ref b0, .ref h0, .ref s0, .ref l0, .ref e0, .ref k0, .int u7, .int u8, .int u9])), (a0, .inr (8, [.ref a1])), (a1, .inr (6, [.ref a2])), (a2, .inl (cA 0, 61, .inl f)), (w0, .inl (cA 3, 1, .inr (.inl wo)))] H := hP
    have hD : va_D A [(z0, .inr (9, [.ref a0, .ref b0, .ref h0, .ref s0, .ref l0, .ref e0, .ref k0, .int u7, .int u8, .int u9])), (a0, .inr (8, [.ref a1])), (a1, .inr (6, [.ref a2])), (a2, .inl (cA 0, 61, .inl f)), (w0, .inl (cA 3, 1, .inr (.inl wo)))] := hD
    by_cases c4 : o1.1 = 3
    · have h := ite_t c4 h
      have z4 : s.vm.findClass "java/lang/IndexOutOfBoundsException" = some ce.cls := by rw [c4] at z3; exact z3
      refine vx_catch (own := RL) (name := "java/lang/IndexOutOfBoundsException") (E := "java/lang/IndexOutOfBoundsException") hfc [] ⟨0, 16, 19, 27⟩ [] hT9 (fun z hz => absurd hz List.not_mem_nil) rfl (by decide) (hL9.link (List.mem_of_getElem? (i := 2) rfl)) ((hEV.1.2.2.2.2 "java/lang/IndexOutOfBoundsException" (by decide +kernel)).use rfl) z1 z2 z4 ?_
      refine W.cs (cells' := 1) (slots' := 6) rfl rfl ?_
      refine lv_astore_n hx hb dL_isEclipsed_19 rfl hl (Nat.le_of_ble_eq_true rfl) rfl (fun ls hl => ?_)
      have hl : lv_has ls 4 [(3, .ref q9), (0, .ref z0), (1, .int x1), (2, .ref w0)] := hl
      refine lv_iconst (v := 1) hx hb dL_isEclipsed_20 (by decide) ?_
      have h := Option.some.inj h
      subst h
      refine W.widen (k := 1) (n := 6) (Nat.le_of_ble_eq_true rfl) (Nat.le_of_ble_eq_true rfl) ?_
      exact hend (adr []) _ _ _ _ _ _ _ rfl rfl (rtn_i _) hP hD hS dL_isEclipsed_21
    · have h := ite_f c4 h
      exact nn h

noncomputable def SL_placeToe (N : Nat) (f : Nat → Int32) (v1 : Int32) (v2 : Int32) (g : Nat → Int32) (x1 : Int32) (wo : Nat → Int64) : Option (Int32 × (Nat → Int32) × Int32 × Int32 × (Nat → Int32) × (Nat → Int64)) := bnd (SX5_placeToe N f v1 v2 g x1) (fun o1 : Nat × Int32 × (Nat → Int32) × (Nat → Int32) × Int32 × Int32 => if o1.1 = 0 then (some ((0, o1.2.2.1, o1.2.2.2.2.1, o1.2.2.2.2.2, o1.2.2.2.1, vp_updL wo 0 o1.2.1.toInt64))) else (if o1.1 = 3 then (some ((1, o1.2.2.1, o1.2.2.2.2.1, o1.2.2.2.2.2, o1.2.2.2.1, wo))) else (if o1.1 = 2 then (some ((2, o1.2.2.1, o1.2.2.2.2.1, o1.2.2.2.2.2, o1.2.2.2.1, wo))) else (none))))
abbrev RM_L_placeToe : Room := { frames := 8, cells := 2, slots := 12, locals := 125 }
set_option maxHeartbeats 4000000 in
theorem kL_placeToe (l : Launch) (hst : l.stackTraces = false) (D : va_G) (cA : Nat → ClassId) (G : eG) (z0 a0 b0 h0 s0 l0 e0 k0 a1 a2 h1 h2 w0 : Nat) (N : Nat) (u7 : Int32) (u8 : Int32) (u9 : Int32) (f : Nat → Int32) (v1 : Int32) (v2 : Int32) (g : Nat → Int32) (x1 : Int32) (wo : Nat → Int64) {r : Int32 × (Nat → Int32) × Int32 × Int32 × (Nat → Int32) × (Nat → Int64)} (hr : SL_placeToe N f v1 v2 g x1 wo = some r) {sz : Nat} : Met l yL_placeToe wsL_placeToe RM_L_placeToe (va_Pc [.ref z0, .int x1, .ref w0] (gqLB G D cA [(z0, .inr (9, [.ref a0, .ref b0, .ref h0, .ref s0, .ref l0, .ref e0, .ref k0, .int u7, .int u8, .int u9])), (a0, .inr (8, [.ref a1])), (a1, .inr (6, [.ref a2])), (a2, .inl (cA 0, 61, .inl f)), (h0, .inr (5, [.ref h1, .int v1, .int v2])), (h1, .inr (6, [.ref h2])), (h2, .inl (cA 0, 488, .inl g)), (w0, .inl (cA 3, 1, .inr (.inl wo)))] sz)) (gqQ D (fun as => (some (.int r.1))) (fun as => [(z0, .inr (9, [.ref a0, .ref b0, .ref h0, .ref s0, .ref l0, .ref e0, .ref k0, .int u7, .int u8, .int u9])), (a0, .inr (8, [.ref a1])), (a1, .inr (6, [.ref a2])), (a2, .inl (cA 0, 61, .inl r.2.1)), (h0, .inr (5, [.ref h1, .int r.2.2.1, .int r.2.2.2.1])), (h1, .inr (6, [.ref h2])), (h2, .inl (cA 0, 488, .inl r.2.2.2.2.1)), (w0, .inl (cA 3, 1, .inr (.inl r.2.2.2.2.2)))]) (va_A [(z0, .inr (9, [.ref a0, .ref b0, .ref h0, .ref s0, .ref l0, .ref e0, .ref k0, .int u7, .int u8, .int u9])), (a0, .inr (8, [.ref a1])), (a1, .inr (6, [.ref a2])), (a2, .inl (cA 0, 61, .inl f)), (h0, .inr (5, [.ref h1, .int v1, .int v2])), (h1, .inr (6, [.ref h2])), (h2, .inl (cA 0, 488, .inl g)), (w0, .inl (cA 3, 1, .inr (.inl wo)))] sz)) 2 12 (va_A [(z0, .inr (9, [.ref a0, .ref b0, .ref h0, .ref s0, .ref l0, .ref e0, .ref k0, .int u7, .int u8, .int u9])), (a0, .inr (8, [.ref a1])), (a1, .inr (6, [.ref a2])), (a2, .inl (cA 0, 61, .inl f)), (h0, .inr (5, [.ref h1, .int v1, .int v2])), (h1, .inr (6, [.ref h2])), (h2, .inl (cA 0, 488, .inl g)), (w0, .inl (cA 3, 1, .inr (.inl wo)))] sz) := by
  refine gqL_ofW (hh := [(0, 9, 12, 27), (0, 9, 15, 15)]) (cc := cL_placeToe) (maxL := 4) (ret := (some .int)) (by decide) rfl (Nat.le_of_ble_eq_true rfl) (fun p e s m args below meth c ls Q A hx hb hml hT9 hts hfc hK hP hD hS hA hEV hL9 hl hend => ?_)
  have hfc : s.vm.findClass RL = some m.cls := hfc
  have hl : lv_has ls 4 [(0, .ref z0), (1, .int x1), (2, .ref w0)] := hl
  have h := hr
  clear hr
  unfold SL_placeToe at h
  refine lv_aload_n hx hb dL_placeToe_0 rfl (lv_at hl 2 rfl) ?_
  refine lv_iconst (v := 0) hx hb dL_placeToe_1 (by decide) ?_
  refine lv_aload_n hx hb dL_placeToe_2 rfl (lv_at hl 0 rfl) ?_
  refine lv_iload_n hx hb dL_placeToe_3 rfl (lv_at hl 1 rfl) ?_
  obtain ⟨o1, ho1, h⟩ := bnd_i h
  refine xq_V (G := G) (v := (fun as => (some (.int o1.2.1)))) (As := [.int x1]) (rest := [.int 0, .ref w0]) (wc := [(z0, .inr (9, [.ref a0, .ref b0, .ref h0, .ref s0, .ref l0, .ref e0, .ref k0, .int u7, .int u8, .int u9])), (a0, .inr (8, [.ref a1])), (a1, .inr (6, [.ref a2])), (a2, .inl (cA 0, 61, .inl f)), (h0, .inr (5, [.ref h1, .int v1, .int v2])), (h1, .inr (6, [.ref h2])), (h2, .inl (cA 0, 488, .inl g))]) (wr := [(w0, .inl (cA 3, 1, .inr (.inl wo)))]) (w1 := (fun as => [(z0, .inr (9, [.ref a0, .ref b0, .ref h0, .ref s0, .ref l0, .ref e0, .ref k0, .int u7, .int u8, .int u9])), (a0, .inr (8, [.ref a1])), (a1, .inr (6, [.ref a2])), (a2, .inl (cA 0, 61, .inl o1.2.2.1)), (h0, .inr (5, [.ref h1, .int o1.2.2.2.2.1, .int o1.2.2.2.2.2])), (h1, .inr (6, [.ref h2])), (h2, .inl (cA 0, 488, .inl o1.2.2.2.1))])) (ws2 := (fun as => [(z0, .inr (9, [.ref a0, .ref b0, .ref h0, .ref s0, .ref l0, .ref e0, .ref k0, .int u7, .int u8, .int u9])), (a0, .inr (8, [.ref a1])), (a1, .inr (6, [.ref a2])), (a2, .inl (cA 0, 61, .inl o1.2.2.1)), (h0, .inr (5, [.ref h1, .int o1.2.2.2.2.1, .int o1.2.2.2.2.2])), (h1, .inr (6, [.ref h2])), (h2, .inl (cA 0, 488, .inl o1.2.2.2.1)), (w0, .inl (cA 3, 1, .inr (.inl wo)))])) (st1 := (fun as => [.int o1.2.1, .int 0, .ref w0])) ⟨hx, hb, hml, hfc, hts⟩ hK hP hD hS hA hEV (kX5_placeToe l hst D cA G z0 a0 b0 h0 s0 l0 e0 k0 a1 a2 h1 h2 N u7 u8 u9 f v1 v2 g x1 ho1) (cwV 1 hts gL_placeToe_X5_placeToe rfl rfl rfl (by decide +kernel) ⟨(Nat.le_of_ble_eq_true rfl), (Nat.le_of_ble_eq_true rfl)⟩) [0, 1, 2, 3, 4, 5, 6] [7] [1, 2, 3, 4, 5, 6, 7, 0] rfl rfl rfl rfl (by decide) (fun _ => rfl) rfl 0 9 rfl rfl rfl rfl (fun _ => rfl) rfl hl.1 (Nat.le_of_ble_eq_true rfl) dL_placeToe_4 ⟨(Nat.le_of_ble_eq_true rfl), (Nat.le_of_ble_eq_true rfl)⟩ (fun c3 as2 H locs hP hD hS => ?_) (fun c3 as2 H locs q9 ce hP hD hS z1 z2 z3 => ?_)
  · have h := ite_t c3 h
    have hP : va_P D vwCl [(z0, .inr (9, [.ref a0, .ref b0, .ref h0, .ref s0, .ref l0, .ref e0, .ref k0, .int u7, .int u8, .int u9])), (a0, .inr (8, [.ref a1])), (a1, .inr (6, [.ref a2])), (a2, .inl (cA 0, 61, .inl o1.2.2.1)), (h0, .inr (5, [.ref h1, .int o1.2.2.2.2.1, .int o1.2.2.2.2.2])), (h1, .inr (6, [.ref h2])), (h2, .inl (cA 0, 488, .inl o1.2.2.2.1)), (w0, .inl (cA 3, 1, .inr (.inl wo)))] H := hP
    have hD : va_D A [(z0, .inr (9, [.ref a0, .ref b0, .ref h0, .ref s0, .ref l0, .ref e0, .ref k0, .int u7, .int u8, .int u9])), (a0, .inr (8, [.ref a1])), (a1, .inr (6, [.ref a2])), (a2, .inl (cA 0, 61, .inl o1.2.2.1)), (h0, .inr (5, [.ref h1, .int o1.2.2.2.2.1, .int o1.2.2.2.2.2])), (h1, .inr (6, [.ref h2])), (h2, .inl (cA 0, 488, .inl o1.2.2.2.1)), (w0, .inl (cA 3, 1, .inr (.inl wo)))] := hD
    refine W.cs (cells' := 2) (slots' := 12) rfl rfl ?_
    refine lv_i2l (v := o1.2.1.toInt64) hx hb dL_placeToe_7 rfl ?_
    refine va_last hx hb hK hP hD hS 7 3 rfl rfl (vin _ _ (by decide)) dL_placeToe_8 (fun H locs hP hD hS => ?_)
    have hP : va_P D vwCl [(z0, .inr (9, [.ref a0, .ref b0, .ref h0, .ref s0, .ref l0, .ref e0, .ref k0, .int u7, .int u8, .int u9])), (a0, .inr (8, [.ref a1])), (a1, .inr (6, [.ref a2])), (a2, .inl (cA 0, 61, .inl o1.2.2.1)), (h0, .inr (5, [.ref h1, .int o1.2.2.2.2.1, .int o1.2.2.2.2.2])), (h1, .inr (6, [.ref h2])), (h2, .inl (cA 0, 488, .inl o1.2.2.2.1)), (w0, .inl (cA 3, 1, .inr (.inl (vp_updL wo 0 o1.2.1.toInt64))))] H := hP
    have hD : va_D A [(z0, .inr (9, [.ref a0, .ref b0, .ref h0, .ref s0, .ref l0, .ref e0, .ref k0, .int u7, .int u8, .int u9])), (a0, .inr (8, [.ref a1])), (a1, .inr (6, [.ref a2])), (a2, .inl (cA 0, 61, .inl o1.2.2.1)), (h0, .inr (5, [.ref h1, .int o1.2.2.2.2.1, .int o1.2.2.2.2.2])), (h1, .inr (6, [.ref h2])), (h2, .inl (cA 0, 488, .inl o1.2.2.2.1)), (w0, .inl (cA 3, 1, .inr (.inl (vp_updL wo 0 o1.2.1.toInt64))))] := hD
    refine lv_goto (tgt := 18) hx hb dL_placeToe_9 (by decide) ?_
    refine lv_iconst (v := 0) hx hb dL_placeToe_18 (by decide) ?_
    have h := Option.some.inj h
    subst h
    refine W.widen (k := 2) (n := 12) (Nat.le_of_ble_eq_true rfl) (Nat.le_of_ble_eq_true rfl) ?_
    exact hend (adr []) _ _ _ _ _ _ _ rfl rfl (rtn_i _) hP hD hS dL_placeToe_19
  · have h := ite_f c3 h
    have hP : va_P D vwCl [(z0, .inr (9, [.ref a0, .ref b0, .ref h0, .ref s0, .ref l0, .ref e0, .ref k0, .int u7, .int u8, .int u9])), (a0, .inr (8, [.ref a1])), (a1, .inr (6, [.ref a2])), (a2, .inl (cA 0, 61, .inl o1.2.2.1)), (h0, .inr (5, [.ref h1, .int o1.2.2.2.2.1, .int o1.2.2.2.2.2])), (h1, .inr (6, [.ref h2])), (h2, .inl (cA 0, 488, .inl o1.2.2.2.1)), (w0, .inl (cA 3, 1, .inr (.inl wo)))] H := hP
    have hD : va_D A [(z0, .inr (9, [.ref a0, .ref b0, .ref h0, .ref s0, .ref l0, .ref e0, .ref k0, .int u7, .int u8, .int u9])), (a0, .inr (8, [.ref a1])), (a1, .inr (6, [.ref a2])), (a2, .inl (cA 0, 61, .inl o1.2.2.1)), (h0, .inr (5, [.ref h1, .int o1.2.2.2.2.1, .int o1.2.2.2.2.2])), (h1, .inr (6, [.ref h2])), (h2, .inl (cA 0, 488, .inl o1.2.2.2.1)), (w0, .inl (cA 3, 1, .inr (.inl wo)))] := hD
    by_cases c4 : o1.1 = 3
    · have h := ite_t c4 h
      have z4 : s.vm.findClass "java/lang/IndexOutOfBoundsException" = some ce.cls := by rw [c4] at z3; exact z3
      refine vx_catch (own := RL) (name := "java/lang/IndexOutOfBoundsException") (E := "java/lang/IndexOutOfBoundsException") hfc [] ⟨0, 9, 12, 27⟩ [⟨0, 9, 15, 15⟩] hT9 (fun z hz => absurd hz List.not_mem_nil) rfl (by decide) (hL9.link (List.mem_of_getElem? (i := 2) rfl)) ((hEV.1.2.2.2.2 "java/lang/IndexOutOfBoundsException" (by decide +kernel)).use rfl) z1 z2 z4 ?_
      refine W.cs (cells' := 2) (slots' := 12) rfl rfl ?_
      refine lv_astore_n hx hb dL_placeToe_12 rfl hl (Nat.le_of_ble_eq_true rfl) rfl (fun ls hl => ?_)
      have hl : lv_has ls 4 [(3, .ref q9), (0, .ref z0), (1, .int x1), (2, .ref w0)] := hl
      refine lv_iconst (v := 1) hx hb dL_placeToe_13 (by decide) ?_
      have h := Option.some.inj h
      subst h
      refine W.widen (k := 2) (n := 12) (Nat.le_of_ble_eq_true rfl) (Nat.le_of_ble_eq_true rfl) ?_
      exact hend (adr []) _ _ _ _ _ _ _ rfl rfl (rtn_i _) hP hD hS dL_placeToe_14
    · have h := ite_f c4 h
      by_cases c5 : o1.1 = 2
      · have h := ite_t c5 h
        have z4 : s.vm.findClass "java/lang/IllegalStateException" = some ce.cls := by rw [c5] at z3; exact z3
        have hp9 : ∀ z ∈ ([⟨0, 9, 12, 27⟩] : List ExceptionTableEntry), covers z 4 = false ∨ (z.catchType ≠ 0 ∧ ∃ nm : String, (Cond.classLink RL z.catchType nm).before args s = true ∧ va_Nc "java/lang/IllegalStateException" nm s) := by
          intro z hz
          rcases List.mem_cons.mp hz with rfl | hz
          · exact Or.inr ⟨by decide, _, (hL9.link (List.mem_of_getElem? (i := 2) rfl)), hL9.1.2.2.1⟩
          exact absurd hz List.not_mem_nil
        refine vx_catch (own := RL) (name := "java/lang/IllegalStateException") (E := "java/lang/IllegalStateException") hfc [⟨0, 9, 12, 27⟩] ⟨0, 9, 15, 15⟩ [] hT9 hp9 rfl (by decide) (hL9.link (List.mem_of_getElem? (i := 1) rfl)) ((hEV.1.2.2.2.2 "java/lang/IllegalStateException" (by decide +kernel)).use rfl) z1 z2 z4 ?_
        refine W.cs (cells' := 2) (slots' := 12) rfl rfl ?_
        refine lv_astore_n hx hb dL_placeToe_15 rfl hl (Nat.le_of_ble_eq_true rfl) rfl (fun ls hl => ?_)
        have hl : lv_has ls 4 [(3, .ref q9), (0, .ref z0), (1, .int x1), (2, .ref w0)] := hl
        refine lv_iconst (v := 2) hx hb dL_placeToe_16 (by decide) ?_
        have h := Option.some.inj h
        subst h
        refine W.widen (k := 2) (n := 12) (Nat.le_of_ble_eq_true rfl) (Nat.le_of_ble_eq_true rfl) ?_
        exact hend (adr []) _ _ _ _ _ _ _ rfl rfl (rtn_i _) hP hD hS dL_placeToe_17
      · have h := ite_f c5 h
        exact nn h

noncomputable def SL_removeToe (N : Nat) (f : Nat → Int32) (v1 : Int32) (v2 : Int32) (g : Nat → Int32) (x1 : Int32) (wo : Nat → Int64) : Option (Int32 × (Nat → Int32) × Int32 × Int32 × (Nat → Int32) × (Nat → Int64)) := bnd (SX5_removeToe N f v1 v2 g x1) (fun o1 : Nat × Int32 × (Nat → Int32) × (Nat → Int32) × Int32 × Int32 => if o1.1 = 0 then (some ((0, o1.2.2.1, o1.2.2.2.2.1, o1.2.2.2.2.2, o1.2.2.2.1, vp_updL wo 0 o1.2.1.toInt64))) else (if o1.1 = 3 then (some ((1, o1.2.2.1, o1.2.2.2.2.1, o1.2.2.2.2.2, o1.2.2.2.1, wo))) else (if o1.1 = 2 then (some ((2, o1.2.2.1, o1.2.2.2.2.1, o1.2.2.2.2.2, o1.2.2.2.1, wo))) else (none))))
abbrev RM_L_removeToe : Room := { frames := 8, cells := 2, slots := 12, locals := 125 }
set_option maxHeartbeats 4000000 in
theorem kL_removeToe (l : Launch) (hst : l.stackTraces = false) (D : va_G) (cA : Nat → ClassId) (G : eG) (z0 a0 b0 h0 s0 l0 e0 k0 a1 a2 h1 h2 w0 : Nat) (N : Nat) (u7 : Int32) (u8 : Int32) (u9 : Int32) (f : Nat → Int32) (v1 : Int32) (v2 : Int32) (g : Nat → Int32) (x1 : Int32) (wo : Nat → Int64) {r : Int32 × (Nat → Int32) × Int32 × Int32 × (Nat → Int32) × (Nat → Int64)} (hr : SL_removeToe N f v1 v2 g x1 wo = some r) {sz : Nat} : Met l yL_removeToe wsL_removeToe RM_L_removeToe (va_Pc [.ref z0, .int x1, .ref w0] (gqLB G D cA [(z0, .inr (9, [.ref a0, .ref b0, .ref h0, .ref s0, .ref l0, .ref e0, .ref k0, .int u7, .int u8, .int u9])), (a0, .inr (8, [.ref a1])), (a1, .inr (6, [.ref a2])), (a2, .inl (cA 0, 61, .inl f)), (h0, .inr (5, [.ref h1, .int v1, .int v2])), (h1, .inr (6, [.ref h2])), (h2, .inl (cA 0, 488, .inl g)), (w0, .inl (cA 3, 1, .inr (.inl wo)))] sz)) (gqQ D (fun as => (some (.int r.1))) (fun as => [(z0, .inr (9, [.ref a0, .ref b0, .ref h0, .ref s0, .ref l0, .ref e0, .ref k0, .int u7, .int u8, .int u9])), (a0, .inr (8, [.ref a1])), (a1, .inr (6, [.ref a2])), (a2, .inl (cA 0, 61, .inl r.2.1)), (h0, .inr (5, [.ref h1, .int r.2.2.1, .int r.2.2.2.1])), (h1, .inr (6, [.ref h2])), (h2, .inl (cA 0, 488, .inl r.2.2.2.2.1)), (w0, .inl (cA 3, 1, .inr (.inl r.2.2.2.2.2)))]) (va_A [(z0, .inr (9, [.ref a0, .ref b0, .ref h0, .ref s0, .ref l0, .ref e0, .ref k0, .int u7, .int u8, .int u9])), (a0, .inr (8, [.ref a1])), (a1, .inr (6, [.ref a2])), (a2, .inl (cA 0, 61, .inl f)), (h0, .inr (5, [.ref h1, .int v1, .int v2])), (h1, .inr (6, [.ref h2])), (h2, .inl (cA 0, 488, .inl g)), (w0, .inl (cA 3, 1, .inr (.inl wo)))] sz)) 2 12 (va_A [(z0, .inr (9, [.ref a0, .ref b0, .ref h0, .ref s0, .ref l0, .ref e0, .ref k0, .int u7, .int u8, .int u9])), (a0, .inr (8, [.ref a1])), (a1, .inr (6, [.ref a2])), (a2, .inl (cA 0, 61, .inl f)), (h0, .inr (5, [.ref h1, .int v1, .int v2])), (h1, .inr (6, [.ref h2])), (h2, .inl (cA 0, 488, .inl g)), (w0, .inl (cA 3, 1, .inr (.inl wo)))] sz) := by
  refine gqL_ofW (hh := [(0, 9, 12, 27), (0, 9, 15, 15)]) (cc := cL_removeToe) (maxL := 4) (ret := (some .int)) (by decide) rfl (Nat.le_of_ble_eq_true rfl) (fun p e s m args below meth c ls Q A hx hb hml hT9 hts hfc hK hP hD hS hA hEV hL9 hl hend => ?_)
  have hfc : s.vm.findClass RL = some m.cls := hfc
  have hl : lv_has ls 4 [(0, .ref z0), (1, .int x1), (2, .ref w0)] := hl
  have h := hr
  clear hr
  unfold SL_removeToe at h
  refine lv_aload_n hx hb dL_removeToe_0 rfl (lv_at hl 2 rfl) ?_
  refine lv_iconst (v := 0) hx hb dL_removeToe_1 (by decide) ?_
  refine lv_aload_n hx hb dL_removeToe_2 rfl (lv_at hl 0 rfl) ?_
  refine lv_iload_n hx hb dL_removeToe_3 rfl (lv_at hl 1 rfl) ?_
  obtain ⟨o1, ho1, h⟩ := bnd_i h
  refine xq_V (G := G) (v := (fun as => (some (.int o1.2.1)))) (As := [.int x1]) (rest := [.int 0, .ref w0]) (wc := [(z0, .inr (9, [.ref a0, .ref b0, .ref h0, .ref s0, .ref l0, .ref e0, .ref k0, .int u7, .int u8, .int u9])), (a0, .inr (8, [.ref a1])), (a1, .inr (6, [.ref a2])), (a2, .inl (cA 0, 61, .inl f)), (h0, .inr (5, [.ref h1, .int v1, .int v2])), (h1, .inr (6, [.ref h2])), (h2, .inl (cA 0, 488, .inl g))]) (wr := [(w0, .inl (cA 3, 1, .inr (.inl wo)))]) (w1 := (fun as => [(z0, .inr (9, [.ref a0, .ref b0, .ref h0, .ref s0, .ref l0, .ref e0, .ref k0, .int u7, .int u8, .int u9])), (a0, .inr (8, [.ref a1])), (a1, .inr (6, [.ref a2])), (a2, .inl (cA 0, 61, .inl o1.2.2.1)), (h0, .inr (5, [.ref h1, .int o1.2.2.2.2.1, .int o1.2.2.2.2.2])), (h1, .inr (6, [.ref h2])), (h2, .inl (cA 0, 488, .inl o1.2.2.2.1))])) (ws2 := (fun as => [(z0, .inr (9, [.ref a0, .ref b0, .ref h0, .ref s0, .ref l0, .ref e0, .ref k0, .int u7, .int u8, .int u9])), (a0, .inr (8, [.ref a1])), (a1, .inr (6, [.ref a2])), (a2, .inl (cA 0, 61, .inl o1.2.2.1)), (h0, .inr (5, [.ref h1, .int o1.2.2.2.2.1, .int o1.2.2.2.2.2])), (h1, .inr (6, [.ref h2])), (h2, .inl (cA 0, 488, .inl o1.2.2.2.1)), (w0, .inl (cA 3, 1, .inr (.inl wo)))])) (st1 := (fun as => [.int o1.2.1, .int 0, .ref w0])) ⟨hx, hb, hml, hfc, hts⟩ hK hP hD hS hA hEV (kX5_removeToe l hst D cA G z0 a0 b0 h0 s0 l0 e0 k0 a1 a2 h1 h2 N u7 u8 u9 f v1 v2 g x1 ho1) (cwV 1 hts gL_removeToe_X5_removeToe rfl rfl rfl (by decide +kernel) ⟨(Nat.le_of_ble_eq_true rfl), (Nat.le_of_ble_eq_true rfl)⟩) [0, 1, 2, 3, 4, 5, 6] [7] [1, 2, 3, 4, 5, 6, 7, 0] rfl rfl rfl rfl (by decide) (fun _ => rfl) rfl 0 9 rfl rfl rfl rfl (fun _ => rfl) rfl hl.1 (Nat.le_of_ble_eq_true rfl) dL_removeToe_4 ⟨(Nat.le_of_ble_eq_true rfl), (Nat.le_of_ble_eq_true rfl)⟩ (fun c3 as2 H locs hP hD hS => ?_) (fun c3 as2 H locs q9 ce hP hD hS z1 z2 z3 => ?_)
  · have h := ite_t c3 h
    have hP : va_P D vwCl [(z0, .inr (9, [.ref a0, .ref b0, .ref h0, .ref s0, .ref l0, .ref e0, .ref k0, .int u7, .int u8, .int u9])), (a0, .inr (8, [.ref a1])), (a1, .inr (6, [.ref a2])), (a2, .inl (cA 0, 61, .inl o1.2.2.1)), (h0, .inr (5, [.ref h1, .int o1.2.2.2.2.1, .int o1.2.2.2.2.2])), (h1, .inr (6, [.ref h2])), (h2, .inl (cA 0, 488, .inl o1.2.2.2.1)), (w0, .inl (cA 3, 1, .inr (.inl wo)))] H := hP
    have hD : va_D A [(z0, .inr (9, [.ref a0, .ref b0, .ref h0, .ref s0, .ref l0, .ref e0, .ref k0, .int u7, .int u8, .int u9])), (a0, .inr (8, [.ref a1])), (a1, .inr (6, [.ref a2])), (a2, .inl (cA 0, 61, .inl o1.2.2.1)), (h0, .inr (5, [.ref h1, .int o1.2.2.2.2.1, .int o1.2.2.2.2.2])), (h1, .inr (6, [.ref h2])), (h2, .inl (cA 0, 488, .inl o1.2.2.2.1)), (w0, .inl (cA 3, 1, .inr (.inl wo)))] := hD
    refine W.cs (cells' := 2) (slots' := 12) rfl rfl ?_
    refine lv_i2l (v := o1.2.1.toInt64) hx hb dL_removeToe_7 rfl ?_
    refine va_last hx hb hK hP hD hS 7 3 rfl rfl (vin _ _ (by decide)) dL_removeToe_8 (fun H locs hP hD hS => ?_)
    have hP : va_P D vwCl [(z0, .inr (9, [.ref a0, .ref b0, .ref h0, .ref s0, .ref l0, .ref e0, .ref k0, .int u7, .int u8, .int u9])), (a0, .inr (8, [.ref a1])), (a1, .inr (6, [.ref a2])), (a2, .inl (cA 0, 61, .inl o1.2.2.1)), (h0, .inr (5, [.ref h1, .int o1.2.2.2.2.1, .int o1.2.2.2.2.2])), (h1, .inr (6, [.ref h2])), (h2, .inl (cA 0, 488, .inl o1.2.2.2.1)), (w0, .inl (cA 3, 1, .inr (.inl (vp_updL wo 0 o1.2.1.toInt64))))] H := hP
    have hD : va_D A [(z0, .inr (9, [.ref a0, .ref b0, .ref h0, .ref s0, .ref l0, .ref e0, .ref k0, .int u7, .int u8, .int u9])), (a0, .inr (8, [.ref a1])), (a1, .inr (6, [.ref a2])), (a2, .inl (cA 0, 61, .inl o1.2.2.1)), (h0, .inr (5, [.ref h1, .int o1.2.2.2.2.1, .int o1.2.2.2.2.2])), (h1, .inr (6, [.ref h2])), (h2, .inl (cA 0, 488, .inl o1.2.2.2.1)), (w0, .inl (cA 3, 1, .inr (.inl (vp_updL wo 0 o1.2.1.toInt64))))] := hD
    refine lv_goto (tgt := 18) hx hb dL_removeToe_9 (by decide) ?_
    refine lv_iconst (v := 0) hx hb dL_removeToe_18 (by decide) ?_
    have h := Option.some.inj h
    subst h
    refine W.widen (k := 2) (n := 12) (Nat.le_of_ble_eq_true rfl) (Nat.le_of_ble_eq_true rfl) ?_
    exact hend (adr []) _ _ _ _ _ _ _ rfl rfl (rtn_i _) hP hD hS dL_removeToe_19
  · have h := ite_f c3 h
    have hP : va_P D vwCl [(z0, .inr (9, [.ref a0, .ref b0, .ref h0, .ref s0, .ref l0, .ref e0, .ref k0, .int u7, .int u8, .int u9])), (a0, .inr (8, [.ref a1])), (a1, .inr (6, [.ref a2])), (a2, .inl (cA 0, 61, .inl o1.2.2.1)), (h0, .inr (5, [.ref h1, .int o1.2.2.2.2.1, .int o1.2.2.2.2.2])), (h1, .inr (6, [.ref h2])), (h2, .inl (cA 0, 488, .inl o1.2.2.2.1)), (w0, .inl (cA 3, 1, .inr (.inl wo)))] H := hP
    have hD : va_D A [(z0, .inr (9, [.ref a0, .ref b0, .ref h0, .ref s0, .ref l0, .ref e0, .ref k0, .int u7, .int u8, .int u9])), (a0, .inr (8, [.ref a1])), (a1, .inr (6, [.ref a2])), (a2, .inl (cA 0, 61, .inl o1.2.2.1)), (h0, .inr (5, [.ref h1, .int o1.2.2.2.2.1, .int o1.2.2.2.2.2])), (h1, .inr (6, [.ref h2])), (h2, .inl (cA 0, 488, .inl o1.2.2.2.1)), (w0, .inl (cA 3, 1, .inr (.inl wo)))] := hD
    by_cases c4 : o1.1 = 3
    · have h := ite_t c4 h
      have z4 : s.vm.findClass "java/lang/IndexOutOfBoundsException" = some ce.cls := by rw [c4] at z3; exact z3
      refine vx_catch (own := RL) (name := "java/lang/IndexOutOfBoundsException") (E := "java/lang/IndexOutOfBoundsException") hfc [] ⟨0, 9, 12, 27⟩ [⟨0, 9, 15, 15⟩] hT9 (fun z hz => absurd hz List.not_mem_nil) rfl (by decide) (hL9.link (List.mem_of_getElem? (i := 2) rfl)) ((hEV.1.2.2.2.2 "java/lang/IndexOutOfBoundsException" (by decide +kernel)).use rfl) z1 z2 z4 ?_
      refine W.cs (cells' := 2) (slots' := 12) rfl rfl ?_
      refine lv_astore_n hx hb dL_removeToe_12 rfl hl (Nat.le_of_ble_eq_true rfl) rfl (fun ls hl => ?_)
      have hl : lv_has ls 4 [(3, .ref q9), (0, .ref z0), (1, .int x1), (2, .ref w0)] := hl
      refine lv_iconst (v := 1) hx hb dL_removeToe_13 (by decide) ?_
      have h := Option.some.inj h
      subst h
      refine W.widen (k := 2) (n := 12) (Nat.le_of_ble_eq_true rfl) (Nat.le_of_ble_eq_true rfl) ?_
      exact hend (adr []) _ _ _ _ _ _ _ rfl rfl (rtn_i _) hP hD hS dL_removeToe_14
    · have h := ite_f c4 h
      by_cases c5 : o1.1 = 2
      · have h := ite_t c5 h
        have z4 : s.vm.findClass "java/lang/IllegalStateException" = some ce.cls := by rw [c5] at z3; exact z3
        have hp9 : ∀ z ∈ ([⟨0, 9, 12, 27⟩] : List ExceptionTableEntry), covers z 4 = false ∨ (z.catchType ≠ 0 ∧ ∃ nm : String, (Cond.classLink RL z.catchType nm).before args s = true ∧ va_Nc "java/lang/IllegalStateException" nm s) := by
          intro z hz
          rcases List.mem_cons.mp hz with rfl | hz
          · exact Or.inr ⟨by decide, _, (hL9.link (List.mem_of_getElem? (i := 2) rfl)), hL9.1.2.2.1⟩
          exact absurd hz List.not_mem_nil
        refine vx_catch (own := RL) (name := "java/lang/IllegalStateException") (E := "java/lang/IllegalStateException") hfc [⟨0, 9, 12, 27⟩] ⟨0, 9, 15, 15⟩ [] hT9 hp9 rfl (by decide) (hL9.link (List.mem_of_getElem? (i := 1) rfl)) ((hEV.1.2.2.2.2 "java/lang/IllegalStateException" (by decide +kernel)).use rfl) z1 z2 z4 ?_
        refine W.cs (cells' := 2) (slots' := 12) rfl rfl ?_
        refine lv_astore_n hx hb dL_removeToe_15 rfl hl (Nat.le_of_ble_eq_true rfl) rfl (fun ls hl => ?_)
        have hl : lv_has ls 4 [(3, .ref q9), (0, .ref z0), (1, .int x1), (2, .ref w0)] := hl
        refine lv_iconst (v := 2) hx hb dL_removeToe_16 (by decide) ?_
        have h := Option.some.inj h
        subst h
        refine W.widen (k := 2) (n := 12) (Nat.le_of_ble_eq_true rfl) (Nat.le_of_ble_eq_true rfl) ?_
        exact hend (adr []) _ _ _ _ _ _ _ rfl rfl (rtn_i _) hP hD hS dL_removeToe_17
      · have h := ite_f c5 h
        exact nn h

noncomputable def SL_hasToe (f : Nat → Int32) (x1 : Int32) (wo : Nat → Int64) : Option (Int32 × (Nat → Int64)) := bnd (SX5_hasToe f x1) (fun o1 : Nat × Int32 => if o1.1 = 0 then (lt_ (if o1.2 = 0 then (0) else (1)) (fun o6 : Int64 => some ((0, vp_updL wo 0 o6)))) else (if o1.1 = 3 then (some ((1, wo))) else (none)))
abbrev RM_L_hasToe : Room := { frames := 8, cells := 1, slots := 6, locals := 125 }
set_option maxHeartbeats 4000000 in
theorem kL_hasToe (l : Launch) (hst : l.stackTraces = false) (D : va_G) (cA : Nat → ClassId) (G : eG) (z0 a0 b0 h0 s0 l0 e0 k0 a1 a2 w0 : Nat) (u7 : Int32) (u8 : Int32) (u9 : Int32) (f : Nat → Int32) (x1 : Int32) (wo : Nat → Int64) {r : Int32 × (Nat → Int64)} (hr : SL_hasToe f x1 wo = some r) {sz : Nat} : Met l yL_hasToe wsL_hasToe RM_L_hasToe (va_Pc [.ref z0, .int x1, .ref w0] (gqLB G D cA [(z0, .inr (9, [.ref a0, .ref b0, .ref h0, .ref s0, .ref l0, .ref e0, .ref k0, .int u7, .int u8, .int u9])), (a0, .inr (8, [.ref a1])), (a1, .inr (6, [.ref a2])), (a2, .inl (cA 0, 61, .inl f)), (w0, .inl (cA 3, 1, .inr (.inl wo)))] sz)) (gqQ D (fun as => (some (.int r.1))) (fun as => [(z0, .inr (9, [.ref a0, .ref b0, .ref h0, .ref s0, .ref l0, .ref e0, .ref k0, .int u7, .int u8, .int u9])), (a0, .inr (8, [.ref a1])), (a1, .inr (6, [.ref a2])), (a2, .inl (cA 0, 61, .inl f)), (w0, .inl (cA 3, 1, .inr (.inl r.2)))]) (va_A [(z0, .inr (9, [.ref a0, .ref b0, .ref h0, .ref s0, .ref l0, .ref e0, .ref k0, .int u7, .int u8, .int u9])), (a0, .inr (8, [.ref a1])), (a1, .inr (6, [.ref a2])), (a2, .inl (cA 0, 61, .inl f)), (w0, .inl (cA 3, 1, .inr (.inl wo)))] sz)) 1 6 (va_A [(z0, .inr (9, [.ref a0, .ref b0, .ref h0, .ref s0, .ref l0, .ref e0, .ref k0, .int u7, .int u8, .int u9])), (a0, .inr (8, [.ref a1])), (a1, .inr (6, [.ref a2])), (a2, .inl (cA 0, 61, .inl f)), (w0, .inl (cA 3, 1, .inr (.inl wo)))] sz) := by
  refine gqL_ofW (hh := [(0, 16, 19, 27)]) (cc := cL_hasToe) (maxL := 4) (ret := (some .int)) (by decide) rfl (Nat.le_of_ble_eq_true rfl) (fun p e s m args below meth c ls Q A hx hb hml hT9 hts hfc hK hP hD hS hA hEV hL9 hl hend => ?_)
  have hfc : s.vm.findClass RL = some m.cls := hfc
  have hl : lv_has ls 4 [(0, .ref z0), (1, .int x1), (2, .ref w0)] := hl
  have h := hr
  clear hr
  unfold SL_hasToe at h
  refine lv_aload_n hx hb dL_hasToe_0 rfl (lv_at hl 2 rfl) ?_
  refine lv_iconst (v := 0) hx hb dL_hasToe_1 (by decide) ?_
  refine lv_aload_n hx hb dL_hasToe_2 rfl (lv_at hl 0 rfl) ?_
  refine lv_iload_n hx hb dL_hasToe_3 rfl (lv_at hl 1 rfl) ?_
  obtain ⟨o1, ho1, h⟩ := bnd_i h
  refine xq_V (G := G) (v := (fun as => (some (.int o1.2)))) (As := [.int x1]) (rest := [.int 0, .ref w0]) (wc := [(z0, .inr (9, [.ref a0, .ref b0, .ref h0, .ref s0, .ref l0, .ref e0, .ref k0, .int u7, .int u8, .int u9])), (a0, .inr (8, [.ref a1])), (a1, .inr (6, [.ref a2])), (a2, .inl (cA 0, 61, .inl f))]) (wr := [(w0, .inl (cA 3, 1, .inr (.inl wo)))]) (w1 := (fun as => [(z0, .inr (9, [.ref a0, .ref b0, .ref h0, .ref s0, .ref l0, .ref e0, .ref k0, .int u7, .int u8, .int u9])), (a0, .inr (8, [.ref a1])), (a1, .inr (6, [.ref a2])), (a2, .inl (cA 0, 61, .inl f))])) (ws2 := (fun as => [(z0, .inr (9, [.ref a0, .ref b0, .ref h0, .ref s0, .ref l0, .ref e0, .ref k0, .int u7, .int u8, .int u9])), (a0, .inr (8, [.ref a1])), (a1, .inr (6, [.ref a2])), (a2, .inl (cA 0, 61, .inl f)), (w0, .inl (cA 3, 1, .inr (.inl wo)))])) (st1 := (fun as => [.int o1.2, .int 0, .ref w0])) ⟨hx, hb, hml, hfc, hts⟩ hK hP hD hS hA hEV (kX5_hasToe l hst D cA G z0 a0 b0 h0 s0 l0 e0 k0 a1 a2 u7 u8 u9 f x1 ho1) (cwV 1 hts gL_hasToe_X5_hasToe rfl rfl rfl (by decide +kernel) ⟨(Nat.le_of_ble_eq_true rfl), (Nat.le_of_ble_eq_true rfl)⟩) [0, 1, 2, 3] [4] [1, 2, 3, 4, 0] rfl rfl rfl rfl (by decide) (fun _ => rfl) rfl 0 9 rfl rfl rfl rfl (fun _ => rfl) rfl hl.1 (Nat.le_of_ble_eq_true rfl) dL_hasToe_4 ⟨(Nat.le_of_ble_eq_true rfl), (Nat.le_of_ble_eq_true rfl)⟩ (fun c3 as2 H locs hP hD hS => ?_) (fun c3 as2 H locs q9 ce hP hD hS z1 z2 z3 => ?_)
  · have h := ite_t c3 h
    have hP : va_P D vwCl [(z0, .inr (9, [.ref a0, .ref b0, .ref h0, .ref s0, .ref l0, .ref e0, .ref k0, .int u7, .int u8, .int u9])), (a0, .inr (8, [.ref a1])), (a1, .inr (6, [.ref a2])), (a2, .inl (cA 0, 61, .inl f)), (w0, .inl (cA 3, 1, .inr (.inl wo)))] H := hP
    have hD : va_D A [(z0, .inr (9, [.ref a0, .ref b0, .ref h0, .ref s0, .ref l0, .ref e0, .ref k0, .int u7, .int u8, .int u9])), (a0, .inr (8, [.ref a1])), (a1, .inr (6, [.ref a2])), (a2, .inl (cA 0, 61, .inl f)), (w0, .inl (cA 3, 1, .inr (.inl wo)))] := hD
    refine W.cs (cells' := 1) (slots' := 6) rfl rfl ?_
    obtain ⟨o6, ho6, h⟩ := lt_i h
    have ko6 : ∀ (ls : Array Slot) (H : Heap) (locs : List Loc), lv_has ls 4 [(0, .ref z0), (1, .int x1), (2, .ref w0)] → va_P D vwCl [(z0, .inr (9, [.ref a0, .ref b0, .ref h0, .ref s0, .ref l0, .ref e0, .ref k0, .int u7, .int u8, .int u9])), (a0, .inr (8, [.ref a1])), (a1, .inr (6, [.ref a2])), (a2, .inl (cA 0, 61, .inl f)), (w0, .inl (cA 3, 1, .inr (.inl wo)))] H → va_D A [(z0, .inr (9, [.ref a0, .ref b0, .ref h0, .ref s0, .ref l0, .ref e0, .ref k0, .int u7, .int u8, .int u9])), (a0, .inr (8, [.ref a1])), (a1, .inr (6, [.ref a2])), (a2, .inl (cA 0, 61, .inl f)), (w0, .inl (cA 3, 1, .inr (.inl wo)))] → va_S A s.heap H locs → W p l e RM_L_hasToe s m args below meth c H locs 1 6 Q (F0 m 15 ls [.long o6, .int 0, .ref w0]) := by
      intro ls H locs hl hP hD hS
      refine va_last hx hb hK hP hD hS 4 3 rfl rfl (vin _ _ (by decide)) dL_hasToe_15 (fun H locs hP hD hS => ?_)
      have hP : va_P D vwCl [(z0, .inr (9, [.ref a0, .ref b0, .ref h0, .ref s0, .ref l0, .ref e0, .ref k0, .int u7, .int u8, .int u9])), (a0, .inr (8, [.ref a1])), (a1, .inr (6, [.ref a2])), (a2, .inl (cA 0, 61, .inl f)), (w0, .inl (cA 3, 1, .inr (.inl (vp_updL wo 0 o6))))] H := hP
      have hD : va_D A [(z0, .inr (9, [.ref a0, .ref b0, .ref h0, .ref s0, .ref l0, .ref e0, .ref k0, .int u7, .int u8, .int u9])), (a0, .inr (8, [.ref a1])), (a1, .inr (6, [.ref a2])), (a2, .inl (cA 0, 61, .inl f)), (w0, .inl (cA 3, 1, .inr (.inl (vp_updL wo 0 o6))))] := hD
      refine lv_goto (tgt := 22) hx hb dL_hasToe_16 (by decide) ?_
      refine lv_iconst (v := 0) hx hb dL_hasToe_22 (by decide) ?_
      have h := Option.some.inj h
      subst h
      refine W.widen (k := 1) (n := 6) (Nat.le_of_ble_eq_true rfl) (Nat.le_of_ble_eq_true rfl) ?_
      exact hend (adr []) _ _ _ _ _ _ _ rfl rfl (rtn_i _) hP hD hS dL_hasToe_23
    clear h
    have h := ho6
    clear ho6
    refine lv_if_eq (tgt := 14) hx hb dL_hasToe_7 (by decide) (fun c5 => ?_) (fun c5 => ?_)
    · have h := ite_t c5 h
      refine lv_lconst (v := 0) hx hb dL_hasToe_14 (by decide) ?_
      subst h
      exact ko6 _ _ _ (lv_sub hl [0, 1, 2] rfl) hP hD hS
    · have h := ite_f c5 h
      refine lv_lconst (v := 1) hx hb dL_hasToe_10 (by decide) ?_
      refine lv_goto (tgt := 15) hx hb dL_hasToe_11 (by decide) ?_
      subst h
      exact ko6 _ _ _ (lv_sub hl [0, 1, 2] rfl) hP hD hS
  · have h := ite_f c3 h
    have hP : va_P D vwCl [(z0, .inr (9, [.ref a0, .ref b0, .ref h0, .ref s0, .ref l0, .ref e0, .ref k0, .int u7, .int u8, .int u9])), (a0, .inr (8, [.ref a1])), (a1, .inr (6, [.ref a2])), (a2, .inl (cA 0, 61, .inl f)), (w0, .inl (cA 3, 1, .inr (.inl wo)))] H := hP
    have hD : va_D A [(z0, .inr (9, [.ref a0, .ref b0, .ref h0, .ref s0, .ref l0, .ref e0, .ref k0, .int u7, .int u8, .int u9])), (a0, .inr (8, [.ref a1])), (a1, .inr (6, [.ref a2])), (a2, .inl (cA 0, 61, .inl f)), (w0, .inl (cA 3, 1, .inr (.inl wo)))] := hD
    by_cases c4 : o1.1 = 3
    · have h := ite_t c4 h
      have z4 : s.vm.findClass "java/lang/IndexOutOfBoundsException" = some ce.cls := by rw [c4] at z3; exact z3
      refine vx_catch (own := RL) (name := "java/lang/IndexOutOfBoundsException") (E := "java/lang/IndexOutOfBoundsException") hfc [] ⟨0, 16, 19, 27⟩ [] hT9 (fun z hz => absurd hz List.not_mem_nil) rfl (by decide) (hL9.link (List.mem_of_getElem? (i := 2) rfl)) ((hEV.1.2.2.2.2 "java/lang/IndexOutOfBoundsException" (by decide +kernel)).use rfl) z1 z2 z4 ?_
      refine W.cs (cells' := 1) (slots' := 6) rfl rfl ?_
      refine lv_astore_n hx hb dL_hasToe_19 rfl hl (Nat.le_of_ble_eq_true rfl) rfl (fun ls hl => ?_)
      have hl : lv_has ls 4 [(3, .ref q9), (0, .ref z0), (1, .int x1), (2, .ref w0)] := hl
      refine lv_iconst (v := 1) hx hb dL_hasToe_20 (by decide) ?_
      have h := Option.some.inj h
      subst h
      refine W.widen (k := 1) (n := 6) (Nat.le_of_ble_eq_true rfl) (Nat.le_of_ble_eq_true rfl) ?_
      exact hend (adr []) _ _ _ _ _ _ _ rfl rfl (rtn_i _) hP hD hS dL_hasToe_21
    · have h := ite_f c4 h
      exact nn h

noncomputable def SL_insertPlug (N : Nat) (f : Nat → Int32) (v1 : Int32) (v2 : Int32) (g : Nat → Int32) (x1 : Int32) (wo : Nat → Int64) : Option (Int32 × (Nat → Int32) × Int32 × Int32 × (Nat → Int32) × (Nat → Int64)) := bnd (SX5_insertPlug N f v1 v2 g x1) (fun o1 : Nat × Int32 × (Nat → Int32) × (Nat → Int32) × Int32 × Int32 => if o1.1 = 0 then (lt_ (if o1.2.1 = 0 then (0) else (1)) (fun o6 : Int64 => some ((0, o1.2.2.1, o1.2.2.2.2.1, o1.2.2.2.2.2, o1.2.2.2.1, vp_updL wo 0 o6)))) else (if o1.1 = 3 then (some ((1, o1.2.2.1, o1.2.2.2.2.1, o1.2.2.2.2.2, o1.2.2.2.1, wo))) else (none)))
abbrev RM_L_insertPlug : Room := { frames := 8, cells := 1, slots := 6, locals := 125 }
set_option maxHeartbeats 4000000 in
theorem kL_insertPlug (l : Launch) (hst : l.stackTraces = false) (D : va_G) (cA : Nat → ClassId) (G : eG) (z0 a0 b0 h0 s0 l0 e0 k0 a1 a2 h1 h2 w0 : Nat) (N : Nat) (u7 : Int32) (u8 : Int32) (u9 : Int32) (f : Nat → Int32) (v1 : Int32) (v2 : Int32) (g : Nat → Int32) (x1 : Int32) (wo : Nat → Int64) {r : Int32 × (Nat → Int32) × Int32 × Int32 × (Nat → Int32) × (Nat → Int64)} (hr : SL_insertPlug N f v1 v2 g x1 wo = some r) {sz : Nat} : Met l yL_insertPlug wsL_insertPlug RM_L_insertPlug (va_Pc [.ref z0, .int x1, .ref w0] (gqLB G D cA [(z0, .inr (9, [.ref a0, .ref b0, .ref h0, .ref s0, .ref l0, .ref e0, .ref k0, .int u7, .int u8, .int u9])), (a0, .inr (8, [.ref a1])), (a1, .inr (6, [.ref a2])), (a2, .inl (cA 0, 61, .inl f)), (h0, .inr (5, [.ref h1, .int v1, .int v2])), (h1, .inr (6, [.ref h2])), (h2, .inl (cA 0, 488, .inl g)), (w0, .inl (cA 3, 1, .inr (.inl wo)))] sz)) (gqQ D (fun as => (some (.int r.1))) (fun as => [(z0, .inr (9, [.ref a0, .ref b0, .ref h0, .ref s0, .ref l0, .ref e0, .ref k0, .int u7, .int u8, .int u9])), (a0, .inr (8, [.ref a1])), (a1, .inr (6, [.ref a2])), (a2, .inl (cA 0, 61, .inl r.2.1)), (h0, .inr (5, [.ref h1, .int r.2.2.1, .int r.2.2.2.1])), (h1, .inr (6, [.ref h2])), (h2, .inl (cA 0, 488, .inl r.2.2.2.2.1)), (w0, .inl (cA 3, 1, .inr (.inl r.2.2.2.2.2)))]) (va_A [(z0, .inr (9, [.ref a0, .ref b0, .ref h0, .ref s0, .ref l0, .ref e0, .ref k0, .int u7, .int u8, .int u9])), (a0, .inr (8, [.ref a1])), (a1, .inr (6, [.ref a2])), (a2, .inl (cA 0, 61, .inl f)), (h0, .inr (5, [.ref h1, .int v1, .int v2])), (h1, .inr (6, [.ref h2])), (h2, .inl (cA 0, 488, .inl g)), (w0, .inl (cA 3, 1, .inr (.inl wo)))] sz)) 1 6 (va_A [(z0, .inr (9, [.ref a0, .ref b0, .ref h0, .ref s0, .ref l0, .ref e0, .ref k0, .int u7, .int u8, .int u9])), (a0, .inr (8, [.ref a1])), (a1, .inr (6, [.ref a2])), (a2, .inl (cA 0, 61, .inl f)), (h0, .inr (5, [.ref h1, .int v1, .int v2])), (h1, .inr (6, [.ref h2])), (h2, .inl (cA 0, 488, .inl g)), (w0, .inl (cA 3, 1, .inr (.inl wo)))] sz) := by
  refine gqL_ofW (hh := [(0, 16, 19, 27)]) (cc := cL_insertPlug) (maxL := 4) (ret := (some .int)) (by decide) rfl (Nat.le_of_ble_eq_true rfl) (fun p e s m args below meth c ls Q A hx hb hml hT9 hts hfc hK hP hD hS hA hEV hL9 hl hend => ?_)
  have hfc : s.vm.findClass RL = some m.cls := hfc
  have hl : lv_has ls 4 [(0, .ref z0), (1, .int x1), (2, .ref w0)] := hl
  have h := hr
  clear hr
  unfold SL_insertPlug at h
  refine lv_aload_n hx hb dL_insertPlug_0 rfl (lv_at hl 2 rfl) ?_
  refine lv_iconst (v := 0) hx hb dL_insertPlug_1 (by decide) ?_
  refine lv_aload_n hx hb dL_insertPlug_2 rfl (lv_at hl 0 rfl) ?_
  refine lv_iload_n hx hb dL_insertPlug_3 rfl (lv_at hl 1 rfl) ?_
  obtain ⟨o1, ho1, h⟩ := bnd_i h
  refine xq_V (G := G) (v := (fun as => (some (.int o1.2.1)))) (As := [.int x1]) (rest := [.int 0, .ref w0]) (wc := [(z0, .inr (9, [.ref a0, .ref b0, .ref h0, .ref s0, .ref l0, .ref e0, .ref k0, .int u7, .int u8, .int u9])), (a0, .inr (8, [.ref a1])), (a1, .inr (6, [.ref a2])), (a2, .inl (cA 0, 61, .inl f)), (h0, .inr (5, [.ref h1, .int v1, .int v2])), (h1, .inr (6, [.ref h2])), (h2, .inl (cA 0, 488, .inl g))]) (wr := [(w0, .inl (cA 3, 1, .inr (.inl wo)))]) (w1 := (fun as => [(z0, .inr (9, [.ref a0, .ref b0, .ref h0, .ref s0, .ref l0, .ref e0, .ref k0, .int u7, .int u8, .int u9])), (a0, .inr (8, [.ref a1])), (a1, .inr (6, [.ref a2])), (a2, .inl (cA 0, 61, .inl o1.2.2.1)), (h0, .inr (5, [.ref h1, .int o1.2.2.2.2.1, .int o1.2.2.2.2.2])), (h1, .inr (6, [.ref h2])), (h2, .inl (cA 0, 488, .inl o1.2.2.2.1))])) (ws2 := (fun as => [(z0, .inr (9, [.ref a0, .ref b0, .ref h0, .ref s0, .ref l0, .ref e0, .ref k0, .int u7, .int u8, .int u9])), (a0, .inr (8, [.ref a1])), (a1, .inr (6, [.ref a2])), (a2, .inl (cA 0, 61, .inl o1.2.2.1)), (h0, .inr (5, [.ref h1, .int o1.2.2.2.2.1, .int o1.2.2.2.2.2])), (h1, .inr (6, [.ref h2])), (h2, .inl (cA 0, 488, .inl o1.2.2.2.1)), (w0, .inl (cA 3, 1, .inr (.inl wo)))])) (st1 := (fun as => [.int o1.2.1, .int 0, .ref w0])) ⟨hx, hb, hml, hfc, hts⟩ hK hP hD hS hA hEV (kX5_insertPlug l hst D cA G z0 a0 b0 h0 s0 l0 e0 k0 a1 a2 h1 h2 N u7 u8 u9 f v1 v2 g x1 ho1) (cwV 1 hts gL_insertPlug_X5_insertPlug rfl rfl rfl (by decide +kernel) ⟨(Nat.le_of_ble_eq_true rfl), (Nat.le_of_ble_eq_true rfl)⟩) [0, 1, 2, 3, 4, 5, 6] [7] [1, 2, 3, 4, 5, 6, 7, 0] rfl rfl rfl rfl (by decide) (fun _ => rfl) rfl 0 9 rfl rfl rfl rfl (fun _ => rfl) rfl hl.1 (Nat.le_of_ble_eq_true rfl) dL_insertPlug_4 ⟨(Nat.le_of_ble_eq_true rfl), (Nat.le_of_ble_eq_true rfl)⟩ (fun c3 as2 H locs hP hD hS => ?_) (fun c3 as2 H locs q9 ce hP hD hS z1 z2 z3 => ?_)
  · have h := ite_t c3 h
    have hP : va_P D vwCl [(z0, .inr (9, [.ref a0, .ref b0, .ref h0, .ref s0, .ref l0, .ref e0, .ref k0, .int u7, .int u8, .int u9])), (a0, .inr (8, [.ref a1])), (a1, .inr (6, [.ref a2])), (a2, .inl (cA 0, 61, .inl o1.2.2.1)), (h0, .inr (5, [.ref h1, .int o1.2.2.2.2.1, .int o1.2.2.2.2.2])), (h1, .inr (6, [.ref h2])), (h2, .inl (cA 0, 488, .inl o1.2.2.2.1)), (w0, .inl (cA 3, 1, .inr (.inl wo)))] H := hP
    have hD : va_D A [(z0, .inr (9, [.ref a0, .ref b0, .ref h0, .ref s0, .ref l0, .ref e0, .ref k0, .int u7, .int u8, .int u9])), (a0, .inr (8, [.ref a1])), (a1, .inr (6, [.ref a2])), (a2, .inl (cA 0, 61, .inl o1.2.2.1)), (h0, .inr (5, [.ref h1, .int o1.2.2.2.2.1, .int o1.2.2.2.2.2])), (h1, .inr (6, [.ref h2])), (h2, .inl (cA 0, 488, .inl o1.2.2.2.1)), (w0, .inl (cA 3, 1, .inr (.inl wo)))] := hD
    refine W.cs (cells' := 1) (slots' := 6) rfl rfl ?_
    obtain ⟨o6, ho6, h⟩ := lt_i h
    have ko6 : ∀ (ls : Array Slot) (H : Heap) (locs : List Loc), lv_has ls 4 [(0, .ref z0), (1, .int x1), (2, .ref w0)] → va_P D vwCl [(z0, .inr (9, [.ref a0, .ref b0, .ref h0, .ref s0, .ref l0, .ref e0, .ref k0, .int u7, .int u8, .int u9])), (a0, .inr (8, [.ref a1])), (a1, .inr (6, [.ref a2])), (a2, .inl (cA 0, 61, .inl o1.2.2.1)), (h0, .inr (5, [.ref h1, .int o1.2.2.2.2.1, .int o1.2.2.2.2.2])), (h1, .inr (6, [.ref h2])), (h2, .inl (cA 0, 488, .inl o1.2.2.2.1)), (w0, .inl (cA 3, 1, .inr (.inl wo)))] H → va_D A [(z0, .inr (9, [.ref a0, .ref b0, .ref h0, .ref s0, .ref l0, .ref e0, .ref k0, .int u7, .int u8, .int u9])), (a0, .inr (8, [.ref a1])), (a1, .inr (6, [.ref a2])), (a2, .inl (cA 0, 61, .inl o1.2.2.1)), (h0, .inr (5, [.ref h1, .int o1.2.2.2.2.1, .int o1.2.2.2.2.2])), (h1, .inr (6, [.ref h2])), (h2, .inl (cA 0, 488, .inl o1.2.2.2.1)), (w0, .inl (cA 3, 1, .inr (.inl wo)))] → va_S A s.heap H locs → W p l e RM_L_insertPlug s m args below meth c H locs 1 6 Q (F0 m 15 ls [.long o6, .int 0, .ref w0]) := by
      intro ls H locs hl hP hD hS
      refine va_last hx hb hK hP hD hS 7 3 rfl rfl (vin _ _ (by decide)) dL_insertPlug_15 (fun H locs hP hD hS => ?_)
      have hP : va_P D vwCl [(z0, .inr (9, [.ref a0, .ref b0, .ref h0, .ref s0, .ref l0, .ref e0, .ref k0, .int u7, .int u8, .int u9])), (a0, .inr (8, [.ref a1])), (a1, .inr (6, [.ref a2])), (a2, .inl (cA 0, 61, .inl o1.2.2.1)), (h0, .inr (5, [.ref h1, .int o1.2.2.2.2.1, .int o1.2.2.2.2.2])), (h1, .inr (6, [.ref h2])), (h2, .inl (cA 0, 488, .inl o1.2.2.2.1)), (w0, .inl (cA 3, 1, .inr (.inl (vp_updL wo 0 o6))))] H := hP
      have hD : va_D A [(z0, .inr (9, [.ref a0, .ref b0, .ref h0, .ref s0, .ref l0, .ref e0, .ref k0, .int u7, .int u8, .int u9])), (a0, .inr (8, [.ref a1])), (a1, .inr (6, [.ref a2])), (a2, .inl (cA 0, 61, .inl o1.2.2.1)), (h0, .inr (5, [.ref h1, .int o1.2.2.2.2.1, .int o1.2.2.2.2.2])), (h1, .inr (6, [.ref h2])), (h2, .inl (cA 0, 488, .inl o1.2.2.2.1)), (w0, .inl (cA 3, 1, .inr (.inl (vp_updL wo 0 o6))))] := hD
      refine lv_goto (tgt := 22) hx hb dL_insertPlug_16 (by decide) ?_
      refine lv_iconst (v := 0) hx hb dL_insertPlug_22 (by decide) ?_
      have h := Option.some.inj h
      subst h
      refine W.widen (k := 1) (n := 6) (Nat.le_of_ble_eq_true rfl) (Nat.le_of_ble_eq_true rfl) ?_
      exact hend (adr []) _ _ _ _ _ _ _ rfl rfl (rtn_i _) hP hD hS dL_insertPlug_23
    clear h
    have h := ho6
    clear ho6
    refine lv_if_eq (tgt := 14) hx hb dL_insertPlug_7 (by decide) (fun c5 => ?_) (fun c5 => ?_)
    · have h := ite_t c5 h
      refine lv_lconst (v := 0) hx hb dL_insertPlug_14 (by decide) ?_
      subst h
      exact ko6 _ _ _ (lv_sub hl [0, 1, 2] rfl) hP hD hS
    · have h := ite_f c5 h
      refine lv_lconst (v := 1) hx hb dL_insertPlug_10 (by decide) ?_
      refine lv_goto (tgt := 15) hx hb dL_insertPlug_11 (by decide) ?_
      subst h
      exact ko6 _ _ _ (lv_sub hl [0, 1, 2] rfl) hP hD hS
  · have h := ite_f c3 h
    have hP : va_P D vwCl [(z0, .inr (9, [.ref a0, .ref b0, .ref h0, .ref s0, .ref l0, .ref e0, .ref k0, .int u7, .int u8, .int u9])), (a0, .inr (8, [.ref a1])), (a1, .inr (6, [.ref a2])), (a2, .inl (cA 0, 61, .inl o1.2.2.1)), (h0, .inr (5, [.ref h1, .int o1.2.2.2.2.1, .int o1.2.2.2.2.2])), (h1, .inr (6, [.ref h2])), (h2, .inl (cA 0, 488, .inl o1.2.2.2.1)), (w0, .inl (cA 3, 1, .inr (.inl wo)))] H := hP
    have hD : va_D A [(z0, .inr (9, [.ref a0, .ref b0, .ref h0, .ref s0, .ref l0, .ref e0, .ref k0, .int u7, .int u8, .int u9])), (a0, .inr (8, [.ref a1])), (a1, .inr (6, [.ref a2])), (a2, .inl (cA 0, 61, .inl o1.2.2.1)), (h0, .inr (5, [.ref h1, .int o1.2.2.2.2.1, .int o1.2.2.2.2.2])), (h1, .inr (6, [.ref h2])), (h2, .inl (cA 0, 488, .inl o1.2.2.2.1)), (w0, .inl (cA 3, 1, .inr (.inl wo)))] := hD
    by_cases c4 : o1.1 = 3
    · have h := ite_t c4 h
      have z4 : s.vm.findClass "java/lang/IndexOutOfBoundsException" = some ce.cls := by rw [c4] at z3; exact z3
      refine vx_catch (own := RL) (name := "java/lang/IndexOutOfBoundsException") (E := "java/lang/IndexOutOfBoundsException") hfc [] ⟨0, 16, 19, 27⟩ [] hT9 (fun z hz => absurd hz List.not_mem_nil) rfl (by decide) (hL9.link (List.mem_of_getElem? (i := 2) rfl)) ((hEV.1.2.2.2.2 "java/lang/IndexOutOfBoundsException" (by decide +kernel)).use rfl) z1 z2 z4 ?_
      refine W.cs (cells' := 1) (slots' := 6) rfl rfl ?_
      refine lv_astore_n hx hb dL_insertPlug_19 rfl hl (Nat.le_of_ble_eq_true rfl) rfl (fun ls hl => ?_)
      have hl : lv_has ls 4 [(3, .ref q9), (0, .ref z0), (1, .int x1), (2, .ref w0)] := hl
      refine lv_iconst (v := 1) hx hb dL_insertPlug_20 (by decide) ?_
      have h := Option.some.inj h
      subst h
      refine W.widen (k := 1) (n := 6) (Nat.le_of_ble_eq_true rfl) (Nat.le_of_ble_eq_true rfl) ?_
      exact hend (adr []) _ _ _ _ _ _ _ rfl rfl (rtn_i _) hP hD hS dL_insertPlug_21
    · have h := ite_f c4 h
      exact nn h

noncomputable def SL_pullPlug (N : Nat) (f : Nat → Int32) (v1 : Int32) (v2 : Int32) (g : Nat → Int32) (wo : Nat → Int64) : Option (Int32 × (Nat → Int32) × Int32 × Int32 × (Nat → Int32) × (Nat → Int64)) := bnd (SX5_pullPlug N f v1 v2 g) (fun o1 : Nat × Int32 × (Nat → Int32) × (Nat → Int32) × Int32 × Int32 => if o1.1 = 0 then (some ((0, o1.2.2.1, o1.2.2.2.2.1, o1.2.2.2.2.2, o1.2.2.2.1, vp_updL wo 0 o1.2.1.toInt64))) else (if o1.1 = 2 then (some ((1, o1.2.2.1, o1.2.2.2.2.1, o1.2.2.2.2.2, o1.2.2.2.1, wo))) else (none)))
abbrev RM_L_pullPlug : Room := { frames := 7, cells := 1, slots := 6, locals := 104 }
set_option maxHeartbeats 4000000 in
theorem kL_pullPlug (l : Launch) (hst : l.stackTraces = false) (D : va_G) (cA : Nat → ClassId) (G : eG) (z0 a0 b0 h0 s0 l0 e0 k0 a1 a2 h1 h2 w0 : Nat) (N : Nat) (u7 : Int32) (u8 : Int32) (u9 : Int32) (f : Nat → Int32) (v1 : Int32) (v2 : Int32) (g : Nat → Int32) (wo : Nat → Int64) {r : Int32 × (Nat → Int32) × Int32 × Int32 × (Nat → Int32) × (Nat → Int64)} (hr : SL_pullPlug N f v1 v2 g wo = some r) {sz : Nat} : Met l yL_pullPlug wsL_pullPlug RM_L_pullPlug (va_Pc [.ref z0, .ref w0] (gqLB G D cA [(z0, .inr (9, [.ref a0, .ref b0, .ref h0, .ref s0, .ref l0, .ref e0, .ref k0, .int u7, .int u8, .int u9])), (a0, .inr (8, [.ref a1])), (a1, .inr (6, [.ref a2])), (a2, .inl (cA 0, 61, .inl f)), (h0, .inr (5, [.ref h1, .int v1, .int v2])), (h1, .inr (6, [.ref h2])), (h2, .inl (cA 0, 488, .inl g)), (w0, .inl (cA 3, 1, .inr (.inl wo)))] sz)) (gqQ D (fun as => (some (.int r.1))) (fun as => [(z0, .inr (9, [.ref a0, .ref b0, .ref h0, .ref s0, .ref l0, .ref e0, .ref k0, .int u7, .int u8, .int u9])), (a0, .inr (8, [.ref a1])), (a1, .inr (6, [.ref a2])), (a2, .inl (cA 0, 61, .inl r.2.1)), (h0, .inr (5, [.ref h1, .int r.2.2.1, .int r.2.2.2.1])), (h1, .inr (6, [.ref h2])), (h2, .inl (cA 0, 488, .inl r.2.2.2.2.1)), (w0, .inl (cA 3, 1, .inr (.inl r.2.2.2.2.2)))]) (va_A [(z0, .inr (9, [.ref a0, .ref b0, .ref h0, .ref s0, .ref l0, .ref e0, .ref k0, .int u7, .int u8, .int u9])), (a0, .inr (8, [.ref a1])), (a1, .inr (6, [.ref a2])), (a2, .inl (cA 0, 61, .inl f)), (h0, .inr (5, [.ref h1, .int v1, .int v2])), (h1, .inr (6, [.ref h2])), (h2, .inl (cA 0, 488, .inl g)), (w0, .inl (cA 3, 1, .inr (.inl wo)))] sz)) 1 6 (va_A [(z0, .inr (9, [.ref a0, .ref b0, .ref h0, .ref s0, .ref l0, .ref e0, .ref k0, .int u7, .int u8, .int u9])), (a0, .inr (8, [.ref a1])), (a1, .inr (6, [.ref a2])), (a2, .inl (cA 0, 61, .inl f)), (h0, .inr (5, [.ref h1, .int v1, .int v2])), (h1, .inr (6, [.ref h2])), (h2, .inl (cA 0, 488, .inl g)), (w0, .inl (cA 3, 1, .inr (.inl wo)))] sz) := by
  refine gqL_ofW (hh := [(0, 8, 11, 15)]) (cc := cL_pullPlug) (maxL := 3) (ret := (some .int)) (by decide) rfl (Nat.le_of_ble_eq_true rfl) (fun p e s m args below meth c ls Q A hx hb hml hT9 hts hfc hK hP hD hS hA hEV hL9 hl hend => ?_)
  have hfc : s.vm.findClass RL = some m.cls := hfc
  have hl : lv_has ls 3 [(0, .ref z0), (1, .ref w0)] := hl
  have h := hr
  clear hr
  unfold SL_pullPlug at h
  refine lv_aload_n hx hb dL_pullPlug_0 rfl (lv_at hl 1 rfl) ?_
  refine lv_iconst (v := 0) hx hb dL_pullPlug_1 (by decide) ?_
  refine lv_aload_n hx hb dL_pullPlug_2 rfl (lv_at hl 0 rfl) ?_
  obtain ⟨o1, ho1, h⟩ := bnd_i h
  refine xq_V (G := G) (v := (fun as => (some (.int o1.2.1)))) (As := []) (rest := [.int 0, .ref w0]) (wc := [(z0, .inr (9, [.ref a0, .ref b0, .ref h0, .ref s0, .ref l0, .ref e0, .ref k0, .int u7, .int u8, .int u9])), (a0, .inr (8, [.ref a1])), (a1, .inr (6, [.ref a2])), (a2, .inl (cA 0, 61, .inl f)), (h0, .inr (5, [.ref h1, .int v1, .int v2])), (h1, .inr (6, [.ref h2])), (h2, .inl (cA 0, 488, .inl g))]) (wr := [(w0, .inl (cA 3, 1, .inr (.inl wo)))]) (w1 := (fun as => [(z0, .inr (9, [.ref a0, .ref b0, .ref h0, .ref s0, .ref l0, .ref e0, .ref k0, .int u7, .int u8, .int u9])), (a0, .inr (8, [.ref a1])), (a1, .inr (6, [.ref a2])), (a2, .inl (cA 0, 61, .inl o1.2.2.1)), (h0, .inr (5, [.ref h1, .int o1.2.2.2.2.1, .int o1.2.2.2.2.2])), (h1, .inr (6, [.ref h2])), (h2, .inl (cA 0, 488, .inl o1.2.2.2.1))])) (ws2 := (fun as => [(z0, .inr (9, [.ref a0, .ref b0, .ref h0, .ref s0, .ref l0, .ref e0, .ref k0, .int u7, .int u8, .int u9])), (a0, .inr (8, [.ref a1])), (a1, .inr (6, [.ref a2])), (a2, .inl (cA 0, 61, .inl o1.2.2.1)), (h0, .inr (5, [.ref h1, .int o1.2.2.2.2.1, .int o1.2.2.2.2.2])), (h1, .inr (6, [.ref h2])), (h2, .inl (cA 0, 488, .inl o1.2.2.2.1)), (w0, .inl (cA 3, 1, .inr (.inl wo)))])) (st1 := (fun as => [.int o1.2.1, .int 0, .ref w0])) ⟨hx, hb, hml, hfc, hts⟩ hK hP hD hS hA hEV (kX5_pullPlug l hst D cA G z0 a0 b0 h0 s0 l0 e0 k0 a1 a2 h1 h2 N u7 u8 u9 f v1 v2 g ho1) (cwV 0 hts gL_pullPlug_X5_pullPlug rfl rfl rfl (by decide +kernel) ⟨(Nat.le_of_ble_eq_true rfl), (Nat.le_of_ble_eq_true rfl)⟩) [0, 1, 2, 3, 4, 5, 6] [7] [1, 2, 3, 4, 5, 6, 7, 0] rfl rfl rfl rfl (by decide) (fun _ => rfl) rfl 0 9 rfl rfl rfl rfl (fun _ => rfl) rfl hl.1 (Nat.le_of_ble_eq_true rfl) dL_pullPlug_3 ⟨(Nat.le_of_ble_eq_true rfl), (Nat.le_of_ble_eq_true rfl)⟩ (fun c3 as2 H locs hP hD hS => ?_) (fun c3 as2 H locs q9 ce hP hD hS z1 z2 z3 => ?_)
  · have h := ite_t c3 h
    have hP : va_P D vwCl [(z0, .inr (9, [.ref a0, .ref b0, .ref h0, .ref s0, .ref l0, .ref e0, .ref k0, .int u7, .int u8, .int u9])), (a0, .inr (8, [.ref a1])), (a1, .inr (6, [.ref a2])), (a2, .inl (cA 0, 61, .inl o1.2.2.1)), (h0, .inr (5, [.ref h1, .int o1.2.2.2.2.1, .int o1.2.2.2.2.2])), (h1, .inr (6, [.ref h2])), (h2, .inl (cA 0, 488, .inl o1.2.2.2.1)), (w0, .inl (cA 3, 1, .inr (.inl wo)))] H := hP
    have hD : va_D A [(z0, .inr (9, [.ref a0, .ref b0, .ref h0, .ref s0, .ref l0, .ref e0, .ref k0, .int u7, .int u8, .int u9])), (a0, .inr (8, [.ref a1])), (a1, .inr (6, [.ref a2])), (a2, .inl (cA 0, 61, .inl o1.2.2.1)), (h0, .inr (5, [.ref h1, .int o1.2.2.2.2.1, .int o1.2.2.2.2.2])), (h1, .inr (6, [.ref h2])), (h2, .inl (cA 0, 488, .inl o1.2.2.2.1)), (w0, .inl (cA 3, 1, .inr (.inl wo)))] := hD
    refine W.cs (cells' := 1) (slots' := 6) rfl rfl ?_
    refine lv_i2l (v := o1.2.1.toInt64) hx hb dL_pullPlug_6 rfl ?_
    refine va_last hx hb hK hP hD hS 7 3 rfl rfl (vin _ _ (by decide)) dL_pullPlug_7 (fun H locs hP hD hS => ?_)
    have hP : va_P D vwCl [(z0, .inr (9, [.ref a0, .ref b0, .ref h0, .ref s0, .ref l0, .ref e0, .ref k0, .int u7, .int u8, .int u9])), (a0, .inr (8, [.ref a1])), (a1, .inr (6, [.ref a2])), (a2, .inl (cA 0, 61, .inl o1.2.2.1)), (h0, .inr (5, [.ref h1, .int o1.2.2.2.2.1, .int o1.2.2.2.2.2])), (h1, .inr (6, [.ref h2])), (h2, .inl (cA 0, 488, .inl o1.2.2.2.1)), (w0, .inl (cA 3, 1, .inr (.inl (vp_updL wo 0 o1.2.1.toInt64))))] H := hP
    have hD : va_D A [(z0, .inr (9, [.ref a0, .ref b0, .ref h0, .ref s0, .ref l0, .ref e0, .ref k0, .int u7, .int u8, .int u9])), (a0, .inr (8, [.ref a1])), (a1, .inr (6, [.ref a2])), (a2, .inl (cA 0, 61, .inl o1.2.2.1)), (h0, .inr (5, [.ref h1, .int o1.2.2.2.2.1, .int o1.2.2.2.2.2])), (h1, .inr (6, [.ref h2])), (h2, .inl (cA 0, 488, .inl o1.2.2.2.1)), (w0, .inl (cA 3, 1, .inr (.inl (vp_updL wo 0 o1.2.1.toInt64))))] := hD
    refine lv_goto (tgt := 14) hx hb dL_pullPlug_8 (by decide) ?_
    refine lv_iconst (v := 0) hx hb dL_pullPlug_14 (by decide) ?_
    have h := Option.some.inj h
    subst h
    refine W.widen (k := 1) (n := 6) (Nat.le_of_ble_eq_true rfl) (Nat.le_of_ble_eq_true rfl) ?_
    exact hend (adr []) _ _ _ _ _ _ _ rfl rfl (rtn_i _) hP hD hS dL_pullPlug_15
  · have h := ite_f c3 h
    have hP : va_P D vwCl [(z0, .inr (9, [.ref a0, .ref b0, .ref h0, .ref s0, .ref l0, .ref e0, .ref k0, .int u7, .int u8, .int u9])), (a0, .inr (8, [.ref a1])), (a1, .inr (6, [.ref a2])), (a2, .inl (cA 0, 61, .inl o1.2.2.1)), (h0, .inr (5, [.ref h1, .int o1.2.2.2.2.1, .int o1.2.2.2.2.2])), (h1, .inr (6, [.ref h2])), (h2, .inl (cA 0, 488, .inl o1.2.2.2.1)), (w0, .inl (cA 3, 1, .inr (.inl wo)))] H := hP
    have hD : va_D A [(z0, .inr (9, [.ref a0, .ref b0, .ref h0, .ref s0, .ref l0, .ref e0, .ref k0, .int u7, .int u8, .int u9])), (a0, .inr (8, [.ref a1])), (a1, .inr (6, [.ref a2])), (a2, .inl (cA 0, 61, .inl o1.2.2.1)), (h0, .inr (5, [.ref h1, .int o1.2.2.2.2.1, .int o1.2.2.2.2.2])), (h1, .inr (6, [.ref h2])), (h2, .inl (cA 0, 488, .inl o1.2.2.2.1)), (w0, .inl (cA 3, 1, .inr (.inl wo)))] := hD
    by_cases c4 : o1.1 = 2
    · have h := ite_t c4 h
      have z4 : s.vm.findClass "java/lang/IllegalStateException" = some ce.cls := by rw [c4] at z3; exact z3
      refine vx_catch (own := RL) (name := "java/lang/IllegalStateException") (E := "java/lang/IllegalStateException") hfc [] ⟨0, 8, 11, 15⟩ [] hT9 (fun z hz => absurd hz List.not_mem_nil) rfl (by decide) (hL9.link (List.mem_of_getElem? (i := 1) rfl)) ((hEV.1.2.2.2.2 "java/lang/IllegalStateException" (by decide +kernel)).use rfl) z1 z2 z4 ?_
      refine W.cs (cells' := 1) (slots' := 6) rfl rfl ?_
      refine lv_astore_n hx hb dL_pullPlug_11 rfl hl (Nat.le_of_ble_eq_true rfl) rfl (fun ls hl => ?_)
      have hl : lv_has ls 3 [(2, .ref q9), (0, .ref z0), (1, .ref w0)] := hl
      refine lv_iconst (v := 1) hx hb dL_pullPlug_12 (by decide) ?_
      have h := Option.some.inj h
      subst h
      refine W.widen (k := 1) (n := 6) (Nat.le_of_ble_eq_true rfl) (Nat.le_of_ble_eq_true rfl) ?_
      exact hend (adr []) _ _ _ _ _ _ _ rfl rfl (rtn_i _) hP hD hS dL_pullPlug_13
    · have h := ite_f c4 h
      exact nn h

noncomputable def SL_plugPosition (f : Nat → Int32) (wo : Nat → Int64) : Option (Int32 × (Nat → Int64)) := lt_ (SX5_plugPosition f) (fun o1 : Nat × Int32 => if o1.1 = 0 then (some ((0, vp_updL wo 0 o1.2.toInt64))) else (if o1.1 = 4 then (some ((1, wo))) else (none)))
abbrev RM_L_plugPosition : Room := { frames := 8, cells := 1, slots := 6, locals := 124 }
set_option maxHeartbeats 4000000 in
theorem kL_plugPosition (l : Launch) (hst : l.stackTraces = false) (D : va_G) (cA : Nat → ClassId) (G : eG) (z0 a0 b0 h0 s0 l0 e0 k0 a1 a2 w0 : Nat) (u7 : Int32) (u8 : Int32) (u9 : Int32) (f : Nat → Int32) (wo : Nat → Int64) {r : Int32 × (Nat → Int64)} (hr : SL_plugPosition f wo = some r) {sz : Nat} : Met l yL_plugPosition wsL_plugPosition RM_L_plugPosition (va_Pc [.ref z0, .ref w0] (gqLB G D cA [(z0, .inr (9, [.ref a0, .ref b0, .ref h0, .ref s0, .ref l0, .ref e0, .ref k0, .int u7, .int u8, .int u9])), (a0, .inr (8, [.ref a1])), (a1, .inr (6, [.ref a2])), (a2, .inl (cA 0, 61, .inl f)), (w0, .inl (cA 3, 1, .inr (.inl wo)))] sz)) (gqQ D (fun as => (some (.int r.1))) (fun as => [(z0, .inr (9, [.ref a0, .ref b0, .ref h0, .ref s0, .ref l0, .ref e0, .ref k0, .int u7, .int u8, .int u9])), (a0, .inr (8, [.ref a1])), (a1, .inr (6, [.ref a2])), (a2, .inl (cA 0, 61, .inl f)), (w0, .inl (cA 3, 1, .inr (.inl r.2)))]) (va_A [(z0, .inr (9, [.ref a0, .ref b0, .ref h0, .ref s0, .ref l0, .ref e0, .ref k0, .int u7, .int u8, .int u9])), (a0, .inr (8, [.ref a1])), (a1, .inr (6, [.ref a2])), (a2, .inl (cA 0, 61, .inl f)), (w0, .inl (cA 3, 1, .inr (.inl wo)))] sz)) 1 6 (va_A [(z0, .inr (9, [.ref a0, .ref b0, .ref h0, .ref s0, .ref l0, .ref e0, .ref k0, .int u7, .int u8, .int u9])), (a0, .inr (8, [.ref a1])), (a1, .inr (6, [.ref a2])), (a2, .inl (cA 0, 61, .inl f)), (w0, .inl (cA 3, 1, .inr (.inl wo)))] sz) := by
  refine gqL_ofW (hh := [(0, 8, 11, 67)]) (cc := cL_plugPosition) (maxL := 3) (ret := (some .int)) (by decide) rfl (Nat.le_of_ble_eq_true rfl) (fun p e s m args below meth c ls Q A hx hb hml hT9 hts hfc hK hP hD hS hA hEV hL9 hl hend => ?_)
  have hfc : s.vm.findClass RL = some m.cls := hfc
  have hl : lv_has ls 3 [(0, .ref z0), (1, .ref w0)] := hl
  have h := hr
  clear hr
  unfold SL_plugPosition at h
  refine lv_aload_n hx hb dL_plugPosition_0 rfl (lv_at hl 1 rfl) ?_
  refine lv_iconst (v := 0) hx hb dL_plugPosition_1 (by decide) ?_
  refine lv_aload_n hx hb dL_plugPosition_2 rfl (lv_at hl 0 rfl) ?_
  obtain ⟨o1, ho1, h⟩ := lt_i h
  refine xq_V (G := G) (v := (fun as => (some (.int o1.2)))) (As := []) (rest := [.int 0, .ref w0]) (wc := [(z0, .inr (9, [.ref a0, .ref b0, .ref h0, .ref s0, .ref l0, .ref e0, .ref k0, .int u7, .int u8, .int u9])), (a0, .inr (8, [.ref a1])), (a1, .inr (6, [.ref a2])), (a2, .inl (cA 0, 61, .inl f))]) (wr := [(w0, .inl (cA 3, 1, .inr (.inl wo)))]) (w1 := (fun as => [(z0, .inr (9, [.ref a0, .ref b0, .ref h0, .ref s0, .ref l0, .ref e0, .ref k0, .int u7, .int u8, .int u9])), (a0, .inr (8, [.ref a1])), (a1, .inr (6, [.ref a2])), (a2, .inl (cA 0, 61, .inl f))])) (ws2 := (fun as => [(z0, .inr (9, [.ref a0, .ref b0, .ref h0, .ref s0, .ref l0, .ref e0, .ref k0, .int u7, .int u8, .int u9])), (a0, .inr (8, [.ref a1])), (a1, .inr (6, [.ref a2])), (a2, .inl (cA 0, 61, .inl f)), (w0, .inl (cA 3, 1, .inr (.inl wo)))])) (st1 := (fun as => [.int o1.2, .int 0, .ref w0])) ⟨hx, hb, hml, hfc, hts⟩ hK hP hD hS hA hEV (kX5_plugPosition l hst D cA G z0 a0 b0 h0 s0 l0 e0 k0 a1 a2 u7 u8 u9 f ho1) (cwV 0 hts gL_plugPosition_X5_plugPosition rfl rfl rfl (by decide +kernel) ⟨(Nat.le_of_ble_eq_true rfl), (Nat.le_of_ble_eq_true rfl)⟩) [0, 1, 2, 3] [4] [1, 2, 3, 4, 0] rfl rfl rfl rfl (by decide) (fun _ => rfl) rfl 0 9 rfl rfl rfl rfl (fun _ => rfl) rfl hl.1 (Nat.le_of_ble_eq_true rfl) dL_plugPosition_3 ⟨(Nat.le_of_ble_eq_true rfl), (Nat.le_of_ble_eq_true rfl)⟩ (fun c3 as2 H locs hP hD hS => ?_) (fun c3 as2 H locs q9 ce hP hD hS z1 z2 z3 => ?_)
  · have h := ite_t c3 h
    have hP : va_P D vwCl [(z0, .inr (9, [.ref a0, .ref b0, .ref h0, .ref s0, .ref l0, .ref e0, .ref k0, .int u7, .int u8, .int u9])), (a0, .inr (8, [.ref a1])), (a1, .inr (6, [.ref a2])), (a2, .inl (cA 0, 61, .inl f)), (w0, .inl (cA 3, 1, .inr (.inl wo)))] H := hP
    have hD : va_D A [(z0, .inr (9, [.ref a0, .ref b0, .ref h0, .ref s0, .ref l0, .ref e0, .ref k0, .int u7, .int u8, .int u9])), (a0, .inr (8, [.ref a1])), (a1, .inr (6, [.ref a2])), (a2, .inl (cA 0, 61, .inl f)), (w0, .inl (cA 3, 1, .inr (.inl wo)))] := hD
    refine W.cs (cells' := 1) (slots' := 6) rfl rfl ?_
    refine lv_i2l (v := o1.2.toInt64) hx hb dL_plugPosition_6 rfl ?_
    refine va_last hx hb hK hP hD hS 4 3 rfl rfl (vin _ _ (by decide)) dL_plugPosition_7 (fun H locs hP hD hS => ?_)
    have hP : va_P D vwCl [(z0, .inr (9, [.ref a0, .ref b0, .ref h0, .ref s0, .ref l0, .ref e0, .ref k0, .int u7, .int u8, .int u9])), (a0, .inr (8, [.ref a1])), (a1, .inr (6, [.ref a2])), (a2, .inl (cA 0, 61, .inl f)), (w0, .inl (cA 3, 1, .inr (.inl (vp_updL wo 0 o1.2.toInt64))))] H := hP
    have hD : va_D A [(z0, .inr (9, [.ref a0, .ref b0, .ref h0, .ref s0, .ref l0, .ref e0, .ref k0, .int u7, .int u8, .int u9])), (a0, .inr (8, [.ref a1])), (a1, .inr (6, [.ref a2])), (a2, .inl (cA 0, 61, .inl f)), (w0, .inl (cA 3, 1, .inr (.inl (vp_updL wo 0 o1.2.toInt64))))] := hD
    refine lv_goto (tgt := 14) hx hb dL_plugPosition_8 (by decide) ?_
    refine lv_iconst (v := 0) hx hb dL_plugPosition_14 (by decide) ?_
    have h := Option.some.inj h
    subst h
    refine W.widen (k := 1) (n := 6) (Nat.le_of_ble_eq_true rfl) (Nat.le_of_ble_eq_true rfl) ?_
    exact hend (adr []) _ _ _ _ _ _ _ rfl rfl (rtn_i _) hP hD hS dL_plugPosition_15
  · have h := ite_f c3 h
    have hP : va_P D vwCl [(z0, .inr (9, [.ref a0, .ref b0, .ref h0, .ref s0, .ref l0, .ref e0, .ref k0, .int u7, .int u8, .int u9])), (a0, .inr (8, [.ref a1])), (a1, .inr (6, [.ref a2])), (a2, .inl (cA 0, 61, .inl f)), (w0, .inl (cA 3, 1, .inr (.inl wo)))] H := hP
    have hD : va_D A [(z0, .inr (9, [.ref a0, .ref b0, .ref h0, .ref s0, .ref l0, .ref e0, .ref k0, .int u7, .int u8, .int u9])), (a0, .inr (8, [.ref a1])), (a1, .inr (6, [.ref a2])), (a2, .inl (cA 0, 61, .inl f)), (w0, .inl (cA 3, 1, .inr (.inl wo)))] := hD
    by_cases c4 : o1.1 = 4
    · have h := ite_t c4 h
      have z4 : s.vm.findClass "java/util/NoSuchElementException" = some ce.cls := by rw [c4] at z3; exact z3
      refine vx_catch (own := RL) (name := "java/util/NoSuchElementException") (E := "java/util/NoSuchElementException") hfc [] ⟨0, 8, 11, 67⟩ [] hT9 (fun z hz => absurd hz List.not_mem_nil) rfl (by decide) (hL9.link (List.mem_of_getElem? (i := 3) rfl)) ((hEV.1.2.2.2.2 "java/util/NoSuchElementException" (by decide +kernel)).use rfl) z1 z2 z4 ?_
      refine W.cs (cells' := 1) (slots' := 6) rfl rfl ?_
      refine lv_astore_n hx hb dL_plugPosition_11 rfl hl (Nat.le_of_ble_eq_true rfl) rfl (fun ls hl => ?_)
      have hl : lv_has ls 3 [(2, .ref q9), (0, .ref z0), (1, .ref w0)] := hl
      refine lv_iconst (v := 1) hx hb dL_plugPosition_12 (by decide) ?_
      have h := Option.some.inj h
      subst h
      refine W.widen (k := 1) (n := 6) (Nat.le_of_ble_eq_true rfl) (Nat.le_of_ble_eq_true rfl) ?_
      exact hend (adr []) _ _ _ _ _ _ _ rfl rfl (rtn_i _) hP hD hS dL_plugPosition_13
    · have h := ite_f c4 h
      exact nn h

noncomputable def SL_layTowel (N : Nat) (f : Nat → Int32) (v1 : Int32) (v2 : Int32) (g : Nat → Int32) (x1 : Int32) (x2 : Int32) (wo : Nat → Int64) : Option (Int32 × (Nat → Int32) × Int32 × Int32 × (Nat → Int32) × (Nat → Int64)) := bnd (SX5_layTowel N f v1 v2 g x1 x2) (fun o1 : Nat × Int32 × (Nat → Int32) × (Nat → Int32) × Int32 × Int32 => if o1.1 = 0 then (some ((0, o1.2.2.1, o1.2.2.2.2.1, o1.2.2.2.2.2, o1.2.2.2.1, vp_updL wo 0 o1.2.1.toInt64))) else (if o1.1 = 3 then (some ((1, o1.2.2.1, o1.2.2.2.2.1, o1.2.2.2.2.2, o1.2.2.2.1, wo))) else (if o1.1 = 1 then (some ((2, o1.2.2.1, o1.2.2.2.2.1, o1.2.2.2.2.2, o1.2.2.2.1, wo))) else (if o1.1 = 2 then (some ((3, o1.2.2.1, o1.2.2.2.2.1, o1.2.2.2.2.2, o1.2.2.2.1, wo))) else (none)))))
abbrev RM_L_layTowel : Room := { frames := 8, cells := 2, slots := 12, locals := 126 }
set_option maxHeartbeats 4000000 in
theorem kL_layTowel (l : Launch) (hst : l.stackTraces = false) (D : va_G) (cA : Nat → ClassId) (G : eG) (z0 a0 b0 h0 s0 l0 e0 k0 a1 a2 h1 h2 w0 : Nat) (N : Nat) (u7 : Int32) (u8 : Int32) (u9 : Int32) (f : Nat → Int32) (v1 : Int32) (v2 : Int32) (g : Nat → Int32) (x1 : Int32) (x2 : Int32) (wo : Nat → Int64) {r : Int32 × (Nat → Int32) × Int32 × Int32 × (Nat → Int32) × (Nat → Int64)} (hr : SL_layTowel N f v1 v2 g x1 x2 wo = some r) {sz : Nat} : Met l yL_layTowel wsL_layTowel RM_L_layTowel (va_Pc [.ref z0, .int x1, .int x2, .ref w0] (gqLB G D cA [(z0, .inr (9, [.ref a0, .ref b0, .ref h0, .ref s0, .ref l0, .ref e0, .ref k0, .int u7, .int u8, .int u9])), (a0, .inr (8, [.ref a1])), (a1, .inr (6, [.ref a2])), (a2, .inl (cA 0, 61, .inl f)), (h0, .inr (5, [.ref h1, .int v1, .int v2])), (h1, .inr (6, [.ref h2])), (h2, .inl (cA 0, 488, .inl g)), (w0, .inl (cA 3, 1, .inr (.inl wo)))] sz)) (gqQ D (fun as => (some (.int r.1))) (fun as => [(z0, .inr (9, [.ref a0, .ref b0, .ref h0, .ref s0, .ref l0, .ref e0, .ref k0, .int u7, .int u8, .int u9])), (a0, .inr (8, [.ref a1])), (a1, .inr (6, [.ref a2])), (a2, .inl (cA 0, 61, .inl r.2.1)), (h0, .inr (5, [.ref h1, .int r.2.2.1, .int r.2.2.2.1])), (h1, .inr (6, [.ref h2])), (h2, .inl (cA 0, 488, .inl r.2.2.2.2.1)), (w0, .inl (cA 3, 1, .inr (.inl r.2.2.2.2.2)))]) (va_A [(z0, .inr (9, [.ref a0, .ref b0, .ref h0, .ref s0, .ref l0, .ref e0, .ref k0, .int u7, .int u8, .int u9])), (a0, .inr (8, [.ref a1])), (a1, .inr (6, [.ref a2])), (a2, .inl (cA 0, 61, .inl f)), (h0, .inr (5, [.ref h1, .int v1, .int v2])), (h1, .inr (6, [.ref h2])), (h2, .inl (cA 0, 488, .inl g)), (w0, .inl (cA 3, 1, .inr (.inl wo)))] sz)) 2 12 (va_A [(z0, .inr (9, [.ref a0, .ref b0, .ref h0, .ref s0, .ref l0, .ref e0, .ref k0, .int u7, .int u8, .int u9])), (a0, .inr (8, [.ref a1])), (a1, .inr (6, [.ref a2])), (a2, .inl (cA 0, 61, .inl f)), (h0, .inr (5, [.ref h1, .int v1, .int v2])), (h1, .inr (6, [.ref h2])), (h2, .inl (cA 0, 488, .inl g)), (w0, .inl (cA 3, 1, .inr (.inl wo)))] sz) := by
  refine gqL_ofW (hh := [(0, 10, 13, 27), (0, 10, 17, 13), (0, 10, 21, 15)]) (cc := cL_layTowel) (maxL := 5) (ret := (some .int)) (by decide) rfl (Nat.le_of_ble_eq_true rfl) (fun p e s m args below meth c ls Q A hx hb hml hT9 hts hfc hK hP hD hS hA hEV hL9 hl hend => ?_)
  have hfc : s.vm.findClass RL = some m.cls := hfc
  have hl : lv_has ls 5 [(0, .ref z0), (1, .int x1), (2, .int x2), (3, .ref w0)] := hl
  have h := hr
  clear hr
  unfold SL_layTowel at h
  refine lv_aload_n hx hb dL_layTowel_0 rfl (lv_at hl 3 rfl) ?_
  refine lv_iconst (v := 0) hx hb dL_layTowel_1 (by decide) ?_
  refine lv_aload_n hx hb dL_layTowel_2 rfl (lv_at hl 0 rfl) ?_
  refine lv_iload_n hx hb dL_layTowel_3 rfl (lv_at hl 1 rfl) ?_
  refine lv_iload_n hx hb dL_layTowel_4 rfl (lv_at hl 2 rfl) ?_
  obtain ⟨o1, ho1, h⟩ := bnd_i h
  refine xq_V (G := G) (v := (fun as => (some (.int o1.2.1)))) (As := [.int x1, .int x2]) (rest := [.int 0, .ref w0]) (wc := [(z0, .inr (9, [.ref a0, .ref b0, .ref h0, .ref s0, .ref l0, .ref e0, .ref k0, .int u7, .int u8, .int u9])), (a0, .inr (8, [.ref a1])), (a1, .inr (6, [.ref a2])), (a2, .inl (cA 0, 61, .inl f)), (h0, .inr (5, [.ref h1, .int v1, .int v2])), (h1, .inr (6, [.ref h2])), (h2, .inl (cA 0, 488, .inl g))]) (wr := [(w0, .inl (cA 3, 1, .inr (.inl wo)))]) (w1 := (fun as => [(z0, .inr (9, [.ref a0, .ref b0, .ref h0, .ref s0, .ref l0, .ref e0, .ref k0, .int u7, .int u8, .int u9])), (a0, .inr (8, [.ref a1])), (a1, .inr (6, [.ref a2])), (a2, .inl (cA 0, 61, .inl o1.2.2.1)), (h0, .inr (5, [.ref h1, .int o1.2.2.2.2.1, .int o1.2.2.2.2.2])), (h1, .inr (6, [.ref h2])), (h2, .inl (cA 0, 488, .inl o1.2.2.2.1))])) (ws2 := (fun as => [(z0, .inr (9, [.ref a0, .ref b0, .ref h0, .ref s0, .ref l0, .ref e0, .ref k0, .int u7, .int u8, .int u9])), (a0, .inr (8, [.ref a1])), (a1, .inr (6, [.ref a2])), (a2, .inl (cA 0, 61, .inl o1.2.2.1)), (h0, .inr (5, [.ref h1, .int o1.2.2.2.2.1, .int o1.2.2.2.2.2])), (h1, .inr (6, [.ref h2])), (h2, .inl (cA 0, 488, .inl o1.2.2.2.1)), (w0, .inl (cA 3, 1, .inr (.inl wo)))])) (st1 := (fun as => [.int o1.2.1, .int 0, .ref w0])) ⟨hx, hb, hml, hfc, hts⟩ hK hP hD hS hA hEV (kX5_layTowel l hst D cA G z0 a0 b0 h0 s0 l0 e0 k0 a1 a2 h1 h2 N u7 u8 u9 f v1 v2 g x1 x2 ho1) (cwV 2 hts gL_layTowel_X5_layTowel rfl rfl rfl (by decide +kernel) ⟨(Nat.le_of_ble_eq_true rfl), (Nat.le_of_ble_eq_true rfl)⟩) [0, 1, 2, 3, 4, 5, 6] [7] [1, 2, 3, 4, 5, 6, 7, 0] rfl rfl rfl rfl (by decide) (fun _ => rfl) rfl 0 9 rfl rfl rfl rfl (fun _ => rfl) rfl hl.1 (Nat.le_of_ble_eq_true rfl) dL_layTowel_5 ⟨(Nat.le_of_ble_eq_true rfl), (Nat.le_of_ble_eq_true rfl)⟩ (fun c3 as2 H locs hP hD hS => ?_) (fun c3 as2 H locs q9 ce hP hD hS z1 z2 z3 => ?_)
  · have h := ite_t c3 h
    have hP : va_P D vwCl [(z0, .inr (9, [.ref a0, .ref b0, .ref h0, .ref s0, .ref l0, .ref e0, .ref k0, .int u7, .int u8, .int u9])), (a0, .inr (8, [.ref a1])), (a1, .inr (6, [.ref a2])), (a2, .inl (cA 0, 61, .inl o1.2.2.1)), (h0, .inr (5, [.ref h1, .int o1.2.2.2.2.1, .int o1.2.2.2.2.2])), (h1, .inr (6, [.ref h2])), (h2, .inl (cA 0, 488, .inl o1.2.2.2.1)), (w0, .inl (cA 3, 1, .inr (.inl wo)))] H := hP
    have hD : va_D A [(z0, .inr (9, [.ref a0, .ref b0, .ref h0, .ref s0, .ref l0, .ref e0, .ref k0, .int u7, .int u8, .int u9])), (a0, .inr (8, [.ref a1])), (a1, .inr (6, [.ref a2])), (a2, .inl (cA 0, 61, .inl o1.2.2.1)), (h0, .inr (5, [.ref h1, .int o1.2.2.2.2.1, .int o1.2.2.2.2.2])), (h1, .inr (6, [.ref h2])), (h2, .inl (cA 0, 488, .inl o1.2.2.2.1)), (w0, .inl (cA 3, 1, .inr (.inl wo)))] := hD
    refine W.cs (cells' := 2) (slots' := 12) rfl rfl ?_
    refine lv_i2l (v := o1.2.1.toInt64) hx hb dL_layTowel_8 rfl ?_
    refine va_last hx hb hK hP hD hS 7 3 rfl rfl (vin _ _ (by decide)) dL_layTowel_9 (fun H locs hP hD hS => ?_)
    have hP : va_P D vwCl [(z0, .inr (9, [.ref a0, .ref b0, .ref h0, .ref s0, .ref l0, .ref e0, .ref k0, .int u7, .int u8, .int u9])), (a0, .inr (8, [.ref a1])), (a1, .inr (6, [.ref a2])), (a2, .inl (cA 0, 61, .inl o1.2.2.1)), (h0, .inr (5, [.ref h1, .int o1.2.2.2.2.1, .int o1.2.2.2.2.2])), (h1, .inr (6, [.ref h2])), (h2, .inl (cA 0, 488, .inl o1.2.2.2.1)), (w0, .inl (cA 3, 1, .inr (.inl (vp_updL wo 0 o1.2.1.toInt64))))] H := hP
    have hD : va_D A [(z0, .inr (9, [.ref a0, .ref b0, .ref h0, .ref s0, .ref l0, .ref e0, .ref k0, .int u7, .int u8, .int u9])), (a0, .inr (8, [.ref a1])), (a1, .inr (6, [.ref a2])), (a2, .inl (cA 0, 61, .inl o1.2.2.1)), (h0, .inr (5, [.ref h1, .int o1.2.2.2.2.1, .int o1.2.2.2.2.2])), (h1, .inr (6, [.ref h2])), (h2, .inl (cA 0, 488, .inl o1.2.2.2.1)), (w0, .inl (cA 3, 1, .inr (.inl (vp_updL wo 0 o1.2.1.toInt64))))] := hD
    refine lv_goto (tgt := 25) hx hb dL_layTowel_10 (by decide) ?_
    refine lv_iconst (v := 0) hx hb dL_layTowel_25 (by decide) ?_
    have h := Option.some.inj h
    subst h
    refine W.widen (k := 2) (n := 12) (Nat.le_of_ble_eq_true rfl) (Nat.le_of_ble_eq_true rfl) ?_
    exact hend (adr []) _ _ _ _ _ _ _ rfl rfl (rtn_i _) hP hD hS dL_layTowel_26
  · have h := ite_f c3 h
    have hP : va_P D vwCl [(z0, .inr (9, [.ref a0, .ref b0, .ref h0, .ref s0, .ref l0, .ref e0, .ref k0, .int u7, .int u8, .int u9])), (a0, .inr (8, [.ref a1])), (a1, .inr (6, [.ref a2])), (a2, .inl (cA 0, 61, .inl o1.2.2.1)), (h0, .inr (5, [.ref h1, .int o1.2.2.2.2.1, .int o1.2.2.2.2.2])), (h1, .inr (6, [.ref h2])), (h2, .inl (cA 0, 488, .inl o1.2.2.2.1)), (w0, .inl (cA 3, 1, .inr (.inl wo)))] H := hP
    have hD : va_D A [(z0, .inr (9, [.ref a0, .ref b0, .ref h0, .ref s0, .ref l0, .ref e0, .ref k0, .int u7, .int u8, .int u9])), (a0, .inr (8, [.ref a1])), (a1, .inr (6, [.ref a2])), (a2, .inl (cA 0, 61, .inl o1.2.2.1)), (h0, .inr (5, [.ref h1, .int o1.2.2.2.2.1, .int o1.2.2.2.2.2])), (h1, .inr (6, [.ref h2])), (h2, .inl (cA 0, 488, .inl o1.2.2.2.1)), (w0, .inl (cA 3, 1, .inr (.inl wo)))] := hD
    by_cases c4 : o1.1 = 3
    · have h := ite_t c4 h
      have z4 : s.vm.findClass "java/lang/IndexOutOfBoundsException" = some ce.cls := by rw [c4] at z3; exact z3
      refine vx_catch (own := RL) (name := "java/lang/IndexOutOfBoundsException") (E := "java/lang/IndexOutOfBoundsException") hfc [] ⟨0, 10, 13, 27⟩ [⟨0, 10, 17, 13⟩, ⟨0, 10, 21, 15⟩] hT9 (fun z hz => absurd hz List.not_mem_nil) rfl (by decide) (hL9.link (List.mem_of_getElem? (i := 2) rfl)) ((hEV.1.2.2.2.2 "java/lang/IndexOutOfBoundsException" (by decide +kernel)).use rfl) z1 z2 z4 ?_
      refine W.cs (cells' := 2) (slots' := 12) rfl rfl ?_
      refine lv_astore hx hb dL_layTowel_13 hl (Nat.le_of_ble_eq_true rfl) rfl (fun ls hl => ?_)
      have hl : lv_has ls 5 [(4, .ref q9), (0, .ref z0), (1, .int x1), (2, .int x2), (3, .ref w0)] := hl
      refine lv_iconst (v := 1) hx hb dL_layTowel_15 (by decide) ?_
      have h := Option.some.inj h
      subst h
      refine W.widen (k := 2) (n := 12) (Nat.le_of_ble_eq_true rfl) (Nat.le_of_ble_eq_true rfl) ?_
      exact hend (adr []) _ _ _ _ _ _ _ rfl rfl (rtn_i _) hP hD hS dL_layTowel_16
    · have h := ite_f c4 h
      by_cases c5 : o1.1 = 1
      · have h := ite_t c5 h
        have z4 : s.vm.findClass "java/lang/IllegalArgumentException" = some ce.cls := by rw [c5] at z3; exact z3
        have hp9 : ∀ z ∈ ([⟨0, 10, 13, 27⟩] : List ExceptionTableEntry), covers z 5 = false ∨ (z.catchType ≠ 0 ∧ ∃ nm : String, (Cond.classLink RL z.catchType nm).before args s = true ∧ va_Nc "java/lang/IllegalArgumentException" nm s) := by
          intro z hz
          rcases List.mem_cons.mp hz with rfl | hz
          · exact Or.inr ⟨by decide, _, (hL9.link (List.mem_of_getElem? (i := 2) rfl)), hL9.1.2.1⟩
          exact absurd hz List.not_mem_nil
        refine vx_catch (own := RL) (name := "java/lang/IllegalArgumentException") (E := "java/lang/IllegalArgumentException") hfc [⟨0, 10, 13, 27⟩] ⟨0, 10, 17, 13⟩ [⟨0, 10, 21, 15⟩] hT9 hp9 rfl (by decide) (hL9.link (List.mem_of_getElem? (i := 0) rfl)) ((hEV.1.2.2.2.2 "java/lang/IllegalArgumentException" (by decide +kernel)).use rfl) z1 z2 z4 ?_
        refine W.cs (cells' := 2) (slots' := 12) rfl rfl ?_
        refine lv_astore hx hb dL_layTowel_17 hl (Nat.le_of_ble_eq_true rfl) rfl (fun ls hl => ?_)
        have hl : lv_has ls 5 [(4, .ref q9), (0, .ref z0), (1, .int x1), (2, .int x2), (3, .ref w0)] := hl
        refine lv_iconst (v := 2) hx hb dL_layTowel_19 (by decide) ?_
        have h := Option.some.inj h
        subst h
        refine W.widen (k := 2) (n := 12) (Nat.le_of_ble_eq_true rfl) (Nat.le_of_ble_eq_true rfl) ?_
        exact hend (adr []) _ _ _ _ _ _ _ rfl rfl (rtn_i _) hP hD hS dL_layTowel_20
      · have h := ite_f c5 h
        by_cases c6 : o1.1 = 2
        · have h := ite_t c6 h
          have z4 : s.vm.findClass "java/lang/IllegalStateException" = some ce.cls := by rw [c6] at z3; exact z3
          have hp9 : ∀ z ∈ ([⟨0, 10, 13, 27⟩, ⟨0, 10, 17, 13⟩] : List ExceptionTableEntry), covers z 5 = false ∨ (z.catchType ≠ 0 ∧ ∃ nm : String, (Cond.classLink RL z.catchType nm).before args s = true ∧ va_Nc "java/lang/IllegalStateException" nm s) := by
            intro z hz
            rcases List.mem_cons.mp hz with rfl | hz
            · exact Or.inr ⟨by decide, _, (hL9.link (List.mem_of_getElem? (i := 2) rfl)), hL9.1.2.2.1⟩
            rcases List.mem_cons.mp hz with rfl | hz
            · exact Or.inr ⟨by decide, _, (hL9.link (List.mem_of_getElem? (i := 0) rfl)), hL9.1.1⟩
            exact absurd hz List.not_mem_nil
          refine vx_catch (own := RL) (name := "java/lang/IllegalStateException") (E := "java/lang/IllegalStateException") hfc [⟨0, 10, 13, 27⟩, ⟨0, 10, 17, 13⟩] ⟨0, 10, 21, 15⟩ [] hT9 hp9 rfl (by decide) (hL9.link (List.mem_of_getElem? (i := 1) rfl)) ((hEV.1.2.2.2.2 "java/lang/IllegalStateException" (by decide +kernel)).use rfl) z1 z2 z4 ?_
          refine W.cs (cells' := 2) (slots' := 12) rfl rfl ?_
          refine lv_astore hx hb dL_layTowel_21 hl (Nat.le_of_ble_eq_true rfl) rfl (fun ls hl => ?_)
          have hl : lv_has ls 5 [(4, .ref q9), (0, .ref z0), (1, .int x1), (2, .int x2), (3, .ref w0)] := hl
          refine lv_iconst (v := 3) hx hb dL_layTowel_23 (by decide) ?_
          have h := Option.some.inj h
          subst h
          refine W.widen (k := 2) (n := 12) (Nat.le_of_ble_eq_true rfl) (Nat.le_of_ble_eq_true rfl) ?_
          exact hend (adr []) _ _ _ _ _ _ _ rfl rfl (rtn_i _) hP hD hS dL_layTowel_24
        · have h := ite_f c6 h
          exact nn h

noncomputable def SL_removeTowel (N : Nat) (f : Nat → Int32) (v1 : Int32) (v2 : Int32) (g : Nat → Int32) (x1 : Int32) (wo : Nat → Int64) : Option (Int32 × (Nat → Int32) × Int32 × Int32 × (Nat → Int32) × (Nat → Int64)) := bnd (SX5_removeTowel N f v1 v2 g x1) (fun o1 : Nat × Int32 × (Nat → Int32) × (Nat → Int32) × Int32 × Int32 => if o1.1 = 0 then (some ((0, o1.2.2.1, o1.2.2.2.2.1, o1.2.2.2.2.2, o1.2.2.2.1, vp_updL wo 0 o1.2.1.toInt64))) else (if o1.1 = 3 then (some ((1, o1.2.2.1, o1.2.2.2.2.1, o1.2.2.2.2.2, o1.2.2.2.1, wo))) else (none)))
abbrev RM_L_removeTowel : Room := { frames := 8, cells := 1, slots := 6, locals := 126 }
set_option maxHeartbeats 4000000 in
theorem kL_removeTowel (l : Launch) (hst : l.stackTraces = false) (D : va_G) (cA : Nat → ClassId) (G : eG) (z0 a0 b0 h0 s0 l0 e0 k0 a1 a2 h1 h2 w0 : Nat) (N : Nat) (u7 : Int32) (u8 : Int32) (u9 : Int32) (f : Nat → Int32) (v1 : Int32) (v2 : Int32) (g : Nat → Int32) (x1 : Int32) (wo : Nat → Int64) {r : Int32 × (Nat → Int32) × Int32 × Int32 × (Nat → Int32) × (Nat → Int64)} (hr : SL_removeTowel N f v1 v2 g x1 wo = some r) {sz : Nat} : Met l yL_removeTowel wsL_removeTowel RM_L_removeTowel (va_Pc [.ref z0, .int x1, .ref w0] (gqLB G D cA [(z0, .inr (9, [.ref a0, .ref b0, .ref h0, .ref s0, .ref l0, .ref e0, .ref k0, .int u7, .int u8, .int u9])), (a0, .inr (8, [.ref a1])), (a1, .inr (6, [.ref a2])), (a2, .inl (cA 0, 61, .inl f)), (h0, .inr (5, [.ref h1, .int v1, .int v2])), (h1, .inr (6, [.ref h2])), (h2, .inl (cA 0, 488, .inl g)), (w0, .inl (cA 3, 1, .inr (.inl wo)))] sz)) (gqQ D (fun as => (some (.int r.1))) (fun as => [(z0, .inr (9, [.ref a0, .ref b0, .ref h0, .ref s0, .ref l0, .ref e0, .ref k0, .int u7, .int u8, .int u9])), (a0, .inr (8, [.ref a1])), (a1, .inr (6, [.ref a2])), (a2, .inl (cA 0, 61, .inl r.2.1)), (h0, .inr (5, [.ref h1, .int r.2.2.1, .int r.2.2.2.1])), (h1, .inr (6, [.ref h2])), (h2, .inl (cA 0, 488, .inl r.2.2.2.2.1)), (w0, .inl (cA 3, 1, .inr (.inl r.2.2.2.2.2)))]) (va_A [(z0, .inr (9, [.ref a0, .ref b0, .ref h0, .ref s0, .ref l0, .ref e0, .ref k0, .int u7, .int u8, .int u9])), (a0, .inr (8, [.ref a1])), (a1, .inr (6, [.ref a2])), (a2, .inl (cA 0, 61, .inl f)), (h0, .inr (5, [.ref h1, .int v1, .int v2])), (h1, .inr (6, [.ref h2])), (h2, .inl (cA 0, 488, .inl g)), (w0, .inl (cA 3, 1, .inr (.inl wo)))] sz)) 1 6 (va_A [(z0, .inr (9, [.ref a0, .ref b0, .ref h0, .ref s0, .ref l0, .ref e0, .ref k0, .int u7, .int u8, .int u9])), (a0, .inr (8, [.ref a1])), (a1, .inr (6, [.ref a2])), (a2, .inl (cA 0, 61, .inl f)), (h0, .inr (5, [.ref h1, .int v1, .int v2])), (h1, .inr (6, [.ref h2])), (h2, .inl (cA 0, 488, .inl g)), (w0, .inl (cA 3, 1, .inr (.inl wo)))] sz) := by
  refine gqL_ofW (hh := [(0, 9, 12, 27)]) (cc := cL_removeTowel) (maxL := 4) (ret := (some .int)) (by decide) rfl (Nat.le_of_ble_eq_true rfl) (fun p e s m args below meth c ls Q A hx hb hml hT9 hts hfc hK hP hD hS hA hEV hL9 hl hend => ?_)
  have hfc : s.vm.findClass RL = some m.cls := hfc
  have hl : lv_has ls 4 [(0, .ref z0), (1, .int x1), (2, .ref w0)] := hl
  have h := hr
  clear hr
  unfold SL_removeTowel at h
  refine lv_aload_n hx hb dL_removeTowel_0 rfl (lv_at hl 2 rfl) ?_
  refine lv_iconst (v := 0) hx hb dL_removeTowel_1 (by decide) ?_
  refine lv_aload_n hx hb dL_removeTowel_2 rfl (lv_at hl 0 rfl) ?_
  refine lv_iload_n hx hb dL_removeTowel_3 rfl (lv_at hl 1 rfl) ?_
  obtain ⟨o1, ho1, h⟩ := bnd_i h
  refine xq_V (G := G) (v := (fun as => (some (.int o1.2.1)))) (As := [.int x1]) (rest := [.int 0, .ref w0]) (wc := [(z0, .inr (9, [.ref a0, .ref b0, .ref h0, .ref s0, .ref l0, .ref e0, .ref k0, .int u7, .int u8, .int u9])), (a0, .inr (8, [.ref a1])), (a1, .inr (6, [.ref a2])), (a2, .inl (cA 0, 61, .inl f)), (h0, .inr (5, [.ref h1, .int v1, .int v2])), (h1, .inr (6, [.ref h2])), (h2, .inl (cA 0, 488, .inl g))]) (wr := [(w0, .inl (cA 3, 1, .inr (.inl wo)))]) (w1 := (fun as => [(z0, .inr (9, [.ref a0, .ref b0, .ref h0, .ref s0, .ref l0, .ref e0, .ref k0, .int u7, .int u8, .int u9])), (a0, .inr (8, [.ref a1])), (a1, .inr (6, [.ref a2])), (a2, .inl (cA 0, 61, .inl o1.2.2.1)), (h0, .inr (5, [.ref h1, .int o1.2.2.2.2.1, .int o1.2.2.2.2.2])), (h1, .inr (6, [.ref h2])), (h2, .inl (cA 0, 488, .inl o1.2.2.2.1))])) (ws2 := (fun as => [(z0, .inr (9, [.ref a0, .ref b0, .ref h0, .ref s0, .ref l0, .ref e0, .ref k0, .int u7, .int u8, .int u9])), (a0, .inr (8, [.ref a1])), (a1, .inr (6, [.ref a2])), (a2, .inl (cA 0, 61, .inl o1.2.2.1)), (h0, .inr (5, [.ref h1, .int o1.2.2.2.2.1, .int o1.2.2.2.2.2])), (h1, .inr (6, [.ref h2])), (h2, .inl (cA 0, 488, .inl o1.2.2.2.1)), (w0, .inl (cA 3, 1, .inr (.inl wo)))])) (st1 := (fun as => [.int o1.2.1, .int 0, .ref w0])) ⟨hx, hb, hml, hfc, hts⟩ hK hP hD hS hA hEV (kX5_removeTowel l hst D cA G z0 a0 b0 h0 s0 l0 e0 k0 a1 a2 h1 h2 N u7 u8 u9 f v1 v2 g x1 ho1) (cwV 1 hts gL_removeTowel_X5_removeTowel rfl rfl rfl (by decide +kernel) ⟨(Nat.le_of_ble_eq_true rfl), (Nat.le_of_ble_eq_true rfl)⟩) [0, 1, 2, 3, 4, 5, 6] [7] [1, 2, 3, 4, 5, 6, 7, 0] rfl rfl rfl rfl (by decide) (fun _ => rfl) rfl 0 9 rfl rfl rfl rfl (fun _ => rfl) rfl hl.1 (Nat.le_of_ble_eq_true rfl) dL_removeTowel_4 ⟨(Nat.le_of_ble_eq_true rfl), (Nat.le_of_ble_eq_true rfl)⟩ (fun c3 as2 H locs hP hD hS => ?_) (fun c3 as2 H locs q9 ce hP hD hS z1 z2 z3 => ?_)
  · have h := ite_t c3 h
    have hP : va_P D vwCl [(z0, .inr (9, [.ref a0, .ref b0, .ref h0, .ref s0, .ref l0, .ref e0, .ref k0, .int u7, .int u8, .int u9])), (a0, .inr (8, [.ref a1])), (a1, .inr (6, [.ref a2])), (a2, .inl (cA 0, 61, .inl o1.2.2.1)), (h0, .inr (5, [.ref h1, .int o1.2.2.2.2.1, .int o1.2.2.2.2.2])), (h1, .inr (6, [.ref h2])), (h2, .inl (cA 0, 488, .inl o1.2.2.2.1)), (w0, .inl (cA 3, 1, .inr (.inl wo)))] H := hP
    have hD : va_D A [(z0, .inr (9, [.ref a0, .ref b0, .ref h0, .ref s0, .ref l0, .ref e0, .ref k0, .int u7, .int u8, .int u9])), (a0, .inr (8, [.ref a1])), (a1, .inr (6, [.ref a2])), (a2, .inl (cA 0, 61, .inl o1.2.2.1)), (h0, .inr (5, [.ref h1, .int o1.2.2.2.2.1, .int o1.2.2.2.2.2])), (h1, .inr (6, [.ref h2])), (h2, .inl (cA 0, 488, .inl o1.2.2.2.1)), (w0, .inl (cA 3, 1, .inr (.inl wo)))] := hD
    refine W.cs (cells' := 1) (slots' := 6) rfl rfl ?_
    refine lv_i2l (v := o1.2.1.toInt64) hx hb dL_removeTowel_7 rfl ?_
    refine va_last hx hb hK hP hD hS 7 3 rfl rfl (vin _ _ (by decide)) dL_removeTowel_8 (fun H locs hP hD hS => ?_)
    have hP : va_P D vwCl [(z0, .inr (9, [.ref a0, .ref b0, .ref h0, .ref s0, .ref l0, .ref e0, .ref k0, .int u7, .int u8, .int u9])), (a0, .inr (8, [.ref a1])), (a1, .inr (6, [.ref a2])), (a2, .inl (cA 0, 61, .inl o1.2.2.1)), (h0, .inr (5, [.ref h1, .int o1.2.2.2.2.1, .int o1.2.2.2.2.2])), (h1, .inr (6, [.ref h2])), (h2, .inl (cA 0, 488, .inl o1.2.2.2.1)), (w0, .inl (cA 3, 1, .inr (.inl (vp_updL wo 0 o1.2.1.toInt64))))] H := hP
    have hD : va_D A [(z0, .inr (9, [.ref a0, .ref b0, .ref h0, .ref s0, .ref l0, .ref e0, .ref k0, .int u7, .int u8, .int u9])), (a0, .inr (8, [.ref a1])), (a1, .inr (6, [.ref a2])), (a2, .inl (cA 0, 61, .inl o1.2.2.1)), (h0, .inr (5, [.ref h1, .int o1.2.2.2.2.1, .int o1.2.2.2.2.2])), (h1, .inr (6, [.ref h2])), (h2, .inl (cA 0, 488, .inl o1.2.2.2.1)), (w0, .inl (cA 3, 1, .inr (.inl (vp_updL wo 0 o1.2.1.toInt64))))] := hD
    refine lv_goto (tgt := 15) hx hb dL_removeTowel_9 (by decide) ?_
    refine lv_iconst (v := 0) hx hb dL_removeTowel_15 (by decide) ?_
    have h := Option.some.inj h
    subst h
    refine W.widen (k := 1) (n := 6) (Nat.le_of_ble_eq_true rfl) (Nat.le_of_ble_eq_true rfl) ?_
    exact hend (adr []) _ _ _ _ _ _ _ rfl rfl (rtn_i _) hP hD hS dL_removeTowel_16
  · have h := ite_f c3 h
    have hP : va_P D vwCl [(z0, .inr (9, [.ref a0, .ref b0, .ref h0, .ref s0, .ref l0, .ref e0, .ref k0, .int u7, .int u8, .int u9])), (a0, .inr (8, [.ref a1])), (a1, .inr (6, [.ref a2])), (a2, .inl (cA 0, 61, .inl o1.2.2.1)), (h0, .inr (5, [.ref h1, .int o1.2.2.2.2.1, .int o1.2.2.2.2.2])), (h1, .inr (6, [.ref h2])), (h2, .inl (cA 0, 488, .inl o1.2.2.2.1)), (w0, .inl (cA 3, 1, .inr (.inl wo)))] H := hP
    have hD : va_D A [(z0, .inr (9, [.ref a0, .ref b0, .ref h0, .ref s0, .ref l0, .ref e0, .ref k0, .int u7, .int u8, .int u9])), (a0, .inr (8, [.ref a1])), (a1, .inr (6, [.ref a2])), (a2, .inl (cA 0, 61, .inl o1.2.2.1)), (h0, .inr (5, [.ref h1, .int o1.2.2.2.2.1, .int o1.2.2.2.2.2])), (h1, .inr (6, [.ref h2])), (h2, .inl (cA 0, 488, .inl o1.2.2.2.1)), (w0, .inl (cA 3, 1, .inr (.inl wo)))] := hD
    by_cases c4 : o1.1 = 3
    · have h := ite_t c4 h
      have z4 : s.vm.findClass "java/lang/IndexOutOfBoundsException" = some ce.cls := by rw [c4] at z3; exact z3
      refine vx_catch (own := RL) (name := "java/lang/IndexOutOfBoundsException") (E := "java/lang/IndexOutOfBoundsException") hfc [] ⟨0, 9, 12, 27⟩ [] hT9 (fun z hz => absurd hz List.not_mem_nil) rfl (by decide) (hL9.link (List.mem_of_getElem? (i := 2) rfl)) ((hEV.1.2.2.2.2 "java/lang/IndexOutOfBoundsException" (by decide +kernel)).use rfl) z1 z2 z4 ?_
      refine W.cs (cells' := 1) (slots' := 6) rfl rfl ?_
      refine lv_astore_n hx hb dL_removeTowel_12 rfl hl (Nat.le_of_ble_eq_true rfl) rfl (fun ls hl => ?_)
      have hl : lv_has ls 4 [(3, .ref q9), (0, .ref z0), (1, .int x1), (2, .ref w0)] := hl
      refine lv_iconst (v := 1) hx hb dL_removeTowel_13 (by decide) ?_
      have h := Option.some.inj h
      subst h
      refine W.widen (k := 1) (n := 6) (Nat.le_of_ble_eq_true rfl) (Nat.le_of_ble_eq_true rfl) ?_
      exact hend (adr []) _ _ _ _ _ _ _ rfl rfl (rtn_i _) hP hD hS dL_removeTowel_14
    · have h := ite_f c4 h
      exact nn h

noncomputable def SL_wringTowel (N : Nat) (f : Nat → Int32) (v1 : Int32) (v2 : Int32) (g : Nat → Int32) (x1 : Int32) (wo : Nat → Int64) : Option (Int32 × (Nat → Int32) × Int32 × Int32 × (Nat → Int32) × (Nat → Int64)) := bnd (SX5_wringTowel N f v1 v2 g x1) (fun o1 : Nat × Int32 × (Nat → Int32) × (Nat → Int32) × Int32 × Int32 => if o1.1 = 0 then (some ((0, o1.2.2.1, o1.2.2.2.2.1, o1.2.2.2.2.2, o1.2.2.2.1, vp_updL wo 0 o1.2.1.toInt64))) else (if o1.1 = 3 then (some ((1, o1.2.2.1, o1.2.2.2.2.1, o1.2.2.2.2.2, o1.2.2.2.1, wo))) else (none)))
abbrev RM_L_wringTowel : Room := { frames := 8, cells := 1, slots := 6, locals := 126 }
set_option maxHeartbeats 4000000 in
theorem kL_wringTowel (l : Launch) (hst : l.stackTraces = false) (D : va_G) (cA : Nat → ClassId) (G : eG) (z0 a0 b0 h0 s0 l0 e0 k0 a1 a2 h1 h2 w0 : Nat) (N : Nat) (u7 : Int32) (u8 : Int32) (u9 : Int32) (f : Nat → Int32) (v1 : Int32) (v2 : Int32) (g : Nat → Int32) (x1 : Int32) (wo : Nat → Int64) {r : Int32 × (Nat → Int32) × Int32 × Int32 × (Nat → Int32) × (Nat → Int64)} (hr : SL_wringTowel N f v1 v2 g x1 wo = some r) {sz : Nat} : Met l yL_wringTowel wsL_wringTowel RM_L_wringTowel (va_Pc [.ref z0, .int x1, .ref w0] (gqLB G D cA [(z0, .inr (9, [.ref a0, .ref b0, .ref h0, .ref s0, .ref l0, .ref e0, .ref k0, .int u7, .int u8, .int u9])), (a0, .inr (8, [.ref a1])), (a1, .inr (6, [.ref a2])), (a2, .inl (cA 0, 61, .inl f)), (h0, .inr (5, [.ref h1, .int v1, .int v2])), (h1, .inr (6, [.ref h2])), (h2, .inl (cA 0, 488, .inl g)), (w0, .inl (cA 3, 1, .inr (.inl wo)))] sz)) (gqQ D (fun as => (some (.int r.1))) (fun as => [(z0, .inr (9, [.ref a0, .ref b0, .ref h0, .ref s0, .ref l0, .ref e0, .ref k0, .int u7, .int u8, .int u9])), (a0, .inr (8, [.ref a1])), (a1, .inr (6, [.ref a2])), (a2, .inl (cA 0, 61, .inl r.2.1)), (h0, .inr (5, [.ref h1, .int r.2.2.1, .int r.2.2.2.1])), (h1, .inr (6, [.ref h2])), (h2, .inl (cA 0, 488, .inl r.2.2.2.2.1)), (w0, .inl (cA 3, 1, .inr (.inl r.2.2.2.2.2)))]) (va_A [(z0, .inr (9, [.ref a0, .ref b0, .ref h0, .ref s0, .ref l0, .ref e0, .ref k0, .int u7, .int u8, .int u9])), (a0, .inr (8, [.ref a1])), (a1, .inr (6, [.ref a2])), (a2, .inl (cA 0, 61, .inl f)), (h0, .inr (5, [.ref h1, .int v1, .int v2])), (h1, .inr (6, [.ref h2])), (h2, .inl (cA 0, 488, .inl g)), (w0, .inl (cA 3, 1, .inr (.inl wo)))] sz)) 1 6 (va_A [(z0, .inr (9, [.ref a0, .ref b0, .ref h0, .ref s0, .ref l0, .ref e0, .ref k0, .int u7, .int u8, .int u9])), (a0, .inr (8, [.ref a1])), (a1, .inr (6, [.ref a2])), (a2, .inl (cA 0, 61, .inl f)), (h0, .inr (5, [.ref h1, .int v1, .int v2])), (h1, .inr (6, [.ref h2])), (h2, .inl (cA 0, 488, .inl g)), (w0, .inl (cA 3, 1, .inr (.inl wo)))] sz) := by
  refine gqL_ofW (hh := [(0, 9, 12, 27)]) (cc := cL_wringTowel) (maxL := 4) (ret := (some .int)) (by decide) rfl (Nat.le_of_ble_eq_true rfl) (fun p e s m args below meth c ls Q A hx hb hml hT9 hts hfc hK hP hD hS hA hEV hL9 hl hend => ?_)
  have hfc : s.vm.findClass RL = some m.cls := hfc
  have hl : lv_has ls 4 [(0, .ref z0), (1, .int x1), (2, .ref w0)] := hl
  have h := hr
  clear hr
  unfold SL_wringTowel at h
  refine lv_aload_n hx hb dL_wringTowel_0 rfl (lv_at hl 2 rfl) ?_
  refine lv_iconst (v := 0) hx hb dL_wringTowel_1 (by decide) ?_
  refine lv_aload_n hx hb dL_wringTowel_2 rfl (lv_at hl 0 rfl) ?_
  refine lv_iload_n hx hb dL_wringTowel_3 rfl (lv_at hl 1 rfl) ?_
  obtain ⟨o1, ho1, h⟩ := bnd_i h
  refine xq_V (G := G) (v := (fun as => (some (.int o1.2.1)))) (As := [.int x1]) (rest := [.int 0, .ref w0]) (wc := [(z0, .inr (9, [.ref a0, .ref b0, .ref h0, .ref s0, .ref l0, .ref e0, .ref k0, .int u7, .int u8, .int u9])), (a0, .inr (8, [.ref a1])), (a1, .inr (6, [.ref a2])), (a2, .inl (cA 0, 61, .inl f)), (h0, .inr (5, [.ref h1, .int v1, .int v2])), (h1, .inr (6, [.ref h2])), (h2, .inl (cA 0, 488, .inl g))]) (wr := [(w0, .inl (cA 3, 1, .inr (.inl wo)))]) (w1 := (fun as => [(z0, .inr (9, [.ref a0, .ref b0, .ref h0, .ref s0, .ref l0, .ref e0, .ref k0, .int u7, .int u8, .int u9])), (a0, .inr (8, [.ref a1])), (a1, .inr (6, [.ref a2])), (a2, .inl (cA 0, 61, .inl o1.2.2.1)), (h0, .inr (5, [.ref h1, .int o1.2.2.2.2.1, .int o1.2.2.2.2.2])), (h1, .inr (6, [.ref h2])), (h2, .inl (cA 0, 488, .inl o1.2.2.2.1))])) (ws2 := (fun as => [(z0, .inr (9, [.ref a0, .ref b0, .ref h0, .ref s0, .ref l0, .ref e0, .ref k0, .int u7, .int u8, .int u9])), (a0, .inr (8, [.ref a1])), (a1, .inr (6, [.ref a2])), (a2, .inl (cA 0, 61, .inl o1.2.2.1)), (h0, .inr (5, [.ref h1, .int o1.2.2.2.2.1, .int o1.2.2.2.2.2])), (h1, .inr (6, [.ref h2])), (h2, .inl (cA 0, 488, .inl o1.2.2.2.1)), (w0, .inl (cA 3, 1, .inr (.inl wo)))])) (st1 := (fun as => [.int o1.2.1, .int 0, .ref w0])) ⟨hx, hb, hml, hfc, hts⟩ hK hP hD hS hA hEV (kX5_wringTowel l hst D cA G z0 a0 b0 h0 s0 l0 e0 k0 a1 a2 h1 h2 N u7 u8 u9 f v1 v2 g x1 ho1) (cwV 1 hts gL_wringTowel_X5_wringTowel rfl rfl rfl (by decide +kernel) ⟨(Nat.le_of_ble_eq_true rfl), (Nat.le_of_ble_eq_true rfl)⟩) [0, 1, 2, 3, 4, 5, 6] [7] [1, 2, 3, 4, 5, 6, 7, 0] rfl rfl rfl rfl (by decide) (fun _ => rfl) rfl 0 9 rfl rfl rfl rfl (fun _ => rfl) rfl hl.1 (Nat.le_of_ble_eq_true rfl) dL_wringTowel_4 ⟨(Nat.le_of_ble_eq_true rfl), (Nat.le_of_ble_eq_true rfl)⟩ (fun c3 as2 H locs hP hD hS => ?_) (fun c3 as2 H locs q9 ce hP hD hS z1 z2 z3 => ?_)
  · have h := ite_t c3 h
    have hP : va_P D vwCl [(z0, .inr (9, [.ref a0, .ref b0, .ref h0, .ref s0, .ref l0, .ref e0, .ref k0, .int u7, .int u8, .int u9])), (a0, .inr (8, [.ref a1])), (a1, .inr (6, [.ref a2])), (a2, .inl (cA 0, 61, .inl o1.2.2.1)), (h0, .inr (5, [.ref h1, .int o1.2.2.2.2.1, .int o1.2.2.2.2.2])), (h1, .inr (6, [.ref h2])), (h2, .inl (cA 0, 488, .inl o1.2.2.2.1)), (w0, .inl (cA 3, 1, .inr (.inl wo)))] H := hP
    have hD : va_D A [(z0, .inr (9, [.ref a0, .ref b0, .ref h0, .ref s0, .ref l0, .ref e0, .ref k0, .int u7, .int u8, .int u9])), (a0, .inr (8, [.ref a1])), (a1, .inr (6, [.ref a2])), (a2, .inl (cA 0, 61, .inl o1.2.2.1)), (h0, .inr (5, [.ref h1, .int o1.2.2.2.2.1, .int o1.2.2.2.2.2])), (h1, .inr (6, [.ref h2])), (h2, .inl (cA 0, 488, .inl o1.2.2.2.1)), (w0, .inl (cA 3, 1, .inr (.inl wo)))] := hD
    refine W.cs (cells' := 1) (slots' := 6) rfl rfl ?_
    refine lv_i2l (v := o1.2.1.toInt64) hx hb dL_wringTowel_7 rfl ?_
    refine va_last hx hb hK hP hD hS 7 3 rfl rfl (vin _ _ (by decide)) dL_wringTowel_8 (fun H locs hP hD hS => ?_)
    have hP : va_P D vwCl [(z0, .inr (9, [.ref a0, .ref b0, .ref h0, .ref s0, .ref l0, .ref e0, .ref k0, .int u7, .int u8, .int u9])), (a0, .inr (8, [.ref a1])), (a1, .inr (6, [.ref a2])), (a2, .inl (cA 0, 61, .inl o1.2.2.1)), (h0, .inr (5, [.ref h1, .int o1.2.2.2.2.1, .int o1.2.2.2.2.2])), (h1, .inr (6, [.ref h2])), (h2, .inl (cA 0, 488, .inl o1.2.2.2.1)), (w0, .inl (cA 3, 1, .inr (.inl (vp_updL wo 0 o1.2.1.toInt64))))] H := hP
    have hD : va_D A [(z0, .inr (9, [.ref a0, .ref b0, .ref h0, .ref s0, .ref l0, .ref e0, .ref k0, .int u7, .int u8, .int u9])), (a0, .inr (8, [.ref a1])), (a1, .inr (6, [.ref a2])), (a2, .inl (cA 0, 61, .inl o1.2.2.1)), (h0, .inr (5, [.ref h1, .int o1.2.2.2.2.1, .int o1.2.2.2.2.2])), (h1, .inr (6, [.ref h2])), (h2, .inl (cA 0, 488, .inl o1.2.2.2.1)), (w0, .inl (cA 3, 1, .inr (.inl (vp_updL wo 0 o1.2.1.toInt64))))] := hD
    refine lv_goto (tgt := 15) hx hb dL_wringTowel_9 (by decide) ?_
    refine lv_iconst (v := 0) hx hb dL_wringTowel_15 (by decide) ?_
    have h := Option.some.inj h
    subst h
    refine W.widen (k := 1) (n := 6) (Nat.le_of_ble_eq_true rfl) (Nat.le_of_ble_eq_true rfl) ?_
    exact hend (adr []) _ _ _ _ _ _ _ rfl rfl (rtn_i _) hP hD hS dL_wringTowel_16
  · have h := ite_f c3 h
    have hP : va_P D vwCl [(z0, .inr (9, [.ref a0, .ref b0, .ref h0, .ref s0, .ref l0, .ref e0, .ref k0, .int u7, .int u8, .int u9])), (a0, .inr (8, [.ref a1])), (a1, .inr (6, [.ref a2])), (a2, .inl (cA 0, 61, .inl o1.2.2.1)), (h0, .inr (5, [.ref h1, .int o1.2.2.2.2.1, .int o1.2.2.2.2.2])), (h1, .inr (6, [.ref h2])), (h2, .inl (cA 0, 488, .inl o1.2.2.2.1)), (w0, .inl (cA 3, 1, .inr (.inl wo)))] H := hP
    have hD : va_D A [(z0, .inr (9, [.ref a0, .ref b0, .ref h0, .ref s0, .ref l0, .ref e0, .ref k0, .int u7, .int u8, .int u9])), (a0, .inr (8, [.ref a1])), (a1, .inr (6, [.ref a2])), (a2, .inl (cA 0, 61, .inl o1.2.2.1)), (h0, .inr (5, [.ref h1, .int o1.2.2.2.2.1, .int o1.2.2.2.2.2])), (h1, .inr (6, [.ref h2])), (h2, .inl (cA 0, 488, .inl o1.2.2.2.1)), (w0, .inl (cA 3, 1, .inr (.inl wo)))] := hD
    by_cases c4 : o1.1 = 3
    · have h := ite_t c4 h
      have z4 : s.vm.findClass "java/lang/IndexOutOfBoundsException" = some ce.cls := by rw [c4] at z3; exact z3
      refine vx_catch (own := RL) (name := "java/lang/IndexOutOfBoundsException") (E := "java/lang/IndexOutOfBoundsException") hfc [] ⟨0, 9, 12, 27⟩ [] hT9 (fun z hz => absurd hz List.not_mem_nil) rfl (by decide) (hL9.link (List.mem_of_getElem? (i := 2) rfl)) ((hEV.1.2.2.2.2 "java/lang/IndexOutOfBoundsException" (by decide +kernel)).use rfl) z1 z2 z4 ?_
      refine W.cs (cells' := 1) (slots' := 6) rfl rfl ?_
      refine lv_astore_n hx hb dL_wringTowel_12 rfl hl (Nat.le_of_ble_eq_true rfl) rfl (fun ls hl => ?_)
      have hl : lv_has ls 4 [(3, .ref q9), (0, .ref z0), (1, .int x1), (2, .ref w0)] := hl
      refine lv_iconst (v := 1) hx hb dL_wringTowel_13 (by decide) ?_
      have h := Option.some.inj h
      subst h
      refine W.widen (k := 1) (n := 6) (Nat.le_of_ble_eq_true rfl) (Nat.le_of_ble_eq_true rfl) ?_
      exact hend (adr []) _ _ _ _ _ _ _ rfl rfl (rtn_i _) hP hD hS dL_wringTowel_14
    · have h := ite_f c4 h
      exact nn h

noncomputable def SL_shoreOf (f : Nat → Int32) (x1 : Int32) (wo : Nat → Int64) : Option (Int32 × (Nat → Int64)) := lt_ (SX5_shoreOf f x1) (fun o1 : Nat × Int32 => if o1.1 = 0 then (some ((0, vp_updL wo 0 o1.2.toInt64))) else (if o1.1 = 3 then (some ((1, wo))) else (none)))
abbrev RM_L_shoreOf : Room := { frames := 8, cells := 1, slots := 6, locals := 126 }
set_option maxHeartbeats 4000000 in
theorem kL_shoreOf (l : Launch) (hst : l.stackTraces = false) (D : va_G) (cA : Nat → ClassId) (G : eG) (z0 a0 b0 h0 s0 l0 e0 k0 a1 a2 w0 : Nat) (u7 : Int32) (u8 : Int32) (u9 : Int32) (f : Nat → Int32) (x1 : Int32) (wo : Nat → Int64) {r : Int32 × (Nat → Int64)} (hr : SL_shoreOf f x1 wo = some r) {sz : Nat} : Met l yL_shoreOf wsL_shoreOf RM_L_shoreOf (va_Pc [.ref z0, .int x1, .ref w0] (gqLB G D cA [(z0, .inr (9, [.ref a0, .ref b0, .ref h0, .ref s0, .ref l0, .ref e0, .ref k0, .int u7, .int u8, .int u9])), (a0, .inr (8, [.ref a1])), (a1, .inr (6, [.ref a2])), (a2, .inl (cA 0, 61, .inl f)), (w0, .inl (cA 3, 1, .inr (.inl wo)))] sz)) (gqQ D (fun as => (some (.int r.1))) (fun as => [(z0, .inr (9, [.ref a0, .ref b0, .ref h0, .ref s0, .ref l0, .ref e0, .ref k0, .int u7, .int u8, .int u9])), (a0, .inr (8, [.ref a1])), (a1, .inr (6, [.ref a2])), (a2, .inl (cA 0, 61, .inl f)), (w0, .inl (cA 3, 1, .inr (.inl r.2)))]) (va_A [(z0, .inr (9, [.ref a0, .ref b0, .ref h0, .ref s0, .ref l0, .ref e0, .ref k0, .int u7, .int u8, .int u9])), (a0, .inr (8, [.ref a1])), (a1, .inr (6, [.ref a2])), (a2, .inl (cA 0, 61, .inl f)), (w0, .inl (cA 3, 1, .inr (.inl wo)))] sz)) 1 6 (va_A [(z0, .inr (9, [.ref a0, .ref b0, .ref h0, .ref s0, .ref l0, .ref e0, .ref k0, .int u7, .int u8, .int u9])), (a0, .inr (8, [.ref a1])), (a1, .inr (6, [.ref a2])), (a2, .inl (cA 0, 61, .inl f)), (w0, .inl (cA 3, 1, .inr (.inl wo)))] sz) := by
  refine gqL_ofW (hh := [(0, 9, 12, 27)]) (cc := cL_shoreOf) (maxL := 4) (ret := (some .int)) (by decide) rfl (Nat.le_of_ble_eq_true rfl) (fun p e s m args below meth c ls Q A hx hb hml hT9 hts hfc hK hP hD hS hA hEV hL9 hl hend => ?_)
  have hfc : s.vm.findClass RL = some m.cls := hfc
  have hl : lv_has ls 4 [(0, .ref z0), (1, .int x1), (2, .ref w0)] := hl
  have h := hr
  clear hr
  unfold SL_shoreOf at h
  refine lv_aload_n hx hb dL_shoreOf_0 rfl (lv_at hl 2 rfl) ?_
  refine lv_iconst (v := 0) hx hb dL_shoreOf_1 (by decide) ?_
  refine lv_aload_n hx hb dL_shoreOf_2 rfl (lv_at hl 0 rfl) ?_
  refine lv_iload_n hx hb dL_shoreOf_3 rfl (lv_at hl 1 rfl) ?_
  obtain ⟨o1, ho1, h⟩ := lt_i h
  refine xq_V (G := G) (v := (fun as => (some (.int o1.2)))) (As := [.int x1]) (rest := [.int 0, .ref w0]) (wc := [(z0, .inr (9, [.ref a0, .ref b0, .ref h0, .ref s0, .ref l0, .ref e0, .ref k0, .int u7, .int u8, .int u9])), (a0, .inr (8, [.ref a1])), (a1, .inr (6, [.ref a2])), (a2, .inl (cA 0, 61, .inl f))]) (wr := [(w0, .inl (cA 3, 1, .inr (.inl wo)))]) (w1 := (fun as => [(z0, .inr (9, [.ref a0, .ref b0, .ref h0, .ref s0, .ref l0, .ref e0, .ref k0, .int u7, .int u8, .int u9])), (a0, .inr (8, [.ref a1])), (a1, .inr (6, [.ref a2])), (a2, .inl (cA 0, 61, .inl f))])) (ws2 := (fun as => [(z0, .inr (9, [.ref a0, .ref b0, .ref h0, .ref s0, .ref l0, .ref e0, .ref k0, .int u7, .int u8, .int u9])), (a0, .inr (8, [.ref a1])), (a1, .inr (6, [.ref a2])), (a2, .inl (cA 0, 61, .inl f)), (w0, .inl (cA 3, 1, .inr (.inl wo)))])) (st1 := (fun as => [.int o1.2, .int 0, .ref w0])) ⟨hx, hb, hml, hfc, hts⟩ hK hP hD hS hA hEV (kX5_shoreOf l hst D cA G z0 a0 b0 h0 s0 l0 e0 k0 a1 a2 u7 u8 u9 f x1 ho1) (cwV 1 hts gL_shoreOf_X5_shoreOf rfl rfl rfl (by decide +kernel) ⟨(Nat.le_of_ble_eq_true rfl), (Nat.le_of_ble_eq_true rfl)⟩) [0, 1, 2, 3] [4] [1, 2, 3, 4, 0] rfl rfl rfl rfl (by decide) (fun _ => rfl) rfl 0 9 rfl rfl rfl rfl (fun _ => rfl) rfl hl.1 (Nat.le_of_ble_eq_true rfl) dL_shoreOf_4 ⟨(Nat.le_of_ble_eq_true rfl), (Nat.le_of_ble_eq_true rfl)⟩ (fun c3 as2 H locs hP hD hS => ?_) (fun c3 as2 H locs q9 ce hP hD hS z1 z2 z3 => ?_)
  · have h := ite_t c3 h
    have hP : va_P D vwCl [(z0, .inr (9, [.ref a0, .ref b0, .ref h0, .ref s0, .ref l0, .ref e0, .ref k0, .int u7, .int u8, .int u9])), (a0, .inr (8, [.ref a1])), (a1, .inr (6, [.ref a2])), (a2, .inl (cA 0, 61, .inl f)), (w0, .inl (cA 3, 1, .inr (.inl wo)))] H := hP
    have hD : va_D A [(z0, .inr (9, [.ref a0, .ref b0, .ref h0, .ref s0, .ref l0, .ref e0, .ref k0, .int u7, .int u8, .int u9])), (a0, .inr (8, [.ref a1])), (a1, .inr (6, [.ref a2])), (a2, .inl (cA 0, 61, .inl f)), (w0, .inl (cA 3, 1, .inr (.inl wo)))] := hD
    refine W.cs (cells' := 1) (slots' := 6) rfl rfl ?_
    refine lv_i2l (v := o1.2.toInt64) hx hb dL_shoreOf_7 rfl ?_
    refine va_last hx hb hK hP hD hS 4 3 rfl rfl (vin _ _ (by decide)) dL_shoreOf_8 (fun H locs hP hD hS => ?_)
    have hP : va_P D vwCl [(z0, .inr (9, [.ref a0, .ref b0, .ref h0, .ref s0, .ref l0, .ref e0, .ref k0, .int u7, .int u8, .int u9])), (a0, .inr (8, [.ref a1])), (a1, .inr (6, [.ref a2])), (a2, .inl (cA 0, 61, .inl f)), (w0, .inl (cA 3, 1, .inr (.inl (vp_updL wo 0 o1.2.toInt64))))] H := hP
    have hD : va_D A [(z0, .inr (9, [.ref a0, .ref b0, .ref h0, .ref s0, .ref l0, .ref e0, .ref k0, .int u7, .int u8, .int u9])), (a0, .inr (8, [.ref a1])), (a1, .inr (6, [.ref a2])), (a2, .inl (cA 0, 61, .inl f)), (w0, .inl (cA 3, 1, .inr (.inl (vp_updL wo 0 o1.2.toInt64))))] := hD
    refine lv_goto (tgt := 15) hx hb dL_shoreOf_9 (by decide) ?_
    refine lv_iconst (v := 0) hx hb dL_shoreOf_15 (by decide) ?_
    have h := Option.some.inj h
    subst h
    refine W.widen (k := 1) (n := 6) (Nat.le_of_ble_eq_true rfl) (Nat.le_of_ble_eq_true rfl) ?_
    exact hend (adr []) _ _ _ _ _ _ _ rfl rfl (rtn_i _) hP hD hS dL_shoreOf_16
  · have h := ite_f c3 h
    have hP : va_P D vwCl [(z0, .inr (9, [.ref a0, .ref b0, .ref h0, .ref s0, .ref l0, .ref e0, .ref k0, .int u7, .int u8, .int u9])), (a0, .inr (8, [.ref a1])), (a1, .inr (6, [.ref a2])), (a2, .inl (cA 0, 61, .inl f)), (w0, .inl (cA 3, 1, .inr (.inl wo)))] H := hP
    have hD : va_D A [(z0, .inr (9, [.ref a0, .ref b0, .ref h0, .ref s0, .ref l0, .ref e0, .ref k0, .int u7, .int u8, .int u9])), (a0, .inr (8, [.ref a1])), (a1, .inr (6, [.ref a2])), (a2, .inl (cA 0, 61, .inl f)), (w0, .inl (cA 3, 1, .inr (.inl wo)))] := hD
    by_cases c4 : o1.1 = 3
    · have h := ite_t c4 h
      have z4 : s.vm.findClass "java/lang/IndexOutOfBoundsException" = some ce.cls := by rw [c4] at z3; exact z3
      refine vx_catch (own := RL) (name := "java/lang/IndexOutOfBoundsException") (E := "java/lang/IndexOutOfBoundsException") hfc [] ⟨0, 9, 12, 27⟩ [] hT9 (fun z hz => absurd hz List.not_mem_nil) rfl (by decide) (hL9.link (List.mem_of_getElem? (i := 2) rfl)) ((hEV.1.2.2.2.2 "java/lang/IndexOutOfBoundsException" (by decide +kernel)).use rfl) z1 z2 z4 ?_
      refine W.cs (cells' := 1) (slots' := 6) rfl rfl ?_
      refine lv_astore_n hx hb dL_shoreOf_12 rfl hl (Nat.le_of_ble_eq_true rfl) rfl (fun ls hl => ?_)
      have hl : lv_has ls 4 [(3, .ref q9), (0, .ref z0), (1, .int x1), (2, .ref w0)] := hl
      refine lv_iconst (v := 1) hx hb dL_shoreOf_13 (by decide) ?_
      have h := Option.some.inj h
      subst h
      refine W.widen (k := 1) (n := 6) (Nat.le_of_ble_eq_true rfl) (Nat.le_of_ble_eq_true rfl) ?_
      exact hend (adr []) _ _ _ _ _ _ _ rfl rfl (rtn_i _) hP hD hS dL_shoreOf_14
    · have h := ite_f c4 h
      exact nn h

noncomputable def SL_heightOf (f : Nat → Int32) (x1 : Int32) (wo : Nat → Int64) : Option (Int32 × (Nat → Int64)) := lt_ (SX5_heightOf f x1) (fun o1 : Nat × Int32 => if o1.1 = 0 then (some ((0, vp_updL wo 0 o1.2.toInt64))) else (if o1.1 = 3 then (some ((1, wo))) else (none)))
abbrev RM_L_heightOf : Room := { frames := 8, cells := 1, slots := 6, locals := 126 }
set_option maxHeartbeats 4000000 in
theorem kL_heightOf (l : Launch) (hst : l.stackTraces = false) (D : va_G) (cA : Nat → ClassId) (G : eG) (z0 a0 b0 h0 s0 l0 e0 k0 a1 a2 w0 : Nat) (u7 : Int32) (u8 : Int32) (u9 : Int32) (f : Nat → Int32) (x1 : Int32) (wo : Nat → Int64) {r : Int32 × (Nat → Int64)} (hr : SL_heightOf f x1 wo = some r) {sz : Nat} : Met l yL_heightOf wsL_heightOf RM_L_heightOf (va_Pc [.ref z0, .int x1, .ref w0] (gqLB G D cA [(z0, .inr (9, [.ref a0, .ref b0, .ref h0, .ref s0, .ref l0, .ref e0, .ref k0, .int u7, .int u8, .int u9])), (a0, .inr (8, [.ref a1])), (a1, .inr (6, [.ref a2])), (a2, .inl (cA 0, 61, .inl f)), (w0, .inl (cA 3, 1, .inr (.inl wo)))] sz)) (gqQ D (fun as => (some (.int r.1))) (fun as => [(z0, .inr (9, [.ref a0, .ref b0, .ref h0, .ref s0, .ref l0, .ref e0, .ref k0, .int u7, .int u8, .int u9])), (a0, .inr (8, [.ref a1])), (a1, .inr (6, [.ref a2])), (a2, .inl (cA 0, 61, .inl f)), (w0, .inl (cA 3, 1, .inr (.inl r.2)))]) (va_A [(z0, .inr (9, [.ref a0, .ref b0, .ref h0, .ref s0, .ref l0, .ref e0, .ref k0, .int u7, .int u8, .int u9])), (a0, .inr (8, [.ref a1])), (a1, .inr (6, [.ref a2])), (a2, .inl (cA 0, 61, .inl f)), (w0, .inl (cA 3, 1, .inr (.inl wo)))] sz)) 1 6 (va_A [(z0, .inr (9, [.ref a0, .ref b0, .ref h0, .ref s0, .ref l0, .ref e0, .ref k0, .int u7, .int u8, .int u9])), (a0, .inr (8, [.ref a1])), (a1, .inr (6, [.ref a2])), (a2, .inl (cA 0, 61, .inl f)), (w0, .inl (cA 3, 1, .inr (.inl wo)))] sz) := by
  refine gqL_ofW (hh := [(0, 9, 12, 27)]) (cc := cL_heightOf) (maxL := 4) (ret := (some .int)) (by decide) rfl (Nat.le_of_ble_eq_true rfl) (fun p e s m args below meth c ls Q A hx hb hml hT9 hts hfc hK hP hD hS hA hEV hL9 hl hend => ?_)
  have hfc : s.vm.findClass RL = some m.cls := hfc
  have hl : lv_has ls 4 [(0, .ref z0), (1, .int x1), (2, .ref w0)] := hl
  have h := hr
  clear hr
  unfold SL_heightOf at h
  refine lv_aload_n hx hb dL_heightOf_0 rfl (lv_at hl 2 rfl) ?_
  refine lv_iconst (v := 0) hx hb dL_heightOf_1 (by decide) ?_
  refine lv_aload_n hx hb dL_heightOf_2 rfl (lv_at hl 0 rfl) ?_
  refine lv_iload_n hx hb dL_heightOf_3 rfl (lv_at hl 1 rfl) ?_
  obtain ⟨o1, ho1, h⟩ := lt_i h
  refine xq_V (G := G) (v := (fun as => (some (.int o1.2)))) (As := [.int x1]) (rest := [.int 0, .ref w0]) (wc := [(z0, .inr (9, [.ref a0, .ref b0, .ref h0, .ref s0, .ref l0, .ref e0, .ref k0, .int u7, .int u8, .int u9])), (a0, .inr (8, [.ref a1])), (a1, .inr (6, [.ref a2])), (a2, .inl (cA 0, 61, .inl f))]) (wr := [(w0, .inl (cA 3, 1, .inr (.inl wo)))]) (w1 := (fun as => [(z0, .inr (9, [.ref a0, .ref b0, .ref h0, .ref s0, .ref l0, .ref e0, .ref k0, .int u7, .int u8, .int u9])), (a0, .inr (8, [.ref a1])), (a1, .inr (6, [.ref a2])), (a2, .inl (cA 0, 61, .inl f))])) (ws2 := (fun as => [(z0, .inr (9, [.ref a0, .ref b0, .ref h0, .ref s0, .ref l0, .ref e0, .ref k0, .int u7, .int u8, .int u9])), (a0, .inr (8, [.ref a1])), (a1, .inr (6, [.ref a2])), (a2, .inl (cA 0, 61, .inl f)), (w0, .inl (cA 3, 1, .inr (.inl wo)))])) (st1 := (fun as => [.int o1.2, .int 0, .ref w0])) ⟨hx, hb, hml, hfc, hts⟩ hK hP hD hS hA hEV (kX5_heightOf l hst D cA G z0 a0 b0 h0 s0 l0 e0 k0 a1 a2 u7 u8 u9 f x1 ho1) (cwV 1 hts gL_heightOf_X5_heightOf rfl rfl rfl (by decide +kernel) ⟨(Nat.le_of_ble_eq_true rfl), (Nat.le_of_ble_eq_true rfl)⟩) [0, 1, 2, 3] [4] [1, 2, 3, 4, 0] rfl rfl rfl rfl (by decide) (fun _ => rfl) rfl 0 9 rfl rfl rfl rfl (fun _ => rfl) rfl hl.1 (Nat.le_of_ble_eq_true rfl) dL_heightOf_4 ⟨(Nat.le_of_ble_eq_true rfl), (Nat.le_of_ble_eq_true rfl)⟩ (fun c3 as2 H locs hP hD hS => ?_) (fun c3 as2 H locs q9 ce hP hD hS z1 z2 z3 => ?_)
  · have h := ite_t c3 h
    have hP : va_P D vwCl [(z0, .inr (9, [.ref a0, .ref b0, .ref h0, .ref s0, .ref l0, .ref e0, .ref k0, .int u7, .int u8, .int u9])), (a0, .inr (8, [.ref a1])), (a1, .inr (6, [.ref a2])), (a2, .inl (cA 0, 61, .inl f)), (w0, .inl (cA 3, 1, .inr (.inl wo)))] H := hP
    have hD : va_D A [(z0, .inr (9, [.ref a0, .ref b0, .ref h0, .ref s0, .ref l0, .ref e0, .ref k0, .int u7, .int u8, .int u9])), (a0, .inr (8, [.ref a1])), (a1, .inr (6, [.ref a2])), (a2, .inl (cA 0, 61, .inl f)), (w0, .inl (cA 3, 1, .inr (.inl wo)))] := hD
    refine W.cs (cells' := 1) (slots' := 6) rfl rfl ?_
    refine lv_i2l (v := o1.2.toInt64) hx hb dL_heightOf_7 rfl ?_
    refine va_last hx hb hK hP hD hS 4 3 rfl rfl (vin _ _ (by decide)) dL_heightOf_8 (fun H locs hP hD hS => ?_)
    have hP : va_P D vwCl [(z0, .inr (9, [.ref a0, .ref b0, .ref h0, .ref s0, .ref l0, .ref e0, .ref k0, .int u7, .int u8, .int u9])), (a0, .inr (8, [.ref a1])), (a1, .inr (6, [.ref a2])), (a2, .inl (cA 0, 61, .inl f)), (w0, .inl (cA 3, 1, .inr (.inl (vp_updL wo 0 o1.2.toInt64))))] H := hP
    have hD : va_D A [(z0, .inr (9, [.ref a0, .ref b0, .ref h0, .ref s0, .ref l0, .ref e0, .ref k0, .int u7, .int u8, .int u9])), (a0, .inr (8, [.ref a1])), (a1, .inr (6, [.ref a2])), (a2, .inl (cA 0, 61, .inl f)), (w0, .inl (cA 3, 1, .inr (.inl (vp_updL wo 0 o1.2.toInt64))))] := hD
    refine lv_goto (tgt := 15) hx hb dL_heightOf_9 (by decide) ?_
    refine lv_iconst (v := 0) hx hb dL_heightOf_15 (by decide) ?_
    have h := Option.some.inj h
    subst h
    refine W.widen (k := 1) (n := 6) (Nat.le_of_ble_eq_true rfl) (Nat.le_of_ble_eq_true rfl) ?_
    exact hend (adr []) _ _ _ _ _ _ _ rfl rfl (rtn_i _) hP hD hS dL_heightOf_16
  · have h := ite_f c3 h
    have hP : va_P D vwCl [(z0, .inr (9, [.ref a0, .ref b0, .ref h0, .ref s0, .ref l0, .ref e0, .ref k0, .int u7, .int u8, .int u9])), (a0, .inr (8, [.ref a1])), (a1, .inr (6, [.ref a2])), (a2, .inl (cA 0, 61, .inl f)), (w0, .inl (cA 3, 1, .inr (.inl wo)))] H := hP
    have hD : va_D A [(z0, .inr (9, [.ref a0, .ref b0, .ref h0, .ref s0, .ref l0, .ref e0, .ref k0, .int u7, .int u8, .int u9])), (a0, .inr (8, [.ref a1])), (a1, .inr (6, [.ref a2])), (a2, .inl (cA 0, 61, .inl f)), (w0, .inl (cA 3, 1, .inr (.inl wo)))] := hD
    by_cases c4 : o1.1 = 3
    · have h := ite_t c4 h
      have z4 : s.vm.findClass "java/lang/IndexOutOfBoundsException" = some ce.cls := by rw [c4] at z3; exact z3
      refine vx_catch (own := RL) (name := "java/lang/IndexOutOfBoundsException") (E := "java/lang/IndexOutOfBoundsException") hfc [] ⟨0, 9, 12, 27⟩ [] hT9 (fun z hz => absurd hz List.not_mem_nil) rfl (by decide) (hL9.link (List.mem_of_getElem? (i := 2) rfl)) ((hEV.1.2.2.2.2 "java/lang/IndexOutOfBoundsException" (by decide +kernel)).use rfl) z1 z2 z4 ?_
      refine W.cs (cells' := 1) (slots' := 6) rfl rfl ?_
      refine lv_astore_n hx hb dL_heightOf_12 rfl hl (Nat.le_of_ble_eq_true rfl) rfl (fun ls hl => ?_)
      have hl : lv_has ls 4 [(3, .ref q9), (0, .ref z0), (1, .int x1), (2, .ref w0)] := hl
      refine lv_iconst (v := 1) hx hb dL_heightOf_13 (by decide) ?_
      have h := Option.some.inj h
      subst h
      refine W.widen (k := 1) (n := 6) (Nat.le_of_ble_eq_true rfl) (Nat.le_of_ble_eq_true rfl) ?_
      exact hend (adr []) _ _ _ _ _ _ _ rfl rfl (rtn_i _) hP hD hS dL_heightOf_14
    · have h := ite_f c4 h
      exact nn h

noncomputable def SL_absorbedBy (f : Nat → Int32) (x1 : Int32) (wo : Nat → Int64) : Option (Int32 × (Nat → Int64)) := lt_ (SX5_absorbedBy f x1) (fun o1 : Nat × Int32 => if o1.1 = 0 then (some ((0, vp_updL wo 0 o1.2.toInt64))) else (if o1.1 = 3 then (some ((1, wo))) else (none)))
abbrev RM_L_absorbedBy : Room := { frames := 8, cells := 1, slots := 6, locals := 126 }
set_option maxHeartbeats 4000000 in
theorem kL_absorbedBy (l : Launch) (hst : l.stackTraces = false) (D : va_G) (cA : Nat → ClassId) (G : eG) (z0 a0 b0 h0 s0 l0 e0 k0 a1 a2 w0 : Nat) (u7 : Int32) (u8 : Int32) (u9 : Int32) (f : Nat → Int32) (x1 : Int32) (wo : Nat → Int64) {r : Int32 × (Nat → Int64)} (hr : SL_absorbedBy f x1 wo = some r) {sz : Nat} : Met l yL_absorbedBy wsL_absorbedBy RM_L_absorbedBy (va_Pc [.ref z0, .int x1, .ref w0] (gqLB G D cA [(z0, .inr (9, [.ref a0, .ref b0, .ref h0, .ref s0, .ref l0, .ref e0, .ref k0, .int u7, .int u8, .int u9])), (a0, .inr (8, [.ref a1])), (a1, .inr (6, [.ref a2])), (a2, .inl (cA 0, 61, .inl f)), (w0, .inl (cA 3, 1, .inr (.inl wo)))] sz)) (gqQ D (fun as => (some (.int r.1))) (fun as => [(z0, .inr (9, [.ref a0, .ref b0, .ref h0, .ref s0, .ref l0, .ref e0, .ref k0, .int u7, .int u8, .int u9])), (a0, .inr (8, [.ref a1])), (a1, .inr (6, [.ref a2])), (a2, .inl (cA 0, 61, .inl f)), (w0, .inl (cA 3, 1, .inr (.inl r.2)))]) (va_A [(z0, .inr (9, [.ref a0, .ref b0, .ref h0, .ref s0, .ref l0, .ref e0, .ref k0, .int u7, .int u8, .int u9])), (a0, .inr (8, [.ref a1])), (a1, .inr (6, [.ref a2])), (a2, .inl (cA 0, 61, .inl f)), (w0, .inl (cA 3, 1, .inr (.inl wo)))] sz)) 1 6 (va_A [(z0, .inr (9, [.ref a0, .ref b0, .ref h0, .ref s0, .ref l0, .ref e0, .ref k0, .int u7, .int u8, .int u9])), (a0, .inr (8, [.ref a1])), (a1, .inr (6, [.ref a2])), (a2, .inl (cA 0, 61, .inl f)), (w0, .inl (cA 3, 1, .inr (.inl wo)))] sz) := by
  refine gqL_ofW (hh := [(0, 9, 12, 27)]) (cc := cL_absorbedBy) (maxL := 4) (ret := (some .int)) (by decide) rfl (Nat.le_of_ble_eq_true rfl) (fun p e s m args below meth c ls Q A hx hb hml hT9 hts hfc hK hP hD hS hA hEV hL9 hl hend => ?_)
  have hfc : s.vm.findClass RL = some m.cls := hfc
  have hl : lv_has ls 4 [(0, .ref z0), (1, .int x1), (2, .ref w0)] := hl
  have h := hr
  clear hr
  unfold SL_absorbedBy at h
  refine lv_aload_n hx hb dL_absorbedBy_0 rfl (lv_at hl 2 rfl) ?_
  refine lv_iconst (v := 0) hx hb dL_absorbedBy_1 (by decide) ?_
  refine lv_aload_n hx hb dL_absorbedBy_2 rfl (lv_at hl 0 rfl) ?_
  refine lv_iload_n hx hb dL_absorbedBy_3 rfl (lv_at hl 1 rfl) ?_
  obtain ⟨o1, ho1, h⟩ := lt_i h
  refine xq_V (G := G) (v := (fun as => (some (.int o1.2)))) (As := [.int x1]) (rest := [.int 0, .ref w0]) (wc := [(z0, .inr (9, [.ref a0, .ref b0, .ref h0, .ref s0, .ref l0, .ref e0, .ref k0, .int u7, .int u8, .int u9])), (a0, .inr (8, [.ref a1])), (a1, .inr (6, [.ref a2])), (a2, .inl (cA 0, 61, .inl f))]) (wr := [(w0, .inl (cA 3, 1, .inr (.inl wo)))]) (w1 := (fun as => [(z0, .inr (9, [.ref a0, .ref b0, .ref h0, .ref s0, .ref l0, .ref e0, .ref k0, .int u7, .int u8, .int u9])), (a0, .inr (8, [.ref a1])), (a1, .inr (6, [.ref a2])), (a2, .inl (cA 0, 61, .inl f))])) (ws2 := (fun as => [(z0, .inr (9, [.ref a0, .ref b0, .ref h0, .ref s0, .ref l0, .ref e0, .ref k0, .int u7, .int u8, .int u9])), (a0, .inr (8, [.ref a1])), (a1, .inr (6, [.ref a2])), (a2, .inl (cA 0, 61, .inl f)), (w0, .inl (cA 3, 1, .inr (.inl wo)))])) (st1 := (fun as => [.int o1.2, .int 0, .ref w0])) ⟨hx, hb, hml, hfc, hts⟩ hK hP hD hS hA hEV (kX5_absorbedBy l hst D cA G z0 a0 b0 h0 s0 l0 e0 k0 a1 a2 u7 u8 u9 f x1 ho1) (cwV 1 hts gL_absorbedBy_X5_absorbedBy rfl rfl rfl (by decide +kernel) ⟨(Nat.le_of_ble_eq_true rfl), (Nat.le_of_ble_eq_true rfl)⟩) [0, 1, 2, 3] [4] [1, 2, 3, 4, 0] rfl rfl rfl rfl (by decide) (fun _ => rfl) rfl 0 9 rfl rfl rfl rfl (fun _ => rfl) rfl hl.1 (Nat.le_of_ble_eq_true rfl) dL_absorbedBy_4 ⟨(Nat.le_of_ble_eq_true rfl), (Nat.le_of_ble_eq_true rfl)⟩ (fun c3 as2 H locs hP hD hS => ?_) (fun c3 as2 H locs q9 ce hP hD hS z1 z2 z3 => ?_)
  · have h := ite_t c3 h
    have hP : va_P D vwCl [(z0, .inr (9, [.ref a0, .ref b0, .ref h0, .ref s0, .ref l0, .ref e0, .ref k0, .int u7, .int u8, .int u9])), (a0, .inr (8, [.ref a1])), (a1, .inr (6, [.ref a2])), (a2, .inl (cA 0, 61, .inl f)), (w0, .inl (cA 3, 1, .inr (.inl wo)))] H := hP
    have hD : va_D A [(z0, .inr (9, [.ref a0, .ref b0, .ref h0, .ref s0, .ref l0, .ref e0, .ref k0, .int u7, .int u8, .int u9])), (a0, .inr (8, [.ref a1])), (a1, .inr (6, [.ref a2])), (a2, .inl (cA 0, 61, .inl f)), (w0, .inl (cA 3, 1, .inr (.inl wo)))] := hD
    refine W.cs (cells' := 1) (slots' := 6) rfl rfl ?_
    refine lv_i2l (v := o1.2.toInt64) hx hb dL_absorbedBy_7 rfl ?_
    refine va_last hx hb hK hP hD hS 4 3 rfl rfl (vin _ _ (by decide)) dL_absorbedBy_8 (fun H locs hP hD hS => ?_)
    have hP : va_P D vwCl [(z0, .inr (9, [.ref a0, .ref b0, .ref h0, .ref s0, .ref l0, .ref e0, .ref k0, .int u7, .int u8, .int u9])), (a0, .inr (8, [.ref a1])), (a1, .inr (6, [.ref a2])), (a2, .inl (cA 0, 61, .inl f)), (w0, .inl (cA 3, 1, .inr (.inl (vp_updL wo 0 o1.2.toInt64))))] H := hP
    have hD : va_D A [(z0, .inr (9, [.ref a0, .ref b0, .ref h0, .ref s0, .ref l0, .ref e0, .ref k0, .int u7, .int u8, .int u9])), (a0, .inr (8, [.ref a1])), (a1, .inr (6, [.ref a2])), (a2, .inl (cA 0, 61, .inl f)), (w0, .inl (cA 3, 1, .inr (.inl (vp_updL wo 0 o1.2.toInt64))))] := hD
    refine lv_goto (tgt := 15) hx hb dL_absorbedBy_9 (by decide) ?_
    refine lv_iconst (v := 0) hx hb dL_absorbedBy_15 (by decide) ?_
    have h := Option.some.inj h
    subst h
    refine W.widen (k := 1) (n := 6) (Nat.le_of_ble_eq_true rfl) (Nat.le_of_ble_eq_true rfl) ?_
    exact hend (adr []) _ _ _ _ _ _ _ rfl rfl (rtn_i _) hP hD hS dL_absorbedBy_16
  · have h := ite_f c3 h
    have hP : va_P D vwCl [(z0, .inr (9, [.ref a0, .ref b0, .ref h0, .ref s0, .ref l0, .ref e0, .ref k0, .int u7, .int u8, .int u9])), (a0, .inr (8, [.ref a1])), (a1, .inr (6, [.ref a2])), (a2, .inl (cA 0, 61, .inl f)), (w0, .inl (cA 3, 1, .inr (.inl wo)))] H := hP
    have hD : va_D A [(z0, .inr (9, [.ref a0, .ref b0, .ref h0, .ref s0, .ref l0, .ref e0, .ref k0, .int u7, .int u8, .int u9])), (a0, .inr (8, [.ref a1])), (a1, .inr (6, [.ref a2])), (a2, .inl (cA 0, 61, .inl f)), (w0, .inl (cA 3, 1, .inr (.inl wo)))] := hD
    by_cases c4 : o1.1 = 3
    · have h := ite_t c4 h
      have z4 : s.vm.findClass "java/lang/IndexOutOfBoundsException" = some ce.cls := by rw [c4] at z3; exact z3
      refine vx_catch (own := RL) (name := "java/lang/IndexOutOfBoundsException") (E := "java/lang/IndexOutOfBoundsException") hfc [] ⟨0, 9, 12, 27⟩ [] hT9 (fun z hz => absurd hz List.not_mem_nil) rfl (by decide) (hL9.link (List.mem_of_getElem? (i := 2) rfl)) ((hEV.1.2.2.2.2 "java/lang/IndexOutOfBoundsException" (by decide +kernel)).use rfl) z1 z2 z4 ?_
      refine W.cs (cells' := 1) (slots' := 6) rfl rfl ?_
      refine lv_astore_n hx hb dL_absorbedBy_12 rfl hl (Nat.le_of_ble_eq_true rfl) rfl (fun ls hl => ?_)
      have hl : lv_has ls 4 [(3, .ref q9), (0, .ref z0), (1, .int x1), (2, .ref w0)] := hl
      refine lv_iconst (v := 1) hx hb dL_absorbedBy_13 (by decide) ?_
      have h := Option.some.inj h
      subst h
      refine W.widen (k := 1) (n := 6) (Nat.le_of_ble_eq_true rfl) (Nat.le_of_ble_eq_true rfl) ?_
      exact hend (adr []) _ _ _ _ _ _ _ rfl rfl (rtn_i _) hP hD hS dL_absorbedBy_14
    · have h := ite_f c4 h
      exact nn h

noncomputable def SL_floodsOf (f : Nat → Int32) (x1 : Int32) (wo : Nat → Int64) : Option (Int32 × (Nat → Int64)) := lt_ (SX5_floodsOf f x1) (fun o1 : Nat × Int32 => if o1.1 = 0 then (some ((0, vp_updL wo 0 o1.2.toInt64))) else (if o1.1 = 3 then (some ((1, wo))) else (none)))
abbrev RM_L_floodsOf : Room := { frames := 8, cells := 1, slots := 6, locals := 126 }
set_option maxHeartbeats 4000000 in
theorem kL_floodsOf (l : Launch) (hst : l.stackTraces = false) (D : va_G) (cA : Nat → ClassId) (G : eG) (z0 a0 b0 h0 s0 l0 e0 k0 a1 a2 w0 : Nat) (u7 : Int32) (u8 : Int32) (u9 : Int32) (f : Nat → Int32) (x1 : Int32) (wo : Nat → Int64) {r : Int32 × (Nat → Int64)} (hr : SL_floodsOf f x1 wo = some r) {sz : Nat} : Met l yL_floodsOf wsL_floodsOf RM_L_floodsOf (va_Pc [.ref z0, .int x1, .ref w0] (gqLB G D cA [(z0, .inr (9, [.ref a0, .ref b0, .ref h0, .ref s0, .ref l0, .ref e0, .ref k0, .int u7, .int u8, .int u9])), (a0, .inr (8, [.ref a1])), (a1, .inr (6, [.ref a2])), (a2, .inl (cA 0, 61, .inl f)), (w0, .inl (cA 3, 1, .inr (.inl wo)))] sz)) (gqQ D (fun as => (some (.int r.1))) (fun as => [(z0, .inr (9, [.ref a0, .ref b0, .ref h0, .ref s0, .ref l0, .ref e0, .ref k0, .int u7, .int u8, .int u9])), (a0, .inr (8, [.ref a1])), (a1, .inr (6, [.ref a2])), (a2, .inl (cA 0, 61, .inl f)), (w0, .inl (cA 3, 1, .inr (.inl r.2)))]) (va_A [(z0, .inr (9, [.ref a0, .ref b0, .ref h0, .ref s0, .ref l0, .ref e0, .ref k0, .int u7, .int u8, .int u9])), (a0, .inr (8, [.ref a1])), (a1, .inr (6, [.ref a2])), (a2, .inl (cA 0, 61, .inl f)), (w0, .inl (cA 3, 1, .inr (.inl wo)))] sz)) 1 6 (va_A [(z0, .inr (9, [.ref a0, .ref b0, .ref h0, .ref s0, .ref l0, .ref e0, .ref k0, .int u7, .int u8, .int u9])), (a0, .inr (8, [.ref a1])), (a1, .inr (6, [.ref a2])), (a2, .inl (cA 0, 61, .inl f)), (w0, .inl (cA 3, 1, .inr (.inl wo)))] sz) := by
  refine gqL_ofW (hh := [(0, 9, 12, 27)]) (cc := cL_floodsOf) (maxL := 4) (ret := (some .int)) (by decide) rfl (Nat.le_of_ble_eq_true rfl) (fun p e s m args below meth c ls Q A hx hb hml hT9 hts hfc hK hP hD hS hA hEV hL9 hl hend => ?_)
  have hfc : s.vm.findClass RL = some m.cls := hfc
  have hl : lv_has ls 4 [(0, .ref z0), (1, .int x1), (2, .ref w0)] := hl
  have h := hr
  clear hr
  unfold SL_floodsOf at h
  refine lv_aload_n hx hb dL_floodsOf_0 rfl (lv_at hl 2 rfl) ?_
  refine lv_iconst (v := 0) hx hb dL_floodsOf_1 (by decide) ?_
  refine lv_aload_n hx hb dL_floodsOf_2 rfl (lv_at hl 0 rfl) ?_
  refine lv_iload_n hx hb dL_floodsOf_3 rfl (lv_at hl 1 rfl) ?_
  obtain ⟨o1, ho1, h⟩ := lt_i h
  refine xq_V (G := G) (v := (fun as => (some (.int o1.2)))) (As := [.int x1]) (rest := [.int 0, .ref w0]) (wc := [(z0, .inr (9, [.ref a0, .ref b0, .ref h0, .ref s0, .ref l0, .ref e0, .ref k0, .int u7, .int u8, .int u9])), (a0, .inr (8, [.ref a1])), (a1, .inr (6, [.ref a2])), (a2, .inl (cA 0, 61, .inl f))]) (wr := [(w0, .inl (cA 3, 1, .inr (.inl wo)))]) (w1 := (fun as => [(z0, .inr (9, [.ref a0, .ref b0, .ref h0, .ref s0, .ref l0, .ref e0, .ref k0, .int u7, .int u8, .int u9])), (a0, .inr (8, [.ref a1])), (a1, .inr (6, [.ref a2])), (a2, .inl (cA 0, 61, .inl f))])) (ws2 := (fun as => [(z0, .inr (9, [.ref a0, .ref b0, .ref h0, .ref s0, .ref l0, .ref e0, .ref k0, .int u7, .int u8, .int u9])), (a0, .inr (8, [.ref a1])), (a1, .inr (6, [.ref a2])), (a2, .inl (cA 0, 61, .inl f)), (w0, .inl (cA 3, 1, .inr (.inl wo)))])) (st1 := (fun as => [.int o1.2, .int 0, .ref w0])) ⟨hx, hb, hml, hfc, hts⟩ hK hP hD hS hA hEV (kX5_floodsOf l hst D cA G z0 a0 b0 h0 s0 l0 e0 k0 a1 a2 u7 u8 u9 f x1 ho1) (cwV 1 hts gL_floodsOf_X5_floodsOf rfl rfl rfl (by decide +kernel) ⟨(Nat.le_of_ble_eq_true rfl), (Nat.le_of_ble_eq_true rfl)⟩) [0, 1, 2, 3] [4] [1, 2, 3, 4, 0] rfl rfl rfl rfl (by decide) (fun _ => rfl) rfl 0 9 rfl rfl rfl rfl (fun _ => rfl) rfl hl.1 (Nat.le_of_ble_eq_true rfl) dL_floodsOf_4 ⟨(Nat.le_of_ble_eq_true rfl), (Nat.le_of_ble_eq_true rfl)⟩ (fun c3 as2 H locs hP hD hS => ?_) (fun c3 as2 H locs q9 ce hP hD hS z1 z2 z3 => ?_)
  · have h := ite_t c3 h
    have hP : va_P D vwCl [(z0, .inr (9, [.ref a0, .ref b0, .ref h0, .ref s0, .ref l0, .ref e0, .ref k0, .int u7, .int u8, .int u9])), (a0, .inr (8, [.ref a1])), (a1, .inr (6, [.ref a2])), (a2, .inl (cA 0, 61, .inl f)), (w0, .inl (cA 3, 1, .inr (.inl wo)))] H := hP
    have hD : va_D A [(z0, .inr (9, [.ref a0, .ref b0, .ref h0, .ref s0, .ref l0, .ref e0, .ref k0, .int u7, .int u8, .int u9])), (a0, .inr (8, [.ref a1])), (a1, .inr (6, [.ref a2])), (a2, .inl (cA 0, 61, .inl f)), (w0, .inl (cA 3, 1, .inr (.inl wo)))] := hD
    refine W.cs (cells' := 1) (slots' := 6) rfl rfl ?_
    refine lv_i2l (v := o1.2.toInt64) hx hb dL_floodsOf_7 rfl ?_
    refine va_last hx hb hK hP hD hS 4 3 rfl rfl (vin _ _ (by decide)) dL_floodsOf_8 (fun H locs hP hD hS => ?_)
    have hP : va_P D vwCl [(z0, .inr (9, [.ref a0, .ref b0, .ref h0, .ref s0, .ref l0, .ref e0, .ref k0, .int u7, .int u8, .int u9])), (a0, .inr (8, [.ref a1])), (a1, .inr (6, [.ref a2])), (a2, .inl (cA 0, 61, .inl f)), (w0, .inl (cA 3, 1, .inr (.inl (vp_updL wo 0 o1.2.toInt64))))] H := hP
    have hD : va_D A [(z0, .inr (9, [.ref a0, .ref b0, .ref h0, .ref s0, .ref l0, .ref e0, .ref k0, .int u7, .int u8, .int u9])), (a0, .inr (8, [.ref a1])), (a1, .inr (6, [.ref a2])), (a2, .inl (cA 0, 61, .inl f)), (w0, .inl (cA 3, 1, .inr (.inl (vp_updL wo 0 o1.2.toInt64))))] := hD
    refine lv_goto (tgt := 15) hx hb dL_floodsOf_9 (by decide) ?_
    refine lv_iconst (v := 0) hx hb dL_floodsOf_15 (by decide) ?_
    have h := Option.some.inj h
    subst h
    refine W.widen (k := 1) (n := 6) (Nat.le_of_ble_eq_true rfl) (Nat.le_of_ble_eq_true rfl) ?_
    exact hend (adr []) _ _ _ _ _ _ _ rfl rfl (rtn_i _) hP hD hS dL_floodsOf_16
  · have h := ite_f c3 h
    have hP : va_P D vwCl [(z0, .inr (9, [.ref a0, .ref b0, .ref h0, .ref s0, .ref l0, .ref e0, .ref k0, .int u7, .int u8, .int u9])), (a0, .inr (8, [.ref a1])), (a1, .inr (6, [.ref a2])), (a2, .inl (cA 0, 61, .inl f)), (w0, .inl (cA 3, 1, .inr (.inl wo)))] H := hP
    have hD : va_D A [(z0, .inr (9, [.ref a0, .ref b0, .ref h0, .ref s0, .ref l0, .ref e0, .ref k0, .int u7, .int u8, .int u9])), (a0, .inr (8, [.ref a1])), (a1, .inr (6, [.ref a2])), (a2, .inl (cA 0, 61, .inl f)), (w0, .inl (cA 3, 1, .inr (.inl wo)))] := hD
    by_cases c4 : o1.1 = 3
    · have h := ite_t c4 h
      have z4 : s.vm.findClass "java/lang/IndexOutOfBoundsException" = some ce.cls := by rw [c4] at z3; exact z3
      refine vx_catch (own := RL) (name := "java/lang/IndexOutOfBoundsException") (E := "java/lang/IndexOutOfBoundsException") hfc [] ⟨0, 9, 12, 27⟩ [] hT9 (fun z hz => absurd hz List.not_mem_nil) rfl (by decide) (hL9.link (List.mem_of_getElem? (i := 2) rfl)) ((hEV.1.2.2.2.2 "java/lang/IndexOutOfBoundsException" (by decide +kernel)).use rfl) z1 z2 z4 ?_
      refine W.cs (cells' := 1) (slots' := 6) rfl rfl ?_
      refine lv_astore_n hx hb dL_floodsOf_12 rfl hl (Nat.le_of_ble_eq_true rfl) rfl (fun ls hl => ?_)
      have hl : lv_has ls 4 [(3, .ref q9), (0, .ref z0), (1, .int x1), (2, .ref w0)] := hl
      refine lv_iconst (v := 1) hx hb dL_floodsOf_13 (by decide) ?_
      have h := Option.some.inj h
      subst h
      refine W.widen (k := 1) (n := 6) (Nat.le_of_ble_eq_true rfl) (Nat.le_of_ble_eq_true rfl) ?_
      exact hend (adr []) _ _ _ _ _ _ _ rfl rfl (rtn_i _) hP hD hS dL_floodsOf_14
    · have h := ite_f c4 h
      exact nn h

noncomputable def SL_setFlow (N : Nat) (f : Nat → Int32) (v1 : Int32) (v2 : Int32) (g : Nat → Int32) (x1 : Int32) (wo : Nat → Int64) : Option (Int32 × (Nat → Int32) × Int32 × Int32 × (Nat → Int32) × (Nat → Int64)) := bnd (SX5_setFlow N f v1 v2 g x1) (fun o1 : Nat × Int32 × (Nat → Int32) × (Nat → Int32) × Int32 × Int32 => if o1.1 = 0 then (some ((0, o1.2.2.1, o1.2.2.2.2.1, o1.2.2.2.2.2, o1.2.2.2.1, vp_updL wo 0 o1.2.1.toInt64))) else (if o1.1 = 1 then (some ((1, o1.2.2.1, o1.2.2.2.2.1, o1.2.2.2.2.2, o1.2.2.2.1, wo))) else (none)))
abbrev RM_L_setFlow : Room := { frames := 7, cells := 1, slots := 6, locals := 105 }
set_option maxHeartbeats 4000000 in
theorem kL_setFlow (l : Launch) (hst : l.stackTraces = false) (D : va_G) (cA : Nat → ClassId) (G : eG) (z0 a0 b0 h0 s0 l0 e0 k0 a1 a2 h1 h2 w0 : Nat) (N : Nat) (u7 : Int32) (u8 : Int32) (u9 : Int32) (f : Nat → Int32) (v1 : Int32) (v2 : Int32) (g : Nat → Int32) (x1 : Int32) (wo : Nat → Int64) {r : Int32 × (Nat → Int32) × Int32 × Int32 × (Nat → Int32) × (Nat → Int64)} (hr : SL_setFlow N f v1 v2 g x1 wo = some r) {sz : Nat} : Met l yL_setFlow wsL_setFlow RM_L_setFlow (va_Pc [.ref z0, .int x1, .ref w0] (gqLB G D cA [(z0, .inr (9, [.ref a0, .ref b0, .ref h0, .ref s0, .ref l0, .ref e0, .ref k0, .int u7, .int u8, .int u9])), (a0, .inr (8, [.ref a1])), (a1, .inr (6, [.ref a2])), (a2, .inl (cA 0, 61, .inl f)), (h0, .inr (5, [.ref h1, .int v1, .int v2])), (h1, .inr (6, [.ref h2])), (h2, .inl (cA 0, 488, .inl g)), (w0, .inl (cA 3, 1, .inr (.inl wo)))] sz)) (gqQ D (fun as => (some (.int r.1))) (fun as => [(z0, .inr (9, [.ref a0, .ref b0, .ref h0, .ref s0, .ref l0, .ref e0, .ref k0, .int u7, .int u8, .int u9])), (a0, .inr (8, [.ref a1])), (a1, .inr (6, [.ref a2])), (a2, .inl (cA 0, 61, .inl r.2.1)), (h0, .inr (5, [.ref h1, .int r.2.2.1, .int r.2.2.2.1])), (h1, .inr (6, [.ref h2])), (h2, .inl (cA 0, 488, .inl r.2.2.2.2.1)), (w0, .inl (cA 3, 1, .inr (.inl r.2.2.2.2.2)))]) (va_A [(z0, .inr (9, [.ref a0, .ref b0, .ref h0, .ref s0, .ref l0, .ref e0, .ref k0, .int u7, .int u8, .int u9])), (a0, .inr (8, [.ref a1])), (a1, .inr (6, [.ref a2])), (a2, .inl (cA 0, 61, .inl f)), (h0, .inr (5, [.ref h1, .int v1, .int v2])), (h1, .inr (6, [.ref h2])), (h2, .inl (cA 0, 488, .inl g)), (w0, .inl (cA 3, 1, .inr (.inl wo)))] sz)) 1 6 (va_A [(z0, .inr (9, [.ref a0, .ref b0, .ref h0, .ref s0, .ref l0, .ref e0, .ref k0, .int u7, .int u8, .int u9])), (a0, .inr (8, [.ref a1])), (a1, .inr (6, [.ref a2])), (a2, .inl (cA 0, 61, .inl f)), (h0, .inr (5, [.ref h1, .int v1, .int v2])), (h1, .inr (6, [.ref h2])), (h2, .inl (cA 0, 488, .inl g)), (w0, .inl (cA 3, 1, .inr (.inl wo)))] sz) := by
  refine gqL_ofW (hh := [(0, 9, 12, 13)]) (cc := cL_setFlow) (maxL := 4) (ret := (some .int)) (by decide) rfl (Nat.le_of_ble_eq_true rfl) (fun p e s m args below meth c ls Q A hx hb hml hT9 hts hfc hK hP hD hS hA hEV hL9 hl hend => ?_)
  have hfc : s.vm.findClass RL = some m.cls := hfc
  have hl : lv_has ls 4 [(0, .ref z0), (1, .int x1), (2, .ref w0)] := hl
  have h := hr
  clear hr
  unfold SL_setFlow at h
  refine lv_aload_n hx hb dL_setFlow_0 rfl (lv_at hl 2 rfl) ?_
  refine lv_iconst (v := 0) hx hb dL_setFlow_1 (by decide) ?_
  refine lv_aload_n hx hb dL_setFlow_2 rfl (lv_at hl 0 rfl) ?_
  refine lv_iload_n hx hb dL_setFlow_3 rfl (lv_at hl 1 rfl) ?_
  obtain ⟨o1, ho1, h⟩ := bnd_i h
  refine xq_V (G := G) (v := (fun as => (some (.int o1.2.1)))) (As := [.int x1]) (rest := [.int 0, .ref w0]) (wc := [(z0, .inr (9, [.ref a0, .ref b0, .ref h0, .ref s0, .ref l0, .ref e0, .ref k0, .int u7, .int u8, .int u9])), (a0, .inr (8, [.ref a1])), (a1, .inr (6, [.ref a2])), (a2, .inl (cA 0, 61, .inl f)), (h0, .inr (5, [.ref h1, .int v1, .int v2])), (h1, .inr (6, [.ref h2])), (h2, .inl (cA 0, 488, .inl g))]) (wr := [(w0, .inl (cA 3, 1, .inr (.inl wo)))]) (w1 := (fun as => [(z0, .inr (9, [.ref a0, .ref b0, .ref h0, .ref s0, .ref l0, .ref e0, .ref k0, .int u7, .int u8, .int u9])), (a0, .inr (8, [.ref a1])), (a1, .inr (6, [.ref a2])), (a2, .inl (cA 0, 61, .inl o1.2.2.1)), (h0, .inr (5, [.ref h1, .int o1.2.2.2.2.1, .int o1.2.2.2.2.2])), (h1, .inr (6, [.ref h2])), (h2, .inl (cA 0, 488, .inl o1.2.2.2.1))])) (ws2 := (fun as => [(z0, .inr (9, [.ref a0, .ref b0, .ref h0, .ref s0, .ref l0, .ref e0, .ref k0, .int u7, .int u8, .int u9])), (a0, .inr (8, [.ref a1])), (a1, .inr (6, [.ref a2])), (a2, .inl (cA 0, 61, .inl o1.2.2.1)), (h0, .inr (5, [.ref h1, .int o1.2.2.2.2.1, .int o1.2.2.2.2.2])), (h1, .inr (6, [.ref h2])), (h2, .inl (cA 0, 488, .inl o1.2.2.2.1)), (w0, .inl (cA 3, 1, .inr (.inl wo)))])) (st1 := (fun as => [.int o1.2.1, .int 0, .ref w0])) ⟨hx, hb, hml, hfc, hts⟩ hK hP hD hS hA hEV (kX5_setFlow l hst D cA G z0 a0 b0 h0 s0 l0 e0 k0 a1 a2 h1 h2 N u7 u8 u9 f v1 v2 g x1 ho1) (cwV 1 hts gL_setFlow_X5_setFlow rfl rfl rfl (by decide +kernel) ⟨(Nat.le_of_ble_eq_true rfl), (Nat.le_of_ble_eq_true rfl)⟩) [0, 1, 2, 3, 4, 5, 6] [7] [1, 2, 3, 4, 5, 6, 7, 0] rfl rfl rfl rfl (by decide) (fun _ => rfl) rfl 0 9 rfl rfl rfl rfl (fun _ => rfl) rfl hl.1 (Nat.le_of_ble_eq_true rfl) dL_setFlow_4 ⟨(Nat.le_of_ble_eq_true rfl), (Nat.le_of_ble_eq_true rfl)⟩ (fun c3 as2 H locs hP hD hS => ?_) (fun c3 as2 H locs q9 ce hP hD hS z1 z2 z3 => ?_)
  · have h := ite_t c3 h
    have hP : va_P D vwCl [(z0, .inr (9, [.ref a0, .ref b0, .ref h0, .ref s0, .ref l0, .ref e0, .ref k0, .int u7, .int u8, .int u9])), (a0, .inr (8, [.ref a1])), (a1, .inr (6, [.ref a2])), (a2, .inl (cA 0, 61, .inl o1.2.2.1)), (h0, .inr (5, [.ref h1, .int o1.2.2.2.2.1, .int o1.2.2.2.2.2])), (h1, .inr (6, [.ref h2])), (h2, .inl (cA 0, 488, .inl o1.2.2.2.1)), (w0, .inl (cA 3, 1, .inr (.inl wo)))] H := hP
    have hD : va_D A [(z0, .inr (9, [.ref a0, .ref b0, .ref h0, .ref s0, .ref l0, .ref e0, .ref k0, .int u7, .int u8, .int u9])), (a0, .inr (8, [.ref a1])), (a1, .inr (6, [.ref a2])), (a2, .inl (cA 0, 61, .inl o1.2.2.1)), (h0, .inr (5, [.ref h1, .int o1.2.2.2.2.1, .int o1.2.2.2.2.2])), (h1, .inr (6, [.ref h2])), (h2, .inl (cA 0, 488, .inl o1.2.2.2.1)), (w0, .inl (cA 3, 1, .inr (.inl wo)))] := hD
    refine W.cs (cells' := 1) (slots' := 6) rfl rfl ?_
    refine lv_i2l (v := o1.2.1.toInt64) hx hb dL_setFlow_7 rfl ?_
    refine va_last hx hb hK hP hD hS 7 3 rfl rfl (vin _ _ (by decide)) dL_setFlow_8 (fun H locs hP hD hS => ?_)
    have hP : va_P D vwCl [(z0, .inr (9, [.ref a0, .ref b0, .ref h0, .ref s0, .ref l0, .ref e0, .ref k0, .int u7, .int u8, .int u9])), (a0, .inr (8, [.ref a1])), (a1, .inr (6, [.ref a2])), (a2, .inl (cA 0, 61, .inl o1.2.2.1)), (h0, .inr (5, [.ref h1, .int o1.2.2.2.2.1, .int o1.2.2.2.2.2])), (h1, .inr (6, [.ref h2])), (h2, .inl (cA 0, 488, .inl o1.2.2.2.1)), (w0, .inl (cA 3, 1, .inr (.inl (vp_updL wo 0 o1.2.1.toInt64))))] H := hP
    have hD : va_D A [(z0, .inr (9, [.ref a0, .ref b0, .ref h0, .ref s0, .ref l0, .ref e0, .ref k0, .int u7, .int u8, .int u9])), (a0, .inr (8, [.ref a1])), (a1, .inr (6, [.ref a2])), (a2, .inl (cA 0, 61, .inl o1.2.2.1)), (h0, .inr (5, [.ref h1, .int o1.2.2.2.2.1, .int o1.2.2.2.2.2])), (h1, .inr (6, [.ref h2])), (h2, .inl (cA 0, 488, .inl o1.2.2.2.1)), (w0, .inl (cA 3, 1, .inr (.inl (vp_updL wo 0 o1.2.1.toInt64))))] := hD
    refine lv_goto (tgt := 15) hx hb dL_setFlow_9 (by decide) ?_
    refine lv_iconst (v := 0) hx hb dL_setFlow_15 (by decide) ?_
    have h := Option.some.inj h
    subst h
    refine W.widen (k := 1) (n := 6) (Nat.le_of_ble_eq_true rfl) (Nat.le_of_ble_eq_true rfl) ?_
    exact hend (adr []) _ _ _ _ _ _ _ rfl rfl (rtn_i _) hP hD hS dL_setFlow_16
  · have h := ite_f c3 h
    have hP : va_P D vwCl [(z0, .inr (9, [.ref a0, .ref b0, .ref h0, .ref s0, .ref l0, .ref e0, .ref k0, .int u7, .int u8, .int u9])), (a0, .inr (8, [.ref a1])), (a1, .inr (6, [.ref a2])), (a2, .inl (cA 0, 61, .inl o1.2.2.1)), (h0, .inr (5, [.ref h1, .int o1.2.2.2.2.1, .int o1.2.2.2.2.2])), (h1, .inr (6, [.ref h2])), (h2, .inl (cA 0, 488, .inl o1.2.2.2.1)), (w0, .inl (cA 3, 1, .inr (.inl wo)))] H := hP
    have hD : va_D A [(z0, .inr (9, [.ref a0, .ref b0, .ref h0, .ref s0, .ref l0, .ref e0, .ref k0, .int u7, .int u8, .int u9])), (a0, .inr (8, [.ref a1])), (a1, .inr (6, [.ref a2])), (a2, .inl (cA 0, 61, .inl o1.2.2.1)), (h0, .inr (5, [.ref h1, .int o1.2.2.2.2.1, .int o1.2.2.2.2.2])), (h1, .inr (6, [.ref h2])), (h2, .inl (cA 0, 488, .inl o1.2.2.2.1)), (w0, .inl (cA 3, 1, .inr (.inl wo)))] := hD
    by_cases c4 : o1.1 = 1
    · have h := ite_t c4 h
      have z4 : s.vm.findClass "java/lang/IllegalArgumentException" = some ce.cls := by rw [c4] at z3; exact z3
      refine vx_catch (own := RL) (name := "java/lang/IllegalArgumentException") (E := "java/lang/IllegalArgumentException") hfc [] ⟨0, 9, 12, 13⟩ [] hT9 (fun z hz => absurd hz List.not_mem_nil) rfl (by decide) (hL9.link (List.mem_of_getElem? (i := 0) rfl)) ((hEV.1.2.2.2.2 "java/lang/IllegalArgumentException" (by decide +kernel)).use rfl) z1 z2 z4 ?_
      refine W.cs (cells' := 1) (slots' := 6) rfl rfl ?_
      refine lv_astore_n hx hb dL_setFlow_12 rfl hl (Nat.le_of_ble_eq_true rfl) rfl (fun ls hl => ?_)
      have hl : lv_has ls 4 [(3, .ref q9), (0, .ref z0), (1, .int x1), (2, .ref w0)] := hl
      refine lv_iconst (v := 1) hx hb dL_setFlow_13 (by decide) ?_
      have h := Option.some.inj h
      subst h
      refine W.widen (k := 1) (n := 6) (Nat.le_of_ble_eq_true rfl) (Nat.le_of_ble_eq_true rfl) ?_
      exact hend (adr []) _ _ _ _ _ _ _ rfl rfl (rtn_i _) hP hD hS dL_setFlow_14
    · have h := ite_f c4 h
      exact nn h

noncomputable def SL_advance (N : Nat) (f : Nat → Int32) (v1 : Int32) (v2 : Int32) (g : Nat → Int32) (x1 : Int32) (wo : Nat → Int64) : Option (Int32 × (Nat → Int32) × Int32 × Int32 × (Nat → Int32) × (Nat → Int64)) := bnd (SX5_advance N f v1 v2 g x1) (fun o1 : Nat × Int32 × (Nat → Int32) × (Nat → Int32) × Int32 × Int32 => if o1.1 = 0 then (some ((0, o1.2.2.1, o1.2.2.2.2.1, o1.2.2.2.2.2, o1.2.2.2.1, vp_updL wo 0 o1.2.1.toInt64))) else (if o1.1 = 1 then (some ((1, o1.2.2.1, o1.2.2.2.2.1, o1.2.2.2.2.2, o1.2.2.2.1, wo))) else (none)))
abbrev RM_L_advance : Room := { frames := 7, cells := 1, slots := 6, locals := 154 }
set_option maxHeartbeats 4000000 in
theorem kL_advance (l : Launch) (hst : l.stackTraces = false) (D : va_G) (cA : Nat → ClassId) (G : eG) (z0 a0 b0 h0 s0 l0 e0 k0 a1 a2 h1 h2 w0 : Nat) (N : Nat) (u7 : Int32) (u8 : Int32) (u9 : Int32) (f : Nat → Int32) (v1 : Int32) (v2 : Int32) (g : Nat → Int32) (x1 : Int32) (wo : Nat → Int64) {r : Int32 × (Nat → Int32) × Int32 × Int32 × (Nat → Int32) × (Nat → Int64)} (hr : SL_advance N f v1 v2 g x1 wo = some r) {sz : Nat} : Met l yL_advance wsL_advance RM_L_advance (va_Pc [.ref z0, .int x1, .ref w0] (gqLB G D cA [(z0, .inr (9, [.ref a0, .ref b0, .ref h0, .ref s0, .ref l0, .ref e0, .ref k0, .int u7, .int u8, .int u9])), (a0, .inr (8, [.ref a1])), (a1, .inr (6, [.ref a2])), (a2, .inl (cA 0, 61, .inl f)), (h0, .inr (5, [.ref h1, .int v1, .int v2])), (h1, .inr (6, [.ref h2])), (h2, .inl (cA 0, 488, .inl g)), (w0, .inl (cA 3, 1, .inr (.inl wo)))] sz)) (gqQ D (fun as => (some (.int r.1))) (fun as => [(z0, .inr (9, [.ref a0, .ref b0, .ref h0, .ref s0, .ref l0, .ref e0, .ref k0, .int u7, .int u8, .int u9])), (a0, .inr (8, [.ref a1])), (a1, .inr (6, [.ref a2])), (a2, .inl (cA 0, 61, .inl r.2.1)), (h0, .inr (5, [.ref h1, .int r.2.2.1, .int r.2.2.2.1])), (h1, .inr (6, [.ref h2])), (h2, .inl (cA 0, 488, .inl r.2.2.2.2.1)), (w0, .inl (cA 3, 1, .inr (.inl r.2.2.2.2.2)))]) (va_A [(z0, .inr (9, [.ref a0, .ref b0, .ref h0, .ref s0, .ref l0, .ref e0, .ref k0, .int u7, .int u8, .int u9])), (a0, .inr (8, [.ref a1])), (a1, .inr (6, [.ref a2])), (a2, .inl (cA 0, 61, .inl f)), (h0, .inr (5, [.ref h1, .int v1, .int v2])), (h1, .inr (6, [.ref h2])), (h2, .inl (cA 0, 488, .inl g)), (w0, .inl (cA 3, 1, .inr (.inl wo)))] sz)) 1 6 (va_A [(z0, .inr (9, [.ref a0, .ref b0, .ref h0, .ref s0, .ref l0, .ref e0, .ref k0, .int u7, .int u8, .int u9])), (a0, .inr (8, [.ref a1])), (a1, .inr (6, [.ref a2])), (a2, .inl (cA 0, 61, .inl f)), (h0, .inr (5, [.ref h1, .int v1, .int v2])), (h1, .inr (6, [.ref h2])), (h2, .inl (cA 0, 488, .inl g)), (w0, .inl (cA 3, 1, .inr (.inl wo)))] sz) := by
  refine gqL_ofW (hh := [(0, 9, 12, 13)]) (cc := cL_advance) (maxL := 4) (ret := (some .int)) (by decide) rfl (Nat.le_of_ble_eq_true rfl) (fun p e s m args below meth c ls Q A hx hb hml hT9 hts hfc hK hP hD hS hA hEV hL9 hl hend => ?_)
  have hfc : s.vm.findClass RL = some m.cls := hfc
  have hl : lv_has ls 4 [(0, .ref z0), (1, .int x1), (2, .ref w0)] := hl
  have h := hr
  clear hr
  unfold SL_advance at h
  refine lv_aload_n hx hb dL_advance_0 rfl (lv_at hl 2 rfl) ?_
  refine lv_iconst (v := 0) hx hb dL_advance_1 (by decide) ?_
  refine lv_aload_n hx hb dL_advance_2 rfl (lv_at hl 0 rfl) ?_
  refine lv_iload_n hx hb dL_advance_3 rfl (lv_at hl 1 rfl) ?_
  obtain ⟨o1, ho1, h⟩ := bnd_i h
  refine xq_V (G := G) (v := (fun as => (some (.int o1.2.1)))) (As := [.int x1]) (rest := [.int 0, .ref w0]) (wc := [(z0, .inr (9, [.ref a0, .ref b0, .ref h0, .ref s0, .ref l0, .ref e0, .ref k0, .int u7, .int u8, .int u9])), (a0, .inr (8, [.ref a1])), (a1, .inr (6, [.ref a2])), (a2, .inl (cA 0, 61, .inl f)), (h0, .inr (5, [.ref h1, .int v1, .int v2])), (h1, .inr (6, [.ref h2])), (h2, .inl (cA 0, 488, .inl g))]) (wr := [(w0, .inl (cA 3, 1, .inr (.inl wo)))]) (w1 := (fun as => [(z0, .inr (9, [.ref a0, .ref b0, .ref h0, .ref s0, .ref l0, .ref e0, .ref k0, .int u7, .int u8, .int u9])), (a0, .inr (8, [.ref a1])), (a1, .inr (6, [.ref a2])), (a2, .inl (cA 0, 61, .inl o1.2.2.1)), (h0, .inr (5, [.ref h1, .int o1.2.2.2.2.1, .int o1.2.2.2.2.2])), (h1, .inr (6, [.ref h2])), (h2, .inl (cA 0, 488, .inl o1.2.2.2.1))])) (ws2 := (fun as => [(z0, .inr (9, [.ref a0, .ref b0, .ref h0, .ref s0, .ref l0, .ref e0, .ref k0, .int u7, .int u8, .int u9])), (a0, .inr (8, [.ref a1])), (a1, .inr (6, [.ref a2])), (a2, .inl (cA 0, 61, .inl o1.2.2.1)), (h0, .inr (5, [.ref h1, .int o1.2.2.2.2.1, .int o1.2.2.2.2.2])), (h1, .inr (6, [.ref h2])), (h2, .inl (cA 0, 488, .inl o1.2.2.2.1)), (w0, .inl (cA 3, 1, .inr (.inl wo)))])) (st1 := (fun as => [.int o1.2.1, .int 0, .ref w0])) ⟨hx, hb, hml, hfc, hts⟩ hK hP hD hS hA hEV (kX5_advance l hst D cA G z0 a0 b0 h0 s0 l0 e0 k0 a1 a2 h1 h2 N u7 u8 u9 f v1 v2 g x1 ho1) (cwV 1 hts gL_advance_X5_advance rfl rfl rfl (by decide +kernel) ⟨(Nat.le_of_ble_eq_true rfl), (Nat.le_of_ble_eq_true rfl)⟩) [0, 1, 2, 3, 4, 5, 6] [7] [1, 2, 3, 4, 5, 6, 7, 0] rfl rfl rfl rfl (by decide) (fun _ => rfl) rfl 0 9 rfl rfl rfl rfl (fun _ => rfl) rfl hl.1 (Nat.le_of_ble_eq_true rfl) dL_advance_4 ⟨(Nat.le_of_ble_eq_true rfl), (Nat.le_of_ble_eq_true rfl)⟩ (fun c3 as2 H locs hP hD hS => ?_) (fun c3 as2 H locs q9 ce hP hD hS z1 z2 z3 => ?_)
  · have h := ite_t c3 h
    have hP : va_P D vwCl [(z0, .inr (9, [.ref a0, .ref b0, .ref h0, .ref s0, .ref l0, .ref e0, .ref k0, .int u7, .int u8, .int u9])), (a0, .inr (8, [.ref a1])), (a1, .inr (6, [.ref a2])), (a2, .inl (cA 0, 61, .inl o1.2.2.1)), (h0, .inr (5, [.ref h1, .int o1.2.2.2.2.1, .int o1.2.2.2.2.2])), (h1, .inr (6, [.ref h2])), (h2, .inl (cA 0, 488, .inl o1.2.2.2.1)), (w0, .inl (cA 3, 1, .inr (.inl wo)))] H := hP
    have hD : va_D A [(z0, .inr (9, [.ref a0, .ref b0, .ref h0, .ref s0, .ref l0, .ref e0, .ref k0, .int u7, .int u8, .int u9])), (a0, .inr (8, [.ref a1])), (a1, .inr (6, [.ref a2])), (a2, .inl (cA 0, 61, .inl o1.2.2.1)), (h0, .inr (5, [.ref h1, .int o1.2.2.2.2.1, .int o1.2.2.2.2.2])), (h1, .inr (6, [.ref h2])), (h2, .inl (cA 0, 488, .inl o1.2.2.2.1)), (w0, .inl (cA 3, 1, .inr (.inl wo)))] := hD
    refine W.cs (cells' := 1) (slots' := 6) rfl rfl ?_
    refine lv_i2l (v := o1.2.1.toInt64) hx hb dL_advance_7 rfl ?_
    refine va_last hx hb hK hP hD hS 7 3 rfl rfl (vin _ _ (by decide)) dL_advance_8 (fun H locs hP hD hS => ?_)
    have hP : va_P D vwCl [(z0, .inr (9, [.ref a0, .ref b0, .ref h0, .ref s0, .ref l0, .ref e0, .ref k0, .int u7, .int u8, .int u9])), (a0, .inr (8, [.ref a1])), (a1, .inr (6, [.ref a2])), (a2, .inl (cA 0, 61, .inl o1.2.2.1)), (h0, .inr (5, [.ref h1, .int o1.2.2.2.2.1, .int o1.2.2.2.2.2])), (h1, .inr (6, [.ref h2])), (h2, .inl (cA 0, 488, .inl o1.2.2.2.1)), (w0, .inl (cA 3, 1, .inr (.inl (vp_updL wo 0 o1.2.1.toInt64))))] H := hP
    have hD : va_D A [(z0, .inr (9, [.ref a0, .ref b0, .ref h0, .ref s0, .ref l0, .ref e0, .ref k0, .int u7, .int u8, .int u9])), (a0, .inr (8, [.ref a1])), (a1, .inr (6, [.ref a2])), (a2, .inl (cA 0, 61, .inl o1.2.2.1)), (h0, .inr (5, [.ref h1, .int o1.2.2.2.2.1, .int o1.2.2.2.2.2])), (h1, .inr (6, [.ref h2])), (h2, .inl (cA 0, 488, .inl o1.2.2.2.1)), (w0, .inl (cA 3, 1, .inr (.inl (vp_updL wo 0 o1.2.1.toInt64))))] := hD
    refine lv_goto (tgt := 15) hx hb dL_advance_9 (by decide) ?_
    refine lv_iconst (v := 0) hx hb dL_advance_15 (by decide) ?_
    have h := Option.some.inj h
    subst h
    refine W.widen (k := 1) (n := 6) (Nat.le_of_ble_eq_true rfl) (Nat.le_of_ble_eq_true rfl) ?_
    exact hend (adr []) _ _ _ _ _ _ _ rfl rfl (rtn_i _) hP hD hS dL_advance_16
  · have h := ite_f c3 h
    have hP : va_P D vwCl [(z0, .inr (9, [.ref a0, .ref b0, .ref h0, .ref s0, .ref l0, .ref e0, .ref k0, .int u7, .int u8, .int u9])), (a0, .inr (8, [.ref a1])), (a1, .inr (6, [.ref a2])), (a2, .inl (cA 0, 61, .inl o1.2.2.1)), (h0, .inr (5, [.ref h1, .int o1.2.2.2.2.1, .int o1.2.2.2.2.2])), (h1, .inr (6, [.ref h2])), (h2, .inl (cA 0, 488, .inl o1.2.2.2.1)), (w0, .inl (cA 3, 1, .inr (.inl wo)))] H := hP
    have hD : va_D A [(z0, .inr (9, [.ref a0, .ref b0, .ref h0, .ref s0, .ref l0, .ref e0, .ref k0, .int u7, .int u8, .int u9])), (a0, .inr (8, [.ref a1])), (a1, .inr (6, [.ref a2])), (a2, .inl (cA 0, 61, .inl o1.2.2.1)), (h0, .inr (5, [.ref h1, .int o1.2.2.2.2.1, .int o1.2.2.2.2.2])), (h1, .inr (6, [.ref h2])), (h2, .inl (cA 0, 488, .inl o1.2.2.2.1)), (w0, .inl (cA 3, 1, .inr (.inl wo)))] := hD
    by_cases c4 : o1.1 = 1
    · have h := ite_t c4 h
      have z4 : s.vm.findClass "java/lang/IllegalArgumentException" = some ce.cls := by rw [c4] at z3; exact z3
      refine vx_catch (own := RL) (name := "java/lang/IllegalArgumentException") (E := "java/lang/IllegalArgumentException") hfc [] ⟨0, 9, 12, 13⟩ [] hT9 (fun z hz => absurd hz List.not_mem_nil) rfl (by decide) (hL9.link (List.mem_of_getElem? (i := 0) rfl)) ((hEV.1.2.2.2.2 "java/lang/IllegalArgumentException" (by decide +kernel)).use rfl) z1 z2 z4 ?_
      refine W.cs (cells' := 1) (slots' := 6) rfl rfl ?_
      refine lv_astore_n hx hb dL_advance_12 rfl hl (Nat.le_of_ble_eq_true rfl) rfl (fun ls hl => ?_)
      have hl : lv_has ls 4 [(3, .ref q9), (0, .ref z0), (1, .int x1), (2, .ref w0)] := hl
      refine lv_iconst (v := 1) hx hb dL_advance_13 (by decide) ?_
      have h := Option.some.inj h
      subst h
      refine W.widen (k := 1) (n := 6) (Nat.le_of_ble_eq_true rfl) (Nat.le_of_ble_eq_true rfl) ?_
      exact hend (adr []) _ _ _ _ _ _ _ rfl rfl (rtn_i _) hP hD hS dL_advance_14
    · have h := ite_f c4 h
      exact nn h

noncomputable def SL_tideAt (N : Nat) (f : Nat → Int32) (x1 : Int32) (wo : Nat → Int64) : Option (Int32 × (Nat → Int64)) := bnd (SX5_tideAt N f x1) (fun o1 : Nat × Int32 => if o1.1 = 0 then (some ((0, vp_updL wo 0 o1.2.toInt64))) else (if o1.1 = 3 then (some ((1, wo))) else (none)))
abbrev RM_L_tideAt : Room := { frames := 8, cells := 1, slots := 6, locals := 128 }
set_option maxHeartbeats 4000000 in
theorem kL_tideAt (l : Launch) (hst : l.stackTraces = false) (D : va_G) (cA : Nat → ClassId) (G : eG) (z0 a0 b0 h0 s0 l0 e0 k0 a1 a2 w0 : Nat) (N : Nat) (u7 : Int32) (u8 : Int32) (u9 : Int32) (f : Nat → Int32) (x1 : Int32) (wo : Nat → Int64) {r : Int32 × (Nat → Int64)} (hr : SL_tideAt N f x1 wo = some r) {sz : Nat} : Met l yL_tideAt wsL_tideAt RM_L_tideAt (va_Pc [.ref z0, .int x1, .ref w0] (gqLB G D cA [(z0, .inr (9, [.ref a0, .ref b0, .ref h0, .ref s0, .ref l0, .ref e0, .ref k0, .int u7, .int u8, .int u9])), (a0, .inr (8, [.ref a1])), (a1, .inr (6, [.ref a2])), (a2, .inl (cA 0, 61, .inl f)), (w0, .inl (cA 3, 1, .inr (.inl wo)))] sz)) (gqQ D (fun as => (some (.int r.1))) (fun as => [(z0, .inr (9, [.ref a0, .ref b0, .ref h0, .ref s0, .ref l0, .ref e0, .ref k0, .int u7, .int u8, .int u9])), (a0, .inr (8, [.ref a1])), (a1, .inr (6, [.ref a2])), (a2, .inl (cA 0, 61, .inl f)), (w0, .inl (cA 3, 1, .inr (.inl r.2)))]) (va_A [(z0, .inr (9, [.ref a0, .ref b0, .ref h0, .ref s0, .ref l0, .ref e0, .ref k0, .int u7, .int u8, .int u9])), (a0, .inr (8, [.ref a1])), (a1, .inr (6, [.ref a2])), (a2, .inl (cA 0, 61, .inl f)), (w0, .inl (cA 3, 1, .inr (.inl wo)))] sz)) 1 6 (va_A [(z0, .inr (9, [.ref a0, .ref b0, .ref h0, .ref s0, .ref l0, .ref e0, .ref k0, .int u7, .int u8, .int u9])), (a0, .inr (8, [.ref a1])), (a1, .inr (6, [.ref a2])), (a2, .inl (cA 0, 61, .inl f)), (w0, .inl (cA 3, 1, .inr (.inl wo)))] sz) := by
  refine gqL_ofW (hh := [(0, 9, 12, 27)]) (cc := cL_tideAt) (maxL := 4) (ret := (some .int)) (by decide) rfl (Nat.le_of_ble_eq_true rfl) (fun p e s m args below meth c ls Q A hx hb hml hT9 hts hfc hK hP hD hS hA hEV hL9 hl hend => ?_)
  have hfc : s.vm.findClass RL = some m.cls := hfc
  have hl : lv_has ls 4 [(0, .ref z0), (1, .int x1), (2, .ref w0)] := hl
  have h := hr
  clear hr
  unfold SL_tideAt at h
  refine lv_aload_n hx hb dL_tideAt_0 rfl (lv_at hl 2 rfl) ?_
  refine lv_iconst (v := 0) hx hb dL_tideAt_1 (by decide) ?_
  refine lv_aload_n hx hb dL_tideAt_2 rfl (lv_at hl 0 rfl) ?_
  refine lv_iload_n hx hb dL_tideAt_3 rfl (lv_at hl 1 rfl) ?_
  obtain ⟨o1, ho1, h⟩ := bnd_i h
  refine xq_V (G := G) (v := (fun as => (some (.int o1.2)))) (As := [.int x1]) (rest := [.int 0, .ref w0]) (wc := [(z0, .inr (9, [.ref a0, .ref b0, .ref h0, .ref s0, .ref l0, .ref e0, .ref k0, .int u7, .int u8, .int u9])), (a0, .inr (8, [.ref a1])), (a1, .inr (6, [.ref a2])), (a2, .inl (cA 0, 61, .inl f))]) (wr := [(w0, .inl (cA 3, 1, .inr (.inl wo)))]) (w1 := (fun as => [(z0, .inr (9, [.ref a0, .ref b0, .ref h0, .ref s0, .ref l0, .ref e0, .ref k0, .int u7, .int u8, .int u9])), (a0, .inr (8, [.ref a1])), (a1, .inr (6, [.ref a2])), (a2, .inl (cA 0, 61, .inl f))])) (ws2 := (fun as => [(z0, .inr (9, [.ref a0, .ref b0, .ref h0, .ref s0, .ref l0, .ref e0, .ref k0, .int u7, .int u8, .int u9])), (a0, .inr (8, [.ref a1])), (a1, .inr (6, [.ref a2])), (a2, .inl (cA 0, 61, .inl f)), (w0, .inl (cA 3, 1, .inr (.inl wo)))])) (st1 := (fun as => [.int o1.2, .int 0, .ref w0])) ⟨hx, hb, hml, hfc, hts⟩ hK hP hD hS hA hEV (kX5_tideAt l hst D cA G z0 a0 b0 h0 s0 l0 e0 k0 a1 a2 N u7 u8 u9 f x1 ho1) (cwV 1 hts gL_tideAt_X5_tideAt rfl rfl rfl (by decide +kernel) ⟨(Nat.le_of_ble_eq_true rfl), (Nat.le_of_ble_eq_true rfl)⟩) [0, 1, 2, 3] [4] [1, 2, 3, 4, 0] rfl rfl rfl rfl (by decide) (fun _ => rfl) rfl 0 9 rfl rfl rfl rfl (fun _ => rfl) rfl hl.1 (Nat.le_of_ble_eq_true rfl) dL_tideAt_4 ⟨(Nat.le_of_ble_eq_true rfl), (Nat.le_of_ble_eq_true rfl)⟩ (fun c3 as2 H locs hP hD hS => ?_) (fun c3 as2 H locs q9 ce hP hD hS z1 z2 z3 => ?_)
  · have h := ite_t c3 h
    have hP : va_P D vwCl [(z0, .inr (9, [.ref a0, .ref b0, .ref h0, .ref s0, .ref l0, .ref e0, .ref k0, .int u7, .int u8, .int u9])), (a0, .inr (8, [.ref a1])), (a1, .inr (6, [.ref a2])), (a2, .inl (cA 0, 61, .inl f)), (w0, .inl (cA 3, 1, .inr (.inl wo)))] H := hP
    have hD : va_D A [(z0, .inr (9, [.ref a0, .ref b0, .ref h0, .ref s0, .ref l0, .ref e0, .ref k0, .int u7, .int u8, .int u9])), (a0, .inr (8, [.ref a1])), (a1, .inr (6, [.ref a2])), (a2, .inl (cA 0, 61, .inl f)), (w0, .inl (cA 3, 1, .inr (.inl wo)))] := hD
    refine W.cs (cells' := 1) (slots' := 6) rfl rfl ?_
    refine lv_i2l (v := o1.2.toInt64) hx hb dL_tideAt_7 rfl ?_
    refine va_last hx hb hK hP hD hS 4 3 rfl rfl (vin _ _ (by decide)) dL_tideAt_8 (fun H locs hP hD hS => ?_)
    have hP : va_P D vwCl [(z0, .inr (9, [.ref a0, .ref b0, .ref h0, .ref s0, .ref l0, .ref e0, .ref k0, .int u7, .int u8, .int u9])), (a0, .inr (8, [.ref a1])), (a1, .inr (6, [.ref a2])), (a2, .inl (cA 0, 61, .inl f)), (w0, .inl (cA 3, 1, .inr (.inl (vp_updL wo 0 o1.2.toInt64))))] H := hP
    have hD : va_D A [(z0, .inr (9, [.ref a0, .ref b0, .ref h0, .ref s0, .ref l0, .ref e0, .ref k0, .int u7, .int u8, .int u9])), (a0, .inr (8, [.ref a1])), (a1, .inr (6, [.ref a2])), (a2, .inl (cA 0, 61, .inl f)), (w0, .inl (cA 3, 1, .inr (.inl (vp_updL wo 0 o1.2.toInt64))))] := hD
    refine lv_goto (tgt := 15) hx hb dL_tideAt_9 (by decide) ?_
    refine lv_iconst (v := 0) hx hb dL_tideAt_15 (by decide) ?_
    have h := Option.some.inj h
    subst h
    refine W.widen (k := 1) (n := 6) (Nat.le_of_ble_eq_true rfl) (Nat.le_of_ble_eq_true rfl) ?_
    exact hend (adr []) _ _ _ _ _ _ _ rfl rfl (rtn_i _) hP hD hS dL_tideAt_16
  · have h := ite_f c3 h
    have hP : va_P D vwCl [(z0, .inr (9, [.ref a0, .ref b0, .ref h0, .ref s0, .ref l0, .ref e0, .ref k0, .int u7, .int u8, .int u9])), (a0, .inr (8, [.ref a1])), (a1, .inr (6, [.ref a2])), (a2, .inl (cA 0, 61, .inl f)), (w0, .inl (cA 3, 1, .inr (.inl wo)))] H := hP
    have hD : va_D A [(z0, .inr (9, [.ref a0, .ref b0, .ref h0, .ref s0, .ref l0, .ref e0, .ref k0, .int u7, .int u8, .int u9])), (a0, .inr (8, [.ref a1])), (a1, .inr (6, [.ref a2])), (a2, .inl (cA 0, 61, .inl f)), (w0, .inl (cA 3, 1, .inr (.inl wo)))] := hD
    by_cases c4 : o1.1 = 3
    · have h := ite_t c4 h
      have z4 : s.vm.findClass "java/lang/IndexOutOfBoundsException" = some ce.cls := by rw [c4] at z3; exact z3
      refine vx_catch (own := RL) (name := "java/lang/IndexOutOfBoundsException") (E := "java/lang/IndexOutOfBoundsException") hfc [] ⟨0, 9, 12, 27⟩ [] hT9 (fun z hz => absurd hz List.not_mem_nil) rfl (by decide) (hL9.link (List.mem_of_getElem? (i := 2) rfl)) ((hEV.1.2.2.2.2 "java/lang/IndexOutOfBoundsException" (by decide +kernel)).use rfl) z1 z2 z4 ?_
      refine W.cs (cells' := 1) (slots' := 6) rfl rfl ?_
      refine lv_astore_n hx hb dL_tideAt_12 rfl hl (Nat.le_of_ble_eq_true rfl) rfl (fun ls hl => ?_)
      have hl : lv_has ls 4 [(3, .ref q9), (0, .ref z0), (1, .int x1), (2, .ref w0)] := hl
      refine lv_iconst (v := 1) hx hb dL_tideAt_13 (by decide) ?_
      have h := Option.some.inj h
      subst h
      refine W.widen (k := 1) (n := 6) (Nat.le_of_ble_eq_true rfl) (Nat.le_of_ble_eq_true rfl) ?_
      exact hend (adr []) _ _ _ _ _ _ _ rfl rfl (rtn_i _) hP hD hS dL_tideAt_14
    · have h := ite_f c4 h
      exact nn h

noncomputable def SL_levelAt (N : Nat) (f : Nat → Int32) (x1 : Int32) (wo : Nat → Int64) : Option (Int32 × (Nat → Int64)) := bnd (SX5_levelAt N f x1) (fun o1 : Nat × Int32 => if o1.1 = 0 then (some ((0, vp_updL wo 0 o1.2.toInt64))) else (if o1.1 = 3 then (some ((1, wo))) else (none)))
abbrev RM_L_levelAt : Room := { frames := 8, cells := 1, slots := 6, locals := 151 }
set_option maxHeartbeats 4000000 in
theorem kL_levelAt (l : Launch) (hst : l.stackTraces = false) (D : va_G) (cA : Nat → ClassId) (G : eG) (z0 a0 b0 h0 s0 l0 e0 k0 a1 a2 w0 : Nat) (N : Nat) (u7 : Int32) (u8 : Int32) (u9 : Int32) (f : Nat → Int32) (x1 : Int32) (wo : Nat → Int64) {r : Int32 × (Nat → Int64)} (hr : SL_levelAt N f x1 wo = some r) {sz : Nat} : Met l yL_levelAt wsL_levelAt RM_L_levelAt (va_Pc [.ref z0, .int x1, .ref w0] (gqLB G D cA [(z0, .inr (9, [.ref a0, .ref b0, .ref h0, .ref s0, .ref l0, .ref e0, .ref k0, .int u7, .int u8, .int u9])), (a0, .inr (8, [.ref a1])), (a1, .inr (6, [.ref a2])), (a2, .inl (cA 0, 61, .inl f)), (w0, .inl (cA 3, 1, .inr (.inl wo)))] sz)) (gqQ D (fun as => (some (.int r.1))) (fun as => [(z0, .inr (9, [.ref a0, .ref b0, .ref h0, .ref s0, .ref l0, .ref e0, .ref k0, .int u7, .int u8, .int u9])), (a0, .inr (8, [.ref a1])), (a1, .inr (6, [.ref a2])), (a2, .inl (cA 0, 61, .inl f)), (w0, .inl (cA 3, 1, .inr (.inl r.2)))]) (va_A [(z0, .inr (9, [.ref a0, .ref b0, .ref h0, .ref s0, .ref l0, .ref e0, .ref k0, .int u7, .int u8, .int u9])), (a0, .inr (8, [.ref a1])), (a1, .inr (6, [.ref a2])), (a2, .inl (cA 0, 61, .inl f)), (w0, .inl (cA 3, 1, .inr (.inl wo)))] sz)) 1 6 (va_A [(z0, .inr (9, [.ref a0, .ref b0, .ref h0, .ref s0, .ref l0, .ref e0, .ref k0, .int u7, .int u8, .int u9])), (a0, .inr (8, [.ref a1])), (a1, .inr (6, [.ref a2])), (a2, .inl (cA 0, 61, .inl f)), (w0, .inl (cA 3, 1, .inr (.inl wo)))] sz) := by
  refine gqL_ofW (hh := [(0, 9, 12, 27)]) (cc := cL_levelAt) (maxL := 4) (ret := (some .int)) (by decide) rfl (Nat.le_of_ble_eq_true rfl) (fun p e s m args below meth c ls Q A hx hb hml hT9 hts hfc hK hP hD hS hA hEV hL9 hl hend => ?_)
  have hfc : s.vm.findClass RL = some m.cls := hfc
  have hl : lv_has ls 4 [(0, .ref z0), (1, .int x1), (2, .ref w0)] := hl
  have h := hr
  clear hr
  unfold SL_levelAt at h
  refine lv_aload_n hx hb dL_levelAt_0 rfl (lv_at hl 2 rfl) ?_
  refine lv_iconst (v := 0) hx hb dL_levelAt_1 (by decide) ?_
  refine lv_aload_n hx hb dL_levelAt_2 rfl (lv_at hl 0 rfl) ?_
  refine lv_iload_n hx hb dL_levelAt_3 rfl (lv_at hl 1 rfl) ?_
  obtain ⟨o1, ho1, h⟩ := bnd_i h
  refine xq_V (G := G) (v := (fun as => (some (.int o1.2)))) (As := [.int x1]) (rest := [.int 0, .ref w0]) (wc := [(z0, .inr (9, [.ref a0, .ref b0, .ref h0, .ref s0, .ref l0, .ref e0, .ref k0, .int u7, .int u8, .int u9])), (a0, .inr (8, [.ref a1])), (a1, .inr (6, [.ref a2])), (a2, .inl (cA 0, 61, .inl f))]) (wr := [(w0, .inl (cA 3, 1, .inr (.inl wo)))]) (w1 := (fun as => [(z0, .inr (9, [.ref a0, .ref b0, .ref h0, .ref s0, .ref l0, .ref e0, .ref k0, .int u7, .int u8, .int u9])), (a0, .inr (8, [.ref a1])), (a1, .inr (6, [.ref a2])), (a2, .inl (cA 0, 61, .inl f))])) (ws2 := (fun as => [(z0, .inr (9, [.ref a0, .ref b0, .ref h0, .ref s0, .ref l0, .ref e0, .ref k0, .int u7, .int u8, .int u9])), (a0, .inr (8, [.ref a1])), (a1, .inr (6, [.ref a2])), (a2, .inl (cA 0, 61, .inl f)), (w0, .inl (cA 3, 1, .inr (.inl wo)))])) (st1 := (fun as => [.int o1.2, .int 0, .ref w0])) ⟨hx, hb, hml, hfc, hts⟩ hK hP hD hS hA hEV (kX5_levelAt l hst D cA G z0 a0 b0 h0 s0 l0 e0 k0 a1 a2 N u7 u8 u9 f x1 ho1) (cwV 1 hts gL_levelAt_X5_levelAt rfl rfl rfl (by decide +kernel) ⟨(Nat.le_of_ble_eq_true rfl), (Nat.le_of_ble_eq_true rfl)⟩) [0, 1, 2, 3] [4] [1, 2, 3, 4, 0] rfl rfl rfl rfl (by decide) (fun _ => rfl) rfl 0 9 rfl rfl rfl rfl (fun _ => rfl) rfl hl.1 (Nat.le_of_ble_eq_true rfl) dL_levelAt_4 ⟨(Nat.le_of_ble_eq_true rfl), (Nat.le_of_ble_eq_true rfl)⟩ (fun c3 as2 H locs hP hD hS => ?_) (fun c3 as2 H locs q9 ce hP hD hS z1 z2 z3 => ?_)
  · have h := ite_t c3 h
    have hP : va_P D vwCl [(z0, .inr (9, [.ref a0, .ref b0, .ref h0, .ref s0, .ref l0, .ref e0, .ref k0, .int u7, .int u8, .int u9])), (a0, .inr (8, [.ref a1])), (a1, .inr (6, [.ref a2])), (a2, .inl (cA 0, 61, .inl f)), (w0, .inl (cA 3, 1, .inr (.inl wo)))] H := hP
    have hD : va_D A [(z0, .inr (9, [.ref a0, .ref b0, .ref h0, .ref s0, .ref l0, .ref e0, .ref k0, .int u7, .int u8, .int u9])), (a0, .inr (8, [.ref a1])), (a1, .inr (6, [.ref a2])), (a2, .inl (cA 0, 61, .inl f)), (w0, .inl (cA 3, 1, .inr (.inl wo)))] := hD
    refine W.cs (cells' := 1) (slots' := 6) rfl rfl ?_
    refine lv_i2l (v := o1.2.toInt64) hx hb dL_levelAt_7 rfl ?_
    refine va_last hx hb hK hP hD hS 4 3 rfl rfl (vin _ _ (by decide)) dL_levelAt_8 (fun H locs hP hD hS => ?_)
    have hP : va_P D vwCl [(z0, .inr (9, [.ref a0, .ref b0, .ref h0, .ref s0, .ref l0, .ref e0, .ref k0, .int u7, .int u8, .int u9])), (a0, .inr (8, [.ref a1])), (a1, .inr (6, [.ref a2])), (a2, .inl (cA 0, 61, .inl f)), (w0, .inl (cA 3, 1, .inr (.inl (vp_updL wo 0 o1.2.toInt64))))] H := hP
    have hD : va_D A [(z0, .inr (9, [.ref a0, .ref b0, .ref h0, .ref s0, .ref l0, .ref e0, .ref k0, .int u7, .int u8, .int u9])), (a0, .inr (8, [.ref a1])), (a1, .inr (6, [.ref a2])), (a2, .inl (cA 0, 61, .inl f)), (w0, .inl (cA 3, 1, .inr (.inl (vp_updL wo 0 o1.2.toInt64))))] := hD
    refine lv_goto (tgt := 15) hx hb dL_levelAt_9 (by decide) ?_
    refine lv_iconst (v := 0) hx hb dL_levelAt_15 (by decide) ?_
    have h := Option.some.inj h
    subst h
    refine W.widen (k := 1) (n := 6) (Nat.le_of_ble_eq_true rfl) (Nat.le_of_ble_eq_true rfl) ?_
    exact hend (adr []) _ _ _ _ _ _ _ rfl rfl (rtn_i _) hP hD hS dL_levelAt_16
  · have h := ite_f c3 h
    have hP : va_P D vwCl [(z0, .inr (9, [.ref a0, .ref b0, .ref h0, .ref s0, .ref l0, .ref e0, .ref k0, .int u7, .int u8, .int u9])), (a0, .inr (8, [.ref a1])), (a1, .inr (6, [.ref a2])), (a2, .inl (cA 0, 61, .inl f)), (w0, .inl (cA 3, 1, .inr (.inl wo)))] H := hP
    have hD : va_D A [(z0, .inr (9, [.ref a0, .ref b0, .ref h0, .ref s0, .ref l0, .ref e0, .ref k0, .int u7, .int u8, .int u9])), (a0, .inr (8, [.ref a1])), (a1, .inr (6, [.ref a2])), (a2, .inl (cA 0, 61, .inl f)), (w0, .inl (cA 3, 1, .inr (.inl wo)))] := hD
    by_cases c4 : o1.1 = 3
    · have h := ite_t c4 h
      have z4 : s.vm.findClass "java/lang/IndexOutOfBoundsException" = some ce.cls := by rw [c4] at z3; exact z3
      refine vx_catch (own := RL) (name := "java/lang/IndexOutOfBoundsException") (E := "java/lang/IndexOutOfBoundsException") hfc [] ⟨0, 9, 12, 27⟩ [] hT9 (fun z hz => absurd hz List.not_mem_nil) rfl (by decide) (hL9.link (List.mem_of_getElem? (i := 2) rfl)) ((hEV.1.2.2.2.2 "java/lang/IndexOutOfBoundsException" (by decide +kernel)).use rfl) z1 z2 z4 ?_
      refine W.cs (cells' := 1) (slots' := 6) rfl rfl ?_
      refine lv_astore_n hx hb dL_levelAt_12 rfl hl (Nat.le_of_ble_eq_true rfl) rfl (fun ls hl => ?_)
      have hl : lv_has ls 4 [(3, .ref q9), (0, .ref z0), (1, .int x1), (2, .ref w0)] := hl
      refine lv_iconst (v := 1) hx hb dL_levelAt_13 (by decide) ?_
      have h := Option.some.inj h
      subst h
      refine W.widen (k := 1) (n := 6) (Nat.le_of_ble_eq_true rfl) (Nat.le_of_ble_eq_true rfl) ?_
      exact hend (adr []) _ _ _ _ _ _ _ rfl rfl (rtn_i _) hP hD hS dL_levelAt_14
    · have h := ite_f c4 h
      exact nn h

noncomputable def SL_tideIn (N : Nat) (f : Nat → Int32) (x1 : Int32) (x2 : Int32) (wo : Nat → Int64) : Option (Int32 × (Nat → Int64)) := bnd (SX5_tideIn N f x1 x2) (fun o1 : Nat × Int32 => if o1.1 = 0 then (some ((0, vp_updL wo 0 o1.2.toInt64))) else (if o1.1 = 3 then (some ((1, wo))) else (if o1.1 = 1 then (some ((2, wo))) else (none))))
abbrev RM_L_tideIn : Room := { frames := 8, cells := 2, slots := 12, locals := 129 }
set_option maxHeartbeats 4000000 in
theorem kL_tideIn (l : Launch) (hst : l.stackTraces = false) (D : va_G) (cA : Nat → ClassId) (G : eG) (z0 a0 b0 h0 s0 l0 e0 k0 a1 a2 w0 : Nat) (N : Nat) (u7 : Int32) (u8 : Int32) (u9 : Int32) (f : Nat → Int32) (x1 : Int32) (x2 : Int32) (wo : Nat → Int64) {r : Int32 × (Nat → Int64)} (hr : SL_tideIn N f x1 x2 wo = some r) {sz : Nat} : Met l yL_tideIn wsL_tideIn RM_L_tideIn (va_Pc [.ref z0, .int x1, .int x2, .ref w0] (gqLB G D cA [(z0, .inr (9, [.ref a0, .ref b0, .ref h0, .ref s0, .ref l0, .ref e0, .ref k0, .int u7, .int u8, .int u9])), (a0, .inr (8, [.ref a1])), (a1, .inr (6, [.ref a2])), (a2, .inl (cA 0, 61, .inl f)), (w0, .inl (cA 3, 1, .inr (.inl wo)))] sz)) (gqQ D (fun as => (some (.int r.1))) (fun as => [(z0, .inr (9, [.ref a0, .ref b0, .ref h0, .ref s0, .ref l0, .ref e0, .ref k0, .int u7, .int u8, .int u9])), (a0, .inr (8, [.ref a1])), (a1, .inr (6, [.ref a2])), (a2, .inl (cA 0, 61, .inl f)), (w0, .inl (cA 3, 1, .inr (.inl r.2)))]) (va_A [(z0, .inr (9, [.ref a0, .ref b0, .ref h0, .ref s0, .ref l0, .ref e0, .ref k0, .int u7, .int u8, .int u9])), (a0, .inr (8, [.ref a1])), (a1, .inr (6, [.ref a2])), (a2, .inl (cA 0, 61, .inl f)), (w0, .inl (cA 3, 1, .inr (.inl wo)))] sz)) 2 12 (va_A [(z0, .inr (9, [.ref a0, .ref b0, .ref h0, .ref s0, .ref l0, .ref e0, .ref k0, .int u7, .int u8, .int u9])), (a0, .inr (8, [.ref a1])), (a1, .inr (6, [.ref a2])), (a2, .inl (cA 0, 61, .inl f)), (w0, .inl (cA 3, 1, .inr (.inl wo)))] sz) := by
  refine gqL_ofW (hh := [(0, 10, 13, 27), (0, 10, 17, 13)]) (cc := cL_tideIn) (maxL := 5) (ret := (some .int)) (by decide) rfl (Nat.le_of_ble_eq_true rfl) (fun p e s m args below meth c ls Q A hx hb hml hT9 hts hfc hK hP hD hS hA hEV hL9 hl hend => ?_)
  have hfc : s.vm.findClass RL = some m.cls := hfc
  have hl : lv_has ls 5 [(0, .ref z0), (1, .int x1), (2, .int x2), (3, .ref w0)] := hl
  have h := hr
  clear hr
  unfold SL_tideIn at h
  refine lv_aload_n hx hb dL_tideIn_0 rfl (lv_at hl 3 rfl) ?_
  refine lv_iconst (v := 0) hx hb dL_tideIn_1 (by decide) ?_
  refine lv_aload_n hx hb dL_tideIn_2 rfl (lv_at hl 0 rfl) ?_
  refine lv_iload_n hx hb dL_tideIn_3 rfl (lv_at hl 1 rfl) ?_
  refine lv_iload_n hx hb dL_tideIn_4 rfl (lv_at hl 2 rfl) ?_
  obtain ⟨o1, ho1, h⟩ := bnd_i h
  refine xq_V (G := G) (v := (fun as => (some (.int o1.2)))) (As := [.int x1, .int x2]) (rest := [.int 0, .ref w0]) (wc := [(z0, .inr (9, [.ref a0, .ref b0, .ref h0, .ref s0, .ref l0, .ref e0, .ref k0, .int u7, .int u8, .int u9])), (a0, .inr (8, [.ref a1])), (a1, .inr (6, [.ref a2])), (a2, .inl (cA 0, 61, .inl f))]) (wr := [(w0, .inl (cA 3, 1, .inr (.inl wo)))]) (w1 := (fun as => [(z0, .inr (9, [.ref a0, .ref b0, .ref h0, .ref s0, .ref l0, .ref e0, .ref k0, .int u7, .int u8, .int u9])), (a0, .inr (8, [.ref a1])), (a1, .inr (6, [.ref a2])), (a2, .inl (cA 0, 61, .inl f))])) (ws2 := (fun as => [(z0, .inr (9, [.ref a0, .ref b0, .ref h0, .ref s0, .ref l0, .ref e0, .ref k0, .int u7, .int u8, .int u9])), (a0, .inr (8, [.ref a1])), (a1, .inr (6, [.ref a2])), (a2, .inl (cA 0, 61, .inl f)), (w0, .inl (cA 3, 1, .inr (.inl wo)))])) (st1 := (fun as => [.int o1.2, .int 0, .ref w0])) ⟨hx, hb, hml, hfc, hts⟩ hK hP hD hS hA hEV (kX5_tideIn l hst D cA G z0 a0 b0 h0 s0 l0 e0 k0 a1 a2 N u7 u8 u9 f x1 x2 ho1) (cwV 2 hts gL_tideIn_X5_tideIn rfl rfl rfl (by decide +kernel) ⟨(Nat.le_of_ble_eq_true rfl), (Nat.le_of_ble_eq_true rfl)⟩) [0, 1, 2, 3] [4] [1, 2, 3, 4, 0] rfl rfl rfl rfl (by decide) (fun _ => rfl) rfl 0 9 rfl rfl rfl rfl (fun _ => rfl) rfl hl.1 (Nat.le_of_ble_eq_true rfl) dL_tideIn_5 ⟨(Nat.le_of_ble_eq_true rfl), (Nat.le_of_ble_eq_true rfl)⟩ (fun c3 as2 H locs hP hD hS => ?_) (fun c3 as2 H locs q9 ce hP hD hS z1 z2 z3 => ?_)
  · have h := ite_t c3 h
    have hP : va_P D vwCl [(z0, .inr (9, [.ref a0, .ref b0, .ref h0, .ref s0, .ref l0, .ref e0, .ref k0, .int u7, .int u8, .int u9])), (a0, .inr (8, [.ref a1])), (a1, .inr (6, [.ref a2])), (a2, .inl (cA 0, 61, .inl f)), (w0, .inl (cA 3, 1, .inr (.inl wo)))] H := hP
    have hD : va_D A [(z0, .inr (9, [.ref a0, .ref b0, .ref h0, .ref s0, .ref l0, .ref e0, .ref k0, .int u7, .int u8, .int u9])), (a0, .inr (8, [.ref a1])), (a1, .inr (6, [.ref a2])), (a2, .inl (cA 0, 61, .inl f)), (w0, .inl (cA 3, 1, .inr (.inl wo)))] := hD
    refine W.cs (cells' := 2) (slots' := 12) rfl rfl ?_
    refine lv_i2l (v := o1.2.toInt64) hx hb dL_tideIn_8 rfl ?_
    refine va_last hx hb hK hP hD hS 4 3 rfl rfl (vin _ _ (by decide)) dL_tideIn_9 (fun H locs hP hD hS => ?_)
    have hP : va_P D vwCl [(z0, .inr (9, [.ref a0, .ref b0, .ref h0, .ref s0, .ref l0, .ref e0, .ref k0, .int u7, .int u8, .int u9])), (a0, .inr (8, [.ref a1])), (a1, .inr (6, [.ref a2])), (a2, .inl (cA 0, 61, .inl f)), (w0, .inl (cA 3, 1, .inr (.inl (vp_updL wo 0 o1.2.toInt64))))] H := hP
    have hD : va_D A [(z0, .inr (9, [.ref a0, .ref b0, .ref h0, .ref s0, .ref l0, .ref e0, .ref k0, .int u7, .int u8, .int u9])), (a0, .inr (8, [.ref a1])), (a1, .inr (6, [.ref a2])), (a2, .inl (cA 0, 61, .inl f)), (w0, .inl (cA 3, 1, .inr (.inl (vp_updL wo 0 o1.2.toInt64))))] := hD
    refine lv_goto (tgt := 21) hx hb dL_tideIn_10 (by decide) ?_
    refine lv_iconst (v := 0) hx hb dL_tideIn_21 (by decide) ?_
    have h := Option.some.inj h
    subst h
    refine W.widen (k := 2) (n := 12) (Nat.le_of_ble_eq_true rfl) (Nat.le_of_ble_eq_true rfl) ?_
    exact hend (adr []) _ _ _ _ _ _ _ rfl rfl (rtn_i _) hP hD hS dL_tideIn_22
  · have h := ite_f c3 h
    have hP : va_P D vwCl [(z0, .inr (9, [.ref a0, .ref b0, .ref h0, .ref s0, .ref l0, .ref e0, .ref k0, .int u7, .int u8, .int u9])), (a0, .inr (8, [.ref a1])), (a1, .inr (6, [.ref a2])), (a2, .inl (cA 0, 61, .inl f)), (w0, .inl (cA 3, 1, .inr (.inl wo)))] H := hP
    have hD : va_D A [(z0, .inr (9, [.ref a0, .ref b0, .ref h0, .ref s0, .ref l0, .ref e0, .ref k0, .int u7, .int u8, .int u9])), (a0, .inr (8, [.ref a1])), (a1, .inr (6, [.ref a2])), (a2, .inl (cA 0, 61, .inl f)), (w0, .inl (cA 3, 1, .inr (.inl wo)))] := hD
    by_cases c4 : o1.1 = 3
    · have h := ite_t c4 h
      have z4 : s.vm.findClass "java/lang/IndexOutOfBoundsException" = some ce.cls := by rw [c4] at z3; exact z3
      refine vx_catch (own := RL) (name := "java/lang/IndexOutOfBoundsException") (E := "java/lang/IndexOutOfBoundsException") hfc [] ⟨0, 10, 13, 27⟩ [⟨0, 10, 17, 13⟩] hT9 (fun z hz => absurd hz List.not_mem_nil) rfl (by decide) (hL9.link (List.mem_of_getElem? (i := 2) rfl)) ((hEV.1.2.2.2.2 "java/lang/IndexOutOfBoundsException" (by decide +kernel)).use rfl) z1 z2 z4 ?_
      refine W.cs (cells' := 2) (slots' := 12) rfl rfl ?_
      refine lv_astore hx hb dL_tideIn_13 hl (Nat.le_of_ble_eq_true rfl) rfl (fun ls hl => ?_)
      have hl : lv_has ls 5 [(4, .ref q9), (0, .ref z0), (1, .int x1), (2, .int x2), (3, .ref w0)] := hl
      refine lv_iconst (v := 1) hx hb dL_tideIn_15 (by decide) ?_
      have h := Option.some.inj h
      subst h
      refine W.widen (k := 2) (n := 12) (Nat.le_of_ble_eq_true rfl) (Nat.le_of_ble_eq_true rfl) ?_
      exact hend (adr []) _ _ _ _ _ _ _ rfl rfl (rtn_i _) hP hD hS dL_tideIn_16
    · have h := ite_f c4 h
      by_cases c5 : o1.1 = 1
      · have h := ite_t c5 h
        have z4 : s.vm.findClass "java/lang/IllegalArgumentException" = some ce.cls := by rw [c5] at z3; exact z3
        have hp9 : ∀ z ∈ ([⟨0, 10, 13, 27⟩] : List ExceptionTableEntry), covers z 5 = false ∨ (z.catchType ≠ 0 ∧ ∃ nm : String, (Cond.classLink RL z.catchType nm).before args s = true ∧ va_Nc "java/lang/IllegalArgumentException" nm s) := by
          intro z hz
          rcases List.mem_cons.mp hz with rfl | hz
          · exact Or.inr ⟨by decide, _, (hL9.link (List.mem_of_getElem? (i := 2) rfl)), hL9.1.2.1⟩
          exact absurd hz List.not_mem_nil
        refine vx_catch (own := RL) (name := "java/lang/IllegalArgumentException") (E := "java/lang/IllegalArgumentException") hfc [⟨0, 10, 13, 27⟩] ⟨0, 10, 17, 13⟩ [] hT9 hp9 rfl (by decide) (hL9.link (List.mem_of_getElem? (i := 0) rfl)) ((hEV.1.2.2.2.2 "java/lang/IllegalArgumentException" (by decide +kernel)).use rfl) z1 z2 z4 ?_
        refine W.cs (cells' := 2) (slots' := 12) rfl rfl ?_
        refine lv_astore hx hb dL_tideIn_17 hl (Nat.le_of_ble_eq_true rfl) rfl (fun ls hl => ?_)
        have hl : lv_has ls 5 [(4, .ref q9), (0, .ref z0), (1, .int x1), (2, .int x2), (3, .ref w0)] := hl
        refine lv_iconst (v := 2) hx hb dL_tideIn_19 (by decide) ?_
        have h := Option.some.inj h
        subst h
        refine W.widen (k := 2) (n := 12) (Nat.le_of_ble_eq_true rfl) (Nat.le_of_ble_eq_true rfl) ?_
        exact hend (adr []) _ _ _ _ _ _ _ rfl rfl (rtn_i _) hP hD hS dL_tideIn_20
      · have h := ite_f c5 h
        exact nn h

noncomputable def SL_tideBySteps (N : Nat) (f : Nat → Int32) (f1 : Nat → Int32) (f2 : Nat → Int32) (f3 : Nat → Int32) (x1 : Int32) (x2 : Int32) (wo : Nat → Int64) : Option (Int32 × (Nat → Int32) × (Nat → Int32) × (Nat → Int32) × (Nat → Int64)) := bnd (SX5_tideBySteps N f f1 f2 f3 x1 x2) (fun o1 : Nat × Int32 × (Nat → Int32) × (Nat → Int32) × (Nat → Int32) => if o1.1 = 0 then (some ((0, o1.2.2.2.1, o1.2.2.2.2, o1.2.2.1, vp_updL wo 0 o1.2.1.toInt64))) else (if o1.1 = 3 then (some ((1, o1.2.2.2.1, o1.2.2.2.2, o1.2.2.1, wo))) else (if o1.1 = 1 then (some ((2, o1.2.2.2.1, o1.2.2.2.2, o1.2.2.1, wo))) else (none))))
abbrev RM_L_tideBySteps : Room := { frames := 8, cells := 2, slots := 12, locals := 130 }
set_option maxHeartbeats 4000000 in
theorem kL_tideBySteps (l : Launch) (hst : l.stackTraces = false) (D : va_G) (cA : Nat → ClassId) (G : eG) (z0 a0 b0 h0 s0 l0 e0 k0 a1 a2 b1 b2 b3 b4 b5 b6 w0 : Nat) (N : Nat) (u7 : Int32) (u8 : Int32) (u9 : Int32) (f : Nat → Int32) (f1 : Nat → Int32) (f2 : Nat → Int32) (f3 : Nat → Int32) (x1 : Int32) (x2 : Int32) (wo : Nat → Int64) {r : Int32 × (Nat → Int32) × (Nat → Int32) × (Nat → Int32) × (Nat → Int64)} (hr : SL_tideBySteps N f f1 f2 f3 x1 x2 wo = some r) {sz : Nat} : Met l yL_tideBySteps wsL_tideBySteps RM_L_tideBySteps (va_Pc [.ref z0, .int x1, .int x2, .ref w0] (gqLB G D cA [(z0, .inr (9, [.ref a0, .ref b0, .ref h0, .ref s0, .ref l0, .ref e0, .ref k0, .int u7, .int u8, .int u9])), (a0, .inr (8, [.ref a1])), (a1, .inr (6, [.ref a2])), (a2, .inl (cA 0, 61, .inl f)), (b0, .inr (4, [.ref b1, .ref b2, .ref b3])), (b1, .inr (6, [.ref b4])), (b4, .inl (cA 0, 5, .inl f1)), (b2, .inr (6, [.ref b5])), (b5, .inl (cA 0, 5, .inl f2)), (b3, .inr (6, [.ref b6])), (b6, .inl (cA 0, 5, .inl f3)), (w0, .inl (cA 3, 1, .inr (.inl wo)))] sz)) (gqQ D (fun as => (some (.int r.1))) (fun as => [(z0, .inr (9, [.ref a0, .ref b0, .ref h0, .ref s0, .ref l0, .ref e0, .ref k0, .int u7, .int u8, .int u9])), (a0, .inr (8, [.ref a1])), (a1, .inr (6, [.ref a2])), (a2, .inl (cA 0, 61, .inl f)), (b0, .inr (4, [.ref b1, .ref b2, .ref b3])), (b1, .inr (6, [.ref b4])), (b4, .inl (cA 0, 5, .inl r.2.1)), (b2, .inr (6, [.ref b5])), (b5, .inl (cA 0, 5, .inl r.2.2.1)), (b3, .inr (6, [.ref b6])), (b6, .inl (cA 0, 5, .inl r.2.2.2.1)), (w0, .inl (cA 3, 1, .inr (.inl r.2.2.2.2)))]) (va_A [(z0, .inr (9, [.ref a0, .ref b0, .ref h0, .ref s0, .ref l0, .ref e0, .ref k0, .int u7, .int u8, .int u9])), (a0, .inr (8, [.ref a1])), (a1, .inr (6, [.ref a2])), (a2, .inl (cA 0, 61, .inl f)), (b0, .inr (4, [.ref b1, .ref b2, .ref b3])), (b1, .inr (6, [.ref b4])), (b4, .inl (cA 0, 5, .inl f1)), (b2, .inr (6, [.ref b5])), (b5, .inl (cA 0, 5, .inl f2)), (b3, .inr (6, [.ref b6])), (b6, .inl (cA 0, 5, .inl f3)), (w0, .inl (cA 3, 1, .inr (.inl wo)))] sz)) 2 12 (va_A [(z0, .inr (9, [.ref a0, .ref b0, .ref h0, .ref s0, .ref l0, .ref e0, .ref k0, .int u7, .int u8, .int u9])), (a0, .inr (8, [.ref a1])), (a1, .inr (6, [.ref a2])), (a2, .inl (cA 0, 61, .inl f)), (b0, .inr (4, [.ref b1, .ref b2, .ref b3])), (b1, .inr (6, [.ref b4])), (b4, .inl (cA 0, 5, .inl f1)), (b2, .inr (6, [.ref b5])), (b5, .inl (cA 0, 5, .inl f2)), (b3, .inr (6, [.ref b6])), (b6, .inl (cA 0, 5, .inl f3)), (w0, .inl (cA 3, 1, .inr (.inl wo)))] sz) := by
  refine gqL_ofW (hh := [(0, 10, 13, 27), (0, 10, 17, 13)]) (cc := cL_tideBySteps) (maxL := 5) (ret := (some .int)) (by decide) rfl (Nat.le_of_ble_eq_true rfl) (fun p e s m args below meth c ls Q A hx hb hml hT9 hts hfc hK hP hD hS hA hEV hL9 hl hend => ?_)
  have hfc : s.vm.findClass RL = some m.cls := hfc
  have hl : lv_has ls 5 [(0, .ref z0), (1, .int x1), (2, .int x2), (3, .ref w0)] := hl
  have h := hr
  clear hr
  unfold SL_tideBySteps at h
  refine lv_aload_n hx hb dL_tideBySteps_0 rfl (lv_at hl 3 rfl) ?_
  refine lv_iconst (v := 0) hx hb dL_tideBySteps_1 (by decide) ?_
  refine lv_aload_n hx hb dL_tideBySteps_2 rfl (lv_at hl 0 rfl) ?_
  refine lv_iload_n hx hb dL_tideBySteps_3 rfl (lv_at hl 1 rfl) ?_
  refine lv_iload_n hx hb dL_tideBySteps_4 rfl (lv_at hl 2 rfl) ?_
  obtain ⟨o1, ho1, h⟩ := bnd_i h
  refine xq_V (G := G) (v := (fun as => (some (.int o1.2.1)))) (As := [.int x1, .int x2]) (rest := [.int 0, .ref w0]) (wc := [(z0, .inr (9, [.ref a0, .ref b0, .ref h0, .ref s0, .ref l0, .ref e0, .ref k0, .int u7, .int u8, .int u9])), (a0, .inr (8, [.ref a1])), (a1, .inr (6, [.ref a2])), (a2, .inl (cA 0, 61, .inl f)), (b0, .inr (4, [.ref b1, .ref b2, .ref b3])), (b1, .inr (6, [.ref b4])), (b4, .inl (cA 0, 5, .inl f1)), (b2, .inr (6, [.ref b5])), (b5, .inl (cA 0, 5, .inl f2)), (b3, .inr (6, [.ref b6])), (b6, .inl (cA 0, 5, .inl f3))]) (wr := [(w0, .inl (cA 3, 1, .inr (.inl wo)))]) (w1 := (fun as => [(z0, .inr (9, [.ref a0, .ref b0, .ref h0, .ref s0, .ref l0, .ref e0, .ref k0, .int u7, .int u8, .int u9])), (a0, .inr (8, [.ref a1])), (a1, .inr (6, [.ref a2])), (a2, .inl (cA 0, 61, .inl f)), (b0, .inr (4, [.ref b1, .ref b2, .ref b3])), (b1, .inr (6, [.ref b4])), (b4, .inl (cA 0, 5, .inl o1.2.2.2.1)), (b2, .inr (6, [.ref b5])), (b5, .inl (cA 0, 5, .inl o1.2.2.2.2)), (b3, .inr (6, [.ref b6])), (b6, .inl (cA 0, 5, .inl o1.2.2.1))])) (ws2 := (fun as => [(z0, .inr (9, [.ref a0, .ref b0, .ref h0, .ref s0, .ref l0, .ref e0, .ref k0, .int u7, .int u8, .int u9])), (a0, .inr (8, [.ref a1])), (a1, .inr (6, [.ref a2])), (a2, .inl (cA 0, 61, .inl f)), (b0, .inr (4, [.ref b1, .ref b2, .ref b3])), (b1, .inr (6, [.ref b4])), (b4, .inl (cA 0, 5, .inl o1.2.2.2.1)), (b2, .inr (6, [.ref b5])), (b5, .inl (cA 0, 5, .inl o1.2.2.2.2)), (b3, .inr (6, [.ref b6])), (b6, .inl (cA 0, 5, .inl o1.2.2.1)), (w0, .inl (cA 3, 1, .inr (.inl wo)))])) (st1 := (fun as => [.int o1.2.1, .int 0, .ref w0])) ⟨hx, hb, hml, hfc, hts⟩ hK hP hD hS hA hEV (kX5_tideBySteps l hst D cA G z0 a0 b0 h0 s0 l0 e0 k0 a1 a2 b1 b2 b3 b4 b5 b6 N u7 u8 u9 f f1 f2 f3 x1 x2 ho1) (cwV 2 hts gL_tideBySteps_X5_tideBySteps rfl rfl rfl (by decide +kernel) ⟨(Nat.le_of_ble_eq_true rfl), (Nat.le_of_ble_eq_true rfl)⟩) [0, 1, 2, 3, 4, 5, 6, 7, 8, 9, 10] [11] [1, 2, 3, 4, 5, 6, 7, 8, 9, 10, 11, 0] rfl rfl rfl rfl (by decide) (fun _ => rfl) rfl 0 9 rfl rfl rfl rfl (fun _ => rfl) rfl hl.1 (Nat.le_of_ble_eq_true rfl) dL_tideBySteps_5 ⟨(Nat.le_of_ble_eq_true rfl), (Nat.le_of_ble_eq_true rfl)⟩ (fun c3 as2 H locs hP hD hS => ?_) (fun c3 as2 H locs q9 ce hP hD hS z1 z2 z3 => ?_)
  · have h := ite_t c3 h
    have hP : va_P D vwCl [(z0, .inr (9, [.ref a0, .ref b0, .ref h0, .ref s0, .ref l0, .ref e0, .ref k0, .int u7, .int u8, .int u9])), (a0, .inr (8, [.ref a1])), (a1, .inr (6, [.ref a2])), (a2, .inl (cA 0, 61, .inl f)), (b0, .inr (4, [.ref b1, .ref b2, .ref b3])), (b1, .inr (6, [.ref b4])), (b4, .inl (cA 0, 5, .inl o1.2.2.2.1)), (b2, .inr (6, [.ref b5])), (b5, .inl (cA 0, 5, .inl o1.2.2.2.2)), (b3, .inr (6, [.ref b6])), (b6, .inl (cA 0, 5, .inl o1.2.2.1)), (w0, .inl (cA 3, 1, .inr (.inl wo)))] H := hP
    have hD : va_D A [(z0, .inr (9, [.ref a0, .ref b0, .ref h0, .ref s0, .ref l0, .ref e0, .ref k0, .int u7, .int u8, .int u9])), (a0, .inr (8, [.ref a1])), (a1, .inr (6, [.ref a2])), (a2, .inl (cA 0, 61, .inl f)), (b0, .inr (4, [.ref b1, .ref b2, .ref b3])), (b1, .inr (6, [.ref b4])), (b4, .inl (cA 0, 5, .inl o1.2.2.2.1)), (b2, .inr (6, [.ref b5])), (b5, .inl (cA 0, 5, .inl o1.2.2.2.2)), (b3, .inr (6, [.ref b6])), (b6, .inl (cA 0, 5, .inl o1.2.2.1)), (w0, .inl (cA 3, 1, .inr (.inl wo)))] := hD
    refine W.cs (cells' := 2) (slots' := 12) rfl rfl ?_
    refine lv_i2l (v := o1.2.1.toInt64) hx hb dL_tideBySteps_8 rfl ?_
    refine va_last hx hb hK hP hD hS 11 3 rfl rfl (vin _ _ (by decide)) dL_tideBySteps_9 (fun H locs hP hD hS => ?_)
    have hP : va_P D vwCl [(z0, .inr (9, [.ref a0, .ref b0, .ref h0, .ref s0, .ref l0, .ref e0, .ref k0, .int u7, .int u8, .int u9])), (a0, .inr (8, [.ref a1])), (a1, .inr (6, [.ref a2])), (a2, .inl (cA 0, 61, .inl f)), (b0, .inr (4, [.ref b1, .ref b2, .ref b3])), (b1, .inr (6, [.ref b4])), (b4, .inl (cA 0, 5, .inl o1.2.2.2.1)), (b2, .inr (6, [.ref b5])), (b5, .inl (cA 0, 5, .inl o1.2.2.2.2)), (b3, .inr (6, [.ref b6])), (b6, .inl (cA 0, 5, .inl o1.2.2.1)), (w0, .inl (cA 3, 1, .inr (.inl (vp_updL wo 0 o1.2.1.toInt64))))] H := hP
    have hD : va_D A [(z0, .inr (9, [.ref a0, .ref b0, .ref h0, .ref s0, .ref l0, .ref e0, .ref k0, .int u7, .int u8, .int u9])), (a0, .inr (8, [.ref a1])), (a1, .inr (6, [.ref a2])), (a2, .inl (cA 0, 61, .inl f)), (b0, .inr (4, [.ref b1, .ref b2, .ref b3])), (b1, .inr (6, [.ref b4])), (b4, .inl (cA 0, 5, .inl o1.2.2.2.1)), (b2, .inr (6, [.ref b5])), (b5, .inl (cA 0, 5, .inl o1.2.2.2.2)), (b3, .inr (6, [.ref b6])), (b6, .inl (cA 0, 5, .inl o1.2.2.1)), (w0, .inl (cA 3, 1, .inr (.inl (vp_updL wo 0 o1.2.1.toInt64))))] := hD
    refine lv_goto (tgt := 21) hx hb dL_tideBySteps_10 (by decide) ?_
    refine lv_iconst (v := 0) hx hb dL_tideBySteps_21 (by decide) ?_
    have h := Option.some.inj h
    subst h
    refine W.widen (k := 2) (n := 12) (Nat.le_of_ble_eq_true rfl) (Nat.le_of_ble_eq_true rfl) ?_
    exact hend (adr []) _ _ _ _ _ _ _ rfl rfl (rtn_i _) hP hD hS dL_tideBySteps_22
  · have h := ite_f c3 h
    have hP : va_P D vwCl [(z0, .inr (9, [.ref a0, .ref b0, .ref h0, .ref s0, .ref l0, .ref e0, .ref k0, .int u7, .int u8, .int u9])), (a0, .inr (8, [.ref a1])), (a1, .inr (6, [.ref a2])), (a2, .inl (cA 0, 61, .inl f)), (b0, .inr (4, [.ref b1, .ref b2, .ref b3])), (b1, .inr (6, [.ref b4])), (b4, .inl (cA 0, 5, .inl o1.2.2.2.1)), (b2, .inr (6, [.ref b5])), (b5, .inl (cA 0, 5, .inl o1.2.2.2.2)), (b3, .inr (6, [.ref b6])), (b6, .inl (cA 0, 5, .inl o1.2.2.1)), (w0, .inl (cA 3, 1, .inr (.inl wo)))] H := hP
    have hD : va_D A [(z0, .inr (9, [.ref a0, .ref b0, .ref h0, .ref s0, .ref l0, .ref e0, .ref k0, .int u7, .int u8, .int u9])), (a0, .inr (8, [.ref a1])), (a1, .inr (6, [.ref a2])), (a2, .inl (cA 0, 61, .inl f)), (b0, .inr (4, [.ref b1, .ref b2, .ref b3])), (b1, .inr (6, [.ref b4])), (b4, .inl (cA 0, 5, .inl o1.2.2.2.1)), (b2, .inr (6, [.ref b5])), (b5, .inl (cA 0, 5, .inl o1.2.2.2.2)), (b3, .inr (6, [.ref b6])), (b6, .inl (cA 0, 5, .inl o1.2.2.1)), (w0, .inl (cA 3, 1, .inr (.inl wo)))] := hD
    by_cases c4 : o1.1 = 3
    · have h := ite_t c4 h
      have z4 : s.vm.findClass "java/lang/IndexOutOfBoundsException" = some ce.cls := by rw [c4] at z3; exact z3
      refine vx_catch (own := RL) (name := "java/lang/IndexOutOfBoundsException") (E := "java/lang/IndexOutOfBoundsException") hfc [] ⟨0, 10, 13, 27⟩ [⟨0, 10, 17, 13⟩] hT9 (fun z hz => absurd hz List.not_mem_nil) rfl (by decide) (hL9.link (List.mem_of_getElem? (i := 2) rfl)) ((hEV.1.2.2.2.2 "java/lang/IndexOutOfBoundsException" (by decide +kernel)).use rfl) z1 z2 z4 ?_
      refine W.cs (cells' := 2) (slots' := 12) rfl rfl ?_
      refine lv_astore hx hb dL_tideBySteps_13 hl (Nat.le_of_ble_eq_true rfl) rfl (fun ls hl => ?_)
      have hl : lv_has ls 5 [(4, .ref q9), (0, .ref z0), (1, .int x1), (2, .int x2), (3, .ref w0)] := hl
      refine lv_iconst (v := 1) hx hb dL_tideBySteps_15 (by decide) ?_
      have h := Option.some.inj h
      subst h
      refine W.widen (k := 2) (n := 12) (Nat.le_of_ble_eq_true rfl) (Nat.le_of_ble_eq_true rfl) ?_
      exact hend (adr []) _ _ _ _ _ _ _ rfl rfl (rtn_i _) hP hD hS dL_tideBySteps_16
    · have h := ite_f c4 h
      by_cases c5 : o1.1 = 1
      · have h := ite_t c5 h
        have z4 : s.vm.findClass "java/lang/IllegalArgumentException" = some ce.cls := by rw [c5] at z3; exact z3
        have hp9 : ∀ z ∈ ([⟨0, 10, 13, 27⟩] : List ExceptionTableEntry), covers z 5 = false ∨ (z.catchType ≠ 0 ∧ ∃ nm : String, (Cond.classLink RL z.catchType nm).before args s = true ∧ va_Nc "java/lang/IllegalArgumentException" nm s) := by
          intro z hz
          rcases List.mem_cons.mp hz with rfl | hz
          · exact Or.inr ⟨by decide, _, (hL9.link (List.mem_of_getElem? (i := 2) rfl)), hL9.1.2.1⟩
          exact absurd hz List.not_mem_nil
        refine vx_catch (own := RL) (name := "java/lang/IllegalArgumentException") (E := "java/lang/IllegalArgumentException") hfc [⟨0, 10, 13, 27⟩] ⟨0, 10, 17, 13⟩ [] hT9 hp9 rfl (by decide) (hL9.link (List.mem_of_getElem? (i := 0) rfl)) ((hEV.1.2.2.2.2 "java/lang/IllegalArgumentException" (by decide +kernel)).use rfl) z1 z2 z4 ?_
        refine W.cs (cells' := 2) (slots' := 12) rfl rfl ?_
        refine lv_astore hx hb dL_tideBySteps_17 hl (Nat.le_of_ble_eq_true rfl) rfl (fun ls hl => ?_)
        have hl : lv_has ls 5 [(4, .ref q9), (0, .ref z0), (1, .int x1), (2, .int x2), (3, .ref w0)] := hl
        refine lv_iconst (v := 2) hx hb dL_tideBySteps_19 (by decide) ?_
        have h := Option.some.inj h
        subst h
        refine W.widen (k := 2) (n := 12) (Nat.le_of_ble_eq_true rfl) (Nat.le_of_ble_eq_true rfl) ?_
        exact hend (adr []) _ _ _ _ _ _ _ rfl rfl (rtn_i _) hP hD hS dL_tideBySteps_20
      · have h := ite_f c5 h
        exact nn h

noncomputable def SL_highTideIn (N : Nat) (f : Nat → Int32) (x1 : Int32) (wo : Nat → Int64) : Option (Int32 × (Nat → Int64)) := bnd (SX5_highTideIn N f x1) (fun o1 : Nat × Int32 => if o1.1 = 0 then (some ((0, vp_updL wo 0 o1.2.toInt64))) else (if o1.1 = 3 then (some ((1, wo))) else (none)))
abbrev RM_L_highTideIn : Room := { frames := 8, cells := 1, slots := 6, locals := 153 }
set_option maxHeartbeats 4000000 in
theorem kL_highTideIn (l : Launch) (hst : l.stackTraces = false) (D : va_G) (cA : Nat → ClassId) (G : eG) (z0 a0 b0 h0 s0 l0 e0 k0 a1 a2 w0 : Nat) (N : Nat) (u7 : Int32) (u8 : Int32) (u9 : Int32) (f : Nat → Int32) (x1 : Int32) (wo : Nat → Int64) {r : Int32 × (Nat → Int64)} (hr : SL_highTideIn N f x1 wo = some r) {sz : Nat} : Met l yL_highTideIn wsL_highTideIn RM_L_highTideIn (va_Pc [.ref z0, .int x1, .ref w0] (gqLB G D cA [(z0, .inr (9, [.ref a0, .ref b0, .ref h0, .ref s0, .ref l0, .ref e0, .ref k0, .int u7, .int u8, .int u9])), (a0, .inr (8, [.ref a1])), (a1, .inr (6, [.ref a2])), (a2, .inl (cA 0, 61, .inl f)), (w0, .inl (cA 3, 1, .inr (.inl wo)))] sz)) (gqQ D (fun as => (some (.int r.1))) (fun as => [(z0, .inr (9, [.ref a0, .ref b0, .ref h0, .ref s0, .ref l0, .ref e0, .ref k0, .int u7, .int u8, .int u9])), (a0, .inr (8, [.ref a1])), (a1, .inr (6, [.ref a2])), (a2, .inl (cA 0, 61, .inl f)), (w0, .inl (cA 3, 1, .inr (.inl r.2)))]) (va_A [(z0, .inr (9, [.ref a0, .ref b0, .ref h0, .ref s0, .ref l0, .ref e0, .ref k0, .int u7, .int u8, .int u9])), (a0, .inr (8, [.ref a1])), (a1, .inr (6, [.ref a2])), (a2, .inl (cA 0, 61, .inl f)), (w0, .inl (cA 3, 1, .inr (.inl wo)))] sz)) 1 6 (va_A [(z0, .inr (9, [.ref a0, .ref b0, .ref h0, .ref s0, .ref l0, .ref e0, .ref k0, .int u7, .int u8, .int u9])), (a0, .inr (8, [.ref a1])), (a1, .inr (6, [.ref a2])), (a2, .inl (cA 0, 61, .inl f)), (w0, .inl (cA 3, 1, .inr (.inl wo)))] sz) := by
  refine gqL_ofW (hh := [(0, 9, 12, 27)]) (cc := cL_highTideIn) (maxL := 4) (ret := (some .int)) (by decide) rfl (Nat.le_of_ble_eq_true rfl) (fun p e s m args below meth c ls Q A hx hb hml hT9 hts hfc hK hP hD hS hA hEV hL9 hl hend => ?_)
  have hfc : s.vm.findClass RL = some m.cls := hfc
  have hl : lv_has ls 4 [(0, .ref z0), (1, .int x1), (2, .ref w0)] := hl
  have h := hr
  clear hr
  unfold SL_highTideIn at h
  refine lv_aload_n hx hb dL_highTideIn_0 rfl (lv_at hl 2 rfl) ?_
  refine lv_iconst (v := 0) hx hb dL_highTideIn_1 (by decide) ?_
  refine lv_aload_n hx hb dL_highTideIn_2 rfl (lv_at hl 0 rfl) ?_
  refine lv_iload_n hx hb dL_highTideIn_3 rfl (lv_at hl 1 rfl) ?_
  obtain ⟨o1, ho1, h⟩ := bnd_i h
  refine xq_V (G := G) (v := (fun as => (some (.int o1.2)))) (As := [.int x1]) (rest := [.int 0, .ref w0]) (wc := [(z0, .inr (9, [.ref a0, .ref b0, .ref h0, .ref s0, .ref l0, .ref e0, .ref k0, .int u7, .int u8, .int u9])), (a0, .inr (8, [.ref a1])), (a1, .inr (6, [.ref a2])), (a2, .inl (cA 0, 61, .inl f))]) (wr := [(w0, .inl (cA 3, 1, .inr (.inl wo)))]) (w1 := (fun as => [(z0, .inr (9, [.ref a0, .ref b0, .ref h0, .ref s0, .ref l0, .ref e0, .ref k0, .int u7, .int u8, .int u9])), (a0, .inr (8, [.ref a1])), (a1, .inr (6, [.ref a2])), (a2, .inl (cA 0, 61, .inl f))])) (ws2 := (fun as => [(z0, .inr (9, [.ref a0, .ref b0, .ref h0, .ref s0, .ref l0, .ref e0, .ref k0, .int u7, .int u8, .int u9])), (a0, .inr (8, [.ref a1])), (a1, .inr (6, [.ref a2])), (a2, .inl (cA 0, 61, .inl f)), (w0, .inl (cA 3, 1, .inr (.inl wo)))])) (st1 := (fun as => [.int o1.2, .int 0, .ref w0])) ⟨hx, hb, hml, hfc, hts⟩ hK hP hD hS hA hEV (kX5_highTideIn l hst D cA G z0 a0 b0 h0 s0 l0 e0 k0 a1 a2 N u7 u8 u9 f x1 ho1) (cwV 1 hts gL_highTideIn_X5_highTideIn rfl rfl rfl (by decide +kernel) ⟨(Nat.le_of_ble_eq_true rfl), (Nat.le_of_ble_eq_true rfl)⟩) [0, 1, 2, 3] [4] [1, 2, 3, 4, 0] rfl rfl rfl rfl (by decide) (fun _ => rfl) rfl 0 9 rfl rfl rfl rfl (fun _ => rfl) rfl hl.1 (Nat.le_of_ble_eq_true rfl) dL_highTideIn_4 ⟨(Nat.le_of_ble_eq_true rfl), (Nat.le_of_ble_eq_true rfl)⟩ (fun c3 as2 H locs hP hD hS => ?_) (fun c3 as2 H locs q9 ce hP hD hS z1 z2 z3 => ?_)
  · have h := ite_t c3 h
    have hP : va_P D vwCl [(z0, .inr (9, [.ref a0, .ref b0, .ref h0, .ref s0, .ref l0, .ref e0, .ref k0, .int u7, .int u8, .int u9])), (a0, .inr (8, [.ref a1])), (a1, .inr (6, [.ref a2])), (a2, .inl (cA 0, 61, .inl f)), (w0, .inl (cA 3, 1, .inr (.inl wo)))] H := hP
    have hD : va_D A [(z0, .inr (9, [.ref a0, .ref b0, .ref h0, .ref s0, .ref l0, .ref e0, .ref k0, .int u7, .int u8, .int u9])), (a0, .inr (8, [.ref a1])), (a1, .inr (6, [.ref a2])), (a2, .inl (cA 0, 61, .inl f)), (w0, .inl (cA 3, 1, .inr (.inl wo)))] := hD
    refine W.cs (cells' := 1) (slots' := 6) rfl rfl ?_
    refine lv_i2l (v := o1.2.toInt64) hx hb dL_highTideIn_7 rfl ?_
    refine va_last hx hb hK hP hD hS 4 3 rfl rfl (vin _ _ (by decide)) dL_highTideIn_8 (fun H locs hP hD hS => ?_)
    have hP : va_P D vwCl [(z0, .inr (9, [.ref a0, .ref b0, .ref h0, .ref s0, .ref l0, .ref e0, .ref k0, .int u7, .int u8, .int u9])), (a0, .inr (8, [.ref a1])), (a1, .inr (6, [.ref a2])), (a2, .inl (cA 0, 61, .inl f)), (w0, .inl (cA 3, 1, .inr (.inl (vp_updL wo 0 o1.2.toInt64))))] H := hP
    have hD : va_D A [(z0, .inr (9, [.ref a0, .ref b0, .ref h0, .ref s0, .ref l0, .ref e0, .ref k0, .int u7, .int u8, .int u9])), (a0, .inr (8, [.ref a1])), (a1, .inr (6, [.ref a2])), (a2, .inl (cA 0, 61, .inl f)), (w0, .inl (cA 3, 1, .inr (.inl (vp_updL wo 0 o1.2.toInt64))))] := hD
    refine lv_goto (tgt := 15) hx hb dL_highTideIn_9 (by decide) ?_
    refine lv_iconst (v := 0) hx hb dL_highTideIn_15 (by decide) ?_
    have h := Option.some.inj h
    subst h
    refine W.widen (k := 1) (n := 6) (Nat.le_of_ble_eq_true rfl) (Nat.le_of_ble_eq_true rfl) ?_
    exact hend (adr []) _ _ _ _ _ _ _ rfl rfl (rtn_i _) hP hD hS dL_highTideIn_16
  · have h := ite_f c3 h
    have hP : va_P D vwCl [(z0, .inr (9, [.ref a0, .ref b0, .ref h0, .ref s0, .ref l0, .ref e0, .ref k0, .int u7, .int u8, .int u9])), (a0, .inr (8, [.ref a1])), (a1, .inr (6, [.ref a2])), (a2, .inl (cA 0, 61, .inl f)), (w0, .inl (cA 3, 1, .inr (.inl wo)))] H := hP
    have hD : va_D A [(z0, .inr (9, [.ref a0, .ref b0, .ref h0, .ref s0, .ref l0, .ref e0, .ref k0, .int u7, .int u8, .int u9])), (a0, .inr (8, [.ref a1])), (a1, .inr (6, [.ref a2])), (a2, .inl (cA 0, 61, .inl f)), (w0, .inl (cA 3, 1, .inr (.inl wo)))] := hD
    by_cases c4 : o1.1 = 3
    · have h := ite_t c4 h
      have z4 : s.vm.findClass "java/lang/IndexOutOfBoundsException" = some ce.cls := by rw [c4] at z3; exact z3
      refine vx_catch (own := RL) (name := "java/lang/IndexOutOfBoundsException") (E := "java/lang/IndexOutOfBoundsException") hfc [] ⟨0, 9, 12, 27⟩ [] hT9 (fun z hz => absurd hz List.not_mem_nil) rfl (by decide) (hL9.link (List.mem_of_getElem? (i := 2) rfl)) ((hEV.1.2.2.2.2 "java/lang/IndexOutOfBoundsException" (by decide +kernel)).use rfl) z1 z2 z4 ?_
      refine W.cs (cells' := 1) (slots' := 6) rfl rfl ?_
      refine lv_astore_n hx hb dL_highTideIn_12 rfl hl (Nat.le_of_ble_eq_true rfl) rfl (fun ls hl => ?_)
      have hl : lv_has ls 4 [(3, .ref q9), (0, .ref z0), (1, .int x1), (2, .ref w0)] := hl
      refine lv_iconst (v := 1) hx hb dL_highTideIn_13 (by decide) ?_
      have h := Option.some.inj h
      subst h
      refine W.widen (k := 1) (n := 6) (Nat.le_of_ble_eq_true rfl) (Nat.le_of_ble_eq_true rfl) ?_
      exact hend (adr []) _ _ _ _ _ _ _ rfl rfl (rtn_i _) hP hD hS dL_highTideIn_14
    · have h := ite_f c4 h
      exact nn h

noncomputable def SL_lowTideIn (N : Nat) (f : Nat → Int32) (x1 : Int32) (wo : Nat → Int64) : Option (Int32 × (Nat → Int64)) := bnd (SX5_lowTideIn N f x1) (fun o1 : Nat × Int32 => if o1.1 = 0 then (some ((0, vp_updL wo 0 o1.2.toInt64))) else (if o1.1 = 3 then (some ((1, wo))) else (none)))
abbrev RM_L_lowTideIn : Room := { frames := 8, cells := 1, slots := 6, locals := 153 }
set_option maxHeartbeats 4000000 in
theorem kL_lowTideIn (l : Launch) (hst : l.stackTraces = false) (D : va_G) (cA : Nat → ClassId) (G : eG) (z0 a0 b0 h0 s0 l0 e0 k0 a1 a2 w0 : Nat) (N : Nat) (u7 : Int32) (u8 : Int32) (u9 : Int32) (f : Nat → Int32) (x1 : Int32) (wo : Nat → Int64) {r : Int32 × (Nat → Int64)} (hr : SL_lowTideIn N f x1 wo = some r) {sz : Nat} : Met l yL_lowTideIn wsL_lowTideIn RM_L_lowTideIn (va_Pc [.ref z0, .int x1, .ref w0] (gqLB G D cA [(z0, .inr (9, [.ref a0, .ref b0, .ref h0, .ref s0, .ref l0, .ref e0, .ref k0, .int u7, .int u8, .int u9])), (a0, .inr (8, [.ref a1])), (a1, .inr (6, [.ref a2])), (a2, .inl (cA 0, 61, .inl f)), (w0, .inl (cA 3, 1, .inr (.inl wo)))] sz)) (gqQ D (fun as => (some (.int r.1))) (fun as => [(z0, .inr (9, [.ref a0, .ref b0, .ref h0, .ref s0, .ref l0, .ref e0, .ref k0, .int u7, .int u8, .int u9])), (a0, .inr (8, [.ref a1])), (a1, .inr (6, [.ref a2])), (a2, .inl (cA 0, 61, .inl f)), (w0, .inl (cA 3, 1, .inr (.inl r.2)))]) (va_A [(z0, .inr (9, [.ref a0, .ref b0, .ref h0, .ref s0, .ref l0, .ref e0, .ref k0, .int u7, .int u8, .int u9])), (a0, .inr (8, [.ref a1])), (a1, .inr (6, [.ref a2])), (a2, .inl (cA 0, 61, .inl f)), (w0, .inl (cA 3, 1, .inr (.inl wo)))] sz)) 1 6 (va_A [(z0, .inr (9, [.ref a0, .ref b0, .ref h0, .ref s0, .ref l0, .ref e0, .ref k0, .int u7, .int u8, .int u9])), (a0, .inr (8, [.ref a1])), (a1, .inr (6, [.ref a2])), (a2, .inl (cA 0, 61, .inl f)), (w0, .inl (cA 3, 1, .inr (.inl wo)))] sz) := by
  refine gqL_ofW (hh := [(0, 9, 12, 27)]) (cc := cL_lowTideIn) (maxL := 4) (ret := (some .int)) (by decide) rfl (Nat.le_of_ble_eq_true rfl) (fun p e s m args below meth c ls Q A hx hb hml hT9 hts hfc hK hP hD hS hA hEV hL9 hl hend => ?_)
  have hfc : s.vm.findClass RL = some m.cls := hfc
  have hl : lv_has ls 4 [(0, .ref z0), (1, .int x1), (2, .ref w0)] := hl
  have h := hr
  clear hr
  unfold SL_lowTideIn at h
  refine lv_aload_n hx hb dL_lowTideIn_0 rfl (lv_at hl 2 rfl) ?_
  refine lv_iconst (v := 0) hx hb dL_lowTideIn_1 (by decide) ?_
  refine lv_aload_n hx hb dL_lowTideIn_2 rfl (lv_at hl 0 rfl) ?_
  refine lv_iload_n hx hb dL_lowTideIn_3 rfl (lv_at hl 1 rfl) ?_
  obtain ⟨o1, ho1, h⟩ := bnd_i h
  refine xq_V (G := G) (v := (fun as => (some (.int o1.2)))) (As := [.int x1]) (rest := [.int 0, .ref w0]) (wc := [(z0, .inr (9, [.ref a0, .ref b0, .ref h0, .ref s0, .ref l0, .ref e0, .ref k0, .int u7, .int u8, .int u9])), (a0, .inr (8, [.ref a1])), (a1, .inr (6, [.ref a2])), (a2, .inl (cA 0, 61, .inl f))]) (wr := [(w0, .inl (cA 3, 1, .inr (.inl wo)))]) (w1 := (fun as => [(z0, .inr (9, [.ref a0, .ref b0, .ref h0, .ref s0, .ref l0, .ref e0, .ref k0, .int u7, .int u8, .int u9])), (a0, .inr (8, [.ref a1])), (a1, .inr (6, [.ref a2])), (a2, .inl (cA 0, 61, .inl f))])) (ws2 := (fun as => [(z0, .inr (9, [.ref a0, .ref b0, .ref h0, .ref s0, .ref l0, .ref e0, .ref k0, .int u7, .int u8, .int u9])), (a0, .inr (8, [.ref a1])), (a1, .inr (6, [.ref a2])), (a2, .inl (cA 0, 61, .inl f)), (w0, .inl (cA 3, 1, .inr (.inl wo)))])) (st1 := (fun as => [.int o1.2, .int 0, .ref w0])) ⟨hx, hb, hml, hfc, hts⟩ hK hP hD hS hA hEV (kX5_lowTideIn l hst D cA G z0 a0 b0 h0 s0 l0 e0 k0 a1 a2 N u7 u8 u9 f x1 ho1) (cwV 1 hts gL_lowTideIn_X5_lowTideIn rfl rfl rfl (by decide +kernel) ⟨(Nat.le_of_ble_eq_true rfl), (Nat.le_of_ble_eq_true rfl)⟩) [0, 1, 2, 3] [4] [1, 2, 3, 4, 0] rfl rfl rfl rfl (by decide) (fun _ => rfl) rfl 0 9 rfl rfl rfl rfl (fun _ => rfl) rfl hl.1 (Nat.le_of_ble_eq_true rfl) dL_lowTideIn_4 ⟨(Nat.le_of_ble_eq_true rfl), (Nat.le_of_ble_eq_true rfl)⟩ (fun c3 as2 H locs hP hD hS => ?_) (fun c3 as2 H locs q9 ce hP hD hS z1 z2 z3 => ?_)
  · have h := ite_t c3 h
    have hP : va_P D vwCl [(z0, .inr (9, [.ref a0, .ref b0, .ref h0, .ref s0, .ref l0, .ref e0, .ref k0, .int u7, .int u8, .int u9])), (a0, .inr (8, [.ref a1])), (a1, .inr (6, [.ref a2])), (a2, .inl (cA 0, 61, .inl f)), (w0, .inl (cA 3, 1, .inr (.inl wo)))] H := hP
    have hD : va_D A [(z0, .inr (9, [.ref a0, .ref b0, .ref h0, .ref s0, .ref l0, .ref e0, .ref k0, .int u7, .int u8, .int u9])), (a0, .inr (8, [.ref a1])), (a1, .inr (6, [.ref a2])), (a2, .inl (cA 0, 61, .inl f)), (w0, .inl (cA 3, 1, .inr (.inl wo)))] := hD
    refine W.cs (cells' := 1) (slots' := 6) rfl rfl ?_
    refine lv_i2l (v := o1.2.toInt64) hx hb dL_lowTideIn_7 rfl ?_
    refine va_last hx hb hK hP hD hS 4 3 rfl rfl (vin _ _ (by decide)) dL_lowTideIn_8 (fun H locs hP hD hS => ?_)
    have hP : va_P D vwCl [(z0, .inr (9, [.ref a0, .ref b0, .ref h0, .ref s0, .ref l0, .ref e0, .ref k0, .int u7, .int u8, .int u9])), (a0, .inr (8, [.ref a1])), (a1, .inr (6, [.ref a2])), (a2, .inl (cA 0, 61, .inl f)), (w0, .inl (cA 3, 1, .inr (.inl (vp_updL wo 0 o1.2.toInt64))))] H := hP
    have hD : va_D A [(z0, .inr (9, [.ref a0, .ref b0, .ref h0, .ref s0, .ref l0, .ref e0, .ref k0, .int u7, .int u8, .int u9])), (a0, .inr (8, [.ref a1])), (a1, .inr (6, [.ref a2])), (a2, .inl (cA 0, 61, .inl f)), (w0, .inl (cA 3, 1, .inr (.inl (vp_updL wo 0 o1.2.toInt64))))] := hD
    refine lv_goto (tgt := 15) hx hb dL_lowTideIn_9 (by decide) ?_
    refine lv_iconst (v := 0) hx hb dL_lowTideIn_15 (by decide) ?_
    have h := Option.some.inj h
    subst h
    refine W.widen (k := 1) (n := 6) (Nat.le_of_ble_eq_true rfl) (Nat.le_of_ble_eq_true rfl) ?_
    exact hend (adr []) _ _ _ _ _ _ _ rfl rfl (rtn_i _) hP hD hS dL_lowTideIn_16
  · have h := ite_f c3 h
    have hP : va_P D vwCl [(z0, .inr (9, [.ref a0, .ref b0, .ref h0, .ref s0, .ref l0, .ref e0, .ref k0, .int u7, .int u8, .int u9])), (a0, .inr (8, [.ref a1])), (a1, .inr (6, [.ref a2])), (a2, .inl (cA 0, 61, .inl f)), (w0, .inl (cA 3, 1, .inr (.inl wo)))] H := hP
    have hD : va_D A [(z0, .inr (9, [.ref a0, .ref b0, .ref h0, .ref s0, .ref l0, .ref e0, .ref k0, .int u7, .int u8, .int u9])), (a0, .inr (8, [.ref a1])), (a1, .inr (6, [.ref a2])), (a2, .inl (cA 0, 61, .inl f)), (w0, .inl (cA 3, 1, .inr (.inl wo)))] := hD
    by_cases c4 : o1.1 = 3
    · have h := ite_t c4 h
      have z4 : s.vm.findClass "java/lang/IndexOutOfBoundsException" = some ce.cls := by rw [c4] at z3; exact z3
      refine vx_catch (own := RL) (name := "java/lang/IndexOutOfBoundsException") (E := "java/lang/IndexOutOfBoundsException") hfc [] ⟨0, 9, 12, 27⟩ [] hT9 (fun z hz => absurd hz List.not_mem_nil) rfl (by decide) (hL9.link (List.mem_of_getElem? (i := 2) rfl)) ((hEV.1.2.2.2.2 "java/lang/IndexOutOfBoundsException" (by decide +kernel)).use rfl) z1 z2 z4 ?_
      refine W.cs (cells' := 1) (slots' := 6) rfl rfl ?_
      refine lv_astore_n hx hb dL_lowTideIn_12 rfl hl (Nat.le_of_ble_eq_true rfl) rfl (fun ls hl => ?_)
      have hl : lv_has ls 4 [(3, .ref q9), (0, .ref z0), (1, .int x1), (2, .ref w0)] := hl
      refine lv_iconst (v := 1) hx hb dL_lowTideIn_13 (by decide) ?_
      have h := Option.some.inj h
      subst h
      refine W.widen (k := 1) (n := 6) (Nat.le_of_ble_eq_true rfl) (Nat.le_of_ble_eq_true rfl) ?_
      exact hend (adr []) _ _ _ _ _ _ _ rfl rfl (rtn_i _) hP hD hS dL_lowTideIn_14
    · have h := ite_f c4 h
      exact nn h

noncomputable def SL_eclipseIn (f : Nat → Int32) (x1 : Int32) (wo : Nat → Int64) : Option (Int32 × (Nat → Int64)) := lt_ (SX5_eclipseIn f x1) (fun o1 : Nat × Int32 => if o1.1 = 0 then (some ((0, vp_updL wo 0 o1.2.toInt64))) else (if o1.1 = 3 then (some ((1, wo))) else (if o1.1 = 4 then (some ((2, wo))) else (none))))
abbrev RM_L_eclipseIn : Room := { frames := 8, cells := 2, slots := 12, locals := 126 }
set_option maxHeartbeats 4000000 in
theorem kL_eclipseIn (l : Launch) (hst : l.stackTraces = false) (D : va_G) (cA : Nat → ClassId) (G : eG) (z0 a0 b0 h0 s0 l0 e0 k0 a1 a2 w0 : Nat) (u7 : Int32) (u8 : Int32) (u9 : Int32) (f : Nat → Int32) (x1 : Int32) (wo : Nat → Int64) {r : Int32 × (Nat → Int64)} (hr : SL_eclipseIn f x1 wo = some r) {sz : Nat} : Met l yL_eclipseIn wsL_eclipseIn RM_L_eclipseIn (va_Pc [.ref z0, .int x1, .ref w0] (gqLB G D cA [(z0, .inr (9, [.ref a0, .ref b0, .ref h0, .ref s0, .ref l0, .ref e0, .ref k0, .int u7, .int u8, .int u9])), (a0, .inr (8, [.ref a1])), (a1, .inr (6, [.ref a2])), (a2, .inl (cA 0, 61, .inl f)), (w0, .inl (cA 3, 1, .inr (.inl wo)))] sz)) (gqQ D (fun as => (some (.int r.1))) (fun as => [(z0, .inr (9, [.ref a0, .ref b0, .ref h0, .ref s0, .ref l0, .ref e0, .ref k0, .int u7, .int u8, .int u9])), (a0, .inr (8, [.ref a1])), (a1, .inr (6, [.ref a2])), (a2, .inl (cA 0, 61, .inl f)), (w0, .inl (cA 3, 1, .inr (.inl r.2)))]) (va_A [(z0, .inr (9, [.ref a0, .ref b0, .ref h0, .ref s0, .ref l0, .ref e0, .ref k0, .int u7, .int u8, .int u9])), (a0, .inr (8, [.ref a1])), (a1, .inr (6, [.ref a2])), (a2, .inl (cA 0, 61, .inl f)), (w0, .inl (cA 3, 1, .inr (.inl wo)))] sz)) 2 12 (va_A [(z0, .inr (9, [.ref a0, .ref b0, .ref h0, .ref s0, .ref l0, .ref e0, .ref k0, .int u7, .int u8, .int u9])), (a0, .inr (8, [.ref a1])), (a1, .inr (6, [.ref a2])), (a2, .inl (cA 0, 61, .inl f)), (w0, .inl (cA 3, 1, .inr (.inl wo)))] sz) := by
  refine gqL_ofW (hh := [(0, 9, 12, 27), (0, 9, 15, 67)]) (cc := cL_eclipseIn) (maxL := 4) (ret := (some .int)) (by decide) rfl (Nat.le_of_ble_eq_true rfl) (fun p e s m args below meth c ls Q A hx hb hml hT9 hts hfc hK hP hD hS hA hEV hL9 hl hend => ?_)
  have hfc : s.vm.findClass RL = some m.cls := hfc
  have hl : lv_has ls 4 [(0, .ref z0), (1, .int x1), (2, .ref w0)] := hl
  have h := hr
  clear hr
  unfold SL_eclipseIn at h
  refine lv_aload_n hx hb dL_eclipseIn_0 rfl (lv_at hl 2 rfl) ?_
  refine lv_iconst (v := 0) hx hb dL_eclipseIn_1 (by decide) ?_
  refine lv_aload_n hx hb dL_eclipseIn_2 rfl (lv_at hl 0 rfl) ?_
  refine lv_iload_n hx hb dL_eclipseIn_3 rfl (lv_at hl 1 rfl) ?_
  obtain ⟨o1, ho1, h⟩ := lt_i h
  refine xq_V (G := G) (v := (fun as => (some (.int o1.2)))) (As := [.int x1]) (rest := [.int 0, .ref w0]) (wc := [(z0, .inr (9, [.ref a0, .ref b0, .ref h0, .ref s0, .ref l0, .ref e0, .ref k0, .int u7, .int u8, .int u9])), (a0, .inr (8, [.ref a1])), (a1, .inr (6, [.ref a2])), (a2, .inl (cA 0, 61, .inl f))]) (wr := [(w0, .inl (cA 3, 1, .inr (.inl wo)))]) (w1 := (fun as => [(z0, .inr (9, [.ref a0, .ref b0, .ref h0, .ref s0, .ref l0, .ref e0, .ref k0, .int u7, .int u8, .int u9])), (a0, .inr (8, [.ref a1])), (a1, .inr (6, [.ref a2])), (a2, .inl (cA 0, 61, .inl f))])) (ws2 := (fun as => [(z0, .inr (9, [.ref a0, .ref b0, .ref h0, .ref s0, .ref l0, .ref e0, .ref k0, .int u7, .int u8, .int u9])), (a0, .inr (8, [.ref a1])), (a1, .inr (6, [.ref a2])), (a2, .inl (cA 0, 61, .inl f)), (w0, .inl (cA 3, 1, .inr (.inl wo)))])) (st1 := (fun as => [.int o1.2, .int 0, .ref w0])) ⟨hx, hb, hml, hfc, hts⟩ hK hP hD hS hA hEV (kX5_eclipseIn l hst D cA G z0 a0 b0 h0 s0 l0 e0 k0 a1 a2 u7 u8 u9 f x1 ho1) (cwV 1 hts gL_eclipseIn_X5_eclipseIn rfl rfl rfl (by decide +kernel) ⟨(Nat.le_of_ble_eq_true rfl), (Nat.le_of_ble_eq_true rfl)⟩) [0, 1, 2, 3] [4] [1, 2, 3, 4, 0] rfl rfl rfl rfl (by decide) (fun _ => rfl) rfl 0 9 rfl rfl rfl rfl (fun _ => rfl) rfl hl.1 (Nat.le_of_ble_eq_true rfl) dL_eclipseIn_4 ⟨(Nat.le_of_ble_eq_true rfl), (Nat.le_of_ble_eq_true rfl)⟩ (fun c3 as2 H locs hP hD hS => ?_) (fun c3 as2 H locs q9 ce hP hD hS z1 z2 z3 => ?_)
  · have h := ite_t c3 h
    have hP : va_P D vwCl [(z0, .inr (9, [.ref a0, .ref b0, .ref h0, .ref s0, .ref l0, .ref e0, .ref k0, .int u7, .int u8, .int u9])), (a0, .inr (8, [.ref a1])), (a1, .inr (6, [.ref a2])), (a2, .inl (cA 0, 61, .inl f)), (w0, .inl (cA 3, 1, .inr (.inl wo)))] H := hP
    have hD : va_D A [(z0, .inr (9, [.ref a0, .ref b0, .ref h0, .ref s0, .ref l0, .ref e0, .ref k0, .int u7, .int u8, .int u9])), (a0, .inr (8, [.ref a1])), (a1, .inr (6, [.ref a2])), (a2, .inl (cA 0, 61, .inl f)), (w0, .inl (cA 3, 1, .inr (.inl wo)))] := hD
    refine W.cs (cells' := 2) (slots' := 12) rfl rfl ?_
    refine lv_i2l (v := o1.2.toInt64) hx hb dL_eclipseIn_7 rfl ?_
    refine va_last hx hb hK hP hD hS 4 3 rfl rfl (vin _ _ (by decide)) dL_eclipseIn_8 (fun H locs hP hD hS => ?_)
    have hP : va_P D vwCl [(z0, .inr (9, [.ref a0, .ref b0, .ref h0, .ref s0, .ref l0, .ref e0, .ref k0, .int u7, .int u8, .int u9])), (a0, .inr (8, [.ref a1])), (a1, .inr (6, [.ref a2])), (a2, .inl (cA 0, 61, .inl f)), (w0, .inl (cA 3, 1, .inr (.inl (vp_updL wo 0 o1.2.toInt64))))] H := hP
    have hD : va_D A [(z0, .inr (9, [.ref a0, .ref b0, .ref h0, .ref s0, .ref l0, .ref e0, .ref k0, .int u7, .int u8, .int u9])), (a0, .inr (8, [.ref a1])), (a1, .inr (6, [.ref a2])), (a2, .inl (cA 0, 61, .inl f)), (w0, .inl (cA 3, 1, .inr (.inl (vp_updL wo 0 o1.2.toInt64))))] := hD
    refine lv_goto (tgt := 18) hx hb dL_eclipseIn_9 (by decide) ?_
    refine lv_iconst (v := 0) hx hb dL_eclipseIn_18 (by decide) ?_
    have h := Option.some.inj h
    subst h
    refine W.widen (k := 2) (n := 12) (Nat.le_of_ble_eq_true rfl) (Nat.le_of_ble_eq_true rfl) ?_
    exact hend (adr []) _ _ _ _ _ _ _ rfl rfl (rtn_i _) hP hD hS dL_eclipseIn_19
  · have h := ite_f c3 h
    have hP : va_P D vwCl [(z0, .inr (9, [.ref a0, .ref b0, .ref h0, .ref s0, .ref l0, .ref e0, .ref k0, .int u7, .int u8, .int u9])), (a0, .inr (8, [.ref a1])), (a1, .inr (6, [.ref a2])), (a2, .inl (cA 0, 61, .inl f)), (w0, .inl (cA 3, 1, .inr (.inl wo)))] H := hP
    have hD : va_D A [(z0, .inr (9, [.ref a0, .ref b0, .ref h0, .ref s0, .ref l0, .ref e0, .ref k0, .int u7, .int u8, .int u9])), (a0, .inr (8, [.ref a1])), (a1, .inr (6, [.ref a2])), (a2, .inl (cA 0, 61, .inl f)), (w0, .inl (cA 3, 1, .inr (.inl wo)))] := hD
    by_cases c4 : o1.1 = 3
    · have h := ite_t c4 h
      have z4 : s.vm.findClass "java/lang/IndexOutOfBoundsException" = some ce.cls := by rw [c4] at z3; exact z3
      refine vx_catch (own := RL) (name := "java/lang/IndexOutOfBoundsException") (E := "java/lang/IndexOutOfBoundsException") hfc [] ⟨0, 9, 12, 27⟩ [⟨0, 9, 15, 67⟩] hT9 (fun z hz => absurd hz List.not_mem_nil) rfl (by decide) (hL9.link (List.mem_of_getElem? (i := 2) rfl)) ((hEV.1.2.2.2.2 "java/lang/IndexOutOfBoundsException" (by decide +kernel)).use rfl) z1 z2 z4 ?_
      refine W.cs (cells' := 2) (slots' := 12) rfl rfl ?_
      refine lv_astore_n hx hb dL_eclipseIn_12 rfl hl (Nat.le_of_ble_eq_true rfl) rfl (fun ls hl => ?_)
      have hl : lv_has ls 4 [(3, .ref q9), (0, .ref z0), (1, .int x1), (2, .ref w0)] := hl
      refine lv_iconst (v := 1) hx hb dL_eclipseIn_13 (by decide) ?_
      have h := Option.some.inj h
      subst h
      refine W.widen (k := 2) (n := 12) (Nat.le_of_ble_eq_true rfl) (Nat.le_of_ble_eq_true rfl) ?_
      exact hend (adr []) _ _ _ _ _ _ _ rfl rfl (rtn_i _) hP hD hS dL_eclipseIn_14
    · have h := ite_f c4 h
      by_cases c5 : o1.1 = 4
      · have h := ite_t c5 h
        have z4 : s.vm.findClass "java/util/NoSuchElementException" = some ce.cls := by rw [c5] at z3; exact z3
        have hp9 : ∀ z ∈ ([⟨0, 9, 12, 27⟩] : List ExceptionTableEntry), covers z 4 = false ∨ (z.catchType ≠ 0 ∧ ∃ nm : String, (Cond.classLink RL z.catchType nm).before args s = true ∧ va_Nc "java/util/NoSuchElementException" nm s) := by
          intro z hz
          rcases List.mem_cons.mp hz with rfl | hz
          · exact Or.inr ⟨by decide, _, (hL9.link (List.mem_of_getElem? (i := 2) rfl)), hL9.1.2.2.2⟩
          exact absurd hz List.not_mem_nil
        refine vx_catch (own := RL) (name := "java/util/NoSuchElementException") (E := "java/util/NoSuchElementException") hfc [⟨0, 9, 12, 27⟩] ⟨0, 9, 15, 67⟩ [] hT9 hp9 rfl (by decide) (hL9.link (List.mem_of_getElem? (i := 3) rfl)) ((hEV.1.2.2.2.2 "java/util/NoSuchElementException" (by decide +kernel)).use rfl) z1 z2 z4 ?_
        refine W.cs (cells' := 2) (slots' := 12) rfl rfl ?_
        refine lv_astore_n hx hb dL_eclipseIn_15 rfl hl (Nat.le_of_ble_eq_true rfl) rfl (fun ls hl => ?_)
        have hl : lv_has ls 4 [(3, .ref q9), (0, .ref z0), (1, .int x1), (2, .ref w0)] := hl
        refine lv_iconst (v := 2) hx hb dL_eclipseIn_16 (by decide) ?_
        have h := Option.some.inj h
        subst h
        refine W.widen (k := 2) (n := 12) (Nat.le_of_ble_eq_true rfl) (Nat.le_of_ble_eq_true rfl) ?_
        exact hend (adr []) _ _ _ _ _ _ _ rfl rfl (rtn_i _) hP hD hS dL_eclipseIn_17
      · have h := ite_f c5 h
        exact nn h

noncomputable def SL_conjunctionIn (N : Nat) (f : Nat → Int32) (x1 : Int32) (x2 : Int32) (wo : Nat → Int64) : Option (Int32 × (Nat → Int64)) := bnd (SX5_conjunctionIn N f x1 x2) (fun o1 : Nat × Int32 => if o1.1 = 0 then (some ((0, vp_updL wo 0 o1.2.toInt64))) else (if o1.1 = 3 then (some ((1, wo))) else (if o1.1 = 4 then (some ((2, wo))) else (none))))
abbrev RM_L_conjunctionIn : Room := { frames := 8, cells := 3, slots := 18, locals := 127 }
set_option maxHeartbeats 4000000 in
theorem kL_conjunctionIn (l : Launch) (hst : l.stackTraces = false) (D : va_G) (cA : Nat → ClassId) (G : eG) (z0 a0 b0 h0 s0 l0 e0 k0 a1 a2 w0 : Nat) (N : Nat) (u7 : Int32) (u8 : Int32) (u9 : Int32) (f : Nat → Int32) (x1 : Int32) (x2 : Int32) (wo : Nat → Int64) {r : Int32 × (Nat → Int64)} (hr : SL_conjunctionIn N f x1 x2 wo = some r) {sz : Nat} : Met l yL_conjunctionIn wsL_conjunctionIn RM_L_conjunctionIn (va_Pc [.ref z0, .int x1, .int x2, .ref w0] (gqLB G D cA [(z0, .inr (9, [.ref a0, .ref b0, .ref h0, .ref s0, .ref l0, .ref e0, .ref k0, .int u7, .int u8, .int u9])), (a0, .inr (8, [.ref a1])), (a1, .inr (6, [.ref a2])), (a2, .inl (cA 0, 61, .inl f)), (w0, .inl (cA 3, 1, .inr (.inl wo)))] sz)) (gqQ D (fun as => (some (.int r.1))) (fun as => [(z0, .inr (9, [.ref a0, .ref b0, .ref h0, .ref s0, .ref l0, .ref e0, .ref k0, .int u7, .int u8, .int u9])), (a0, .inr (8, [.ref a1])), (a1, .inr (6, [.ref a2])), (a2, .inl (cA 0, 61, .inl f)), (w0, .inl (cA 3, 1, .inr (.inl r.2)))]) (va_A [(z0, .inr (9, [.ref a0, .ref b0, .ref h0, .ref s0, .ref l0, .ref e0, .ref k0, .int u7, .int u8, .int u9])), (a0, .inr (8, [.ref a1])), (a1, .inr (6, [.ref a2])), (a2, .inl (cA 0, 61, .inl f)), (w0, .inl (cA 3, 1, .inr (.inl wo)))] sz)) 3 18 (va_A [(z0, .inr (9, [.ref a0, .ref b0, .ref h0, .ref s0, .ref l0, .ref e0, .ref k0, .int u7, .int u8, .int u9])), (a0, .inr (8, [.ref a1])), (a1, .inr (6, [.ref a2])), (a2, .inl (cA 0, 61, .inl f)), (w0, .inl (cA 3, 1, .inr (.inl wo)))] sz) := by
  refine gqL_ofW (hh := [(0, 10, 13, 27), (0, 10, 17, 67)]) (cc := cL_conjunctionIn) (maxL := 5) (ret := (some .int)) (by decide) rfl (Nat.le_of_ble_eq_true rfl) (fun p e s m args below meth c ls Q A hx hb hml hT9 hts hfc hK hP hD hS hA hEV hL9 hl hend => ?_)
  have hfc : s.vm.findClass RL = some m.cls := hfc
  have hl : lv_has ls 5 [(0, .ref z0), (1, .int x1), (2, .int x2), (3, .ref w0)] := hl
  have h := hr
  clear hr
  unfold SL_conjunctionIn at h
  refine lv_aload_n hx hb dL_conjunctionIn_0 rfl (lv_at hl 3 rfl) ?_
  refine lv_iconst (v := 0) hx hb dL_conjunctionIn_1 (by decide) ?_
  refine lv_aload_n hx hb dL_conjunctionIn_2 rfl (lv_at hl 0 rfl) ?_
  refine lv_iload_n hx hb dL_conjunctionIn_3 rfl (lv_at hl 1 rfl) ?_
  refine lv_iload_n hx hb dL_conjunctionIn_4 rfl (lv_at hl 2 rfl) ?_
  obtain ⟨o1, ho1, h⟩ := bnd_i h
  refine xq_V (G := G) (v := (fun as => (some (.int o1.2)))) (As := [.int x1, .int x2]) (rest := [.int 0, .ref w0]) (wc := [(z0, .inr (9, [.ref a0, .ref b0, .ref h0, .ref s0, .ref l0, .ref e0, .ref k0, .int u7, .int u8, .int u9])), (a0, .inr (8, [.ref a1])), (a1, .inr (6, [.ref a2])), (a2, .inl (cA 0, 61, .inl f))]) (wr := [(w0, .inl (cA 3, 1, .inr (.inl wo)))]) (w1 := (fun as => [(z0, .inr (9, [.ref a0, .ref b0, .ref h0, .ref s0, .ref l0, .ref e0, .ref k0, .int u7, .int u8, .int u9])), (a0, .inr (8, [.ref a1])), (a1, .inr (6, [.ref a2])), (a2, .inl (cA 0, 61, .inl f))])) (ws2 := (fun as => [(z0, .inr (9, [.ref a0, .ref b0, .ref h0, .ref s0, .ref l0, .ref e0, .ref k0, .int u7, .int u8, .int u9])), (a0, .inr (8, [.ref a1])), (a1, .inr (6, [.ref a2])), (a2, .inl (cA 0, 61, .inl f)), (w0, .inl (cA 3, 1, .inr (.inl wo)))])) (st1 := (fun as => [.int o1.2, .int 0, .ref w0])) ⟨hx, hb, hml, hfc, hts⟩ hK hP hD hS hA hEV (kX5_conjunctionIn l hst D cA G z0 a0 b0 h0 s0 l0 e0 k0 a1 a2 N u7 u8 u9 f x1 x2 ho1) (cwV 2 hts gL_conjunctionIn_X5_conjunctionIn rfl rfl rfl (by decide +kernel) ⟨(Nat.le_of_ble_eq_true rfl), (Nat.le_of_ble_eq_true rfl)⟩) [0, 1, 2, 3] [4] [1, 2, 3, 4, 0] rfl rfl rfl rfl (by decide) (fun _ => rfl) rfl 0 9 rfl rfl rfl rfl (fun _ => rfl) rfl hl.1 (Nat.le_of_ble_eq_true rfl) dL_conjunctionIn_5 ⟨(Nat.le_of_ble_eq_true rfl), (Nat.le_of_ble_eq_true rfl)⟩ (fun c3 as2 H locs hP hD hS => ?_) (fun c3 as2 H locs q9 ce hP hD hS z1 z2 z3 => ?_)
  · have h := ite_t c3 h
    have hP : va_P D vwCl [(z0, .inr (9, [.ref a0, .ref b0, .ref h0, .ref s0, .ref l0, .ref e0, .ref k0, .int u7, .int u8, .int u9])), (a0, .inr (8, [.ref a1])), (a1, .inr (6, [.ref a2])), (a2, .inl (cA 0, 61, .inl f)), (w0, .inl (cA 3, 1, .inr (.inl wo)))] H := hP
    have hD : va_D A [(z0, .inr (9, [.ref a0, .ref b0, .ref h0, .ref s0, .ref l0, .ref e0, .ref k0, .int u7, .int u8, .int u9])), (a0, .inr (8, [.ref a1])), (a1, .inr (6, [.ref a2])), (a2, .inl (cA 0, 61, .inl f)), (w0, .inl (cA 3, 1, .inr (.inl wo)))] := hD
    refine W.cs (cells' := 3) (slots' := 18) rfl rfl ?_
    refine lv_i2l (v := o1.2.toInt64) hx hb dL_conjunctionIn_8 rfl ?_
    refine va_last hx hb hK hP hD hS 4 3 rfl rfl (vin _ _ (by decide)) dL_conjunctionIn_9 (fun H locs hP hD hS => ?_)
    have hP : va_P D vwCl [(z0, .inr (9, [.ref a0, .ref b0, .ref h0, .ref s0, .ref l0, .ref e0, .ref k0, .int u7, .int u8, .int u9])), (a0, .inr (8, [.ref a1])), (a1, .inr (6, [.ref a2])), (a2, .inl (cA 0, 61, .inl f)), (w0, .inl (cA 3, 1, .inr (.inl (vp_updL wo 0 o1.2.toInt64))))] H := hP
    have hD : va_D A [(z0, .inr (9, [.ref a0, .ref b0, .ref h0, .ref s0, .ref l0, .ref e0, .ref k0, .int u7, .int u8, .int u9])), (a0, .inr (8, [.ref a1])), (a1, .inr (6, [.ref a2])), (a2, .inl (cA 0, 61, .inl f)), (w0, .inl (cA 3, 1, .inr (.inl (vp_updL wo 0 o1.2.toInt64))))] := hD
    refine lv_goto (tgt := 21) hx hb dL_conjunctionIn_10 (by decide) ?_
    refine lv_iconst (v := 0) hx hb dL_conjunctionIn_21 (by decide) ?_
    have h := Option.some.inj h
    subst h
    refine W.widen (k := 3) (n := 18) (Nat.le_of_ble_eq_true rfl) (Nat.le_of_ble_eq_true rfl) ?_
    exact hend (adr []) _ _ _ _ _ _ _ rfl rfl (rtn_i _) hP hD hS dL_conjunctionIn_22
  · have h := ite_f c3 h
    have hP : va_P D vwCl [(z0, .inr (9, [.ref a0, .ref b0, .ref h0, .ref s0, .ref l0, .ref e0, .ref k0, .int u7, .int u8, .int u9])), (a0, .inr (8, [.ref a1])), (a1, .inr (6, [.ref a2])), (a2, .inl (cA 0, 61, .inl f)), (w0, .inl (cA 3, 1, .inr (.inl wo)))] H := hP
    have hD : va_D A [(z0, .inr (9, [.ref a0, .ref b0, .ref h0, .ref s0, .ref l0, .ref e0, .ref k0, .int u7, .int u8, .int u9])), (a0, .inr (8, [.ref a1])), (a1, .inr (6, [.ref a2])), (a2, .inl (cA 0, 61, .inl f)), (w0, .inl (cA 3, 1, .inr (.inl wo)))] := hD
    by_cases c4 : o1.1 = 3
    · have h := ite_t c4 h
      have z4 : s.vm.findClass "java/lang/IndexOutOfBoundsException" = some ce.cls := by rw [c4] at z3; exact z3
      refine vx_catch (own := RL) (name := "java/lang/IndexOutOfBoundsException") (E := "java/lang/IndexOutOfBoundsException") hfc [] ⟨0, 10, 13, 27⟩ [⟨0, 10, 17, 67⟩] hT9 (fun z hz => absurd hz List.not_mem_nil) rfl (by decide) (hL9.link (List.mem_of_getElem? (i := 2) rfl)) ((hEV.1.2.2.2.2 "java/lang/IndexOutOfBoundsException" (by decide +kernel)).use rfl) z1 z2 z4 ?_
      refine W.cs (cells' := 3) (slots' := 18) rfl rfl ?_
      refine lv_astore hx hb dL_conjunctionIn_13 hl (Nat.le_of_ble_eq_true rfl) rfl (fun ls hl => ?_)
      have hl : lv_has ls 5 [(4, .ref q9), (0, .ref z0), (1, .int x1), (2, .int x2), (3, .ref w0)] := hl
      refine lv_iconst (v := 1) hx hb dL_conjunctionIn_15 (by decide) ?_
      have h := Option.some.inj h
      subst h
      refine W.widen (k := 3) (n := 18) (Nat.le_of_ble_eq_true rfl) (Nat.le_of_ble_eq_true rfl) ?_
      exact hend (adr []) _ _ _ _ _ _ _ rfl rfl (rtn_i _) hP hD hS dL_conjunctionIn_16
    · have h := ite_f c4 h
      by_cases c5 : o1.1 = 4
      · have h := ite_t c5 h
        have z4 : s.vm.findClass "java/util/NoSuchElementException" = some ce.cls := by rw [c5] at z3; exact z3
        have hp9 : ∀ z ∈ ([⟨0, 10, 13, 27⟩] : List ExceptionTableEntry), covers z 5 = false ∨ (z.catchType ≠ 0 ∧ ∃ nm : String, (Cond.classLink RL z.catchType nm).before args s = true ∧ va_Nc "java/util/NoSuchElementException" nm s) := by
          intro z hz
          rcases List.mem_cons.mp hz with rfl | hz
          · exact Or.inr ⟨by decide, _, (hL9.link (List.mem_of_getElem? (i := 2) rfl)), hL9.1.2.2.2⟩
          exact absurd hz List.not_mem_nil
        refine vx_catch (own := RL) (name := "java/util/NoSuchElementException") (E := "java/util/NoSuchElementException") hfc [⟨0, 10, 13, 27⟩] ⟨0, 10, 17, 67⟩ [] hT9 hp9 rfl (by decide) (hL9.link (List.mem_of_getElem? (i := 3) rfl)) ((hEV.1.2.2.2.2 "java/util/NoSuchElementException" (by decide +kernel)).use rfl) z1 z2 z4 ?_
        refine W.cs (cells' := 3) (slots' := 18) rfl rfl ?_
        refine lv_astore hx hb dL_conjunctionIn_17 hl (Nat.le_of_ble_eq_true rfl) rfl (fun ls hl => ?_)
        have hl : lv_has ls 5 [(4, .ref q9), (0, .ref z0), (1, .int x1), (2, .int x2), (3, .ref w0)] := hl
        refine lv_iconst (v := 2) hx hb dL_conjunctionIn_19 (by decide) ?_
        have h := Option.some.inj h
        subst h
        refine W.widen (k := 3) (n := 18) (Nat.le_of_ble_eq_true rfl) (Nat.le_of_ble_eq_true rfl) ?_
        exact hend (adr []) _ _ _ _ _ _ _ rfl rfl (rtn_i _) hP hD hS dL_conjunctionIn_20
      · have h := ite_f c5 h
        exact nn h

noncomputable def SL_conjunctionByMoves (N : Nat) (f : Nat → Int32) (x1 : Int32) (x2 : Int32) (wo : Nat → Int64) : Option (Int32 × (Nat → Int64)) := bnd (SX5_conjunctionByMoves N f x1 x2) (fun o1 : Nat × Int32 => if o1.1 = 0 then (some ((0, vp_updL wo 0 o1.2.toInt64))) else (if o1.1 = 3 then (some ((1, wo))) else (if o1.1 = 4 then (some ((2, wo))) else (none))))
abbrev RM_L_conjunctionByMoves : Room := { frames := 8, cells := 3, slots := 18, locals := 127 }
set_option maxHeartbeats 4000000 in
theorem kL_conjunctionByMoves (l : Launch) (hst : l.stackTraces = false) (D : va_G) (cA : Nat → ClassId) (G : eG) (z0 a0 b0 h0 s0 l0 e0 k0 a1 a2 w0 : Nat) (N : Nat) (u7 : Int32) (u8 : Int32) (u9 : Int32) (f : Nat → Int32) (x1 : Int32) (x2 : Int32) (wo : Nat → Int64) {r : Int32 × (Nat → Int64)} (hr : SL_conjunctionByMoves N f x1 x2 wo = some r) {sz : Nat} : Met l yL_conjunctionByMoves wsL_conjunctionByMoves RM_L_conjunctionByMoves (va_Pc [.ref z0, .int x1, .int x2, .ref w0] (gqLB G D cA [(z0, .inr (9, [.ref a0, .ref b0, .ref h0, .ref s0, .ref l0, .ref e0, .ref k0, .int u7, .int u8, .int u9])), (a0, .inr (8, [.ref a1])), (a1, .inr (6, [.ref a2])), (a2, .inl (cA 0, 61, .inl f)), (w0, .inl (cA 3, 1, .inr (.inl wo)))] sz)) (gqQ D (fun as => (some (.int r.1))) (fun as => [(z0, .inr (9, [.ref a0, .ref b0, .ref h0, .ref s0, .ref l0, .ref e0, .ref k0, .int u7, .int u8, .int u9])), (a0, .inr (8, [.ref a1])), (a1, .inr (6, [.ref a2])), (a2, .inl (cA 0, 61, .inl f)), (w0, .inl (cA 3, 1, .inr (.inl r.2)))]) (va_A [(z0, .inr (9, [.ref a0, .ref b0, .ref h0, .ref s0, .ref l0, .ref e0, .ref k0, .int u7, .int u8, .int u9])), (a0, .inr (8, [.ref a1])), (a1, .inr (6, [.ref a2])), (a2, .inl (cA 0, 61, .inl f)), (w0, .inl (cA 3, 1, .inr (.inl wo)))] sz)) 3 18 (va_A [(z0, .inr (9, [.ref a0, .ref b0, .ref h0, .ref s0, .ref l0, .ref e0, .ref k0, .int u7, .int u8, .int u9])), (a0, .inr (8, [.ref a1])), (a1, .inr (6, [.ref a2])), (a2, .inl (cA 0, 61, .inl f)), (w0, .inl (cA 3, 1, .inr (.inl wo)))] sz) := by
  refine gqL_ofW (hh := [(0, 10, 13, 27), (0, 10, 17, 67)]) (cc := cL_conjunctionByMoves) (maxL := 5) (ret := (some .int)) (by decide) rfl (Nat.le_of_ble_eq_true rfl) (fun p e s m args below meth c ls Q A hx hb hml hT9 hts hfc hK hP hD hS hA hEV hL9 hl hend => ?_)
  have hfc : s.vm.findClass RL = some m.cls := hfc
  have hl : lv_has ls 5 [(0, .ref z0), (1, .int x1), (2, .int x2), (3, .ref w0)] := hl
  have h := hr
  clear hr
  unfold SL_conjunctionByMoves at h
  refine lv_aload_n hx hb dL_conjunctionByMoves_0 rfl (lv_at hl 3 rfl) ?_
  refine lv_iconst (v := 0) hx hb dL_conjunctionByMoves_1 (by decide) ?_
  refine lv_aload_n hx hb dL_conjunctionByMoves_2 rfl (lv_at hl 0 rfl) ?_
  refine lv_iload_n hx hb dL_conjunctionByMoves_3 rfl (lv_at hl 1 rfl) ?_
  refine lv_iload_n hx hb dL_conjunctionByMoves_4 rfl (lv_at hl 2 rfl) ?_
  obtain ⟨o1, ho1, h⟩ := bnd_i h
  refine xq_V (G := G) (v := (fun as => (some (.int o1.2)))) (As := [.int x1, .int x2]) (rest := [.int 0, .ref w0]) (wc := [(z0, .inr (9, [.ref a0, .ref b0, .ref h0, .ref s0, .ref l0, .ref e0, .ref k0, .int u7, .int u8, .int u9])), (a0, .inr (8, [.ref a1])), (a1, .inr (6, [.ref a2])), (a2, .inl (cA 0, 61, .inl f))]) (wr := [(w0, .inl (cA 3, 1, .inr (.inl wo)))]) (w1 := (fun as => [(z0, .inr (9, [.ref a0, .ref b0, .ref h0, .ref s0, .ref l0, .ref e0, .ref k0, .int u7, .int u8, .int u9])), (a0, .inr (8, [.ref a1])), (a1, .inr (6, [.ref a2])), (a2, .inl (cA 0, 61, .inl f))])) (ws2 := (fun as => [(z0, .inr (9, [.ref a0, .ref b0, .ref h0, .ref s0, .ref l0, .ref e0, .ref k0, .int u7, .int u8, .int u9])), (a0, .inr (8, [.ref a1])), (a1, .inr (6, [.ref a2])), (a2, .inl (cA 0, 61, .inl f)), (w0, .inl (cA 3, 1, .inr (.inl wo)))])) (st1 := (fun as => [.int o1.2, .int 0, .ref w0])) ⟨hx, hb, hml, hfc, hts⟩ hK hP hD hS hA hEV (kX5_conjunctionByMoves l hst D cA G z0 a0 b0 h0 s0 l0 e0 k0 a1 a2 N u7 u8 u9 f x1 x2 ho1) (cwV 2 hts gL_conjunctionByMoves_X5_conjunctionByMoves rfl rfl rfl (by decide +kernel) ⟨(Nat.le_of_ble_eq_true rfl), (Nat.le_of_ble_eq_true rfl)⟩) [0, 1, 2, 3] [4] [1, 2, 3, 4, 0] rfl rfl rfl rfl (by decide) (fun _ => rfl) rfl 0 9 rfl rfl rfl rfl (fun _ => rfl) rfl hl.1 (Nat.le_of_ble_eq_true rfl) dL_conjunctionByMoves_5 ⟨(Nat.le_of_ble_eq_true rfl), (Nat.le_of_ble_eq_true rfl)⟩ (fun c3 as2 H locs hP hD hS => ?_) (fun c3 as2 H locs q9 ce hP hD hS z1 z2 z3 => ?_)
  · have h := ite_t c3 h
    have hP : va_P D vwCl [(z0, .inr (9, [.ref a0, .ref b0, .ref h0, .ref s0, .ref l0, .ref e0, .ref k0, .int u7, .int u8, .int u9])), (a0, .inr (8, [.ref a1])), (a1, .inr (6, [.ref a2])), (a2, .inl (cA 0, 61, .inl f)), (w0, .inl (cA 3, 1, .inr (.inl wo)))] H := hP
    have hD : va_D A [(z0, .inr (9, [.ref a0, .ref b0, .ref h0, .ref s0, .ref l0, .ref e0, .ref k0, .int u7, .int u8, .int u9])), (a0, .inr (8, [.ref a1])), (a1, .inr (6, [.ref a2])), (a2, .inl (cA 0, 61, .inl f)), (w0, .inl (cA 3, 1, .inr (.inl wo)))] := hD
    refine W.cs (cells' := 3) (slots' := 18) rfl rfl ?_
    refine lv_i2l (v := o1.2.toInt64) hx hb dL_conjunctionByMoves_8 rfl ?_
    refine va_last hx hb hK hP hD hS 4 3 rfl rfl (vin _ _ (by decide)) dL_conjunctionByMoves_9 (fun H locs hP hD hS => ?_)
    have hP : va_P D vwCl [(z0, .inr (9, [.ref a0, .ref b0, .ref h0, .ref s0, .ref l0, .ref e0, .ref k0, .int u7, .int u8, .int u9])), (a0, .inr (8, [.ref a1])), (a1, .inr (6, [.ref a2])), (a2, .inl (cA 0, 61, .inl f)), (w0, .inl (cA 3, 1, .inr (.inl (vp_updL wo 0 o1.2.toInt64))))] H := hP
    have hD : va_D A [(z0, .inr (9, [.ref a0, .ref b0, .ref h0, .ref s0, .ref l0, .ref e0, .ref k0, .int u7, .int u8, .int u9])), (a0, .inr (8, [.ref a1])), (a1, .inr (6, [.ref a2])), (a2, .inl (cA 0, 61, .inl f)), (w0, .inl (cA 3, 1, .inr (.inl (vp_updL wo 0 o1.2.toInt64))))] := hD
    refine lv_goto (tgt := 21) hx hb dL_conjunctionByMoves_10 (by decide) ?_
    refine lv_iconst (v := 0) hx hb dL_conjunctionByMoves_21 (by decide) ?_
    have h := Option.some.inj h
    subst h
    refine W.widen (k := 3) (n := 18) (Nat.le_of_ble_eq_true rfl) (Nat.le_of_ble_eq_true rfl) ?_
    exact hend (adr []) _ _ _ _ _ _ _ rfl rfl (rtn_i _) hP hD hS dL_conjunctionByMoves_22
  · have h := ite_f c3 h
    have hP : va_P D vwCl [(z0, .inr (9, [.ref a0, .ref b0, .ref h0, .ref s0, .ref l0, .ref e0, .ref k0, .int u7, .int u8, .int u9])), (a0, .inr (8, [.ref a1])), (a1, .inr (6, [.ref a2])), (a2, .inl (cA 0, 61, .inl f)), (w0, .inl (cA 3, 1, .inr (.inl wo)))] H := hP
    have hD : va_D A [(z0, .inr (9, [.ref a0, .ref b0, .ref h0, .ref s0, .ref l0, .ref e0, .ref k0, .int u7, .int u8, .int u9])), (a0, .inr (8, [.ref a1])), (a1, .inr (6, [.ref a2])), (a2, .inl (cA 0, 61, .inl f)), (w0, .inl (cA 3, 1, .inr (.inl wo)))] := hD
    by_cases c4 : o1.1 = 3
    · have h := ite_t c4 h
      have z4 : s.vm.findClass "java/lang/IndexOutOfBoundsException" = some ce.cls := by rw [c4] at z3; exact z3
      refine vx_catch (own := RL) (name := "java/lang/IndexOutOfBoundsException") (E := "java/lang/IndexOutOfBoundsException") hfc [] ⟨0, 10, 13, 27⟩ [⟨0, 10, 17, 67⟩] hT9 (fun z hz => absurd hz List.not_mem_nil) rfl (by decide) (hL9.link (List.mem_of_getElem? (i := 2) rfl)) ((hEV.1.2.2.2.2 "java/lang/IndexOutOfBoundsException" (by decide +kernel)).use rfl) z1 z2 z4 ?_
      refine W.cs (cells' := 3) (slots' := 18) rfl rfl ?_
      refine lv_astore hx hb dL_conjunctionByMoves_13 hl (Nat.le_of_ble_eq_true rfl) rfl (fun ls hl => ?_)
      have hl : lv_has ls 5 [(4, .ref q9), (0, .ref z0), (1, .int x1), (2, .int x2), (3, .ref w0)] := hl
      refine lv_iconst (v := 1) hx hb dL_conjunctionByMoves_15 (by decide) ?_
      have h := Option.some.inj h
      subst h
      refine W.widen (k := 3) (n := 18) (Nat.le_of_ble_eq_true rfl) (Nat.le_of_ble_eq_true rfl) ?_
      exact hend (adr []) _ _ _ _ _ _ _ rfl rfl (rtn_i _) hP hD hS dL_conjunctionByMoves_16
    · have h := ite_f c4 h
      by_cases c5 : o1.1 = 4
      · have h := ite_t c5 h
        have z4 : s.vm.findClass "java/util/NoSuchElementException" = some ce.cls := by rw [c5] at z3; exact z3
        have hp9 : ∀ z ∈ ([⟨0, 10, 13, 27⟩] : List ExceptionTableEntry), covers z 5 = false ∨ (z.catchType ≠ 0 ∧ ∃ nm : String, (Cond.classLink RL z.catchType nm).before args s = true ∧ va_Nc "java/util/NoSuchElementException" nm s) := by
          intro z hz
          rcases List.mem_cons.mp hz with rfl | hz
          · exact Or.inr ⟨by decide, _, (hL9.link (List.mem_of_getElem? (i := 2) rfl)), hL9.1.2.2.2⟩
          exact absurd hz List.not_mem_nil
        refine vx_catch (own := RL) (name := "java/util/NoSuchElementException") (E := "java/util/NoSuchElementException") hfc [⟨0, 10, 13, 27⟩] ⟨0, 10, 17, 67⟩ [] hT9 hp9 rfl (by decide) (hL9.link (List.mem_of_getElem? (i := 3) rfl)) ((hEV.1.2.2.2.2 "java/util/NoSuchElementException" (by decide +kernel)).use rfl) z1 z2 z4 ?_
        refine W.cs (cells' := 3) (slots' := 18) rfl rfl ?_
        refine lv_astore hx hb dL_conjunctionByMoves_17 hl (Nat.le_of_ble_eq_true rfl) rfl (fun ls hl => ?_)
        have hl : lv_has ls 5 [(4, .ref q9), (0, .ref z0), (1, .int x1), (2, .int x2), (3, .ref w0)] := hl
        refine lv_iconst (v := 2) hx hb dL_conjunctionByMoves_19 (by decide) ?_
        have h := Option.some.inj h
        subst h
        refine W.widen (k := 3) (n := 18) (Nat.le_of_ble_eq_true rfl) (Nat.le_of_ble_eq_true rfl) ?_
        exact hend (adr []) _ _ _ _ _ _ _ rfl rfl (rtn_i _) hP hD hS dL_conjunctionByMoves_20
      · have h := ite_f c5 h
        exact nn h

noncomputable def SL_writeMoon (N : Nat) (f : Nat → Int32) (n : Nat) (lf : Nat → Int32) (ml : Int32) (c0 : Int32) (x1 : Int32) (wo : Nat → Int64) : Option (Int32 × Int32 × Int32 × (Nat → Int32) × Nat × (Nat → Int64)) := bnd (SX5_writeMoon N f n lf ml c0 x1) (fun o1 : Nat × Int32 × Int32 × Int32 × (Nat → Int32) × Nat => if o1.1 = 0 then (some ((0, o1.2.2.1, o1.2.2.2.1, o1.2.2.2.2.1, o1.2.2.2.2.2, vp_updL wo 0 o1.2.1.toInt64))) else (if o1.1 = 3 then (some ((1, o1.2.2.1, o1.2.2.2.1, o1.2.2.2.2.1, o1.2.2.2.2.2, wo))) else (none)))
abbrev RM_L_writeMoon : Room := { frames := 8, cells := 7, slots := 1014, locals := 175 }
set_option maxHeartbeats 4000000 in
theorem kL_writeMoon (l : Launch) (hst : l.stackTraces = false) (D : va_G) (cA : Nat → ClassId) (G : eG) (z0 a0 b0 h0 s0 l0 e0 k0 a1 a2 l1 w0 : Nat) (N : Nat) (u7 : Int32) (u8 : Int32) (u9 : Int32) (f : Nat → Int32) (n : Nat) (lf : Nat → Int32) (ml : Int32) (c0 : Int32) (x1 : Int32) (wo : Nat → Int64) {r : Int32 × Int32 × Int32 × (Nat → Int32) × Nat × (Nat → Int64)} (hr : SL_writeMoon N f n lf ml c0 x1 wo = some r) {sz : Nat} : Met l yL_writeMoon wsL_writeMoon RM_L_writeMoon (va_Pc [.ref z0, .int x1, .ref w0] (gqLB G D cA [(z0, .inr (9, [.ref a0, .ref b0, .ref h0, .ref s0, .ref l0, .ref e0, .ref k0, .int u7, .int u8, .int u9])), (a0, .inr (8, [.ref a1])), (a1, .inr (6, [.ref a2])), (a2, .inl (cA 0, 61, .inl f)), (l0, .inr (1, [.ref l1, .int 0, .int ml, .int c0])), (l1, .inl (cA 1, n, .inl lf)), (w0, .inl (cA 3, 1, .inr (.inl wo)))] sz)) (gqQ D (fun as => (some (.int r.1))) (fun as => [(z0, .inr (9, [.ref a0, .ref b0, .ref h0, .ref s0, .ref l0, .ref e0, .ref k0, .int u7, .int u8, .int u9])), (a0, .inr (8, [.ref a1])), (a1, .inr (6, [.ref a2])), (a2, .inl (cA 0, 61, .inl f)), (l0, .inr (1, [.ref (as 0), .int 0, .int r.2.1, .int r.2.2.1])), ((as 0), .inl (cA 1, r.2.2.2.2.1, .inl r.2.2.2.1)), (w0, .inl (cA 3, 1, .inr (.inl r.2.2.2.2.2)))]) (va_A [(z0, .inr (9, [.ref a0, .ref b0, .ref h0, .ref s0, .ref l0, .ref e0, .ref k0, .int u7, .int u8, .int u9])), (a0, .inr (8, [.ref a1])), (a1, .inr (6, [.ref a2])), (a2, .inl (cA 0, 61, .inl f)), (l0, .inr (1, [.ref l1, .int 0, .int ml, .int c0])), (l1, .inl (cA 1, n, .inl lf)), (w0, .inl (cA 3, 1, .inr (.inl wo)))] sz)) 7 1014 (va_A [(z0, .inr (9, [.ref a0, .ref b0, .ref h0, .ref s0, .ref l0, .ref e0, .ref k0, .int u7, .int u8, .int u9])), (a0, .inr (8, [.ref a1])), (a1, .inr (6, [.ref a2])), (a2, .inl (cA 0, 61, .inl f)), (l0, .inr (1, [.ref l1, .int 0, .int ml, .int c0])), (l1, .inl (cA 1, n, .inl lf)), (w0, .inl (cA 3, 1, .inr (.inl wo)))] sz) := by
  refine gqL_ofW (hh := [(0, 9, 12, 27)]) (cc := cL_writeMoon) (maxL := 4) (ret := (some .int)) (by decide) rfl (Nat.le_of_ble_eq_true rfl) (fun p e s m args below meth c ls Q A hx hb hml hT9 hts hfc hK hP hD hS hA hEV hL9 hl hend => ?_)
  have hfc : s.vm.findClass RL = some m.cls := hfc
  have hl : lv_has ls 4 [(0, .ref z0), (1, .int x1), (2, .ref w0)] := hl
  have h := hr
  clear hr
  unfold SL_writeMoon at h
  refine lv_aload_n hx hb dL_writeMoon_0 rfl (lv_at hl 2 rfl) ?_
  refine lv_iconst (v := 0) hx hb dL_writeMoon_1 (by decide) ?_
  refine lv_aload_n hx hb dL_writeMoon_2 rfl (lv_at hl 0 rfl) ?_
  refine lv_iload_n hx hb dL_writeMoon_3 rfl (lv_at hl 1 rfl) ?_
  obtain ⟨o1, ho1, h⟩ := bnd_i h
  refine xq_V (G := G) (v := (fun as => (some (.int o1.2.1)))) (As := [.int x1]) (rest := [.int 0, .ref w0]) (wc := [(z0, .inr (9, [.ref a0, .ref b0, .ref h0, .ref s0, .ref l0, .ref e0, .ref k0, .int u7, .int u8, .int u9])), (a0, .inr (8, [.ref a1])), (a1, .inr (6, [.ref a2])), (a2, .inl (cA 0, 61, .inl f)), (l0, .inr (1, [.ref l1, .int 0, .int ml, .int c0])), (l1, .inl (cA 1, n, .inl lf))]) (wr := [(w0, .inl (cA 3, 1, .inr (.inl wo)))]) (w1 := (fun as => [(z0, .inr (9, [.ref a0, .ref b0, .ref h0, .ref s0, .ref l0, .ref e0, .ref k0, .int u7, .int u8, .int u9])), (a0, .inr (8, [.ref a1])), (a1, .inr (6, [.ref a2])), (a2, .inl (cA 0, 61, .inl f)), (l0, .inr (1, [.ref (as 0), .int 0, .int o1.2.2.1, .int o1.2.2.2.1])), ((as 0), .inl (cA 1, o1.2.2.2.2.2, .inl o1.2.2.2.2.1))])) (ws2 := (fun as => [(z0, .inr (9, [.ref a0, .ref b0, .ref h0, .ref s0, .ref l0, .ref e0, .ref k0, .int u7, .int u8, .int u9])), (a0, .inr (8, [.ref a1])), (a1, .inr (6, [.ref a2])), (a2, .inl (cA 0, 61, .inl f)), (l0, .inr (1, [.ref (as 0), .int 0, .int o1.2.2.1, .int o1.2.2.2.1])), ((as 0), .inl (cA 1, o1.2.2.2.2.2, .inl o1.2.2.2.2.1)), (w0, .inl (cA 3, 1, .inr (.inl wo)))])) (st1 := (fun as => [.int o1.2.1, .int 0, .ref w0])) ⟨hx, hb, hml, hfc, hts⟩ hK hP hD hS hA hEV (kX5_writeMoon l hst D cA G z0 a0 b0 h0 s0 l0 e0 k0 a1 a2 l1 N u7 u8 u9 f n lf ml c0 x1 ho1) (cwV 1 hts gL_writeMoon_X5_writeMoon rfl rfl rfl (by decide +kernel) ⟨(Nat.le_of_ble_eq_true rfl), (Nat.le_of_ble_eq_true rfl)⟩) [0, 1, 2, 3, 4, 5] [6] [1, 2, 3, 4, 5, 6, 0] rfl rfl rfl rfl (by decide) (fun _ => rfl) rfl 0 9 rfl rfl rfl rfl (fun _ => rfl) rfl hl.1 (Nat.le_of_ble_eq_true rfl) dL_writeMoon_4 ⟨(Nat.le_of_ble_eq_true rfl), (Nat.le_of_ble_eq_true rfl)⟩ (fun c3 as2 H locs hP hD hS => ?_) (fun c3 as2 H locs q9 ce hP hD hS z1 z2 z3 => ?_)
  · have h := ite_t c3 h
    have hP : va_P D vwCl [(z0, .inr (9, [.ref a0, .ref b0, .ref h0, .ref s0, .ref l0, .ref e0, .ref k0, .int u7, .int u8, .int u9])), (a0, .inr (8, [.ref a1])), (a1, .inr (6, [.ref a2])), (a2, .inl (cA 0, 61, .inl f)), (l0, .inr (1, [.ref (as2 0), .int 0, .int o1.2.2.1, .int o1.2.2.2.1])), ((as2 0), .inl (cA 1, o1.2.2.2.2.2, .inl o1.2.2.2.2.1)), (w0, .inl (cA 3, 1, .inr (.inl wo)))] H := hP
    have hD : va_D A [(z0, .inr (9, [.ref a0, .ref b0, .ref h0, .ref s0, .ref l0, .ref e0, .ref k0, .int u7, .int u8, .int u9])), (a0, .inr (8, [.ref a1])), (a1, .inr (6, [.ref a2])), (a2, .inl (cA 0, 61, .inl f)), (l0, .inr (1, [.ref (as2 0), .int 0, .int o1.2.2.1, .int o1.2.2.2.1])), ((as2 0), .inl (cA 1, o1.2.2.2.2.2, .inl o1.2.2.2.2.1)), (w0, .inl (cA 3, 1, .inr (.inl wo)))] := hD
    refine W.cs (cells' := 7) (slots' := 1014) rfl rfl ?_
    refine lv_i2l (v := o1.2.1.toInt64) hx hb dL_writeMoon_7 rfl ?_
    refine va_last hx hb hK hP hD hS 6 3 rfl rfl (vin _ _ (by decide)) dL_writeMoon_8 (fun H locs hP hD hS => ?_)
    have hP : va_P D vwCl [(z0, .inr (9, [.ref a0, .ref b0, .ref h0, .ref s0, .ref l0, .ref e0, .ref k0, .int u7, .int u8, .int u9])), (a0, .inr (8, [.ref a1])), (a1, .inr (6, [.ref a2])), (a2, .inl (cA 0, 61, .inl f)), (l0, .inr (1, [.ref (as2 0), .int 0, .int o1.2.2.1, .int o1.2.2.2.1])), ((as2 0), .inl (cA 1, o1.2.2.2.2.2, .inl o1.2.2.2.2.1)), (w0, .inl (cA 3, 1, .inr (.inl (vp_updL wo 0 o1.2.1.toInt64))))] H := hP
    have hD : va_D A [(z0, .inr (9, [.ref a0, .ref b0, .ref h0, .ref s0, .ref l0, .ref e0, .ref k0, .int u7, .int u8, .int u9])), (a0, .inr (8, [.ref a1])), (a1, .inr (6, [.ref a2])), (a2, .inl (cA 0, 61, .inl f)), (l0, .inr (1, [.ref (as2 0), .int 0, .int o1.2.2.1, .int o1.2.2.2.1])), ((as2 0), .inl (cA 1, o1.2.2.2.2.2, .inl o1.2.2.2.2.1)), (w0, .inl (cA 3, 1, .inr (.inl (vp_updL wo 0 o1.2.1.toInt64))))] := hD
    refine lv_goto (tgt := 15) hx hb dL_writeMoon_9 (by decide) ?_
    refine lv_iconst (v := 0) hx hb dL_writeMoon_15 (by decide) ?_
    have h := Option.some.inj h
    subst h
    refine W.widen (k := 7) (n := 1014) (Nat.le_of_ble_eq_true rfl) (Nat.le_of_ble_eq_true rfl) ?_
    exact hend (adr [(as2 0)]) _ _ _ _ _ _ _ rfl rfl (rtn_i _) hP hD hS dL_writeMoon_16
  · have h := ite_f c3 h
    have hP : va_P D vwCl [(z0, .inr (9, [.ref a0, .ref b0, .ref h0, .ref s0, .ref l0, .ref e0, .ref k0, .int u7, .int u8, .int u9])), (a0, .inr (8, [.ref a1])), (a1, .inr (6, [.ref a2])), (a2, .inl (cA 0, 61, .inl f)), (l0, .inr (1, [.ref (as2 0), .int 0, .int o1.2.2.1, .int o1.2.2.2.1])), ((as2 0), .inl (cA 1, o1.2.2.2.2.2, .inl o1.2.2.2.2.1)), (w0, .inl (cA 3, 1, .inr (.inl wo)))] H := hP
    have hD : va_D A [(z0, .inr (9, [.ref a0, .ref b0, .ref h0, .ref s0, .ref l0, .ref e0, .ref k0, .int u7, .int u8, .int u9])), (a0, .inr (8, [.ref a1])), (a1, .inr (6, [.ref a2])), (a2, .inl (cA 0, 61, .inl f)), (l0, .inr (1, [.ref (as2 0), .int 0, .int o1.2.2.1, .int o1.2.2.2.1])), ((as2 0), .inl (cA 1, o1.2.2.2.2.2, .inl o1.2.2.2.2.1)), (w0, .inl (cA 3, 1, .inr (.inl wo)))] := hD
    by_cases c4 : o1.1 = 3
    · have h := ite_t c4 h
      have z4 : s.vm.findClass "java/lang/IndexOutOfBoundsException" = some ce.cls := by rw [c4] at z3; exact z3
      refine vx_catch (own := RL) (name := "java/lang/IndexOutOfBoundsException") (E := "java/lang/IndexOutOfBoundsException") hfc [] ⟨0, 9, 12, 27⟩ [] hT9 (fun z hz => absurd hz List.not_mem_nil) rfl (by decide) (hL9.link (List.mem_of_getElem? (i := 2) rfl)) ((hEV.1.2.2.2.2 "java/lang/IndexOutOfBoundsException" (by decide +kernel)).use rfl) z1 z2 z4 ?_
      refine W.cs (cells' := 7) (slots' := 1014) rfl rfl ?_
      refine lv_astore_n hx hb dL_writeMoon_12 rfl hl (Nat.le_of_ble_eq_true rfl) rfl (fun ls hl => ?_)
      have hl : lv_has ls 4 [(3, .ref q9), (0, .ref z0), (1, .int x1), (2, .ref w0)] := hl
      refine lv_iconst (v := 1) hx hb dL_writeMoon_13 (by decide) ?_
      have h := Option.some.inj h
      subst h
      refine W.widen (k := 7) (n := 1014) (Nat.le_of_ble_eq_true rfl) (Nat.le_of_ble_eq_true rfl) ?_
      exact hend (adr [(as2 0)]) _ _ _ _ _ _ _ rfl rfl (rtn_i _) hP hD hS dL_writeMoon_14
    · have h := ite_f c4 h
      exact nn h

noncomputable def SL_lineAt (n : Nat) (lf : Nat → Int32) (c0 : Int32) (x1 : Int32) (wo : Nat → Int64) : Option (Int32 × (Nat → Int64)) := bnd (SX5_lineAt n lf c0 x1) (fun o1 : Nat × Int32 => if o1.1 = 0 then (some ((0, vp_updL wo 0 o1.2.toInt64))) else (if o1.1 = 3 then (some ((1, wo))) else (none)))
abbrev RM_L_lineAt : Room := { frames := 7, cells := 1, slots := 6, locals := 111 }
set_option maxHeartbeats 4000000 in
theorem kL_lineAt (l : Launch) (hst : l.stackTraces = false) (D : va_G) (cA : Nat → ClassId) (G : eG) (z0 a0 b0 h0 s0 l0 e0 k0 l1 w0 : Nat) (u7 : Int32) (u8 : Int32) (u9 : Int32) (n : Nat) (lf : Nat → Int32) (ml : Int32) (c0 : Int32) (x1 : Int32) (wo : Nat → Int64) {r : Int32 × (Nat → Int64)} (hr : SL_lineAt n lf c0 x1 wo = some r) {sz : Nat} : Met l yL_lineAt wsL_lineAt RM_L_lineAt (va_Pc [.ref z0, .int x1, .ref w0] (gqLB G D cA [(z0, .inr (9, [.ref a0, .ref b0, .ref h0, .ref s0, .ref l0, .ref e0, .ref k0, .int u7, .int u8, .int u9])), (l0, .inr (1, [.ref l1, .int 0, .int ml, .int c0])), (l1, .inl (cA 1, n, .inl lf)), (w0, .inl (cA 3, 1, .inr (.inl wo)))] sz)) (gqQ D (fun as => (some (.int r.1))) (fun as => [(z0, .inr (9, [.ref a0, .ref b0, .ref h0, .ref s0, .ref l0, .ref e0, .ref k0, .int u7, .int u8, .int u9])), (l0, .inr (1, [.ref l1, .int 0, .int ml, .int c0])), (l1, .inl (cA 1, n, .inl lf)), (w0, .inl (cA 3, 1, .inr (.inl r.2)))]) (va_A [(z0, .inr (9, [.ref a0, .ref b0, .ref h0, .ref s0, .ref l0, .ref e0, .ref k0, .int u7, .int u8, .int u9])), (l0, .inr (1, [.ref l1, .int 0, .int ml, .int c0])), (l1, .inl (cA 1, n, .inl lf)), (w0, .inl (cA 3, 1, .inr (.inl wo)))] sz)) 1 6 (va_A [(z0, .inr (9, [.ref a0, .ref b0, .ref h0, .ref s0, .ref l0, .ref e0, .ref k0, .int u7, .int u8, .int u9])), (l0, .inr (1, [.ref l1, .int 0, .int ml, .int c0])), (l1, .inl (cA 1, n, .inl lf)), (w0, .inl (cA 3, 1, .inr (.inl wo)))] sz) := by
  refine gqL_ofW (hh := [(0, 9, 12, 27)]) (cc := cL_lineAt) (maxL := 4) (ret := (some .int)) (by decide) rfl (Nat.le_of_ble_eq_true rfl) (fun p e s m args below meth c ls Q A hx hb hml hT9 hts hfc hK hP hD hS hA hEV hL9 hl hend => ?_)
  have hfc : s.vm.findClass RL = some m.cls := hfc
  have hl : lv_has ls 4 [(0, .ref z0), (1, .int x1), (2, .ref w0)] := hl
  have h := hr
  clear hr
  unfold SL_lineAt at h
  refine lv_aload_n hx hb dL_lineAt_0 rfl (lv_at hl 2 rfl) ?_
  refine lv_iconst (v := 0) hx hb dL_lineAt_1 (by decide) ?_
  refine lv_aload_n hx hb dL_lineAt_2 rfl (lv_at hl 0 rfl) ?_
  refine lv_iload_n hx hb dL_lineAt_3 rfl (lv_at hl 1 rfl) ?_
  obtain ⟨o1, ho1, h⟩ := bnd_i h
  refine xq_V (G := G) (v := (fun as => (some (.int o1.2)))) (As := [.int x1]) (rest := [.int 0, .ref w0]) (wc := [(z0, .inr (9, [.ref a0, .ref b0, .ref h0, .ref s0, .ref l0, .ref e0, .ref k0, .int u7, .int u8, .int u9])), (l0, .inr (1, [.ref l1, .int 0, .int ml, .int c0])), (l1, .inl (cA 1, n, .inl lf))]) (wr := [(w0, .inl (cA 3, 1, .inr (.inl wo)))]) (w1 := (fun as => [(z0, .inr (9, [.ref a0, .ref b0, .ref h0, .ref s0, .ref l0, .ref e0, .ref k0, .int u7, .int u8, .int u9])), (l0, .inr (1, [.ref l1, .int 0, .int ml, .int c0])), (l1, .inl (cA 1, n, .inl lf))])) (ws2 := (fun as => [(z0, .inr (9, [.ref a0, .ref b0, .ref h0, .ref s0, .ref l0, .ref e0, .ref k0, .int u7, .int u8, .int u9])), (l0, .inr (1, [.ref l1, .int 0, .int ml, .int c0])), (l1, .inl (cA 1, n, .inl lf)), (w0, .inl (cA 3, 1, .inr (.inl wo)))])) (st1 := (fun as => [.int o1.2, .int 0, .ref w0])) ⟨hx, hb, hml, hfc, hts⟩ hK hP hD hS hA hEV (kX5_lineAt l hst D cA G z0 a0 b0 h0 s0 l0 e0 k0 l1 u7 u8 u9 n lf ml c0 x1 ho1) (cwV 1 hts gL_lineAt_X5_lineAt rfl rfl rfl (by decide +kernel) ⟨(Nat.le_of_ble_eq_true rfl), (Nat.le_of_ble_eq_true rfl)⟩) [0, 1, 2] [3] [1, 2, 3, 0] rfl rfl rfl rfl (by decide) (fun _ => rfl) rfl 0 9 rfl rfl rfl rfl (fun _ => rfl) rfl hl.1 (Nat.le_of_ble_eq_true rfl) dL_lineAt_4 ⟨(Nat.le_of_ble_eq_true rfl), (Nat.le_of_ble_eq_true rfl)⟩ (fun c3 as2 H locs hP hD hS => ?_) (fun c3 as2 H locs q9 ce hP hD hS z1 z2 z3 => ?_)
  · have h := ite_t c3 h
    have hP : va_P D vwCl [(z0, .inr (9, [.ref a0, .ref b0, .ref h0, .ref s0, .ref l0, .ref e0, .ref k0, .int u7, .int u8, .int u9])), (l0, .inr (1, [.ref l1, .int 0, .int ml, .int c0])), (l1, .inl (cA 1, n, .inl lf)), (w0, .inl (cA 3, 1, .inr (.inl wo)))] H := hP
    have hD : va_D A [(z0, .inr (9, [.ref a0, .ref b0, .ref h0, .ref s0, .ref l0, .ref e0, .ref k0, .int u7, .int u8, .int u9])), (l0, .inr (1, [.ref l1, .int 0, .int ml, .int c0])), (l1, .inl (cA 1, n, .inl lf)), (w0, .inl (cA 3, 1, .inr (.inl wo)))] := hD
    refine W.cs (cells' := 1) (slots' := 6) rfl rfl ?_
    refine lv_i2l (v := o1.2.toInt64) hx hb dL_lineAt_7 rfl ?_
    refine va_last hx hb hK hP hD hS 3 3 rfl rfl (vin _ _ (by decide)) dL_lineAt_8 (fun H locs hP hD hS => ?_)
    have hP : va_P D vwCl [(z0, .inr (9, [.ref a0, .ref b0, .ref h0, .ref s0, .ref l0, .ref e0, .ref k0, .int u7, .int u8, .int u9])), (l0, .inr (1, [.ref l1, .int 0, .int ml, .int c0])), (l1, .inl (cA 1, n, .inl lf)), (w0, .inl (cA 3, 1, .inr (.inl (vp_updL wo 0 o1.2.toInt64))))] H := hP
    have hD : va_D A [(z0, .inr (9, [.ref a0, .ref b0, .ref h0, .ref s0, .ref l0, .ref e0, .ref k0, .int u7, .int u8, .int u9])), (l0, .inr (1, [.ref l1, .int 0, .int ml, .int c0])), (l1, .inl (cA 1, n, .inl lf)), (w0, .inl (cA 3, 1, .inr (.inl (vp_updL wo 0 o1.2.toInt64))))] := hD
    refine lv_goto (tgt := 15) hx hb dL_lineAt_9 (by decide) ?_
    refine lv_iconst (v := 0) hx hb dL_lineAt_15 (by decide) ?_
    have h := Option.some.inj h
    subst h
    refine W.widen (k := 1) (n := 6) (Nat.le_of_ble_eq_true rfl) (Nat.le_of_ble_eq_true rfl) ?_
    exact hend (adr []) _ _ _ _ _ _ _ rfl rfl (rtn_i _) hP hD hS dL_lineAt_16
  · have h := ite_f c3 h
    have hP : va_P D vwCl [(z0, .inr (9, [.ref a0, .ref b0, .ref h0, .ref s0, .ref l0, .ref e0, .ref k0, .int u7, .int u8, .int u9])), (l0, .inr (1, [.ref l1, .int 0, .int ml, .int c0])), (l1, .inl (cA 1, n, .inl lf)), (w0, .inl (cA 3, 1, .inr (.inl wo)))] H := hP
    have hD : va_D A [(z0, .inr (9, [.ref a0, .ref b0, .ref h0, .ref s0, .ref l0, .ref e0, .ref k0, .int u7, .int u8, .int u9])), (l0, .inr (1, [.ref l1, .int 0, .int ml, .int c0])), (l1, .inl (cA 1, n, .inl lf)), (w0, .inl (cA 3, 1, .inr (.inl wo)))] := hD
    by_cases c4 : o1.1 = 3
    · have h := ite_t c4 h
      have z4 : s.vm.findClass "java/lang/IndexOutOfBoundsException" = some ce.cls := by rw [c4] at z3; exact z3
      refine vx_catch (own := RL) (name := "java/lang/IndexOutOfBoundsException") (E := "java/lang/IndexOutOfBoundsException") hfc [] ⟨0, 9, 12, 27⟩ [] hT9 (fun z hz => absurd hz List.not_mem_nil) rfl (by decide) (hL9.link (List.mem_of_getElem? (i := 2) rfl)) ((hEV.1.2.2.2.2 "java/lang/IndexOutOfBoundsException" (by decide +kernel)).use rfl) z1 z2 z4 ?_
      refine W.cs (cells' := 1) (slots' := 6) rfl rfl ?_
      refine lv_astore_n hx hb dL_lineAt_12 rfl hl (Nat.le_of_ble_eq_true rfl) rfl (fun ls hl => ?_)
      have hl : lv_has ls 4 [(3, .ref q9), (0, .ref z0), (1, .int x1), (2, .ref w0)] := hl
      refine lv_iconst (v := 1) hx hb dL_lineAt_13 (by decide) ?_
      have h := Option.some.inj h
      subst h
      refine W.widen (k := 1) (n := 6) (Nat.le_of_ble_eq_true rfl) (Nat.le_of_ble_eq_true rfl) ?_
      exact hend (adr []) _ _ _ _ _ _ _ rfl rfl (rtn_i _) hP hD hS dL_lineAt_14
    · have h := ite_f c4 h
      exact nn h

noncomputable def SL_eclipsedShare (N : Nat) (f : Nat → Int32) (wo : Nat → UInt64) : Option (Int32 × (Nat → UInt64)) := bnd (SX5_eclipsedShare N f) (fun o1 : Nat × UInt32 => if o1.1 = 0 then (gd (vf_n64 (FP.f2d o1.2)) (some ((0, vf_upd wo 0 (FP.f2d o1.2))))) else (if o1.1 = 5 then (some ((1, wo))) else (none)))
abbrev RM_L_eclipsedShare : Room := { frames := 7, cells := 1, slots := 6, locals := 107 }
set_option maxHeartbeats 4000000 in
theorem kL_eclipsedShare (l : Launch) (hst : l.stackTraces = false) (D : va_G) (cA : Nat → ClassId) (G : eG) (z0 a0 b0 h0 s0 l0 e0 k0 a1 a2 w0 : Nat) (N : Nat) (u7 : Int32) (u8 : Int32) (u9 : Int32) (f : Nat → Int32) (wo : Nat → UInt64) {r : Int32 × (Nat → UInt64)} (hr : SL_eclipsedShare N f wo = some r) {sz : Nat} : Met l yL_eclipsedShare wsL_eclipsedShare RM_L_eclipsedShare (va_Pc [.ref z0, .ref w0] (gqLB G D cA [(z0, .inr (9, [.ref a0, .ref b0, .ref h0, .ref s0, .ref l0, .ref e0, .ref k0, .int u7, .int u8, .int u9])), (a0, .inr (8, [.ref a1])), (a1, .inr (6, [.ref a2])), (a2, .inl (cA 0, 61, .inl f)), (w0, .inl (cA 4, 1, .inr (.inr (.inr (.inl wo)))))] sz)) (gqQ D (fun as => (some (.int r.1))) (fun as => [(z0, .inr (9, [.ref a0, .ref b0, .ref h0, .ref s0, .ref l0, .ref e0, .ref k0, .int u7, .int u8, .int u9])), (a0, .inr (8, [.ref a1])), (a1, .inr (6, [.ref a2])), (a2, .inl (cA 0, 61, .inl f)), (w0, .inl (cA 4, 1, .inr (.inr (.inr (.inl r.2)))))]) (va_A [(z0, .inr (9, [.ref a0, .ref b0, .ref h0, .ref s0, .ref l0, .ref e0, .ref k0, .int u7, .int u8, .int u9])), (a0, .inr (8, [.ref a1])), (a1, .inr (6, [.ref a2])), (a2, .inl (cA 0, 61, .inl f)), (w0, .inl (cA 4, 1, .inr (.inr (.inr (.inl wo)))))] sz)) 1 6 (va_A [(z0, .inr (9, [.ref a0, .ref b0, .ref h0, .ref s0, .ref l0, .ref e0, .ref k0, .int u7, .int u8, .int u9])), (a0, .inr (8, [.ref a1])), (a1, .inr (6, [.ref a2])), (a2, .inl (cA 0, 61, .inl f)), (w0, .inl (cA 4, 1, .inr (.inr (.inr (.inl wo)))))] sz) := by
  refine gqL_ofW (hh := [(0, 8, 11, 135)]) (cc := cL_eclipsedShare) (maxL := 3) (ret := (some .int)) (by decide) rfl (Nat.le_of_ble_eq_true rfl) (fun p e s m args below meth c ls Q A hx hb hml hT9 hts hfc hK hP hD hS hA hEV hL9 hl hend => ?_)
  have hfc : s.vm.findClass RL = some m.cls := hfc
  have hl : lv_has ls 3 [(0, .ref z0), (1, .ref w0)] := hl
  have h := hr
  clear hr
  unfold SL_eclipsedShare at h
  refine lv_aload_n hx hb dL_eclipsedShare_0 rfl (lv_at hl 1 rfl) ?_
  refine lv_iconst (v := 0) hx hb dL_eclipsedShare_1 (by decide) ?_
  refine lv_aload_n hx hb dL_eclipsedShare_2 rfl (lv_at hl 0 rfl) ?_
  obtain ⟨o1, ho1, h⟩ := bnd_i h
  refine xq_V (G := G) (v := (fun as => (some (.float o1.2)))) (As := []) (rest := [.int 0, .ref w0]) (wc := [(z0, .inr (9, [.ref a0, .ref b0, .ref h0, .ref s0, .ref l0, .ref e0, .ref k0, .int u7, .int u8, .int u9])), (a0, .inr (8, [.ref a1])), (a1, .inr (6, [.ref a2])), (a2, .inl (cA 0, 61, .inl f))]) (wr := [(w0, .inl (cA 4, 1, .inr (.inr (.inr (.inl wo)))))]) (w1 := (fun as => [(z0, .inr (9, [.ref a0, .ref b0, .ref h0, .ref s0, .ref l0, .ref e0, .ref k0, .int u7, .int u8, .int u9])), (a0, .inr (8, [.ref a1])), (a1, .inr (6, [.ref a2])), (a2, .inl (cA 0, 61, .inl f))])) (ws2 := (fun as => [(z0, .inr (9, [.ref a0, .ref b0, .ref h0, .ref s0, .ref l0, .ref e0, .ref k0, .int u7, .int u8, .int u9])), (a0, .inr (8, [.ref a1])), (a1, .inr (6, [.ref a2])), (a2, .inl (cA 0, 61, .inl f)), (w0, .inl (cA 4, 1, .inr (.inr (.inr (.inl wo)))))])) (st1 := (fun as => [.float o1.2, .int 0, .ref w0])) ⟨hx, hb, hml, hfc, hts⟩ hK hP hD hS hA hEV (kX5_eclipsedShare l hst D cA G z0 a0 b0 h0 s0 l0 e0 k0 a1 a2 N u7 u8 u9 f ho1) (cwV 0 hts gL_eclipsedShare_X5_eclipsedShare rfl rfl rfl (by decide +kernel) ⟨(Nat.le_of_ble_eq_true rfl), (Nat.le_of_ble_eq_true rfl)⟩) [0, 1, 2, 3] [4] [1, 2, 3, 4, 0] rfl rfl rfl rfl (by decide) (fun _ => rfl) rfl 0 9 rfl rfl rfl rfl (fun _ => rfl) rfl hl.1 (Nat.le_of_ble_eq_true rfl) dL_eclipsedShare_3 ⟨(Nat.le_of_ble_eq_true rfl), (Nat.le_of_ble_eq_true rfl)⟩ (fun c3 as2 H locs hP hD hS => ?_) (fun c3 as2 H locs q9 ce hP hD hS z1 z2 z3 => ?_)
  · have h := ite_t c3 h
    have hP : va_P D vwCl [(z0, .inr (9, [.ref a0, .ref b0, .ref h0, .ref s0, .ref l0, .ref e0, .ref k0, .int u7, .int u8, .int u9])), (a0, .inr (8, [.ref a1])), (a1, .inr (6, [.ref a2])), (a2, .inl (cA 0, 61, .inl f)), (w0, .inl (cA 4, 1, .inr (.inr (.inr (.inl wo)))))] H := hP
    have hD : va_D A [(z0, .inr (9, [.ref a0, .ref b0, .ref h0, .ref s0, .ref l0, .ref e0, .ref k0, .int u7, .int u8, .int u9])), (a0, .inr (8, [.ref a1])), (a1, .inr (6, [.ref a2])), (a2, .inl (cA 0, 61, .inl f)), (w0, .inl (cA 4, 1, .inr (.inr (.inr (.inl wo)))))] := hD
    refine W.cs (cells' := 1) (slots' := 6) rfl rfl ?_
    obtain ⟨g5, h⟩ := gd_i h
    refine lv_f2d hx hb dL_eclipsedShare_6 g5 ?_
    refine va_dast hx hb hK hP hD hS 4 4 rfl rfl (vin _ _ (by decide)) dL_eclipsedShare_7 (fun H locs hP hD hS => ?_)
    have hP : va_P D vwCl [(z0, .inr (9, [.ref a0, .ref b0, .ref h0, .ref s0, .ref l0, .ref e0, .ref k0, .int u7, .int u8, .int u9])), (a0, .inr (8, [.ref a1])), (a1, .inr (6, [.ref a2])), (a2, .inl (cA 0, 61, .inl f)), (w0, .inl (cA 4, 1, .inr (.inr (.inr (.inl (vf_upd wo 0 (FP.f2d o1.2)))))))] H := hP
    have hD : va_D A [(z0, .inr (9, [.ref a0, .ref b0, .ref h0, .ref s0, .ref l0, .ref e0, .ref k0, .int u7, .int u8, .int u9])), (a0, .inr (8, [.ref a1])), (a1, .inr (6, [.ref a2])), (a2, .inl (cA 0, 61, .inl f)), (w0, .inl (cA 4, 1, .inr (.inr (.inr (.inl (vf_upd wo 0 (FP.f2d o1.2)))))))] := hD
    refine lv_goto (tgt := 14) hx hb dL_eclipsedShare_8 (by decide) ?_
    refine lv_iconst (v := 0) hx hb dL_eclipsedShare_14 (by decide) ?_
    have h := Option.some.inj h
    subst h
    refine W.widen (k := 1) (n := 6) (Nat.le_of_ble_eq_true rfl) (Nat.le_of_ble_eq_true rfl) ?_
    exact hend (adr []) _ _ _ _ _ _ _ rfl rfl (rtn_i _) hP hD hS dL_eclipsedShare_15
  · have h := ite_f c3 h
    have hP : va_P D vwCl [(z0, .inr (9, [.ref a0, .ref b0, .ref h0, .ref s0, .ref l0, .ref e0, .ref k0, .int u7, .int u8, .int u9])), (a0, .inr (8, [.ref a1])), (a1, .inr (6, [.ref a2])), (a2, .inl (cA 0, 61, .inl f)), (w0, .inl (cA 4, 1, .inr (.inr (.inr (.inl wo)))))] H := hP
    have hD : va_D A [(z0, .inr (9, [.ref a0, .ref b0, .ref h0, .ref s0, .ref l0, .ref e0, .ref k0, .int u7, .int u8, .int u9])), (a0, .inr (8, [.ref a1])), (a1, .inr (6, [.ref a2])), (a2, .inl (cA 0, 61, .inl f)), (w0, .inl (cA 4, 1, .inr (.inr (.inr (.inl wo)))))] := hD
    by_cases c4 : o1.1 = 5
    · have h := ite_t c4 h
      have z4 : s.vm.findClass "java/lang/ArithmeticException" = some ce.cls := by rw [c4] at z3; exact z3
      refine vx_catch (own := RL) (name := "java/lang/ArithmeticException") (E := "java/lang/ArithmeticException") hfc [] ⟨0, 8, 11, 135⟩ [] hT9 (fun z hz => absurd hz List.not_mem_nil) rfl (by decide) (hL9.link (List.mem_of_getElem? (i := 4) rfl)) ((hEV.1.2.2.2.2 "java/lang/ArithmeticException" (by decide +kernel)).use rfl) z1 z2 z4 ?_
      refine W.cs (cells' := 1) (slots' := 6) rfl rfl ?_
      refine lv_astore_n hx hb dL_eclipsedShare_11 rfl hl (Nat.le_of_ble_eq_true rfl) rfl (fun ls hl => ?_)
      have hl : lv_has ls 3 [(2, .ref q9), (0, .ref z0), (1, .ref w0)] := hl
      refine lv_iconst (v := 1) hx hb dL_eclipsedShare_12 (by decide) ?_
      have h := Option.some.inj h
      subst h
      refine W.widen (k := 1) (n := 6) (Nat.le_of_ble_eq_true rfl) (Nat.le_of_ble_eq_true rfl) ?_
      exact hend (adr []) _ _ _ _ _ _ _ rfl rfl (rtn_i _) hP hD hS dL_eclipsedShare_13
    · have h := ite_f c4 h
      exact nn h

noncomputable def SL_type (n : Nat) (tf : Nat → Int32) (c0 : Int32) (x1 : Int32) (wo : Nat → Int64) : Option (Int32 × Int32 × (Nat → Int32) × Nat × (Nat → Int64)) := bnd (SX5_type n tf c0 x1) (fun o1 : Nat × Int32 × Int32 × (Nat → Int32) × Nat => if o1.1 = 0 then (some ((0, o1.2.2.1, o1.2.2.2.1, o1.2.2.2.2, vp_updL wo 0 o1.2.1.toInt64))) else (if o1.1 = 1 then (some ((1, o1.2.2.1, o1.2.2.2.1, o1.2.2.2.2, wo))) else (if o1.1 = 2 then (some ((2, o1.2.2.1, o1.2.2.2.1, o1.2.2.2.2, wo))) else (none))))
abbrev RM_L_type : Room := { frames := 8, cells := 1, slots := 168, locals := 172 }
set_option maxHeartbeats 4000000 in
theorem kL_type (l : Launch) (hst : l.stackTraces = false) (D : va_G) (cA : Nat → ClassId) (G : eG) (z0 a0 b0 h0 s0 l0 e0 k0 t0 m0 t1 m1 w0 : Nat) (u7 : Int32) (u8 : Int32) (u9 : Int32) (w1 : Int32) (w2 : Int32) (w3 : Int32) (n : Nat) (tf : Nat → Int32) (ml : Int32) (c0 : Int32) (cm : Nat → Int32) (x1 : Int32) (wo : Nat → Int64) {r : Int32 × Int32 × (Nat → Int32) × Nat × (Nat → Int64)} (hr : SL_type n tf c0 x1 wo = some r) {sz : Nat} : Met l yL_type wsL_type RM_L_type (va_Pc [.ref z0, .int x1, .ref w0] (gqLB G D cA [(z0, .inr (9, [.ref a0, .ref b0, .ref h0, .ref s0, .ref l0, .ref e0, .ref k0, .int u7, .int u8, .int u9])), (s0, .inr (7, [.ref t0, .ref m0, .int w1, .int w2, .int w3])), (t0, .inr (1, [.ref t1, .int 0, .int ml, .int c0])), (t1, .inl (cA 1, n, .inl tf)), (m0, .inr (6, [.ref m1])), (m1, .inl (cA 0, 60, .inl cm)), (w0, .inl (cA 3, 1, .inr (.inl wo)))] sz)) (gqQ D (fun as => (some (.int r.1))) (fun as => [(z0, .inr (9, [.ref a0, .ref b0, .ref h0, .ref s0, .ref l0, .ref e0, .ref k0, .int u7, .int u8, .int u9])), (s0, .inr (7, [.ref t0, .ref m0, .int w1, .int w2, .int w3])), (t0, .inr (1, [.ref (as 0), .int 0, .int ml, .int r.2.1])), ((as 0), .inl (cA 1, r.2.2.2.1, .inl r.2.2.1)), (m0, .inr (6, [.ref m1])), (m1, .inl (cA 0, 60, .inl cm)), (w0, .inl (cA 3, 1, .inr (.inl r.2.2.2.2)))]) (va_A [(z0, .inr (9, [.ref a0, .ref b0, .ref h0, .ref s0, .ref l0, .ref e0, .ref k0, .int u7, .int u8, .int u9])), (s0, .inr (7, [.ref t0, .ref m0, .int w1, .int w2, .int w3])), (t0, .inr (1, [.ref t1, .int 0, .int ml, .int c0])), (t1, .inl (cA 1, n, .inl tf)), (m0, .inr (6, [.ref m1])), (m1, .inl (cA 0, 60, .inl cm)), (w0, .inl (cA 3, 1, .inr (.inl wo)))] sz)) 1 168 (va_A [(z0, .inr (9, [.ref a0, .ref b0, .ref h0, .ref s0, .ref l0, .ref e0, .ref k0, .int u7, .int u8, .int u9])), (s0, .inr (7, [.ref t0, .ref m0, .int w1, .int w2, .int w3])), (t0, .inr (1, [.ref t1, .int 0, .int ml, .int c0])), (t1, .inl (cA 1, n, .inl tf)), (m0, .inr (6, [.ref m1])), (m1, .inl (cA 0, 60, .inl cm)), (w0, .inl (cA 3, 1, .inr (.inl wo)))] sz) := by
  refine gqL_ofW (hh := [(0, 9, 12, 13), (0, 9, 15, 15)]) (cc := cL_type) (maxL := 4) (ret := (some .int)) (by decide) rfl (Nat.le_of_ble_eq_true rfl) (fun p e s m args below meth c ls Q A hx hb hml hT9 hts hfc hK hP hD hS hA hEV hL9 hl hend => ?_)
  have hfc : s.vm.findClass RL = some m.cls := hfc
  have hl : lv_has ls 4 [(0, .ref z0), (1, .int x1), (2, .ref w0)] := hl
  have h := hr
  clear hr
  unfold SL_type at h
  refine lv_aload_n hx hb dL_type_0 rfl (lv_at hl 2 rfl) ?_
  refine lv_iconst (v := 0) hx hb dL_type_1 (by decide) ?_
  refine lv_aload_n hx hb dL_type_2 rfl (lv_at hl 0 rfl) ?_
  refine lv_iload_n hx hb dL_type_3 rfl (lv_at hl 1 rfl) ?_
  obtain ⟨o1, ho1, h⟩ := bnd_i h
  refine xq_V (G := G) (v := (fun as => (some (.int o1.2.1)))) (As := [.int x1]) (rest := [.int 0, .ref w0]) (wc := [(z0, .inr (9, [.ref a0, .ref b0, .ref h0, .ref s0, .ref l0, .ref e0, .ref k0, .int u7, .int u8, .int u9])), (s0, .inr (7, [.ref t0, .ref m0, .int w1, .int w2, .int w3])), (t0, .inr (1, [.ref t1, .int 0, .int ml, .int c0])), (t1, .inl (cA 1, n, .inl tf)), (m0, .inr (6, [.ref m1])), (m1, .inl (cA 0, 60, .inl cm))]) (wr := [(w0, .inl (cA 3, 1, .inr (.inl wo)))]) (w1 := (fun as => [(z0, .inr (9, [.ref a0, .ref b0, .ref h0, .ref s0, .ref l0, .ref e0, .ref k0, .int u7, .int u8, .int u9])), (s0, .inr (7, [.ref t0, .ref m0, .int w1, .int w2, .int w3])), (t0, .inr (1, [.ref (as 0), .int 0, .int ml, .int o1.2.2.1])), ((as 0), .inl (cA 1, o1.2.2.2.2, .inl o1.2.2.2.1)), (m0, .inr (6, [.ref m1])), (m1, .inl (cA 0, 60, .inl cm))])) (ws2 := (fun as => [(z0, .inr (9, [.ref a0, .ref b0, .ref h0, .ref s0, .ref l0, .ref e0, .ref k0, .int u7, .int u8, .int u9])), (s0, .inr (7, [.ref t0, .ref m0, .int w1, .int w2, .int w3])), (t0, .inr (1, [.ref (as 0), .int 0, .int ml, .int o1.2.2.1])), ((as 0), .inl (cA 1, o1.2.2.2.2, .inl o1.2.2.2.1)), (m0, .inr (6, [.ref m1])), (m1, .inl (cA 0, 60, .inl cm)), (w0, .inl (cA 3, 1, .inr (.inl wo)))])) (st1 := (fun as => [.int o1.2.1, .int 0, .ref w0])) ⟨hx, hb, hml, hfc, hts⟩ hK hP hD hS hA hEV (kX5_type l hst D cA G z0 a0 b0 h0 s0 l0 e0 k0 t0 m0 t1 m1 u7 u8 u9 w1 w2 w3 n tf ml c0 cm x1 ho1) (cwV 1 hts gL_type_X5_type rfl rfl rfl (by decide +kernel) ⟨(Nat.le_of_ble_eq_true rfl), (Nat.le_of_ble_eq_true rfl)⟩) [0, 1, 2, 3, 4, 5] [6] [1, 2, 3, 4, 5, 6, 0] rfl rfl rfl rfl (by decide) (fun _ => rfl) rfl 0 9 rfl rfl rfl rfl (fun _ => rfl) rfl hl.1 (Nat.le_of_ble_eq_true rfl) dL_type_4 ⟨(Nat.le_of_ble_eq_true rfl), (Nat.le_of_ble_eq_true rfl)⟩ (fun c3 as2 H locs hP hD hS => ?_) (fun c3 as2 H locs q9 ce hP hD hS z1 z2 z3 => ?_)
  · have h := ite_t c3 h
    have hP : va_P D vwCl [(z0, .inr (9, [.ref a0, .ref b0, .ref h0, .ref s0, .ref l0, .ref e0, .ref k0, .int u7, .int u8, .int u9])), (s0, .inr (7, [.ref t0, .ref m0, .int w1, .int w2, .int w3])), (t0, .inr (1, [.ref (as2 0), .int 0, .int ml, .int o1.2.2.1])), ((as2 0), .inl (cA 1, o1.2.2.2.2, .inl o1.2.2.2.1)), (m0, .inr (6, [.ref m1])), (m1, .inl (cA 0, 60, .inl cm)), (w0, .inl (cA 3, 1, .inr (.inl wo)))] H := hP
    have hD : va_D A [(z0, .inr (9, [.ref a0, .ref b0, .ref h0, .ref s0, .ref l0, .ref e0, .ref k0, .int u7, .int u8, .int u9])), (s0, .inr (7, [.ref t0, .ref m0, .int w1, .int w2, .int w3])), (t0, .inr (1, [.ref (as2 0), .int 0, .int ml, .int o1.2.2.1])), ((as2 0), .inl (cA 1, o1.2.2.2.2, .inl o1.2.2.2.1)), (m0, .inr (6, [.ref m1])), (m1, .inl (cA 0, 60, .inl cm)), (w0, .inl (cA 3, 1, .inr (.inl wo)))] := hD
    refine W.cs (cells' := 1) (slots' := 168) rfl rfl ?_
    refine lv_i2l (v := o1.2.1.toInt64) hx hb dL_type_7 rfl ?_
    refine va_last hx hb hK hP hD hS 6 3 rfl rfl (vin _ _ (by decide)) dL_type_8 (fun H locs hP hD hS => ?_)
    have hP : va_P D vwCl [(z0, .inr (9, [.ref a0, .ref b0, .ref h0, .ref s0, .ref l0, .ref e0, .ref k0, .int u7, .int u8, .int u9])), (s0, .inr (7, [.ref t0, .ref m0, .int w1, .int w2, .int w3])), (t0, .inr (1, [.ref (as2 0), .int 0, .int ml, .int o1.2.2.1])), ((as2 0), .inl (cA 1, o1.2.2.2.2, .inl o1.2.2.2.1)), (m0, .inr (6, [.ref m1])), (m1, .inl (cA 0, 60, .inl cm)), (w0, .inl (cA 3, 1, .inr (.inl (vp_updL wo 0 o1.2.1.toInt64))))] H := hP
    have hD : va_D A [(z0, .inr (9, [.ref a0, .ref b0, .ref h0, .ref s0, .ref l0, .ref e0, .ref k0, .int u7, .int u8, .int u9])), (s0, .inr (7, [.ref t0, .ref m0, .int w1, .int w2, .int w3])), (t0, .inr (1, [.ref (as2 0), .int 0, .int ml, .int o1.2.2.1])), ((as2 0), .inl (cA 1, o1.2.2.2.2, .inl o1.2.2.2.1)), (m0, .inr (6, [.ref m1])), (m1, .inl (cA 0, 60, .inl cm)), (w0, .inl (cA 3, 1, .inr (.inl (vp_updL wo 0 o1.2.1.toInt64))))] := hD
    refine lv_goto (tgt := 18) hx hb dL_type_9 (by decide) ?_
    refine lv_iconst (v := 0) hx hb dL_type_18 (by decide) ?_
    have h := Option.some.inj h
    subst h
    refine W.widen (k := 1) (n := 168) (Nat.le_of_ble_eq_true rfl) (Nat.le_of_ble_eq_true rfl) ?_
    exact hend (adr [(as2 0)]) _ _ _ _ _ _ _ rfl rfl (rtn_i _) hP hD hS dL_type_19
  · have h := ite_f c3 h
    have hP : va_P D vwCl [(z0, .inr (9, [.ref a0, .ref b0, .ref h0, .ref s0, .ref l0, .ref e0, .ref k0, .int u7, .int u8, .int u9])), (s0, .inr (7, [.ref t0, .ref m0, .int w1, .int w2, .int w3])), (t0, .inr (1, [.ref (as2 0), .int 0, .int ml, .int o1.2.2.1])), ((as2 0), .inl (cA 1, o1.2.2.2.2, .inl o1.2.2.2.1)), (m0, .inr (6, [.ref m1])), (m1, .inl (cA 0, 60, .inl cm)), (w0, .inl (cA 3, 1, .inr (.inl wo)))] H := hP
    have hD : va_D A [(z0, .inr (9, [.ref a0, .ref b0, .ref h0, .ref s0, .ref l0, .ref e0, .ref k0, .int u7, .int u8, .int u9])), (s0, .inr (7, [.ref t0, .ref m0, .int w1, .int w2, .int w3])), (t0, .inr (1, [.ref (as2 0), .int 0, .int ml, .int o1.2.2.1])), ((as2 0), .inl (cA 1, o1.2.2.2.2, .inl o1.2.2.2.1)), (m0, .inr (6, [.ref m1])), (m1, .inl (cA 0, 60, .inl cm)), (w0, .inl (cA 3, 1, .inr (.inl wo)))] := hD
    by_cases c4 : o1.1 = 1
    · have h := ite_t c4 h
      have z4 : s.vm.findClass "java/lang/IllegalArgumentException" = some ce.cls := by rw [c4] at z3; exact z3
      refine vx_catch (own := RL) (name := "java/lang/IllegalArgumentException") (E := "java/lang/IllegalArgumentException") hfc [] ⟨0, 9, 12, 13⟩ [⟨0, 9, 15, 15⟩] hT9 (fun z hz => absurd hz List.not_mem_nil) rfl (by decide) (hL9.link (List.mem_of_getElem? (i := 0) rfl)) ((hEV.1.2.2.2.2 "java/lang/IllegalArgumentException" (by decide +kernel)).use rfl) z1 z2 z4 ?_
      refine W.cs (cells' := 1) (slots' := 168) rfl rfl ?_
      refine lv_astore_n hx hb dL_type_12 rfl hl (Nat.le_of_ble_eq_true rfl) rfl (fun ls hl => ?_)
      have hl : lv_has ls 4 [(3, .ref q9), (0, .ref z0), (1, .int x1), (2, .ref w0)] := hl
      refine lv_iconst (v := 1) hx hb dL_type_13 (by decide) ?_
      have h := Option.some.inj h
      subst h
      refine W.widen (k := 1) (n := 168) (Nat.le_of_ble_eq_true rfl) (Nat.le_of_ble_eq_true rfl) ?_
      exact hend (adr [(as2 0)]) _ _ _ _ _ _ _ rfl rfl (rtn_i _) hP hD hS dL_type_14
    · have h := ite_f c4 h
      by_cases c5 : o1.1 = 2
      · have h := ite_t c5 h
        have z4 : s.vm.findClass "java/lang/IllegalStateException" = some ce.cls := by rw [c5] at z3; exact z3
        have hp9 : ∀ z ∈ ([⟨0, 9, 12, 13⟩] : List ExceptionTableEntry), covers z 4 = false ∨ (z.catchType ≠ 0 ∧ ∃ nm : String, (Cond.classLink RL z.catchType nm).before args s = true ∧ va_Nc "java/lang/IllegalStateException" nm s) := by
          intro z hz
          rcases List.mem_cons.mp hz with rfl | hz
          · exact Or.inr ⟨by decide, _, (hL9.link (List.mem_of_getElem? (i := 0) rfl)), hL9.1.1⟩
          exact absurd hz List.not_mem_nil
        refine vx_catch (own := RL) (name := "java/lang/IllegalStateException") (E := "java/lang/IllegalStateException") hfc [⟨0, 9, 12, 13⟩] ⟨0, 9, 15, 15⟩ [] hT9 hp9 rfl (by decide) (hL9.link (List.mem_of_getElem? (i := 1) rfl)) ((hEV.1.2.2.2.2 "java/lang/IllegalStateException" (by decide +kernel)).use rfl) z1 z2 z4 ?_
        refine W.cs (cells' := 1) (slots' := 168) rfl rfl ?_
        refine lv_astore_n hx hb dL_type_15 rfl hl (Nat.le_of_ble_eq_true rfl) rfl (fun ls hl => ?_)
        have hl : lv_has ls 4 [(3, .ref q9), (0, .ref z0), (1, .int x1), (2, .ref w0)] := hl
        refine lv_iconst (v := 2) hx hb dL_type_16 (by decide) ?_
        have h := Option.some.inj h
        subst h
        refine W.widen (k := 1) (n := 168) (Nat.le_of_ble_eq_true rfl) (Nat.le_of_ble_eq_true rfl) ?_
        exact hend (adr [(as2 0)]) _ _ _ _ _ _ _ rfl rfl (rtn_i _) hP hD hS dL_type_17
      · have h := ite_f c5 h
        exact nn h

noncomputable def SL_execute (N : Nat) (u8 : Int32) (u9 : Int32) (f : Nat → Int32) (v1 : Int32) (v2 : Int32) (g : Nat → Int32) (w3 : Int32) (n : Nat) (tf : Nat → Int32) (ml : Int32) (c0 : Int32) (cm : Nat → Int32) (bf : Nat → Int32) (wo : Nat → Int64) : Option (Int32 × Int32 × Int32 × (Nat → Int32) × Int32 × Int32 × (Nat → Int32) × Int32 × Int32 × Int32 × Int32 × Int32 × (Nat → Int32) × Nat × (Nat → Int32) × (Nat → Int32) × (Nat → Int64)) := bnd (SX5_execute N u8 u9 f v1 v2 g w3 n tf ml c0 cm bf) (fun o1 : Nat × Int32 × Int32 × Int32 × (Nat → Int32) × Int32 × Int32 × (Nat → Int32) × Int32 × Int32 × Int32 × Int32 × Int32 × (Nat → Int32) × Nat × (Nat → Int32) × (Nat → Int32) => if o1.1 = 0 then (some ((0, o1.2.2.1, o1.2.2.2.1, o1.2.2.2.2.1, o1.2.2.2.2.2.1, o1.2.2.2.2.2.2.1, o1.2.2.2.2.2.2.2.1, o1.2.2.2.2.2.2.2.2.1, o1.2.2.2.2.2.2.2.2.2.1, o1.2.2.2.2.2.2.2.2.2.2.1, o1.2.2.2.2.2.2.2.2.2.2.2.1, o1.2.2.2.2.2.2.2.2.2.2.2.2.1, o1.2.2.2.2.2.2.2.2.2.2.2.2.2.1, o1.2.2.2.2.2.2.2.2.2.2.2.2.2.2.1, o1.2.2.2.2.2.2.2.2.2.2.2.2.2.2.2.1, o1.2.2.2.2.2.2.2.2.2.2.2.2.2.2.2.2, vp_updL wo 0 o1.2.1.toInt64))) else (if o1.1 = 1 then (some ((1, o1.2.2.1, o1.2.2.2.1, o1.2.2.2.2.1, o1.2.2.2.2.2.1, o1.2.2.2.2.2.2.1, o1.2.2.2.2.2.2.2.1, o1.2.2.2.2.2.2.2.2.1, o1.2.2.2.2.2.2.2.2.2.1, o1.2.2.2.2.2.2.2.2.2.2.1, o1.2.2.2.2.2.2.2.2.2.2.2.1, o1.2.2.2.2.2.2.2.2.2.2.2.2.1, o1.2.2.2.2.2.2.2.2.2.2.2.2.2.1, o1.2.2.2.2.2.2.2.2.2.2.2.2.2.2.1, o1.2.2.2.2.2.2.2.2.2.2.2.2.2.2.2.1, o1.2.2.2.2.2.2.2.2.2.2.2.2.2.2.2.2, wo))) else (if o1.1 = 2 then (some ((2, o1.2.2.1, o1.2.2.2.1, o1.2.2.2.2.1, o1.2.2.2.2.2.1, o1.2.2.2.2.2.2.1, o1.2.2.2.2.2.2.2.1, o1.2.2.2.2.2.2.2.2.1, o1.2.2.2.2.2.2.2.2.2.1, o1.2.2.2.2.2.2.2.2.2.2.1, o1.2.2.2.2.2.2.2.2.2.2.2.1, o1.2.2.2.2.2.2.2.2.2.2.2.2.1, o1.2.2.2.2.2.2.2.2.2.2.2.2.2.1, o1.2.2.2.2.2.2.2.2.2.2.2.2.2.2.1, o1.2.2.2.2.2.2.2.2.2.2.2.2.2.2.2.1, o1.2.2.2.2.2.2.2.2.2.2.2.2.2.2.2.2, wo))) else (none))))
abbrev RM_L_execute : Room := { frames := 10, cells := 2, slots := 174, locals := 225 }
set_option maxHeartbeats 4000000 in
theorem kL_execute (l : Launch) (hst : l.stackTraces = false) (D : va_G) (cA : Nat → ClassId) (G : eG) (z0 a0 b0 h0 s0 l0 e0 k0 a1 a2 h1 h2 t0 m0 t1 m1 e1 w0 : Nat) (N : Nat) (u7 : Int32) (u8 : Int32) (u9 : Int32) (f : Nat → Int32) (v1 : Int32) (v2 : Int32) (g : Nat → Int32) (w1 : Int32) (w2 : Int32) (w3 : Int32) (n : Nat) (tf : Nat → Int32) (ml : Int32) (c0 : Int32) (cm : Nat → Int32) (bf : Nat → Int32) (wo : Nat → Int64) {r : Int32 × Int32 × Int32 × (Nat → Int32) × Int32 × Int32 × (Nat → Int32) × Int32 × Int32 × Int32 × Int32 × Int32 × (Nat → Int32) × Nat × (Nat → Int32) × (Nat → Int32) × (Nat → Int64)} (hr : SL_execute N u8 u9 f v1 v2 g w3 n tf ml c0 cm bf wo = some r) {sz : Nat} : Met l yL_execute wsL_execute RM_L_execute (va_Pc [.ref z0, .ref w0] (gqLB G D cA [(z0, .inr (9, [.ref a0, .ref b0, .ref h0, .ref s0, .ref l0, .ref e0, .ref k0, .int u7, .int u8, .int u9])), (a0, .inr (8, [.ref a1])), (a1, .inr (6, [.ref a2])), (a2, .inl (cA 0, 61, .inl f)), (h0, .inr (5, [.ref h1, .int v1, .int v2])), (h1, .inr (6, [.ref h2])), (h2, .inl (cA 0, 488, .inl g)), (s0, .inr (7, [.ref t0, .ref m0, .int w1, .int w2, .int w3])), (t0, .inr (1, [.ref t1, .int 0, .int ml, .int c0])), (t1, .inl (cA 1, n, .inl tf)), (m0, .inr (6, [.ref m1])), (m1, .inl (cA 0, 60, .inl cm)), (e0, .inr (6, [.ref e1])), (e1, .inl (cA 0, 61, .inl bf)), (w0, .inl (cA 3, 1, .inr (.inl wo)))] sz)) (gqQ D (fun as => (some (.int r.1))) (fun as => [(z0, .inr (9, [.ref a0, .ref b0, .ref h0, .ref s0, .ref l0, .ref e0, .ref k0, .int u7, .int r.2.1, .int r.2.2.1])), (a0, .inr (8, [.ref a1])), (a1, .inr (6, [.ref a2])), (a2, .inl (cA 0, 61, .inl r.2.2.2.1)), (h0, .inr (5, [.ref h1, .int r.2.2.2.2.1, .int r.2.2.2.2.2.1])), (h1, .inr (6, [.ref h2])), (h2, .inl (cA 0, 488, .inl r.2.2.2.2.2.2.1)), (s0, .inr (7, [.ref t0, .ref m0, .int r.2.2.2.2.2.2.2.1, .int r.2.2.2.2.2.2.2.2.1, .int r.2.2.2.2.2.2.2.2.2.1])), (t0, .inr (1, [.ref (as 0), .int 0, .int r.2.2.2.2.2.2.2.2.2.2.1, .int r.2.2.2.2.2.2.2.2.2.2.2.1])), ((as 0), .inl (cA 1, r.2.2.2.2.2.2.2.2.2.2.2.2.2.1, .inl r.2.2.2.2.2.2.2.2.2.2.2.2.1)), (m0, .inr (6, [.ref m1])), (m1, .inl (cA 0, 60, .inl r.2.2.2.2.2.2.2.2.2.2.2.2.2.2.1)), (e0, .inr (6, [.ref e1])), (e1, .inl (cA 0, 61, .inl r.2.2.2.2.2.2.2.2.2.2.2.2.2.2.2.1)), (w0, .inl (cA 3, 1, .inr (.inl r.2.2.2.2.2.2.2.2.2.2.2.2.2.2.2.2)))]) (va_A [(z0, .inr (9, [.ref a0, .ref b0, .ref h0, .ref s0, .ref l0, .ref e0, .ref k0, .int u7, .int u8, .int u9])), (a0, .inr (8, [.ref a1])), (a1, .inr (6, [.ref a2])), (a2, .inl (cA 0, 61, .inl f)), (h0, .inr (5, [.ref h1, .int v1, .int v2])), (h1, .inr (6, [.ref h2])), (h2, .inl (cA 0, 488, .inl g)), (s0, .inr (7, [.ref t0, .ref m0, .int w1, .int w2, .int w3])), (t0, .inr (1, [.ref t1, .int 0, .int ml, .int c0])), (t1, .inl (cA 1, n, .inl tf)), (m0, .inr (6, [.ref m1])), (m1, .inl (cA 0, 60, .inl cm)), (e0, .inr (6, [.ref e1])), (e1, .inl (cA 0, 61, .inl bf)), (w0, .inl (cA 3, 1, .inr (.inl wo)))] sz)) 2 174 (va_A [(z0, .inr (9, [.ref a0, .ref b0, .ref h0, .ref s0, .ref l0, .ref e0, .ref k0, .int u7, .int u8, .int u9])), (a0, .inr (8, [.ref a1])), (a1, .inr (6, [.ref a2])), (a2, .inl (cA 0, 61, .inl f)), (h0, .inr (5, [.ref h1, .int v1, .int v2])), (h1, .inr (6, [.ref h2])), (h2, .inl (cA 0, 488, .inl g)), (s0, .inr (7, [.ref t0, .ref m0, .int w1, .int w2, .int w3])), (t0, .inr (1, [.ref t1, .int 0, .int ml, .int c0])), (t1, .inl (cA 1, n, .inl tf)), (m0, .inr (6, [.ref m1])), (m1, .inl (cA 0, 60, .inl cm)), (e0, .inr (6, [.ref e1])), (e1, .inl (cA 0, 61, .inl bf)), (w0, .inl (cA 3, 1, .inr (.inl wo)))] sz) := by
  refine gqL_ofW (hh := [(0, 8, 11, 13), (0, 8, 14, 15)]) (cc := cL_execute) (maxL := 3) (ret := (some .int)) (by decide) rfl (Nat.le_of_ble_eq_true rfl) (fun p e s m args below meth c ls Q A hx hb hml hT9 hts hfc hK hP hD hS hA hEV hL9 hl hend => ?_)
  have hfc : s.vm.findClass RL = some m.cls := hfc
  have hl : lv_has ls 3 [(0, .ref z0), (1, .ref w0)] := hl
  have h := hr
  clear hr
  unfold SL_execute at h
  refine lv_aload_n hx hb dL_execute_0 rfl (lv_at hl 1 rfl) ?_
  refine lv_iconst (v := 0) hx hb dL_execute_1 (by decide) ?_
  refine lv_aload_n hx hb dL_execute_2 rfl (lv_at hl 0 rfl) ?_
  obtain ⟨o1, ho1, h⟩ := bnd_i h
  refine xq_V (G := G) (v := (fun as => (some (.int o1.2.1)))) (As := []) (rest := [.int 0, .ref w0]) (wc := [(z0, .inr (9, [.ref a0, .ref b0, .ref h0, .ref s0, .ref l0, .ref e0, .ref k0, .int u7, .int u8, .int u9])), (a0, .inr (8, [.ref a1])), (a1, .inr (6, [.ref a2])), (a2, .inl (cA 0, 61, .inl f)), (h0, .inr (5, [.ref h1, .int v1, .int v2])), (h1, .inr (6, [.ref h2])), (h2, .inl (cA 0, 488, .inl g)), (s0, .inr (7, [.ref t0, .ref m0, .int w1, .int w2, .int w3])), (t0, .inr (1, [.ref t1, .int 0, .int ml, .int c0])), (t1, .inl (cA 1, n, .inl tf)), (m0, .inr (6, [.ref m1])), (m1, .inl (cA 0, 60, .inl cm)), (e0, .inr (6, [.ref e1])), (e1, .inl (cA 0, 61, .inl bf))]) (wr := [(w0, .inl (cA 3, 1, .inr (.inl wo)))]) (w1 := (fun as => [(z0, .inr (9, [.ref a0, .ref b0, .ref h0, .ref s0, .ref l0, .ref e0, .ref k0, .int u7, .int o1.2.2.1, .int o1.2.2.2.1])), (a0, .inr (8, [.ref a1])), (a1, .inr (6, [.ref a2])), (a2, .inl (cA 0, 61, .inl o1.2.2.2.2.1)), (h0, .inr (5, [.ref h1, .int o1.2.2.2.2.2.1, .int o1.2.2.2.2.2.2.1])), (h1, .inr (6, [.ref h2])), (h2, .inl (cA 0, 488, .inl o1.2.2.2.2.2.2.2.1)), (s0, .inr (7, [.ref t0, .ref m0, .int o1.2.2.2.2.2.2.2.2.1, .int o1.2.2.2.2.2.2.2.2.2.1, .int o1.2.2.2.2.2.2.2.2.2.2.1])), (t0, .inr (1, [.ref (as 0), .int 0, .int o1.2.2.2.2.2.2.2.2.2.2.2.1, .int o1.2.2.2.2.2.2.2.2.2.2.2.2.1])), ((as 0), .inl (cA 1, o1.2.2.2.2.2.2.2.2.2.2.2.2.2.2.1, .inl o1.2.2.2.2.2.2.2.2.2.2.2.2.2.1)), (m0, .inr (6, [.ref m1])), (m1, .inl (cA 0, 60, .inl o1.2.2.2.2.2.2.2.2.2.2.2.2.2.2.2.1)), (e0, .inr (6, [.ref e1])), (e1, .inl (cA 0, 61, .inl o1.2.2.2.2.2.2.2.2.2.2.2.2.2.2.2.2))])) (ws2 := (fun as => [(z0, .inr (9, [.ref a0, .ref b0, .ref h0, .ref s0, .ref l0, .ref e0, .ref k0, .int u7, .int o1.2.2.1, .int o1.2.2.2.1])), (a0, .inr (8, [.ref a1])), (a1, .inr (6, [.ref a2])), (a2, .inl (cA 0, 61, .inl o1.2.2.2.2.1)), (h0, .inr (5, [.ref h1, .int o1.2.2.2.2.2.1, .int o1.2.2.2.2.2.2.1])), (h1, .inr (6, [.ref h2])), (h2, .inl (cA 0, 488, .inl o1.2.2.2.2.2.2.2.1)), (s0, .inr (7, [.ref t0, .ref m0, .int o1.2.2.2.2.2.2.2.2.1, .int o1.2.2.2.2.2.2.2.2.2.1, .int o1.2.2.2.2.2.2.2.2.2.2.1])), (t0, .inr (1, [.ref (as 0), .int 0, .int o1.2.2.2.2.2.2.2.2.2.2.2.1, .int o1.2.2.2.2.2.2.2.2.2.2.2.2.1])), ((as 0), .inl (cA 1, o1.2.2.2.2.2.2.2.2.2.2.2.2.2.2.1, .inl o1.2.2.2.2.2.2.2.2.2.2.2.2.2.1)), (m0, .inr (6, [.ref m1])), (m1, .inl (cA 0, 60, .inl o1.2.2.2.2.2.2.2.2.2.2.2.2.2.2.2.1)), (e0, .inr (6, [.ref e1])), (e1, .inl (cA 0, 61, .inl o1.2.2.2.2.2.2.2.2.2.2.2.2.2.2.2.2)), (w0, .inl (cA 3, 1, .inr (.inl wo)))])) (st1 := (fun as => [.int o1.2.1, .int 0, .ref w0])) ⟨hx, hb, hml, hfc, hts⟩ hK hP hD hS hA hEV (kX5_execute l hst D cA G z0 a0 b0 h0 s0 l0 e0 k0 a1 a2 h1 h2 t0 m0 t1 m1 e1 N u7 u8 u9 f v1 v2 g w1 w2 w3 n tf ml c0 cm bf ho1) (cwV 0 hts gL_execute_X5_execute rfl rfl rfl (by decide +kernel) ⟨(Nat.le_of_ble_eq_true rfl), (Nat.le_of_ble_eq_true rfl)⟩) [0, 1, 2, 3, 4, 5, 6, 7, 8, 9, 10, 11, 12, 13] [14] [1, 2, 3, 4, 5, 6, 7, 8, 9, 10, 11, 12, 13, 14, 0] rfl rfl rfl rfl (by decide) (fun _ => rfl) rfl 0 9 rfl rfl rfl rfl (fun _ => rfl) rfl hl.1 (Nat.le_of_ble_eq_true rfl) dL_execute_3 ⟨(Nat.le_of_ble_eq_true rfl), (Nat.le_of_ble_eq_true rfl)⟩ (fun c3 as2 H locs hP hD hS => ?_) (fun c3 as2 H locs q9 ce hP hD hS z1 z2 z3 => ?_)
  · have h := ite_t c3 h
    have hP : va_P D vwCl [(z0, .inr (9, [.ref a0, .ref b0, .ref h0, .ref s0, .ref l0, .ref e0, .ref k0, .int u7, .int o1.2.2.1, .int o1.2.2.2.1])), (a0, .inr (8, [.ref a1])), (a1, .inr (6, [.ref a2])), (a2, .inl (cA 0, 61, .inl o1.2.2.2.2.1)), (h0, .inr (5, [.ref h1, .int o1.2.2.2.2.2.1, .int o1.2.2.2.2.2.2.1])), (h1, .inr (6, [.ref h2])), (h2, .inl (cA 0, 488, .inl o1.2.2.2.2.2.2.2.1)), (s0, .inr (7, [.ref t0, .ref m0, .int o1.2.2.2.2.2.2.2.2.1, .int o1.2.2.2.2.2.2.2.2.2.1, .int o1.2.2.2.2.2.2.2.2.2.2.1])), (t0, .inr (1, [.ref (as2 0), .int 0, .int o1.2.2.2.2.2.2.2.2.2.2.2.1, .int o1.2.2.2.2.2.2.2.2.2.2.2.2.1])), ((as2 0), .inl (cA 1, o1.2.2.2.2.2.2.2.2.2.2.2.2.2.2.1, .inl o1.2.2.2.2.2.2.2.2.2.2.2.2.2.1)), (m0, .inr (6, [.ref m1])), (m1, .inl (cA 0, 60, .inl o1.2.2.2.2.2.2.2.2.2.2.2.2.2.2.2.1)), (e0, .inr (6, [.ref e1])), (e1, .inl (cA 0, 61, .inl o1.2.2.2.2.2.2.2.2.2.2.2.2.2.2.2.2)), (w0, .inl (cA 3, 1, .inr (.inl wo)))] H := hP
    have hD : va_D A [(z0, .inr (9, [.ref a0, .ref b0, .ref h0, .ref s0, .ref l0, .ref e0, .ref k0, .int u7, .int o1.2.2.1, .int o1.2.2.2.1])), (a0, .inr (8, [.ref a1])), (a1, .inr (6, [.ref a2])), (a2, .inl (cA 0, 61, .inl o1.2.2.2.2.1)), (h0, .inr (5, [.ref h1, .int o1.2.2.2.2.2.1, .int o1.2.2.2.2.2.2.1])), (h1, .inr (6, [.ref h2])), (h2, .inl (cA 0, 488, .inl o1.2.2.2.2.2.2.2.1)), (s0, .inr (7, [.ref t0, .ref m0, .int o1.2.2.2.2.2.2.2.2.1, .int o1.2.2.2.2.2.2.2.2.2.1, .int o1.2.2.2.2.2.2.2.2.2.2.1])), (t0, .inr (1, [.ref (as2 0), .int 0, .int o1.2.2.2.2.2.2.2.2.2.2.2.1, .int o1.2.2.2.2.2.2.2.2.2.2.2.2.1])), ((as2 0), .inl (cA 1, o1.2.2.2.2.2.2.2.2.2.2.2.2.2.2.1, .inl o1.2.2.2.2.2.2.2.2.2.2.2.2.2.1)), (m0, .inr (6, [.ref m1])), (m1, .inl (cA 0, 60, .inl o1.2.2.2.2.2.2.2.2.2.2.2.2.2.2.2.1)), (e0, .inr (6, [.ref e1])), (e1, .inl (cA 0, 61, .inl o1.2.2.2.2.2.2.2.2.2.2.2.2.2.2.2.2)), (w0, .inl (cA 3, 1, .inr (.inl wo)))] := hD
    refine W.cs (cells' := 2) (slots' := 174) rfl rfl ?_
    refine lv_i2l (v := o1.2.1.toInt64) hx hb dL_execute_6 rfl ?_
    refine va_last hx hb hK hP hD hS 14 3 rfl rfl (vin _ _ (by decide)) dL_execute_7 (fun H locs hP hD hS => ?_)
    have hP : va_P D vwCl [(z0, .inr (9, [.ref a0, .ref b0, .ref h0, .ref s0, .ref l0, .ref e0, .ref k0, .int u7, .int o1.2.2.1, .int o1.2.2.2.1])), (a0, .inr (8, [.ref a1])), (a1, .inr (6, [.ref a2])), (a2, .inl (cA 0, 61, .inl o1.2.2.2.2.1)), (h0, .inr (5, [.ref h1, .int o1.2.2.2.2.2.1, .int o1.2.2.2.2.2.2.1])), (h1, .inr (6, [.ref h2])), (h2, .inl (cA 0, 488, .inl o1.2.2.2.2.2.2.2.1)), (s0, .inr (7, [.ref t0, .ref m0, .int o1.2.2.2.2.2.2.2.2.1, .int o1.2.2.2.2.2.2.2.2.2.1, .int o1.2.2.2.2.2.2.2.2.2.2.1])), (t0, .inr (1, [.ref (as2 0), .int 0, .int o1.2.2.2.2.2.2.2.2.2.2.2.1, .int o1.2.2.2.2.2.2.2.2.2.2.2.2.1])), ((as2 0), .inl (cA 1, o1.2.2.2.2.2.2.2.2.2.2.2.2.2.2.1, .inl o1.2.2.2.2.2.2.2.2.2.2.2.2.2.1)), (m0, .inr (6, [.ref m1])), (m1, .inl (cA 0, 60, .inl o1.2.2.2.2.2.2.2.2.2.2.2.2.2.2.2.1)), (e0, .inr (6, [.ref e1])), (e1, .inl (cA 0, 61, .inl o1.2.2.2.2.2.2.2.2.2.2.2.2.2.2.2.2)), (w0, .inl (cA 3, 1, .inr (.inl (vp_updL wo 0 o1.2.1.toInt64))))] H := hP
    have hD : va_D A [(z0, .inr (9, [.ref a0, .ref b0, .ref h0, .ref s0, .ref l0, .ref e0, .ref k0, .int u7, .int o1.2.2.1, .int o1.2.2.2.1])), (a0, .inr (8, [.ref a1])), (a1, .inr (6, [.ref a2])), (a2, .inl (cA 0, 61, .inl o1.2.2.2.2.1)), (h0, .inr (5, [.ref h1, .int o1.2.2.2.2.2.1, .int o1.2.2.2.2.2.2.1])), (h1, .inr (6, [.ref h2])), (h2, .inl (cA 0, 488, .inl o1.2.2.2.2.2.2.2.1)), (s0, .inr (7, [.ref t0, .ref m0, .int o1.2.2.2.2.2.2.2.2.1, .int o1.2.2.2.2.2.2.2.2.2.1, .int o1.2.2.2.2.2.2.2.2.2.2.1])), (t0, .inr (1, [.ref (as2 0), .int 0, .int o1.2.2.2.2.2.2.2.2.2.2.2.1, .int o1.2.2.2.2.2.2.2.2.2.2.2.2.1])), ((as2 0), .inl (cA 1, o1.2.2.2.2.2.2.2.2.2.2.2.2.2.2.1, .inl o1.2.2.2.2.2.2.2.2.2.2.2.2.2.1)), (m0, .inr (6, [.ref m1])), (m1, .inl (cA 0, 60, .inl o1.2.2.2.2.2.2.2.2.2.2.2.2.2.2.2.1)), (e0, .inr (6, [.ref e1])), (e1, .inl (cA 0, 61, .inl o1.2.2.2.2.2.2.2.2.2.2.2.2.2.2.2.2)), (w0, .inl (cA 3, 1, .inr (.inl (vp_updL wo 0 o1.2.1.toInt64))))] := hD
    refine lv_goto (tgt := 17) hx hb dL_execute_8 (by decide) ?_
    refine lv_iconst (v := 0) hx hb dL_execute_17 (by decide) ?_
    have h := Option.some.inj h
    subst h
    refine W.widen (k := 2) (n := 174) (Nat.le_of_ble_eq_true rfl) (Nat.le_of_ble_eq_true rfl) ?_
    exact hend (adr [(as2 0)]) _ _ _ _ _ _ _ rfl rfl (rtn_i _) hP hD hS dL_execute_18
  · have h := ite_f c3 h
    have hP : va_P D vwCl [(z0, .inr (9, [.ref a0, .ref b0, .ref h0, .ref s0, .ref l0, .ref e0, .ref k0, .int u7, .int o1.2.2.1, .int o1.2.2.2.1])), (a0, .inr (8, [.ref a1])), (a1, .inr (6, [.ref a2])), (a2, .inl (cA 0, 61, .inl o1.2.2.2.2.1)), (h0, .inr (5, [.ref h1, .int o1.2.2.2.2.2.1, .int o1.2.2.2.2.2.2.1])), (h1, .inr (6, [.ref h2])), (h2, .inl (cA 0, 488, .inl o1.2.2.2.2.2.2.2.1)), (s0, .inr (7, [.ref t0, .ref m0, .int o1.2.2.2.2.2.2.2.2.1, .int o1.2.2.2.2.2.2.2.2.2.1, .int o1.2.2.2.2.2.2.2.2.2.2.1])), (t0, .inr (1, [.ref (as2 0), .int 0, .int o1.2.2.2.2.2.2.2.2.2.2.2.1, .int o1.2.2.2.2.2.2.2.2.2.2.2.2.1])), ((as2 0), .inl (cA 1, o1.2.2.2.2.2.2.2.2.2.2.2.2.2.2.1, .inl o1.2.2.2.2.2.2.2.2.2.2.2.2.2.1)), (m0, .inr (6, [.ref m1])), (m1, .inl (cA 0, 60, .inl o1.2.2.2.2.2.2.2.2.2.2.2.2.2.2.2.1)), (e0, .inr (6, [.ref e1])), (e1, .inl (cA 0, 61, .inl o1.2.2.2.2.2.2.2.2.2.2.2.2.2.2.2.2)), (w0, .inl (cA 3, 1, .inr (.inl wo)))] H := hP
    have hD : va_D A [(z0, .inr (9, [.ref a0, .ref b0, .ref h0, .ref s0, .ref l0, .ref e0, .ref k0, .int u7, .int o1.2.2.1, .int o1.2.2.2.1])), (a0, .inr (8, [.ref a1])), (a1, .inr (6, [.ref a2])), (a2, .inl (cA 0, 61, .inl o1.2.2.2.2.1)), (h0, .inr (5, [.ref h1, .int o1.2.2.2.2.2.1, .int o1.2.2.2.2.2.2.1])), (h1, .inr (6, [.ref h2])), (h2, .inl (cA 0, 488, .inl o1.2.2.2.2.2.2.2.1)), (s0, .inr (7, [.ref t0, .ref m0, .int o1.2.2.2.2.2.2.2.2.1, .int o1.2.2.2.2.2.2.2.2.2.1, .int o1.2.2.2.2.2.2.2.2.2.2.1])), (t0, .inr (1, [.ref (as2 0), .int 0, .int o1.2.2.2.2.2.2.2.2.2.2.2.1, .int o1.2.2.2.2.2.2.2.2.2.2.2.2.1])), ((as2 0), .inl (cA 1, o1.2.2.2.2.2.2.2.2.2.2.2.2.2.2.1, .inl o1.2.2.2.2.2.2.2.2.2.2.2.2.2.1)), (m0, .inr (6, [.ref m1])), (m1, .inl (cA 0, 60, .inl o1.2.2.2.2.2.2.2.2.2.2.2.2.2.2.2.1)), (e0, .inr (6, [.ref e1])), (e1, .inl (cA 0, 61, .inl o1.2.2.2.2.2.2.2.2.2.2.2.2.2.2.2.2)), (w0, .inl (cA 3, 1, .inr (.inl wo)))] := hD
    by_cases c4 : o1.1 = 1
    · have h := ite_t c4 h
      have z4 : s.vm.findClass "java/lang/IllegalArgumentException" = some ce.cls := by rw [c4] at z3; exact z3
      refine vx_catch (own := RL) (name := "java/lang/IllegalArgumentException") (E := "java/lang/IllegalArgumentException") hfc [] ⟨0, 8, 11, 13⟩ [⟨0, 8, 14, 15⟩] hT9 (fun z hz => absurd hz List.not_mem_nil) rfl (by decide) (hL9.link (List.mem_of_getElem? (i := 0) rfl)) ((hEV.1.2.2.2.2 "java/lang/IllegalArgumentException" (by decide +kernel)).use rfl) z1 z2 z4 ?_
      refine W.cs (cells' := 2) (slots' := 174) rfl rfl ?_
      refine lv_astore_n hx hb dL_execute_11 rfl hl (Nat.le_of_ble_eq_true rfl) rfl (fun ls hl => ?_)
      have hl : lv_has ls 3 [(2, .ref q9), (0, .ref z0), (1, .ref w0)] := hl
      refine lv_iconst (v := 1) hx hb dL_execute_12 (by decide) ?_
      have h := Option.some.inj h
      subst h
      refine W.widen (k := 2) (n := 174) (Nat.le_of_ble_eq_true rfl) (Nat.le_of_ble_eq_true rfl) ?_
      exact hend (adr [(as2 0)]) _ _ _ _ _ _ _ rfl rfl (rtn_i _) hP hD hS dL_execute_13
    · have h := ite_f c4 h
      by_cases c5 : o1.1 = 2
      · have h := ite_t c5 h
        have z4 : s.vm.findClass "java/lang/IllegalStateException" = some ce.cls := by rw [c5] at z3; exact z3
        have hp9 : ∀ z ∈ ([⟨0, 8, 11, 13⟩] : List ExceptionTableEntry), covers z 3 = false ∨ (z.catchType ≠ 0 ∧ ∃ nm : String, (Cond.classLink RL z.catchType nm).before args s = true ∧ va_Nc "java/lang/IllegalStateException" nm s) := by
          intro z hz
          rcases List.mem_cons.mp hz with rfl | hz
          · exact Or.inr ⟨by decide, _, (hL9.link (List.mem_of_getElem? (i := 0) rfl)), hL9.1.1⟩
          exact absurd hz List.not_mem_nil
        refine vx_catch (own := RL) (name := "java/lang/IllegalStateException") (E := "java/lang/IllegalStateException") hfc [⟨0, 8, 11, 13⟩] ⟨0, 8, 14, 15⟩ [] hT9 hp9 rfl (by decide) (hL9.link (List.mem_of_getElem? (i := 1) rfl)) ((hEV.1.2.2.2.2 "java/lang/IllegalStateException" (by decide +kernel)).use rfl) z1 z2 z4 ?_
        refine W.cs (cells' := 2) (slots' := 174) rfl rfl ?_
        refine lv_astore_n hx hb dL_execute_14 rfl hl (Nat.le_of_ble_eq_true rfl) rfl (fun ls hl => ?_)
        have hl : lv_has ls 3 [(2, .ref q9), (0, .ref z0), (1, .ref w0)] := hl
        refine lv_iconst (v := 2) hx hb dL_execute_15 (by decide) ?_
        have h := Option.some.inj h
        subst h
        refine W.widen (k := 2) (n := 174) (Nat.le_of_ble_eq_true rfl) (Nat.le_of_ble_eq_true rfl) ?_
        exact hend (adr [(as2 0)]) _ _ _ _ _ _ _ rfl rfl (rtn_i _) hP hD hS dL_execute_16
      · have h := ite_f c5 h
        exact nn h

noncomputable def SL_errorPosition (u8 : Int32) (wo : Nat → Int64) : Option (Int32 × (Nat → Int64)) := lt_ (SX5_errorPosition u8) (fun o1 : Nat × Int32 => if o1.1 = 0 then (some ((0, vp_updL wo 0 o1.2.toInt64))) else (if o1.1 = 4 then (some ((1, wo))) else (none)))
abbrev RM_L_errorPosition : Room := { frames := 7, cells := 1, slots := 6, locals := 104 }
set_option maxHeartbeats 4000000 in
theorem kL_errorPosition (l : Launch) (hst : l.stackTraces = false) (D : va_G) (cA : Nat → ClassId) (G : eG) (z0 a0 b0 h0 s0 l0 e0 k0 w0 : Nat) (u7 : Int32) (u8 : Int32) (u9 : Int32) (wo : Nat → Int64) {r : Int32 × (Nat → Int64)} (hr : SL_errorPosition u8 wo = some r) {sz : Nat} : Met l yL_errorPosition wsL_errorPosition RM_L_errorPosition (va_Pc [.ref z0, .ref w0] (gqLB G D cA [(z0, .inr (9, [.ref a0, .ref b0, .ref h0, .ref s0, .ref l0, .ref e0, .ref k0, .int u7, .int u8, .int u9])), (w0, .inl (cA 3, 1, .inr (.inl wo)))] sz)) (gqQ D (fun as => (some (.int r.1))) (fun as => [(z0, .inr (9, [.ref a0, .ref b0, .ref h0, .ref s0, .ref l0, .ref e0, .ref k0, .int u7, .int u8, .int u9])), (w0, .inl (cA 3, 1, .inr (.inl r.2)))]) (va_A [(z0, .inr (9, [.ref a0, .ref b0, .ref h0, .ref s0, .ref l0, .ref e0, .ref k0, .int u7, .int u8, .int u9])), (w0, .inl (cA 3, 1, .inr (.inl wo)))] sz)) 1 6 (va_A [(z0, .inr (9, [.ref a0, .ref b0, .ref h0, .ref s0, .ref l0, .ref e0, .ref k0, .int u7, .int u8, .int u9])), (w0, .inl (cA 3, 1, .inr (.inl wo)))] sz) := by
  refine gqL_ofW (hh := [(0, 8, 11, 67)]) (cc := cL_errorPosition) (maxL := 3) (ret := (some .int)) (by decide) rfl (Nat.le_of_ble_eq_true rfl) (fun p e s m args below meth c ls Q A hx hb hml hT9 hts hfc hK hP hD hS hA hEV hL9 hl hend => ?_)
  have hfc : s.vm.findClass RL = some m.cls := hfc
  have hl : lv_has ls 3 [(0, .ref z0), (1, .ref w0)] := hl
  have h := hr
  clear hr
  unfold SL_errorPosition at h
  refine lv_aload_n hx hb dL_errorPosition_0 rfl (lv_at hl 1 rfl) ?_
  refine lv_iconst (v := 0) hx hb dL_errorPosition_1 (by decide) ?_
  refine lv_aload_n hx hb dL_errorPosition_2 rfl (lv_at hl 0 rfl) ?_
  obtain ⟨o1, ho1, h⟩ := lt_i h
  refine xq_V (G := G) (v := (fun as => (some (.int o1.2)))) (As := []) (rest := [.int 0, .ref w0]) (wc := [(z0, .inr (9, [.ref a0, .ref b0, .ref h0, .ref s0, .ref l0, .ref e0, .ref k0, .int u7, .int u8, .int u9]))]) (wr := [(w0, .inl (cA 3, 1, .inr (.inl wo)))]) (w1 := (fun as => [(z0, .inr (9, [.ref a0, .ref b0, .ref h0, .ref s0, .ref l0, .ref e0, .ref k0, .int u7, .int u8, .int u9]))])) (ws2 := (fun as => [(z0, .inr (9, [.ref a0, .ref b0, .ref h0, .ref s0, .ref l0, .ref e0, .ref k0, .int u7, .int u8, .int u9])), (w0, .inl (cA 3, 1, .inr (.inl wo)))])) (st1 := (fun as => [.int o1.2, .int 0, .ref w0])) ⟨hx, hb, hml, hfc, hts⟩ hK hP hD hS hA hEV (kX5_errorPosition l hst D cA G z0 a0 b0 h0 s0 l0 e0 k0 u7 u8 u9 ho1) (cwV 0 hts gL_errorPosition_X5_errorPosition rfl rfl rfl (by decide +kernel) ⟨(Nat.le_of_ble_eq_true rfl), (Nat.le_of_ble_eq_true rfl)⟩) [0] [1] [1, 0] rfl rfl rfl rfl (by decide) (fun _ => rfl) rfl 0 9 rfl rfl rfl rfl (fun _ => rfl) rfl hl.1 (Nat.le_of_ble_eq_true rfl) dL_errorPosition_3 ⟨(Nat.le_of_ble_eq_true rfl), (Nat.le_of_ble_eq_true rfl)⟩ (fun c3 as2 H locs hP hD hS => ?_) (fun c3 as2 H locs q9 ce hP hD hS z1 z2 z3 => ?_)
  · have h := ite_t c3 h
    have hP : va_P D vwCl [(z0, .inr (9, [.ref a0, .ref b0, .ref h0, .ref s0, .ref l0, .ref e0, .ref k0, .int u7, .int u8, .int u9])), (w0, .inl (cA 3, 1, .inr (.inl wo)))] H := hP
    have hD : va_D A [(z0, .inr (9, [.ref a0, .ref b0, .ref h0, .ref s0, .ref l0, .ref e0, .ref k0, .int u7, .int u8, .int u9])), (w0, .inl (cA 3, 1, .inr (.inl wo)))] := hD
    refine W.cs (cells' := 1) (slots' := 6) rfl rfl ?_
    refine lv_i2l (v := o1.2.toInt64) hx hb dL_errorPosition_6 rfl ?_
    refine va_last hx hb hK hP hD hS 1 3 rfl rfl (vin _ _ (by decide)) dL_errorPosition_7 (fun H locs hP hD hS => ?_)
    have hP : va_P D vwCl [(z0, .inr (9, [.ref a0, .ref b0, .ref h0, .ref s0, .ref l0, .ref e0, .ref k0, .int u7, .int u8, .int u9])), (w0, .inl (cA 3, 1, .inr (.inl (vp_updL wo 0 o1.2.toInt64))))] H := hP
    have hD : va_D A [(z0, .inr (9, [.ref a0, .ref b0, .ref h0, .ref s0, .ref l0, .ref e0, .ref k0, .int u7, .int u8, .int u9])), (w0, .inl (cA 3, 1, .inr (.inl (vp_updL wo 0 o1.2.toInt64))))] := hD
    refine lv_goto (tgt := 14) hx hb dL_errorPosition_8 (by decide) ?_
    refine lv_iconst (v := 0) hx hb dL_errorPosition_14 (by decide) ?_
    have h := Option.some.inj h
    subst h
    refine W.widen (k := 1) (n := 6) (Nat.le_of_ble_eq_true rfl) (Nat.le_of_ble_eq_true rfl) ?_
    exact hend (adr []) _ _ _ _ _ _ _ rfl rfl (rtn_i _) hP hD hS dL_errorPosition_15
  · have h := ite_f c3 h
    have hP : va_P D vwCl [(z0, .inr (9, [.ref a0, .ref b0, .ref h0, .ref s0, .ref l0, .ref e0, .ref k0, .int u7, .int u8, .int u9])), (w0, .inl (cA 3, 1, .inr (.inl wo)))] H := hP
    have hD : va_D A [(z0, .inr (9, [.ref a0, .ref b0, .ref h0, .ref s0, .ref l0, .ref e0, .ref k0, .int u7, .int u8, .int u9])), (w0, .inl (cA 3, 1, .inr (.inl wo)))] := hD
    by_cases c4 : o1.1 = 4
    · have h := ite_t c4 h
      have z4 : s.vm.findClass "java/util/NoSuchElementException" = some ce.cls := by rw [c4] at z3; exact z3
      refine vx_catch (own := RL) (name := "java/util/NoSuchElementException") (E := "java/util/NoSuchElementException") hfc [] ⟨0, 8, 11, 67⟩ [] hT9 (fun z hz => absurd hz List.not_mem_nil) rfl (by decide) (hL9.link (List.mem_of_getElem? (i := 3) rfl)) ((hEV.1.2.2.2.2 "java/util/NoSuchElementException" (by decide +kernel)).use rfl) z1 z2 z4 ?_
      refine W.cs (cells' := 1) (slots' := 6) rfl rfl ?_
      refine lv_astore_n hx hb dL_errorPosition_11 rfl hl (Nat.le_of_ble_eq_true rfl) rfl (fun ls hl => ?_)
      have hl : lv_has ls 3 [(2, .ref q9), (0, .ref z0), (1, .ref w0)] := hl
      refine lv_iconst (v := 1) hx hb dL_errorPosition_12 (by decide) ?_
      have h := Option.some.inj h
      subst h
      refine W.widen (k := 1) (n := 6) (Nat.le_of_ble_eq_true rfl) (Nat.le_of_ble_eq_true rfl) ?_
      exact hend (adr []) _ _ _ _ _ _ _ rfl rfl (rtn_i _) hP hD hS dL_errorPosition_13
    · have h := ite_f c4 h
      exact nn h

noncomputable def SL_failedCommand (u9 : Int32) (wo : Nat → Int64) : Option (Int32 × (Nat → Int64)) := lt_ (SX5_failedCommand u9) (fun o1 : Nat × Int32 => if o1.1 = 0 then (some ((0, vp_updL wo 0 o1.2.toInt64))) else (if o1.1 = 4 then (some ((1, wo))) else (none)))
abbrev RM_L_failedCommand : Room := { frames := 7, cells := 1, slots := 6, locals := 104 }
set_option maxHeartbeats 4000000 in
theorem kL_failedCommand (l : Launch) (hst : l.stackTraces = false) (D : va_G) (cA : Nat → ClassId) (G : eG) (z0 a0 b0 h0 s0 l0 e0 k0 w0 : Nat) (u7 : Int32) (u8 : Int32) (u9 : Int32) (wo : Nat → Int64) {r : Int32 × (Nat → Int64)} (hr : SL_failedCommand u9 wo = some r) {sz : Nat} : Met l yL_failedCommand wsL_failedCommand RM_L_failedCommand (va_Pc [.ref z0, .ref w0] (gqLB G D cA [(z0, .inr (9, [.ref a0, .ref b0, .ref h0, .ref s0, .ref l0, .ref e0, .ref k0, .int u7, .int u8, .int u9])), (w0, .inl (cA 3, 1, .inr (.inl wo)))] sz)) (gqQ D (fun as => (some (.int r.1))) (fun as => [(z0, .inr (9, [.ref a0, .ref b0, .ref h0, .ref s0, .ref l0, .ref e0, .ref k0, .int u7, .int u8, .int u9])), (w0, .inl (cA 3, 1, .inr (.inl r.2)))]) (va_A [(z0, .inr (9, [.ref a0, .ref b0, .ref h0, .ref s0, .ref l0, .ref e0, .ref k0, .int u7, .int u8, .int u9])), (w0, .inl (cA 3, 1, .inr (.inl wo)))] sz)) 1 6 (va_A [(z0, .inr (9, [.ref a0, .ref b0, .ref h0, .ref s0, .ref l0, .ref e0, .ref k0, .int u7, .int u8, .int u9])), (w0, .inl (cA 3, 1, .inr (.inl wo)))] sz) := by
  refine gqL_ofW (hh := [(0, 8, 11, 67)]) (cc := cL_failedCommand) (maxL := 3) (ret := (some .int)) (by decide) rfl (Nat.le_of_ble_eq_true rfl) (fun p e s m args below meth c ls Q A hx hb hml hT9 hts hfc hK hP hD hS hA hEV hL9 hl hend => ?_)
  have hfc : s.vm.findClass RL = some m.cls := hfc
  have hl : lv_has ls 3 [(0, .ref z0), (1, .ref w0)] := hl
  have h := hr
  clear hr
  unfold SL_failedCommand at h
  refine lv_aload_n hx hb dL_failedCommand_0 rfl (lv_at hl 1 rfl) ?_
  refine lv_iconst (v := 0) hx hb dL_failedCommand_1 (by decide) ?_
  refine lv_aload_n hx hb dL_failedCommand_2 rfl (lv_at hl 0 rfl) ?_
  obtain ⟨o1, ho1, h⟩ := lt_i h
  refine xq_V (G := G) (v := (fun as => (some (.int o1.2)))) (As := []) (rest := [.int 0, .ref w0]) (wc := [(z0, .inr (9, [.ref a0, .ref b0, .ref h0, .ref s0, .ref l0, .ref e0, .ref k0, .int u7, .int u8, .int u9]))]) (wr := [(w0, .inl (cA 3, 1, .inr (.inl wo)))]) (w1 := (fun as => [(z0, .inr (9, [.ref a0, .ref b0, .ref h0, .ref s0, .ref l0, .ref e0, .ref k0, .int u7, .int u8, .int u9]))])) (ws2 := (fun as => [(z0, .inr (9, [.ref a0, .ref b0, .ref h0, .ref s0, .ref l0, .ref e0, .ref k0, .int u7, .int u8, .int u9])), (w0, .inl (cA 3, 1, .inr (.inl wo)))])) (st1 := (fun as => [.int o1.2, .int 0, .ref w0])) ⟨hx, hb, hml, hfc, hts⟩ hK hP hD hS hA hEV (kX5_failedCommand l hst D cA G z0 a0 b0 h0 s0 l0 e0 k0 u7 u8 u9 ho1) (cwV 0 hts gL_failedCommand_X5_failedCommand rfl rfl rfl (by decide +kernel) ⟨(Nat.le_of_ble_eq_true rfl), (Nat.le_of_ble_eq_true rfl)⟩) [0] [1] [1, 0] rfl rfl rfl rfl (by decide) (fun _ => rfl) rfl 0 9 rfl rfl rfl rfl (fun _ => rfl) rfl hl.1 (Nat.le_of_ble_eq_true rfl) dL_failedCommand_3 ⟨(Nat.le_of_ble_eq_true rfl), (Nat.le_of_ble_eq_true rfl)⟩ (fun c3 as2 H locs hP hD hS => ?_) (fun c3 as2 H locs q9 ce hP hD hS z1 z2 z3 => ?_)
  · have h := ite_t c3 h
    have hP : va_P D vwCl [(z0, .inr (9, [.ref a0, .ref b0, .ref h0, .ref s0, .ref l0, .ref e0, .ref k0, .int u7, .int u8, .int u9])), (w0, .inl (cA 3, 1, .inr (.inl wo)))] H := hP
    have hD : va_D A [(z0, .inr (9, [.ref a0, .ref b0, .ref h0, .ref s0, .ref l0, .ref e0, .ref k0, .int u7, .int u8, .int u9])), (w0, .inl (cA 3, 1, .inr (.inl wo)))] := hD
    refine W.cs (cells' := 1) (slots' := 6) rfl rfl ?_
    refine lv_i2l (v := o1.2.toInt64) hx hb dL_failedCommand_6 rfl ?_
    refine va_last hx hb hK hP hD hS 1 3 rfl rfl (vin _ _ (by decide)) dL_failedCommand_7 (fun H locs hP hD hS => ?_)
    have hP : va_P D vwCl [(z0, .inr (9, [.ref a0, .ref b0, .ref h0, .ref s0, .ref l0, .ref e0, .ref k0, .int u7, .int u8, .int u9])), (w0, .inl (cA 3, 1, .inr (.inl (vp_updL wo 0 o1.2.toInt64))))] H := hP
    have hD : va_D A [(z0, .inr (9, [.ref a0, .ref b0, .ref h0, .ref s0, .ref l0, .ref e0, .ref k0, .int u7, .int u8, .int u9])), (w0, .inl (cA 3, 1, .inr (.inl (vp_updL wo 0 o1.2.toInt64))))] := hD
    refine lv_goto (tgt := 14) hx hb dL_failedCommand_8 (by decide) ?_
    refine lv_iconst (v := 0) hx hb dL_failedCommand_14 (by decide) ?_
    have h := Option.some.inj h
    subst h
    refine W.widen (k := 1) (n := 6) (Nat.le_of_ble_eq_true rfl) (Nat.le_of_ble_eq_true rfl) ?_
    exact hend (adr []) _ _ _ _ _ _ _ rfl rfl (rtn_i _) hP hD hS dL_failedCommand_15
  · have h := ite_f c3 h
    have hP : va_P D vwCl [(z0, .inr (9, [.ref a0, .ref b0, .ref h0, .ref s0, .ref l0, .ref e0, .ref k0, .int u7, .int u8, .int u9])), (w0, .inl (cA 3, 1, .inr (.inl wo)))] H := hP
    have hD : va_D A [(z0, .inr (9, [.ref a0, .ref b0, .ref h0, .ref s0, .ref l0, .ref e0, .ref k0, .int u7, .int u8, .int u9])), (w0, .inl (cA 3, 1, .inr (.inl wo)))] := hD
    by_cases c4 : o1.1 = 4
    · have h := ite_t c4 h
      have z4 : s.vm.findClass "java/util/NoSuchElementException" = some ce.cls := by rw [c4] at z3; exact z3
      refine vx_catch (own := RL) (name := "java/util/NoSuchElementException") (E := "java/util/NoSuchElementException") hfc [] ⟨0, 8, 11, 67⟩ [] hT9 (fun z hz => absurd hz List.not_mem_nil) rfl (by decide) (hL9.link (List.mem_of_getElem? (i := 3) rfl)) ((hEV.1.2.2.2.2 "java/util/NoSuchElementException" (by decide +kernel)).use rfl) z1 z2 z4 ?_
      refine W.cs (cells' := 1) (slots' := 6) rfl rfl ?_
      refine lv_astore_n hx hb dL_failedCommand_11 rfl hl (Nat.le_of_ble_eq_true rfl) rfl (fun ls hl => ?_)
      have hl : lv_has ls 3 [(2, .ref q9), (0, .ref z0), (1, .ref w0)] := hl
      refine lv_iconst (v := 1) hx hb dL_failedCommand_12 (by decide) ?_
      have h := Option.some.inj h
      subst h
      refine W.widen (k := 1) (n := 6) (Nat.le_of_ble_eq_true rfl) (Nat.le_of_ble_eq_true rfl) ?_
      exact hend (adr []) _ _ _ _ _ _ _ rfl rfl (rtn_i _) hP hD hS dL_failedCommand_13
    · have h := ite_f c4 h
      exact nn h

noncomputable def SL_undo (N : Nat) (f : Nat → Int32) (v1 : Int32) (v2 : Int32) (g : Nat → Int32) (wo : Nat → Int64) : Option (Int32 × (Nat → Int32) × Int32 × Int32 × (Nat → Int64)) := bnd (SX5_undo N f v1 v2 g) (fun o1 : Nat × Int32 × (Nat → Int32) × Int32 × Int32 => if o1.1 = 0 then (some ((0, o1.2.2.1, o1.2.2.2.1, o1.2.2.2.2, vp_updL wo 0 o1.2.1.toInt64))) else (if o1.1 = 2 then (some ((1, o1.2.2.1, o1.2.2.2.1, o1.2.2.2.2, wo))) else (none)))
abbrev RM_L_undo : Room := { frames := 7, cells := 1, slots := 6, locals := 104 }
set_option maxHeartbeats 4000000 in
theorem kL_undo (l : Launch) (hst : l.stackTraces = false) (D : va_G) (cA : Nat → ClassId) (G : eG) (z0 a0 b0 h0 s0 l0 e0 k0 a1 a2 h1 h2 w0 : Nat) (N : Nat) (u7 : Int32) (u8 : Int32) (u9 : Int32) (f : Nat → Int32) (v1 : Int32) (v2 : Int32) (g : Nat → Int32) (wo : Nat → Int64) {r : Int32 × (Nat → Int32) × Int32 × Int32 × (Nat → Int64)} (hr : SL_undo N f v1 v2 g wo = some r) {sz : Nat} : Met l yL_undo wsL_undo RM_L_undo (va_Pc [.ref z0, .ref w0] (gqLB G D cA [(z0, .inr (9, [.ref a0, .ref b0, .ref h0, .ref s0, .ref l0, .ref e0, .ref k0, .int u7, .int u8, .int u9])), (a0, .inr (8, [.ref a1])), (a1, .inr (6, [.ref a2])), (a2, .inl (cA 0, 61, .inl f)), (h0, .inr (5, [.ref h1, .int v1, .int v2])), (h1, .inr (6, [.ref h2])), (h2, .inl (cA 0, 488, .inl g)), (w0, .inl (cA 3, 1, .inr (.inl wo)))] sz)) (gqQ D (fun as => (some (.int r.1))) (fun as => [(z0, .inr (9, [.ref a0, .ref b0, .ref h0, .ref s0, .ref l0, .ref e0, .ref k0, .int u7, .int u8, .int u9])), (a0, .inr (8, [.ref a1])), (a1, .inr (6, [.ref a2])), (a2, .inl (cA 0, 61, .inl r.2.1)), (h0, .inr (5, [.ref h1, .int r.2.2.1, .int r.2.2.2.1])), (h1, .inr (6, [.ref h2])), (h2, .inl (cA 0, 488, .inl g)), (w0, .inl (cA 3, 1, .inr (.inl r.2.2.2.2)))]) (va_A [(z0, .inr (9, [.ref a0, .ref b0, .ref h0, .ref s0, .ref l0, .ref e0, .ref k0, .int u7, .int u8, .int u9])), (a0, .inr (8, [.ref a1])), (a1, .inr (6, [.ref a2])), (a2, .inl (cA 0, 61, .inl f)), (h0, .inr (5, [.ref h1, .int v1, .int v2])), (h1, .inr (6, [.ref h2])), (h2, .inl (cA 0, 488, .inl g)), (w0, .inl (cA 3, 1, .inr (.inl wo)))] sz)) 1 6 (va_A [(z0, .inr (9, [.ref a0, .ref b0, .ref h0, .ref s0, .ref l0, .ref e0, .ref k0, .int u7, .int u8, .int u9])), (a0, .inr (8, [.ref a1])), (a1, .inr (6, [.ref a2])), (a2, .inl (cA 0, 61, .inl f)), (h0, .inr (5, [.ref h1, .int v1, .int v2])), (h1, .inr (6, [.ref h2])), (h2, .inl (cA 0, 488, .inl g)), (w0, .inl (cA 3, 1, .inr (.inl wo)))] sz) := by
  refine gqL_ofW (hh := [(0, 8, 11, 15)]) (cc := cL_undo) (maxL := 3) (ret := (some .int)) (by decide) rfl (Nat.le_of_ble_eq_true rfl) (fun p e s m args below meth c ls Q A hx hb hml hT9 hts hfc hK hP hD hS hA hEV hL9 hl hend => ?_)
  have hfc : s.vm.findClass RL = some m.cls := hfc
  have hl : lv_has ls 3 [(0, .ref z0), (1, .ref w0)] := hl
  have h := hr
  clear hr
  unfold SL_undo at h
  refine lv_aload_n hx hb dL_undo_0 rfl (lv_at hl 1 rfl) ?_
  refine lv_iconst (v := 0) hx hb dL_undo_1 (by decide) ?_
  refine lv_aload_n hx hb dL_undo_2 rfl (lv_at hl 0 rfl) ?_
  obtain ⟨o1, ho1, h⟩ := bnd_i h
  refine xq_V (G := G) (v := (fun as => (some (.int o1.2.1)))) (As := []) (rest := [.int 0, .ref w0]) (wc := [(z0, .inr (9, [.ref a0, .ref b0, .ref h0, .ref s0, .ref l0, .ref e0, .ref k0, .int u7, .int u8, .int u9])), (a0, .inr (8, [.ref a1])), (a1, .inr (6, [.ref a2])), (a2, .inl (cA 0, 61, .inl f)), (h0, .inr (5, [.ref h1, .int v1, .int v2])), (h1, .inr (6, [.ref h2])), (h2, .inl (cA 0, 488, .inl g))]) (wr := [(w0, .inl (cA 3, 1, .inr (.inl wo)))]) (w1 := (fun as => [(z0, .inr (9, [.ref a0, .ref b0, .ref h0, .ref s0, .ref l0, .ref e0, .ref k0, .int u7, .int u8, .int u9])), (a0, .inr (8, [.ref a1])), (a1, .inr (6, [.ref a2])), (a2, .inl (cA 0, 61, .inl o1.2.2.1)), (h0, .inr (5, [.ref h1, .int o1.2.2.2.1, .int o1.2.2.2.2])), (h1, .inr (6, [.ref h2])), (h2, .inl (cA 0, 488, .inl g))])) (ws2 := (fun as => [(z0, .inr (9, [.ref a0, .ref b0, .ref h0, .ref s0, .ref l0, .ref e0, .ref k0, .int u7, .int u8, .int u9])), (a0, .inr (8, [.ref a1])), (a1, .inr (6, [.ref a2])), (a2, .inl (cA 0, 61, .inl o1.2.2.1)), (h0, .inr (5, [.ref h1, .int o1.2.2.2.1, .int o1.2.2.2.2])), (h1, .inr (6, [.ref h2])), (h2, .inl (cA 0, 488, .inl g)), (w0, .inl (cA 3, 1, .inr (.inl wo)))])) (st1 := (fun as => [.int o1.2.1, .int 0, .ref w0])) ⟨hx, hb, hml, hfc, hts⟩ hK hP hD hS hA hEV (kX5_undo l hst D cA G z0 a0 b0 h0 s0 l0 e0 k0 a1 a2 h1 h2 N u7 u8 u9 f v1 v2 g ho1) (cwV 0 hts gL_undo_X5_undo rfl rfl rfl (by decide +kernel) ⟨(Nat.le_of_ble_eq_true rfl), (Nat.le_of_ble_eq_true rfl)⟩) [0, 1, 2, 3, 4, 5, 6] [7] [1, 2, 3, 4, 5, 6, 7, 0] rfl rfl rfl rfl (by decide) (fun _ => rfl) rfl 0 9 rfl rfl rfl rfl (fun _ => rfl) rfl hl.1 (Nat.le_of_ble_eq_true rfl) dL_undo_3 ⟨(Nat.le_of_ble_eq_true rfl), (Nat.le_of_ble_eq_true rfl)⟩ (fun c3 as2 H locs hP hD hS => ?_) (fun c3 as2 H locs q9 ce hP hD hS z1 z2 z3 => ?_)
  · have h := ite_t c3 h
    have hP : va_P D vwCl [(z0, .inr (9, [.ref a0, .ref b0, .ref h0, .ref s0, .ref l0, .ref e0, .ref k0, .int u7, .int u8, .int u9])), (a0, .inr (8, [.ref a1])), (a1, .inr (6, [.ref a2])), (a2, .inl (cA 0, 61, .inl o1.2.2.1)), (h0, .inr (5, [.ref h1, .int o1.2.2.2.1, .int o1.2.2.2.2])), (h1, .inr (6, [.ref h2])), (h2, .inl (cA 0, 488, .inl g)), (w0, .inl (cA 3, 1, .inr (.inl wo)))] H := hP
    have hD : va_D A [(z0, .inr (9, [.ref a0, .ref b0, .ref h0, .ref s0, .ref l0, .ref e0, .ref k0, .int u7, .int u8, .int u9])), (a0, .inr (8, [.ref a1])), (a1, .inr (6, [.ref a2])), (a2, .inl (cA 0, 61, .inl o1.2.2.1)), (h0, .inr (5, [.ref h1, .int o1.2.2.2.1, .int o1.2.2.2.2])), (h1, .inr (6, [.ref h2])), (h2, .inl (cA 0, 488, .inl g)), (w0, .inl (cA 3, 1, .inr (.inl wo)))] := hD
    refine W.cs (cells' := 1) (slots' := 6) rfl rfl ?_
    refine lv_i2l (v := o1.2.1.toInt64) hx hb dL_undo_6 rfl ?_
    refine va_last hx hb hK hP hD hS 7 3 rfl rfl (vin _ _ (by decide)) dL_undo_7 (fun H locs hP hD hS => ?_)
    have hP : va_P D vwCl [(z0, .inr (9, [.ref a0, .ref b0, .ref h0, .ref s0, .ref l0, .ref e0, .ref k0, .int u7, .int u8, .int u9])), (a0, .inr (8, [.ref a1])), (a1, .inr (6, [.ref a2])), (a2, .inl (cA 0, 61, .inl o1.2.2.1)), (h0, .inr (5, [.ref h1, .int o1.2.2.2.1, .int o1.2.2.2.2])), (h1, .inr (6, [.ref h2])), (h2, .inl (cA 0, 488, .inl g)), (w0, .inl (cA 3, 1, .inr (.inl (vp_updL wo 0 o1.2.1.toInt64))))] H := hP
    have hD : va_D A [(z0, .inr (9, [.ref a0, .ref b0, .ref h0, .ref s0, .ref l0, .ref e0, .ref k0, .int u7, .int u8, .int u9])), (a0, .inr (8, [.ref a1])), (a1, .inr (6, [.ref a2])), (a2, .inl (cA 0, 61, .inl o1.2.2.1)), (h0, .inr (5, [.ref h1, .int o1.2.2.2.1, .int o1.2.2.2.2])), (h1, .inr (6, [.ref h2])), (h2, .inl (cA 0, 488, .inl g)), (w0, .inl (cA 3, 1, .inr (.inl (vp_updL wo 0 o1.2.1.toInt64))))] := hD
    refine lv_goto (tgt := 14) hx hb dL_undo_8 (by decide) ?_
    refine lv_iconst (v := 0) hx hb dL_undo_14 (by decide) ?_
    have h := Option.some.inj h
    subst h
    refine W.widen (k := 1) (n := 6) (Nat.le_of_ble_eq_true rfl) (Nat.le_of_ble_eq_true rfl) ?_
    exact hend (adr []) _ _ _ _ _ _ _ rfl rfl (rtn_i _) hP hD hS dL_undo_15
  · have h := ite_f c3 h
    have hP : va_P D vwCl [(z0, .inr (9, [.ref a0, .ref b0, .ref h0, .ref s0, .ref l0, .ref e0, .ref k0, .int u7, .int u8, .int u9])), (a0, .inr (8, [.ref a1])), (a1, .inr (6, [.ref a2])), (a2, .inl (cA 0, 61, .inl o1.2.2.1)), (h0, .inr (5, [.ref h1, .int o1.2.2.2.1, .int o1.2.2.2.2])), (h1, .inr (6, [.ref h2])), (h2, .inl (cA 0, 488, .inl g)), (w0, .inl (cA 3, 1, .inr (.inl wo)))] H := hP
    have hD : va_D A [(z0, .inr (9, [.ref a0, .ref b0, .ref h0, .ref s0, .ref l0, .ref e0, .ref k0, .int u7, .int u8, .int u9])), (a0, .inr (8, [.ref a1])), (a1, .inr (6, [.ref a2])), (a2, .inl (cA 0, 61, .inl o1.2.2.1)), (h0, .inr (5, [.ref h1, .int o1.2.2.2.1, .int o1.2.2.2.2])), (h1, .inr (6, [.ref h2])), (h2, .inl (cA 0, 488, .inl g)), (w0, .inl (cA 3, 1, .inr (.inl wo)))] := hD
    by_cases c4 : o1.1 = 2
    · have h := ite_t c4 h
      have z4 : s.vm.findClass "java/lang/IllegalStateException" = some ce.cls := by rw [c4] at z3; exact z3
      refine vx_catch (own := RL) (name := "java/lang/IllegalStateException") (E := "java/lang/IllegalStateException") hfc [] ⟨0, 8, 11, 15⟩ [] hT9 (fun z hz => absurd hz List.not_mem_nil) rfl (by decide) (hL9.link (List.mem_of_getElem? (i := 1) rfl)) ((hEV.1.2.2.2.2 "java/lang/IllegalStateException" (by decide +kernel)).use rfl) z1 z2 z4 ?_
      refine W.cs (cells' := 1) (slots' := 6) rfl rfl ?_
      refine lv_astore_n hx hb dL_undo_11 rfl hl (Nat.le_of_ble_eq_true rfl) rfl (fun ls hl => ?_)
      have hl : lv_has ls 3 [(2, .ref q9), (0, .ref z0), (1, .ref w0)] := hl
      refine lv_iconst (v := 1) hx hb dL_undo_12 (by decide) ?_
      have h := Option.some.inj h
      subst h
      refine W.widen (k := 1) (n := 6) (Nat.le_of_ble_eq_true rfl) (Nat.le_of_ble_eq_true rfl) ?_
      exact hend (adr []) _ _ _ _ _ _ _ rfl rfl (rtn_i _) hP hD hS dL_undo_13
    · have h := ite_f c4 h
      exact nn h

noncomputable def SL_restore (N : Nat) (u7 : Int32) (f : Nat → Int32) (v2 : Int32) (sn : Nat → Int32) (wo : Nat → Int64) : Option (Int32 × (Nat → Int32) × Int32 × (Nat → Int64)) := bnd (SX5_restore N u7 f v2 sn) (fun o1 : Nat × Int32 × (Nat → Int32) × Int32 => if o1.1 = 0 then (some ((0, o1.2.2.1, o1.2.2.2, vp_updL wo 0 o1.2.1.toInt64))) else (if o1.1 = 2 then (some ((1, o1.2.2.1, o1.2.2.2, wo))) else (none)))
abbrev RM_L_restore : Room := { frames := 7, cells := 1, slots := 6, locals := 104 }
set_option maxHeartbeats 4000000 in
theorem kL_restore (l : Launch) (hst : l.stackTraces = false) (D : va_G) (cA : Nat → ClassId) (G : eG) (z0 a0 b0 h0 s0 l0 e0 k0 a1 a2 h1 h2 k1 w0 : Nat) (N : Nat) (u7 : Int32) (u8 : Int32) (u9 : Int32) (f : Nat → Int32) (v1 : Int32) (v2 : Int32) (g : Nat → Int32) (sn : Nat → Int32) (wo : Nat → Int64) {r : Int32 × (Nat → Int32) × Int32 × (Nat → Int64)} (hr : SL_restore N u7 f v2 sn wo = some r) {sz : Nat} : Met l yL_restore wsL_restore RM_L_restore (va_Pc [.ref z0, .ref w0] (gqLB G D cA [(z0, .inr (9, [.ref a0, .ref b0, .ref h0, .ref s0, .ref l0, .ref e0, .ref k0, .int u7, .int u8, .int u9])), (a0, .inr (8, [.ref a1])), (a1, .inr (6, [.ref a2])), (a2, .inl (cA 0, 61, .inl f)), (h0, .inr (5, [.ref h1, .int v1, .int v2])), (h1, .inr (6, [.ref h2])), (h2, .inl (cA 0, 488, .inl g)), (k0, .inr (6, [.ref k1])), (k1, .inl (cA 0, 61, .inl sn)), (w0, .inl (cA 3, 1, .inr (.inl wo)))] sz)) (gqQ D (fun as => (some (.int r.1))) (fun as => [(z0, .inr (9, [.ref a0, .ref b0, .ref h0, .ref s0, .ref l0, .ref e0, .ref k0, .int u7, .int u8, .int u9])), (a0, .inr (8, [.ref a1])), (a1, .inr (6, [.ref a2])), (a2, .inl (cA 0, 61, .inl r.2.1)), (h0, .inr (5, [.ref h1, .int v1, .int r.2.2.1])), (h1, .inr (6, [.ref h2])), (h2, .inl (cA 0, 488, .inl g)), (k0, .inr (6, [.ref k1])), (k1, .inl (cA 0, 61, .inl sn)), (w0, .inl (cA 3, 1, .inr (.inl r.2.2.2)))]) (va_A [(z0, .inr (9, [.ref a0, .ref b0, .ref h0, .ref s0, .ref l0, .ref e0, .ref k0, .int u7, .int u8, .int u9])), (a0, .inr (8, [.ref a1])), (a1, .inr (6, [.ref a2])), (a2, .inl (cA 0, 61, .inl f)), (h0, .inr (5, [.ref h1, .int v1, .int v2])), (h1, .inr (6, [.ref h2])), (h2, .inl (cA 0, 488, .inl g)), (k0, .inr (6, [.ref k1])), (k1, .inl (cA 0, 61, .inl sn)), (w0, .inl (cA 3, 1, .inr (.inl wo)))] sz)) 1 6 (va_A [(z0, .inr (9, [.ref a0, .ref b0, .ref h0, .ref s0, .ref l0, .ref e0, .ref k0, .int u7, .int u8, .int u9])), (a0, .inr (8, [.ref a1])), (a1, .inr (6, [.ref a2])), (a2, .inl (cA 0, 61, .inl f)), (h0, .inr (5, [.ref h1, .int v1, .int v2])), (h1, .inr (6, [.ref h2])), (h2, .inl (cA 0, 488, .inl g)), (k0, .inr (6, [.ref k1])), (k1, .inl (cA 0, 61, .inl sn)), (w0, .inl (cA 3, 1, .inr (.inl wo)))] sz) := by
  refine gqL_ofW (hh := [(0, 8, 11, 15)]) (cc := cL_restore) (maxL := 3) (ret := (some .int)) (by decide) rfl (Nat.le_of_ble_eq_true rfl) (fun p e s m args below meth c ls Q A hx hb hml hT9 hts hfc hK hP hD hS hA hEV hL9 hl hend => ?_)
  have hfc : s.vm.findClass RL = some m.cls := hfc
  have hl : lv_has ls 3 [(0, .ref z0), (1, .ref w0)] := hl
  have h := hr
  clear hr
  unfold SL_restore at h
  refine lv_aload_n hx hb dL_restore_0 rfl (lv_at hl 1 rfl) ?_
  refine lv_iconst (v := 0) hx hb dL_restore_1 (by decide) ?_
  refine lv_aload_n hx hb dL_restore_2 rfl (lv_at hl 0 rfl) ?_
  obtain ⟨o1, ho1, h⟩ := bnd_i h
  refine xq_V (G := G) (v := (fun as => (some (.int o1.2.1)))) (As := []) (rest := [.int 0, .ref w0]) (wc := [(z0, .inr (9, [.ref a0, .ref b0, .ref h0, .ref s0, .ref l0, .ref e0, .ref k0, .int u7, .int u8, .int u9])), (a0, .inr (8, [.ref a1])), (a1, .inr (6, [.ref a2])), (a2, .inl (cA 0, 61, .inl f)), (h0, .inr (5, [.ref h1, .int v1, .int v2])), (h1, .inr (6, [.ref h2])), (h2, .inl (cA 0, 488, .inl g)), (k0, .inr (6, [.ref k1])), (k1, .inl (cA 0, 61, .inl sn))]) (wr := [(w0, .inl (cA 3, 1, .inr (.inl wo)))]) (w1 := (fun as => [(z0, .inr (9, [.ref a0, .ref b0, .ref h0, .ref s0, .ref l0, .ref e0, .ref k0, .int u7, .int u8, .int u9])), (a0, .inr (8, [.ref a1])), (a1, .inr (6, [.ref a2])), (a2, .inl (cA 0, 61, .inl o1.2.2.1)), (h0, .inr (5, [.ref h1, .int v1, .int o1.2.2.2])), (h1, .inr (6, [.ref h2])), (h2, .inl (cA 0, 488, .inl g)), (k0, .inr (6, [.ref k1])), (k1, .inl (cA 0, 61, .inl sn))])) (ws2 := (fun as => [(z0, .inr (9, [.ref a0, .ref b0, .ref h0, .ref s0, .ref l0, .ref e0, .ref k0, .int u7, .int u8, .int u9])), (a0, .inr (8, [.ref a1])), (a1, .inr (6, [.ref a2])), (a2, .inl (cA 0, 61, .inl o1.2.2.1)), (h0, .inr (5, [.ref h1, .int v1, .int o1.2.2.2])), (h1, .inr (6, [.ref h2])), (h2, .inl (cA 0, 488, .inl g)), (k0, .inr (6, [.ref k1])), (k1, .inl (cA 0, 61, .inl sn)), (w0, .inl (cA 3, 1, .inr (.inl wo)))])) (st1 := (fun as => [.int o1.2.1, .int 0, .ref w0])) ⟨hx, hb, hml, hfc, hts⟩ hK hP hD hS hA hEV (kX5_restore l hst D cA G z0 a0 b0 h0 s0 l0 e0 k0 a1 a2 h1 h2 k1 N u7 u8 u9 f v1 v2 g sn ho1) (cwV 0 hts gL_restore_X5_restore rfl rfl rfl (by decide +kernel) ⟨(Nat.le_of_ble_eq_true rfl), (Nat.le_of_ble_eq_true rfl)⟩) [0, 1, 2, 3, 4, 5, 6, 7, 8] [9] [1, 2, 3, 4, 5, 6, 7, 8, 9, 0] rfl rfl rfl rfl (by decide) (fun _ => rfl) rfl 0 9 rfl rfl rfl rfl (fun _ => rfl) rfl hl.1 (Nat.le_of_ble_eq_true rfl) dL_restore_3 ⟨(Nat.le_of_ble_eq_true rfl), (Nat.le_of_ble_eq_true rfl)⟩ (fun c3 as2 H locs hP hD hS => ?_) (fun c3 as2 H locs q9 ce hP hD hS z1 z2 z3 => ?_)
  · have h := ite_t c3 h
    have hP : va_P D vwCl [(z0, .inr (9, [.ref a0, .ref b0, .ref h0, .ref s0, .ref l0, .ref e0, .ref k0, .int u7, .int u8, .int u9])), (a0, .inr (8, [.ref a1])), (a1, .inr (6, [.ref a2])), (a2, .inl (cA 0, 61, .inl o1.2.2.1)), (h0, .inr (5, [.ref h1, .int v1, .int o1.2.2.2])), (h1, .inr (6, [.ref h2])), (h2, .inl (cA 0, 488, .inl g)), (k0, .inr (6, [.ref k1])), (k1, .inl (cA 0, 61, .inl sn)), (w0, .inl (cA 3, 1, .inr (.inl wo)))] H := hP
    have hD : va_D A [(z0, .inr (9, [.ref a0, .ref b0, .ref h0, .ref s0, .ref l0, .ref e0, .ref k0, .int u7, .int u8, .int u9])), (a0, .inr (8, [.ref a1])), (a1, .inr (6, [.ref a2])), (a2, .inl (cA 0, 61, .inl o1.2.2.1)), (h0, .inr (5, [.ref h1, .int v1, .int o1.2.2.2])), (h1, .inr (6, [.ref h2])), (h2, .inl (cA 0, 488, .inl g)), (k0, .inr (6, [.ref k1])), (k1, .inl (cA 0, 61, .inl sn)), (w0, .inl (cA 3, 1, .inr (.inl wo)))] := hD
    refine W.cs (cells' := 1) (slots' := 6) rfl rfl ?_
    refine lv_i2l (v := o1.2.1.toInt64) hx hb dL_restore_6 rfl ?_
    refine va_last hx hb hK hP hD hS 9 3 rfl rfl (vin _ _ (by decide)) dL_restore_7 (fun H locs hP hD hS => ?_)
    have hP : va_P D vwCl [(z0, .inr (9, [.ref a0, .ref b0, .ref h0, .ref s0, .ref l0, .ref e0, .ref k0, .int u7, .int u8, .int u9])), (a0, .inr (8, [.ref a1])), (a1, .inr (6, [.ref a2])), (a2, .inl (cA 0, 61, .inl o1.2.2.1)), (h0, .inr (5, [.ref h1, .int v1, .int o1.2.2.2])), (h1, .inr (6, [.ref h2])), (h2, .inl (cA 0, 488, .inl g)), (k0, .inr (6, [.ref k1])), (k1, .inl (cA 0, 61, .inl sn)), (w0, .inl (cA 3, 1, .inr (.inl (vp_updL wo 0 o1.2.1.toInt64))))] H := hP
    have hD : va_D A [(z0, .inr (9, [.ref a0, .ref b0, .ref h0, .ref s0, .ref l0, .ref e0, .ref k0, .int u7, .int u8, .int u9])), (a0, .inr (8, [.ref a1])), (a1, .inr (6, [.ref a2])), (a2, .inl (cA 0, 61, .inl o1.2.2.1)), (h0, .inr (5, [.ref h1, .int v1, .int o1.2.2.2])), (h1, .inr (6, [.ref h2])), (h2, .inl (cA 0, 488, .inl g)), (k0, .inr (6, [.ref k1])), (k1, .inl (cA 0, 61, .inl sn)), (w0, .inl (cA 3, 1, .inr (.inl (vp_updL wo 0 o1.2.1.toInt64))))] := hD
    refine lv_goto (tgt := 14) hx hb dL_restore_8 (by decide) ?_
    refine lv_iconst (v := 0) hx hb dL_restore_14 (by decide) ?_
    have h := Option.some.inj h
    subst h
    refine W.widen (k := 1) (n := 6) (Nat.le_of_ble_eq_true rfl) (Nat.le_of_ble_eq_true rfl) ?_
    exact hend (adr []) _ _ _ _ _ _ _ rfl rfl (rtn_i _) hP hD hS dL_restore_15
  · have h := ite_f c3 h
    have hP : va_P D vwCl [(z0, .inr (9, [.ref a0, .ref b0, .ref h0, .ref s0, .ref l0, .ref e0, .ref k0, .int u7, .int u8, .int u9])), (a0, .inr (8, [.ref a1])), (a1, .inr (6, [.ref a2])), (a2, .inl (cA 0, 61, .inl o1.2.2.1)), (h0, .inr (5, [.ref h1, .int v1, .int o1.2.2.2])), (h1, .inr (6, [.ref h2])), (h2, .inl (cA 0, 488, .inl g)), (k0, .inr (6, [.ref k1])), (k1, .inl (cA 0, 61, .inl sn)), (w0, .inl (cA 3, 1, .inr (.inl wo)))] H := hP
    have hD : va_D A [(z0, .inr (9, [.ref a0, .ref b0, .ref h0, .ref s0, .ref l0, .ref e0, .ref k0, .int u7, .int u8, .int u9])), (a0, .inr (8, [.ref a1])), (a1, .inr (6, [.ref a2])), (a2, .inl (cA 0, 61, .inl o1.2.2.1)), (h0, .inr (5, [.ref h1, .int v1, .int o1.2.2.2])), (h1, .inr (6, [.ref h2])), (h2, .inl (cA 0, 488, .inl g)), (k0, .inr (6, [.ref k1])), (k1, .inl (cA 0, 61, .inl sn)), (w0, .inl (cA 3, 1, .inr (.inl wo)))] := hD
    by_cases c4 : o1.1 = 2
    · have h := ite_t c4 h
      have z4 : s.vm.findClass "java/lang/IllegalStateException" = some ce.cls := by rw [c4] at z3; exact z3
      refine vx_catch (own := RL) (name := "java/lang/IllegalStateException") (E := "java/lang/IllegalStateException") hfc [] ⟨0, 8, 11, 15⟩ [] hT9 (fun z hz => absurd hz List.not_mem_nil) rfl (by decide) (hL9.link (List.mem_of_getElem? (i := 1) rfl)) ((hEV.1.2.2.2.2 "java/lang/IllegalStateException" (by decide +kernel)).use rfl) z1 z2 z4 ?_
      refine W.cs (cells' := 1) (slots' := 6) rfl rfl ?_
      refine lv_astore_n hx hb dL_restore_11 rfl hl (Nat.le_of_ble_eq_true rfl) rfl (fun ls hl => ?_)
      have hl : lv_has ls 3 [(2, .ref q9), (0, .ref z0), (1, .ref w0)] := hl
      refine lv_iconst (v := 1) hx hb dL_restore_12 (by decide) ?_
      have h := Option.some.inj h
      subst h
      refine W.widen (k := 1) (n := 6) (Nat.le_of_ble_eq_true rfl) (Nat.le_of_ble_eq_true rfl) ?_
      exact hend (adr []) _ _ _ _ _ _ _ rfl rfl (rtn_i _) hP hD hS dL_restore_13
    · have h := ite_f c4 h
      exact nn h
