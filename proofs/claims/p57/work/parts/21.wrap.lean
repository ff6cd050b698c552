noncomputable def SL_advance (N : Nat) (f : Nat → Int32) (v1 : Int32) (v2 : Int32) (g : Nat → Int32) (x1 : Int32) : Option (Int32 × (Nat → Int32) × Int32 × Int32 × (Nat → Int32)) := bnd (SX5_advance N f v1 v2 g x1) (fun o1 : Nat × Int32 × (Nat → Int32) × (Nat → Int32) × Int32 × Int32 => if o1.1 = 0 then (some ((o1.2.1, o1.2.2.1, o1.2.2.2.2.1, o1.2.2.2.2.2, o1.2.2.2.1))) else (if o1.1 = 1 then (some (((-1), o1.2.2.1, o1.2.2.2.2.1, o1.2.2.2.2.2, o1.2.2.2.1))) else (none)))
abbrev RM_L_advance : Room := { frames := 7, cells := 1, slots := 6, locals := 152 }
set_option maxHeartbeats 4000000 in
theorem kL_advance (l : Launch) (hst : l.stackTraces = false) (D : va_G) (cA : Nat → ClassId) (G : eG) (z0 a0 b0 h0 s0 l0 e0 k0 a1 a2 h1 h2 : Nat) (N : Nat) (u7 : Int32) (u8 : Int32) (u9 : Int32) (f : Nat → Int32) (v1 : Int32) (v2 : Int32) (g : Nat → Int32) (x1 : Int32) {r : Int32 × (Nat → Int32) × Int32 × Int32 × (Nat → Int32)} (hr : SL_advance N f v1 v2 g x1 = some r) {sz : Nat} : Met l yL_advance wsL_advance RM_L_advance (va_Pc [.ref z0, .int x1] (gqLB G D cA [(z0, .inr (9, [.ref a0, .ref b0, .ref h0, .ref s0, .ref l0, .ref e0, .ref k0, .int u7, .int u8, .int u9])), (a0, .inr (8, [.ref a1])), (a1, .inr (6, [.ref a2])), (a2, .inl (cA 0, 61, .inl f)), (h0, .inr (5, [.ref h1, .int v1, .int v2])), (h1, .inr (6, [.ref h2])), (h2, .inl (cA 0, 488, .inl g))] sz)) (gqQ D (fun as => (some (.int r.1))) (fun as => [(z0, .inr (9, [.ref a0, .ref b0, .ref h0, .ref s0, .ref l0, .ref e0, .ref k0, .int u7, .int u8, .int u9])), (a0, .inr (8, [.ref a1])), (a1, .inr (6, [.ref a2])), (a2, .inl (cA 0, 61, .inl r.2.1)), (h0, .inr (5, [.ref h1, .int r.2.2.1, .int r.2.2.2.1])), (h1, .inr (6, [.ref h2])), (h2, .inl (cA 0, 488, .inl r.2.2.2.2))]) (va_A [(z0, .inr (9, [.ref a0, .ref b0, .ref h0, .ref s0, .ref l0, .ref e0, .ref k0, .int u7, .int u8, .int u9])), (a0, .inr (8, [.ref a1])), (a1, .inr (6, [.ref a2])), (a2, .inl (cA 0, 61, .inl f)), (h0, .inr (5, [.ref h1, .int v1, .int v2])), (h1, .inr (6, [.ref h2])), (h2, .inl (cA 0, 488, .inl g))] sz)) 1 6 (va_A [(z0, .inr (9, [.ref a0, .ref b0, .ref h0, .ref s0, .ref l0, .ref e0, .ref k0, .int u7, .int u8, .int u9])), (a0, .inr (8, [.ref a1])), (a1, .inr (6, [.ref a2])), (a2, .inl (cA 0, 61, .inl f)), (h0, .inr (5, [.ref h1, .int v1, .int v2])), (h1, .inr (6, [.ref h2])), (h2, .inl (cA 0, 488, .inl g))] sz) := by
  refine gqL_ofW (hh := [(0, 5, 6, 14)]) (cc := cL_advance) (maxL := 3) (ret := (some .int)) (by decide) rfl (Nat.le_of_ble_eq_true rfl) (fun p e s m args below meth c ls Q A hx hb hml hT9 hts hfc hK hP hD hS hA hEV hL9 hl hend => ?_)
  have hfc : s.vm.findClass RL = some m.cls := hfc
  have hl : lv_has ls 3 [(0, .ref z0), (1, .int x1)] := hl
  have h := hr
  clear hr
  unfold SL_advance at h
  refine lv_aload_n hx hb dL_advance_0 rfl (lv_at hl 0 rfl) ?_
  refine lv_iload_n hx hb dL_advance_1 rfl (lv_at hl 1 rfl) ?_
  obtain ⟨o1, ho1, h⟩ := bnd_i h
  refine xq_V (G := G) (v := (fun as => (some (.int o1.2.1)))) (As := [.int x1]) (rest := []) (wc := [(z0, .inr (9, [.ref a0, .ref b0, .ref h0, .ref s0, .ref l0, .ref e0, .ref k0, .int u7, .int u8, .int u9])), (a0, .inr (8, [.ref a1])), (a1, .inr (6, [.ref a2])), (a2, .inl (cA 0, 61, .inl f)), (h0, .inr (5, [.ref h1, .int v1, .int v2])), (h1, .inr (6, [.ref h2])), (h2, .inl (cA 0, 488, .inl g))]) (wr := []) (w1 := (fun as => [(z0, .inr (9, [.ref a0, .ref b0, .ref h0, .ref s0, .ref l0, .ref e0, .ref k0, .int u7, .int u8, .int u9])), (a0, .inr (8, [.ref a1])), (a1, .inr (6, [.ref a2])), (a2, .inl (cA 0, 61, .inl o1.2.2.1)), (h0, .inr (5, [.ref h1, .int o1.2.2.2.2.1, .int o1.2.2.2.2.2])), (h1, .inr (6, [.ref h2])), (h2, .inl (cA 0, 488, .inl o1.2.2.2.1))])) (ws2 := (fun as => [(z0, .inr (9, [.ref a0, .ref b0, .ref h0, .ref s0, .ref l0, .ref e0, .ref k0, .int u7, .int u8, .int u9])), (a0, .inr (8, [.ref a1])), (a1, .inr (6, [.ref a2])), (a2, .inl (cA 0, 61, .inl o1.2.2.1)), (h0, .inr (5, [.ref h1, .int o1.2.2.2.2.1, .int o1.2.2.2.2.2])), (h1, .inr (6, [.ref h2])), (h2, .inl (cA 0, 488, .inl o1.2.2.2.1))])) (st1 := (fun as => [.int o1.2.1])) ⟨hx, hb, hml, hfc, hts⟩ hK hP hD hS hA hEV (kX5_advance l hst D cA G z0 a0 b0 h0 s0 l0 e0 k0 a1 a2 h1 h2 N u7 u8 u9 f v1 v2 g x1 ho1) (cwV 1 hts gL_advance_X5_advance rfl rfl rfl (by decide +kernel) ⟨(Nat.le_of_ble_eq_true rfl), (Nat.le_of_ble_eq_true rfl)⟩) [0, 1, 2, 3, 4, 5, 6] [] [0, 1, 2, 3, 4, 5, 6] rfl rfl rfl rfl (by decide) (fun _ => rfl) rfl 0 9 rfl rfl rfl rfl (fun _ => rfl) rfl hl.1 (Nat.le_of_ble_eq_true rfl) dL_advance_2 ⟨(Nat.le_of_ble_eq_true rfl), (Nat.le_of_ble_eq_true rfl)⟩ (fun c3 as2 H locs hP hD hS => ?_) (fun c3 as2 H locs q9 ce hP hD hS z1 z2 z3 => ?_)
  · have h := ite_t c3 h
    have hP : va_P D vwCl [(z0, .inr (9, [.ref a0, .ref b0, .ref h0, .ref s0, .ref l0, .ref e0, .ref k0, .int u7, .int u8, .int u9])), (a0, .inr (8, [.ref a1])), (a1, .inr (6, [.ref a2])), (a2, .inl (cA 0, 61, .inl o1.2.2.1)), (h0, .inr (5, [.ref h1, .int o1.2.2.2.2.1, .int o1.2.2.2.2.2])), (h1, .inr (6, [.ref h2])), (h2, .inl (cA 0, 488, .inl o1.2.2.2.1))] H := hP
    have hD : va_D A [(z0, .inr (9, [.ref a0, .ref b0, .ref h0, .ref s0, .ref l0, .ref e0, .ref k0, .int u7, .int u8, .int u9])), (a0, .inr (8, [.ref a1])), (a1, .inr (6, [.ref a2])), (a2, .inl (cA 0, 61, .inl o1.2.2.1)), (h0, .inr (5, [.ref h1, .int o1.2.2.2.2.1, .int o1.2.2.2.2.2])), (h1, .inr (6, [.ref h2])), (h2, .inl (cA 0, 488, .inl o1.2.2.2.1))] := hD
    refine W.cs (cells' := 1) (slots' := 6) rfl rfl ?_
    have h := Option.some.inj h
    subst h
    refine W.widen (k := 1) (n := 6) (Nat.le_of_ble_eq_true rfl) (Nat.le_of_ble_eq_true rfl) ?_
    exact hend (adr []) _ _ _ _ _ _ _ rfl rfl (rtn_i _) hP hD hS dL_advance_5
  · have h := ite_f c3 h
    have hP : va_P D vwCl [(z0, .inr (9, [.ref a0, .ref b0, .ref h0, .ref s0, .ref l0, .ref e0, .ref k0, .int u7, .int u8, .int u9])), (a0, .inr (8, [.ref a1])), (a1, .inr (6, [.ref a2])), (a2, .inl (cA 0, 61, .inl o1.2.2.1)), (h0, .inr (5, [.ref h1, .int o1.2.2.2.2.1, .int o1.2.2.2.2.2])), (h1, .inr (6, [.ref h2])), (h2, .inl (cA 0, 488, .inl o1.2.2.2.1))] H := hP
    have hD : va_D A [(z0, .inr (9, [.ref a0, .ref b0, .ref h0, .ref s0, .ref l0, .ref e0, .ref k0, .int u7, .int u8, .int u9])), (a0, .inr (8, [.ref a1])), (a1, .inr (6, [.ref a2])), (a2, .inl (cA 0, 61, .inl o1.2.2.1)), (h0, .inr (5, [.ref h1, .int o1.2.2.2.2.1, .int o1.2.2.2.2.2])), (h1, .inr (6, [.ref h2])), (h2, .inl (cA 0, 488, .inl o1.2.2.2.1))] := hD
    by_cases c4 : o1.1 = 1
    · have h := ite_t c4 h
      have z4 : s.vm.findClass "java/lang/IllegalArgumentException" = some ce.cls := by rw [c4] at z3; exact z3
      refine vx_catch (own := RL) (name := "java/lang/IllegalArgumentException") (E := "java/lang/IllegalArgumentException") hfc [] ⟨0, 5, 6, 14⟩ [] hT9 (fun z hz => absurd hz List.not_mem_nil) rfl (by decide) (hL9.link (List.mem_of_getElem? (i := 0) rfl)) ((hEV.1.2.2.2.2 "java/lang/IllegalArgumentException" (by decide +kernel)).use rfl) z1 z2 z4 ?_
      refine W.cs (cells' := 1) (slots' := 6) rfl rfl ?_
      refine lv_astore_n hx hb dL_advance_6 rfl hl (Nat.le_of_ble_eq_true rfl) rfl (fun ls hl => ?_)
      have hl : lv_has ls 3 [(2, .ref q9), (0, .ref z0), (1, .int x1)] := hl
      refine lv_iconst (v := (-1)) hx hb dL_advance_7 (by decide) ?_
      have h := Option.some.inj h
      subst h
      refine W.widen (k := 1) (n := 6) (Nat.le_of_ble_eq_true rfl) (Nat.le_of_ble_eq_true rfl) ?_
      exact hend (adr []) _ _ _ _ _ _ _ rfl rfl (rtn_i _) hP hD hS dL_advance_8
    · have h := ite_f c4 h
      exact nn h

noncomputable def SL_ageOf (f : Nat → Int32) (x1 : Int32) : Option (Int32) := lt_ (SX5_ageOf f x1) (fun o1 : Nat × Int32 => if o1.1 = 0 then (some (o1.2)) else (if o1.1 = 3 then (some ((-11))) else (none)))
abbrev RM_L_ageOf : Room := { frames := 8, cells := 1, slots := 6, locals := 124 }
set_option maxHeartbeats 4000000 in
theorem kL_ageOf (l : Launch) (hst : l.stackTraces = false) (D : va_G) (cA : Nat → ClassId) (G : eG) (z0 a0 b0 h0 s0 l0 e0 k0 a1 a2 : Nat) (u7 : Int32) (u8 : Int32) (u9 : Int32) (f : Nat → Int32) (x1 : Int32) {r : Int32} (hr : SL_ageOf f x1 = some r) {sz : Nat} : Met l yL_ageOf wsL_ageOf RM_L_ageOf (va_Pc [.ref z0, .int x1] (gqLB G D cA [(z0, .inr (9, [.ref a0, .ref b0, .ref h0, .ref s0, .ref l0, .ref e0, .ref k0, .int u7, .int u8, .int u9])), (a0, .inr (8, [.ref a1])), (a1, .inr (6, [.ref a2])), (a2, .inl (cA 0, 61, .inl f))] sz)) (gqQ D (fun as => (some (.int r))) (fun as => [(z0, .inr (9, [.ref a0, .ref b0, .ref h0, .ref s0, .ref l0, .ref e0, .ref k0, .int u7, .int u8, .int u9])), (a0, .inr (8, [.ref a1])), (a1, .inr (6, [.ref a2])), (a2, .inl (cA 0, 61, .inl f))]) (va_A [(z0, .inr (9, [.ref a0, .ref b0, .ref h0, .ref s0, .ref l0, .ref e0, .ref k0, .int u7, .int u8, .int u9])), (a0, .inr (8, [.ref a1])), (a1, .inr (6, [.ref a2])), (a2, .inl (cA 0, 61, .inl f))] sz)) 1 6 (va_A [(z0, .inr (9, [.ref a0, .ref b0, .ref h0, .ref s0, .ref l0, .ref e0, .ref k0, .int u7, .int u8, .int u9])), (a0, .inr (8, [.ref a1])), (a1, .inr (6, [.ref a2])), (a2, .inl (cA 0, 61, .inl f))] sz) := by
  refine gqL_ofW (hh := [(0, 5, 6, 28)]) (cc := cL_ageOf) (maxL := 3) (ret := (some .int)) (by decide) rfl (Nat.le_of_ble_eq_true rfl) (fun p e s m args below meth c ls Q A hx hb hml hT9 hts hfc hK hP hD hS hA hEV hL9 hl hend => ?_)
  have hfc : s.vm.findClass RL = some m.cls := hfc
  have hl : lv_has ls 3 [(0, .ref z0), (1, .int x1)] := hl
  have h := hr
  clear hr
  unfold SL_ageOf at h
  refine lv_aload_n hx hb dL_ageOf_0 rfl (lv_at hl 0 rfl) ?_
  refine lv_iload_n hx hb dL_ageOf_1 rfl (lv_at hl 1 rfl) ?_
  obtain ⟨o1, ho1, h⟩ := lt_i h
  refine xq_V (G := G) (v := (fun as => (some (.int o1.2)))) (As := [.int x1]) (rest := []) (wc := [(z0, .inr (9, [.ref a0, .ref b0, .ref h0, .ref s0, .ref l0, .ref e0, .ref k0, .int u7, .int u8, .int u9])), (a0, .inr (8, [.ref a1])), (a1, .inr (6, [.ref a2])), (a2, .inl (cA 0, 61, .inl f))]) (wr := []) (w1 := (fun as => [(z0, .inr (9, [.ref a0, .ref b0, .ref h0, .ref s0, .ref l0, .ref e0, .ref k0, .int u7, .int u8, .int u9])), (a0, .inr (8, [.ref a1])), (a1, .inr (6, [.ref a2])), (a2, .inl (cA 0, 61, .inl f))])) (ws2 := (fun as => [(z0, .inr (9, [.ref a0, .ref b0, .ref h0, .ref s0, .ref l0, .ref e0, .ref k0, .int u7, .int u8, .int u9])), (a0, .inr (8, [.ref a1])), (a1, .inr (6, [.ref a2])), (a2, .inl (cA 0, 61, .inl f))])) (st1 := (fun as => [.int o1.2])) ⟨hx, hb, hml, hfc, hts⟩ hK hP hD hS hA hEV (kX5_ageOf l hst D cA G z0 a0 b0 h0 s0 l0 e0 k0 a1 a2 u7 u8 u9 f x1 ho1) (cwV 1 hts gL_ageOf_X5_ageOf rfl rfl rfl (by decide +kernel) ⟨(Nat.le_of_ble_eq_true rfl), (Nat.le_of_ble_eq_true rfl)⟩) [0, 1, 2, 3] [] [0, 1, 2, 3] rfl rfl rfl rfl (by decide) (fun _ => rfl) rfl 0 9 rfl rfl rfl rfl (fun _ => rfl) rfl hl.1 (Nat.le_of_ble_eq_true rfl) dL_ageOf_2 ⟨(Nat.le_of_ble_eq_true rfl), (Nat.le_of_ble_eq_true rfl)⟩ (fun c3 as2 H locs hP hD hS => ?_) (fun c3 as2 H locs q9 ce hP hD hS z1 z2 z3 => ?_)
  · have h := ite_t c3 h
    have hP : va_P D vwCl [(z0, .inr (9, [.ref a0, .ref b0, .ref h0, .ref s0, .ref l0, .ref e0, .ref k0, .int u7, .int u8, .int u9])), (a0, .inr (8, [.ref a1])), (a1, .inr (6, [.ref a2])), (a2, .inl (cA 0, 61, .inl f))] H := hP
    have hD : va_D A [(z0, .inr (9, [.ref a0, .ref b0, .ref h0, .ref s0, .ref l0, .ref e0, .ref k0, .int u7, .int u8, .int u9])), (a0, .inr (8, [.ref a1])), (a1, .inr (6, [.ref a2])), (a2, .inl (cA 0, 61, .inl f))] := hD
    refine W.cs (cells' := 1) (slots' := 6) rfl rfl ?_
    have h := Option.some.inj h
    subst h
    refine W.widen (k := 1) (n := 6) (Nat.le_of_ble_eq_true rfl) (Nat.le_of_ble_eq_true rfl) ?_
    exact hend (adr []) _ _ _ _ _ _ _ rfl rfl (rtn_i _) hP hD hS dL_ageOf_5
  · have h := ite_f c3 h
    have hP : va_P D vwCl [(z0, .inr (9, [.ref a0, .ref b0, .ref h0, .ref s0, .ref l0, .ref e0, .ref k0, .int u7, .int u8, .int u9])), (a0, .inr (8, [.ref a1])), (a1, .inr (6, [.ref a2])), (a2, .inl (cA 0, 61, .inl f))] H := hP
    have hD : va_D A [(z0, .inr (9, [.ref a0, .ref b0, .ref h0, .ref s0, .ref l0, .ref e0, .ref k0, .int u7, .int u8, .int u9])), (a0, .inr (8, [.ref a1])), (a1, .inr (6, [.ref a2])), (a2, .inl (cA 0, 61, .inl f))] := hD
    by_cases c4 : o1.1 = 3
    · have h := ite_t c4 h
      have z4 : s.vm.findClass "java/lang/IndexOutOfBoundsException" = some ce.cls := by rw [c4] at z3; exact z3
      refine vx_catch (own := RL) (name := "java/lang/IndexOutOfBoundsException") (E := "java/lang/IndexOutOfBoundsException") hfc [] ⟨0, 5, 6, 28⟩ [] hT9 (fun z hz => absurd hz List.not_mem_nil) rfl (by decide) (hL9.link (List.mem_of_getElem? (i := 2) rfl)) ((hEV.1.2.2.2.2 "java/lang/IndexOutOfBoundsException" (by decide +kernel)).use rfl) z1 z2 z4 ?_
      refine W.cs (cells' := 1) (slots' := 6) rfl rfl ?_
      refine lv_astore_n hx hb dL_ageOf_6 rfl hl (Nat.le_of_ble_eq_true rfl) rfl (fun ls hl => ?_)
      have hl : lv_has ls 3 [(2, .ref q9), (0, .ref z0), (1, .int x1)] := hl
      refine lv_bipush (v := (-11)) hx hb dL_ageOf_7 (by decide) ?_
      have h := Option.some.inj h
      subst h
      refine W.widen (k := 1) (n := 6) (Nat.le_of_ble_eq_true rfl) (Nat.le_of_ble_eq_true rfl) ?_
      exact hend (adr []) _ _ _ _ _ _ _ rfl rfl (rtn_i _) hP hD hS dL_ageOf_9
    · have h := ite_f c4 h
      exact nn h

noncomputable def SL_bubble (N : Nat) (f : Nat → Int32) (v1 : Int32) (v2 : Int32) (g : Nat → Int32) (x1 : Int32) (x2 : Int32) (x3 : Int32) : Option (Int32 × (Nat → Int32) × Int32 × Int32 × (Nat → Int32)) := bnd (SX5_addBubbleMoon N f v1 v2 g x1 x2 x3) (fun o1 : Nat × Int32 × (Nat → Int32) × (Nat → Int32) × Int32 × Int32 => if o1.1 = 0 then (some ((o1.2.1, o1.2.2.1, o1.2.2.2.2.1, o1.2.2.2.2.2, o1.2.2.2.1))) else (if o1.1 = 1 then (some (((-1), o1.2.2.1, o1.2.2.2.2.1, o1.2.2.2.2.2, o1.2.2.2.1))) else (if o1.1 = 2 then (some (((-2), o1.2.2.1, o1.2.2.2.2.1, o1.2.2.2.2.2, o1.2.2.2.1))) else (none))))
abbrev RM_L_bubble : Room := { frames := 8, cells := 1, slots := 6, locals := 129 }
set_option maxHeartbeats 4000000 in
theorem kL_bubble (l : Launch) (hst : l.stackTraces = false) (D : va_G) (cA : Nat → ClassId) (G : eG) (z0 a0 b0 h0 s0 l0 e0 k0 a1 a2 h1 h2 : Nat) (N : Nat) (u7 : Int32) (u8 : Int32) (u9 : Int32) (f : Nat → Int32) (v1 : Int32) (v2 : Int32) (g : Nat → Int32) (x1 : Int32) (x2 : Int32) (x3 : Int32) {r : Int32 × (Nat → Int32) × Int32 × Int32 × (Nat → Int32)} (hr : SL_bubble N f v1 v2 g x1 x2 x3 = some r) {sz : Nat} : Met l yL_bubble wsL_bubble RM_L_bubble (va_Pc [.ref z0, .int x1, .int x2, .int x3] (gqLB G D cA [(z0, .inr (9, [.ref a0, .ref b0, .ref h0, .ref s0, .ref l0, .ref e0, .ref k0, .int u7, .int u8, .int u9])), (a0, .inr (8, [.ref a1])), (a1, .inr (6, [.ref a2])), (a2, .inl (cA 0, 61, .inl f)), (h0, .inr (5, [.ref h1, .int v1, .int v2])), (h1, .inr (6, [.ref h2])), (h2, .inl (cA 0, 488, .inl g))] sz)) (gqQ D (fun as => (some (.int r.1))) (fun as => [(z0, .inr (9, [.ref a0, .ref b0, .ref h0, .ref s0, .ref l0, .ref e0, .ref k0, .int u7, .int u8, .int u9])), (a0, .inr (8, [.ref a1])), (a1, .inr (6, [.ref a2])), (a2, .inl (cA 0, 61, .inl r.2.1)), (h0, .inr (5, [.ref h1, .int r.2.2.1, .int r.2.2.2.1])), (h1, .inr (6, [.ref h2])), (h2, .inl (cA 0, 488, .inl r.2.2.2.2))]) (va_A [(z0, .inr (9, [.ref a0, .ref b0, .ref h0, .ref s0, .ref l0, .ref e0, .ref k0, .int u7, .int u8, .int u9])), (a0, .inr (8, [.ref a1])), (a1, .inr (6, [.ref a2])), (a2, .inl (cA 0, 61, .inl f)), (h0, .inr (5, [.ref h1, .int v1, .int v2])), (h1, .inr (6, [.ref h2])), (h2, .inl (cA 0, 488, .inl g))] sz)) 1 6 (va_A [(z0, .inr (9, [.ref a0, .ref b0, .ref h0, .ref s0, .ref l0, .ref e0, .ref k0, .int u7, .int u8, .int u9])), (a0, .inr (8, [.ref a1])), (a1, .inr (6, [.ref a2])), (a2, .inl (cA 0, 61, .inl f)), (h0, .inr (5, [.ref h1, .int v1, .int v2])), (h1, .inr (6, [.ref h2])), (h2, .inl (cA 0, 488, .inl g))] sz) := by
  refine gqL_ofW (hh := [(0, 7, 8, 14), (0, 7, 12, 16)]) (cc := cL_bubble) (maxL := 5) (ret := (some .int)) (by decide) rfl (Nat.le_of_ble_eq_true rfl) (fun p e s m args below meth c ls Q A hx hb hml hT9 hts hfc hK hP hD hS hA hEV hL9 hl hend => ?_)
  have hfc : s.vm.findClass RL = some m.cls := hfc
  have hl : lv_has ls 5 [(0, .ref z0), (1, .int x1), (2, .int x2), (3, .int x3)] := hl
  have h := hr
  clear hr
  unfold SL_bubble at h
  refine lv_aload_n hx hb dL_bubble_0 rfl (lv_at hl 0 rfl) ?_
  refine lv_iload_n hx hb dL_bubble_1 rfl (lv_at hl 1 rfl) ?_
  refine lv_iload_n hx hb dL_bubble_2 rfl (lv_at hl 2 rfl) ?_
  refine lv_iload_n hx hb dL_bubble_3 rfl (lv_at hl 3 rfl) ?_
  obtain ⟨o1, ho1, h⟩ := bnd_i h
  refine xq_V (G := G) (v := (fun as => (some (.int o1.2.1)))) (As := [.int x1, .int x2, .int x3]) (rest := []) (wc := [(z0, .inr (9, [.ref a0, .ref b0, .ref h0, .ref s0, .ref l0, .ref e0, .ref k0, .int u7, .int u8, .int u9])), (a0, .inr (8, [.ref a1])), (a1, .inr (6, [.ref a2])), (a2, .inl (cA 0, 61, .inl f)), (h0, .inr (5, [.ref h1, .int v1, .int v2])), (h1, .inr (6, [.ref h2])), (h2, .inl (cA 0, 488, .inl g))]) (wr := []) (w1 := (fun as => [(z0, .inr (9, [.ref a0, .ref b0, .ref h0, .ref s0, .ref l0, .ref e0, .ref k0, .int u7, .int u8, .int u9])), (a0, .inr (8, [.ref a1])), (a1, .inr (6, [.ref a2])), (a2, .inl (cA 0, 61, .inl o1.2.2.1)), (h0, .inr (5, [.ref h1, .int o1.2.2.2.2.1, .int o1.2.2.2.2.2])), (h1, .inr (6, [.ref h2])), (h2, .inl (cA 0, 488, .inl o1.2.2.2.1))])) (ws2 := (fun as => [(z0, .inr (9, [.ref a0, .ref b0, .ref h0, .ref s0, .ref l0, .ref e0, .ref k0, .int u7, .int u8, .int u9])), (a0, .inr (8, [.ref a1])), (a1, .inr (6, [.ref a2])), (a2, .inl (cA 0, 61, .inl o1.2.2.1)), (h0, .inr (5, [.ref h1, .int o1.2.2.2.2.1, .int o1.2.2.2.2.2])), (h1, .inr (6, [.ref h2])), (h2, .inl (cA 0, 488, .inl o1.2.2.2.1))])) (st1 := (fun as => [.int o1.2.1])) ⟨hx, hb, hml, hfc, hts⟩ hK hP hD hS hA hEV (kX5_addBubbleMoon l hst D cA G z0 a0 b0 h0 s0 l0 e0 k0 a1 a2 h1 h2 N u7 u8 u9 f v1 v2 g x1 x2 x3 ho1) (cwV 3 hts gL_bubble_X5_addBubbleMoon rfl rfl rfl (by decide +kernel) ⟨(Nat.le_of_ble_eq_true rfl), (Nat.le_of_ble_eq_true rfl)⟩) [0, 1, 2, 3, 4, 5, 6] [] [0, 1, 2, 3, 4, 5, 6] rfl rfl rfl rfl (by decide) (fun _ => rfl) rfl 0 9 rfl rfl rfl rfl (fun _ => rfl) rfl hl.1 (Nat.le_of_ble_eq_true rfl) dL_bubble_4 ⟨(Nat.le_of_ble_eq_true rfl), (Nat.le_of_ble_eq_true rfl)⟩ (fun c3 as2 H locs hP hD hS => ?_) (fun c3 as2 H locs q9 ce hP hD hS z1 z2 z3 => ?_)
  · have h := ite_t c3 h
    have hP : va_P D vwCl [(z0, .inr (9, [.ref a0, .ref b0, .ref h0, .ref s0, .ref l0, .ref e0, .ref k0, .int u7, .int u8, .int u9])), (a0, .inr (8, [.ref a1])), (a1, .inr (6, [.ref a2])), (a2, .inl (cA 0, 61, .inl o1.2.2.1)), (h0, .inr (5, [.ref h1, .int o1.2.2.2.2.1, .int o1.2.2.2.2.2])), (h1, .inr (6, [.ref h2])), (h2, .inl (cA 0, 488, .inl o1.2.2.2.1))] H := hP
    have hD : va_D A [(z0, .inr (9, [.ref a0, .ref b0, .ref h0, .ref s0, .ref l0, .ref e0, .ref k0, .int u7, .int u8, .int u9])), (a0, .inr (8, [.ref a1])), (a1, .inr (6, [.ref a2])), (a2, .inl (cA 0, 61, .inl o1.2.2.1)), (h0, .inr (5, [.ref h1, .int o1.2.2.2.2.1, .int o1.2.2.2.2.2])), (h1, .inr (6, [.ref h2])), (h2, .inl (cA 0, 488, .inl o1.2.2.2.1))] := hD
    refine W.cs (cells' := 1) (slots' := 6) rfl rfl ?_
    have h := Option.some.inj h
    subst h
    refine W.widen (k := 1) (n := 6) (Nat.le_of_ble_eq_true rfl) (Nat.le_of_ble_eq_true rfl) ?_
    exact hend (adr []) _ _ _ _ _ _ _ rfl rfl (rtn_i _) hP hD hS dL_bubble_7
  · have h := ite_f c3 h
    have hP : va_P D vwCl [(z0, .inr (9, [.ref a0, .ref b0, .ref h0, .ref s0, .ref l0, .ref e0, .ref k0, .int u7, .int u8, .int u9])), (a0, .inr (8, [.ref a1])), (a1, .inr (6, [.ref a2])), (a2, .inl (cA 0, 61, .inl o1.2.2.1)), (h0, .inr (5, [.ref h1, .int o1.2.2.2.2.1, .int o1.2.2.2.2.2])), (h1, .inr (6, [.ref h2])), (h2, .inl (cA 0, 488, .inl o1.2.2.2.1))] H := hP
    have hD : va_D A [(z0, .inr (9, [.ref a0, .ref b0, .ref h0, .ref s0, .ref l0, .ref e0, .ref k0, .int u7, .int u8, .int u9])), (a0, .inr (8, [.ref a1])), (a1, .inr (6, [.ref a2])), (a2, .inl (cA 0, 61, .inl o1.2.2.1)), (h0, .inr (5, [.ref h1, .int o1.2.2.2.2.1, .int o1.2.2.2.2.2])), (h1, .inr (6, [.ref h2])), (h2, .inl (cA 0, 488, .inl o1.2.2.2.1))] := hD
    by_cases c4 : o1.1 = 1
    · have h := ite_t c4 h
      have z4 : s.vm.findClass "java/lang/IllegalArgumentException" = some ce.cls := by rw [c4] at z3; exact z3
      refine vx_catch (own := RL) (name := "java/lang/IllegalArgumentException") (E := "java/lang/IllegalArgumentException") hfc [] ⟨0, 7, 8, 14⟩ [⟨0, 7, 12, 16⟩] hT9 (fun z hz => absurd hz List.not_mem_nil) rfl (by decide) (hL9.link (List.mem_of_getElem? (i := 0) rfl)) ((hEV.1.2.2.2.2 "java/lang/IllegalArgumentException" (by decide +kernel)).use rfl) z1 z2 z4 ?_
      refine W.cs (cells' := 1) (slots' := 6) rfl rfl ?_
      refine lv_astore hx hb dL_bubble_8 hl (Nat.le_of_ble_eq_true rfl) rfl (fun ls hl => ?_)
      have hl : lv_has ls 5 [(4, .ref q9), (0, .ref z0), (1, .int x1), (2, .int x2), (3, .int x3)] := hl
      refine lv_iconst (v := (-1)) hx hb dL_bubble_10 (by decide) ?_
      have h := Option.some.inj h
      subst h
      refine W.widen (k := 1) (n := 6) (Nat.le_of_ble_eq_true rfl) (Nat.le_of_ble_eq_true rfl) ?_
      exact hend (adr []) _ _ _ _ _ _ _ rfl rfl (rtn_i _) hP hD hS dL_bubble_11
    · have h := ite_f c4 h
      by_cases c5 : o1.1 = 2
      · have h := ite_t c5 h
        have z4 : s.vm.findClass "java/lang/IllegalStateException" = some ce.cls := by rw [c5] at z3; exact z3
        have hp9 : ∀ z ∈ ([⟨0, 7, 8, 14⟩] : List ExceptionTableEntry), covers z 4 = false ∨ (z.catchType ≠ 0 ∧ ∃ nm : String, (Cond.classLink RL z.catchType nm).before args s = true ∧ va_Nc "java/lang/IllegalStateException" nm s) := by
          intro z hz
          rcases List.mem_cons.mp hz with rfl | hz
          · exact Or.inr ⟨by decide, _, (hL9.link (List.mem_of_getElem? (i := 0) rfl)), hL9.1.1⟩
          exact absurd hz List.not_mem_nil
        refine vx_catch (own := RL) (name := "java/lang/IllegalStateException") (E := "java/lang/IllegalStateException") hfc [⟨0, 7, 8, 14⟩] ⟨0, 7, 12, 16⟩ [] hT9 hp9 rfl (by decide) (hL9.link (List.mem_of_getElem? (i := 1) rfl)) ((hEV.1.2.2.2.2 "java/lang/IllegalStateException" (by decide +kernel)).use rfl) z1 z2 z4 ?_
        refine W.cs (cells' := 1) (slots' := 6) rfl rfl ?_
        refine lv_astore hx hb dL_bubble_12 hl (Nat.le_of_ble_eq_true rfl) rfl (fun ls hl => ?_)
        have hl : lv_has ls 5 [(4, .ref q9), (0, .ref z0), (1, .int x1), (2, .int x2), (3, .int x3)] := hl
        refine lv_bipush (v := (-2)) hx hb dL_bubble_14 (by decide) ?_
        have h := Option.some.inj h
        subst h
        refine W.widen (k := 1) (n := 6) (Nat.le_of_ble_eq_true rfl) (Nat.le_of_ble_eq_true rfl) ?_
        exact hend (adr []) _ _ _ _ _ _ _ rfl rfl (rtn_i _) hP hD hS dL_bubble_16
      · have h := ite_f c5 h
        exact nn h

noncomputable def SL_conjunctionByMoves (N : Nat) (f : Nat → Int32) (x1 : Int32) (x2 : Int32) : Option (Int32) := bnd (SX5_conjunctionByMoves N f x1 x2) (fun o1 : Nat × Int32 => if o1.1 = 0 then (some (o1.2)) else (if o1.1 = 3 then (some ((-11))) else (if o1.1 = 4 then (some ((-13))) else (none))))
abbrev RM_L_conjunctionByMoves : Room := { frames := 8, cells := 3, slots := 18, locals := 125 }
set_option maxHeartbeats 4000000 in
theorem kL_conjunctionByMoves (l : Launch) (hst : l.stackTraces = false) (D : va_G) (cA : Nat → ClassId) (G : eG) (z0 a0 b0 h0 s0 l0 e0 k0 a1 a2 : Nat) (N : Nat) (u7 : Int32) (u8 : Int32) (u9 : Int32) (f : Nat → Int32) (x1 : Int32) (x2 : Int32) {r : Int32} (hr : SL_conjunctionByMoves N f x1 x2 = some r) {sz : Nat} : Met l yL_conjunctionByMoves wsL_conjunctionByMoves RM_L_conjunctionByMoves (va_Pc [.ref z0, .int x1, .int x2] (gqLB G D cA [(z0, .inr (9, [.ref a0, .ref b0, .ref h0, .ref s0, .ref l0, .ref e0, .ref k0, .int u7, .int u8, .int u9])), (a0, .inr (8, [.ref a1])), (a1, .inr (6, [.ref a2])), (a2, .inl (cA 0, 61, .inl f))] sz)) (gqQ D (fun as => (some (.int r))) (fun as => [(z0, .inr (9, [.ref a0, .ref b0, .ref h0, .ref s0, .ref l0, .ref e0, .ref k0, .int u7, .int u8, .int u9])), (a0, .inr (8, [.ref a1])), (a1, .inr (6, [.ref a2])), (a2, .inl (cA 0, 61, .inl f))]) (va_A [(z0, .inr (9, [.ref a0, .ref b0, .ref h0, .ref s0, .ref l0, .ref e0, .ref k0, .int u7, .int u8, .int u9])), (a0, .inr (8, [.ref a1])), (a1, .inr (6, [.ref a2])), (a2, .inl (cA 0, 61, .inl f))] sz)) 3 18 (va_A [(z0, .inr (9, [.ref a0, .ref b0, .ref h0, .ref s0, .ref l0, .ref e0, .ref k0, .int u7, .int u8, .int u9])), (a0, .inr (8, [.ref a1])), (a1, .inr (6, [.ref a2])), (a2, .inl (cA 0, 61, .inl f))] sz) := by
  refine gqL_ofW (hh := [(0, 6, 7, 28), (0, 6, 11, 84)]) (cc := cL_conjunctionByMoves) (maxL := 4) (ret := (some .int)) (by decide) rfl (Nat.le_of_ble_eq_true rfl) (fun p e s m args below meth c ls Q A hx hb hml hT9 hts hfc hK hP hD hS hA hEV hL9 hl hend => ?_)
  have hfc : s.vm.findClass RL = some m.cls := hfc
  have hl : lv_has ls 4 [(0, .ref z0), (1, .int x1), (2, .int x2)] := hl
  have h := hr
  clear hr
  unfold SL_conjunctionByMoves at h
  refine lv_aload_n hx hb dL_conjunctionByMoves_0 rfl (lv_at hl 0 rfl) ?_
  refine lv_iload_n hx hb dL_conjunctionByMoves_1 rfl (lv_at hl 1 rfl) ?_
  refine lv_iload_n hx hb dL_conjunctionByMoves_2 rfl (lv_at hl 2 rfl) ?_
  obtain ⟨o1, ho1, h⟩ := bnd_i h
  refine xq_V (G := G) (v := (fun as => (some (.int o1.2)))) (As := [.int x1, .int x2]) (rest := []) (wc := [(z0, .inr (9, [.ref a0, .ref b0, .ref h0, .ref s0, .ref l0, .ref e0, .ref k0, .int u7, .int u8, .int u9])), (a0, .inr (8, [.ref a1])), (a1, .inr (6, [.ref a2])), (a2, .inl (cA 0, 61, .inl f))]) (wr := []) (w1 := (fun as => [(z0, .inr (9, [.ref a0, .ref b0, .ref h0, .ref s0, .ref l0, .ref e0, .ref k0, .int u7, .int u8, .int u9])), (a0, .inr (8, [.ref a1])), (a1, .inr (6, [.ref a2])), (a2, .inl (cA 0, 61, .inl f))])) (ws2 := (fun as => [(z0, .inr (9, [.ref a0, .ref b0, .ref h0, .ref s0, .ref l0, .ref e0, .ref k0, .int u7, .int u8, .int u9])), (a0, .inr (8, [.ref a1])), (a1, .inr (6, [.ref a2])), (a2, .inl (cA 0, 61, .inl f))])) (st1 := (fun as => [.int o1.2])) ⟨hx, hb, hml, hfc, hts⟩ hK hP hD hS hA hEV (kX5_conjunctionByMoves l hst D cA G z0 a0 b0 h0 s0 l0 e0 k0 a1 a2 N u7 u8 u9 f x1 x2 ho1) (cwV 2 hts gL_conjunctionByMoves_X5_conjunctionByMoves rfl rfl rfl (by decide +kernel) ⟨(Nat.le_of_ble_eq_true rfl), (Nat.le_of_ble_eq_true rfl)⟩) [0, 1, 2, 3] [] [0, 1, 2, 3] rfl rfl rfl rfl (by decide) (fun _ => rfl) rfl 0 9 rfl rfl rfl rfl (fun _ => rfl) rfl hl.1 (Nat.le_of_ble_eq_true rfl) dL_conjunctionByMoves_3 ⟨(Nat.le_of_ble_eq_true rfl), (Nat.le_of_ble_eq_true rfl)⟩ (fun c3 as2 H locs hP hD hS => ?_) (fun c3 as2 H locs q9 ce hP hD hS z1 z2 z3 => ?_)
  · have h := ite_t c3 h
    have hP : va_P D vwCl [(z0, .inr (9, [.ref a0, .ref b0, .ref h0, .ref s0, .ref l0, .ref e0, .ref k0, .int u7, .int u8, .int u9])), (a0, .inr (8, [.ref a1])), (a1, .inr (6, [.ref a2])), (a2, .inl (cA 0, 61, .inl f))] H := hP
    have hD : va_D A [(z0, .inr (9, [.ref a0, .ref b0, .ref h0, .ref s0, .ref l0, .ref e0, .ref k0, .int u7, .int u8, .int u9])), (a0, .inr (8, [.ref a1])), (a1, .inr (6, [.ref a2])), (a2, .inl (cA 0, 61, .inl f))] := hD
    refine W.cs (cells' := 3) (slots' := 18) rfl rfl ?_
    have h := Option.some.inj h
    subst h
    refine W.widen (k := 3) (n := 18) (Nat.le_of_ble_eq_true rfl) (Nat.le_of_ble_eq_true rfl) ?_
    exact hend (adr []) _ _ _ _ _ _ _ rfl rfl (rtn_i _) hP hD hS dL_conjunctionByMoves_6
  · have h := ite_f c3 h
    have hP : va_P D vwCl [(z0, .inr (9, [.ref a0, .ref b0, .ref h0, .ref s0, .ref l0, .ref e0, .ref k0, .int u7, .int u8, .int u9])), (a0, .inr (8, [.ref a1])), (a1, .inr (6, [.ref a2])), (a2, .inl (cA 0, 61, .inl f))] H := hP
    have hD : va_D A [(z0, .inr (9, [.ref a0, .ref b0, .ref h0, .ref s0, .ref l0, .ref e0, .ref k0, .int u7, .int u8, .int u9])), (a0, .inr (8, [.ref a1])), (a1, .inr (6, [.ref a2])), (a2, .inl (cA 0, 61, .inl f))] := hD
    by_cases c4 : o1.1 = 3
    · have h := ite_t c4 h
      have z4 : s.vm.findClass "java/lang/IndexOutOfBoundsException" = some ce.cls := by rw [c4] at z3; exact z3
      refine vx_catch (own := RL) (name := "java/lang/IndexOutOfBoundsException") (E := "java/lang/IndexOutOfBoundsException") hfc [] ⟨0, 6, 7, 28⟩ [⟨0, 6, 11, 84⟩] hT9 (fun z hz => absurd hz List.not_mem_nil) rfl (by decide) (hL9.link (List.mem_of_getElem? (i := 2) rfl)) ((hEV.1.2.2.2.2 "java/lang/IndexOutOfBoundsException" (by decide +kernel)).use rfl) z1 z2 z4 ?_
      refine W.cs (cells' := 3) (slots' := 18) rfl rfl ?_
      refine lv_astore_n hx hb dL_conjunctionByMoves_7 rfl hl (Nat.le_of_ble_eq_true rfl) rfl (fun ls hl => ?_)
      have hl : lv_has ls 4 [(3, .ref q9), (0, .ref z0), (1, .int x1), (2, .int x2)] := hl
      refine lv_bipush (v := (-11)) hx hb dL_conjunctionByMoves_8 (by decide) ?_
      have h := Option.some.inj h
      subst h
      refine W.widen (k := 3) (n := 18) (Nat.le_of_ble_eq_true rfl) (Nat.le_of_ble_eq_true rfl) ?_
      exact hend (adr []) _ _ _ _ _ _ _ rfl rfl (rtn_i _) hP hD hS dL_conjunctionByMoves_10
    · have h := ite_f c4 h
      by_cases c5 : o1.1 = 4
      · have h := ite_t c5 h
        have z4 : s.vm.findClass "java/util/NoSuchElementException" = some ce.cls := by rw [c5] at z3; exact z3
        have hp9 : ∀ z ∈ ([⟨0, 6, 7, 28⟩] : List ExceptionTableEntry), covers z 3 = false ∨ (z.catchType ≠ 0 ∧ ∃ nm : String, (Cond.classLink RL z.catchType nm).before args s = true ∧ va_Nc "java/util/NoSuchElementException" nm s) := by
          intro z hz
          rcases List.mem_cons.mp hz with rfl | hz
          · exact Or.inr ⟨by decide, _, (hL9.link (List.mem_of_getElem? (i := 2) rfl)), hL9.1.2.2.2⟩
          exact absurd hz List.not_mem_nil
        refine vx_catch (own := RL) (name := "java/util/NoSuchElementException") (E := "java/util/NoSuchElementException") hfc [⟨0, 6, 7, 28⟩] ⟨0, 6, 11, 84⟩ [] hT9 hp9 rfl (by decide) (hL9.link (List.mem_of_getElem? (i := 3) rfl)) ((hEV.1.2.2.2.2 "java/util/NoSuchElementException" (by decide +kernel)).use rfl) z1 z2 z4 ?_
        refine W.cs (cells' := 3) (slots' := 18) rfl rfl ?_
        refine lv_astore_n hx hb dL_conjunctionByMoves_11 rfl hl (Nat.le_of_ble_eq_true rfl) rfl (fun ls hl => ?_)
        have hl : lv_has ls 4 [(3, .ref q9), (0, .ref z0), (1, .int x1), (2, .int x2)] := hl
        refine lv_bipush (v := (-13)) hx hb dL_conjunctionByMoves_12 (by decide) ?_
        have h := Option.some.inj h
        subst h
        refine W.widen (k := 3) (n := 18) (Nat.le_of_ble_eq_true rfl) (Nat.le_of_ble_eq_true rfl) ?_
        exact hend (adr []) _ _ _ _ _ _ _ rfl rfl (rtn_i _) hP hD hS dL_conjunctionByMoves_14
      · have h := ite_f c5 h
        exact nn h

noncomputable def SL_conjunctionIn (N : Nat) (f : Nat → Int32) (x1 : Int32) (x2 : Int32) : Option (Int32) := bnd (SX5_conjunctionIn N f x1 x2) (fun o1 : Nat × Int32 => if o1.1 = 0 then (some (o1.2)) else (if o1.1 = 3 then (some ((-11))) else (if o1.1 = 4 then (some ((-13))) else (none))))
abbrev RM_L_conjunctionIn : Room := { frames := 8, cells := 3, slots := 18, locals := 125 }
set_option maxHeartbeats 4000000 in
theorem kL_conjunctionIn (l : Launch) (hst : l.stackTraces = false) (D : va_G) (cA : Nat → ClassId) (G : eG) (z0 a0 b0 h0 s0 l0 e0 k0 a1 a2 : Nat) (N : Nat) (u7 : Int32) (u8 : Int32) (u9 : Int32) (f : Nat → Int32) (x1 : Int32) (x2 : Int32) {r : Int32} (hr : SL_conjunctionIn N f x1 x2 = some r) {sz : Nat} : Met l yL_conjunctionIn wsL_conjunctionIn RM_L_conjunctionIn (va_Pc [.ref z0, .int x1, .int x2] (gqLB G D cA [(z0, .inr (9, [.ref a0, .ref b0, .ref h0, .ref s0, .ref l0, .ref e0, .ref k0, .int u7, .int u8, .int u9])), (a0, .inr (8, [.ref a1])), (a1, .inr (6, [.ref a2])), (a2, .inl (cA 0, 61, .inl f))] sz)) (gqQ D (fun as => (some (.int r))) (fun as => [(z0, .inr (9, [.ref a0, .ref b0, .ref h0, .ref s0, .ref l0, .ref e0, .ref k0, .int u7, .int u8, .int u9])), (a0, .inr (8, [.ref a1])), (a1, .inr (6, [.ref a2])), (a2, .inl (cA 0, 61, .inl f))]) (va_A [(z0, .inr (9, [.ref a0, .ref b0, .ref h0, .ref s0, .ref l0, .ref e0, .ref k0, .int u7, .int u8, .int u9])), (a0, .inr (8, [.ref a1])), (a1, .inr (6, [.ref a2])), (a2, .inl (cA 0, 61, .inl f))] sz)) 3 18 (va_A [(z0, .inr (9, [.ref a0, .ref b0, .ref h0, .ref s0, .ref l0, .ref e0, .ref k0, .int u7, .int u8, .int u9])), (a0, .inr (8, [.ref a1])), (a1, .inr (6, [.ref a2])), (a2, .inl (cA 0, 61, .inl f))] sz) := by
  refine gqL_ofW (hh := [(0, 6, 7, 28), (0, 6, 11, 84)]) (cc := cL_conjunctionIn) (maxL := 4) (ret := (some .int)) (by decide) rfl (Nat.le_of_ble_eq_true rfl) (fun p e s m args below meth c ls Q A hx hb hml hT9 hts hfc hK hP hD hS hA hEV hL9 hl hend => ?_)
  have hfc : s.vm.findClass RL = some m.cls := hfc
  have hl : lv_has ls 4 [(0, .ref z0), (1, .int x1), (2, .int x2)] := hl
  have h := hr
  clear hr
  unfold SL_conjunctionIn at h
  refine lv_aload_n hx hb dL_conjunctionIn_0 rfl (lv_at hl 0 rfl) ?_
  refine lv_iload_n hx hb dL_conjunctionIn_1 rfl (lv_at hl 1 rfl) ?_
  refine lv_iload_n hx hb dL_conjunctionIn_2 rfl (lv_at hl 2 rfl) ?_
  obtain ⟨o1, ho1, h⟩ := bnd_i h
  refine xq_V (G := G) (v := (fun as => (some (.int o1.2)))) (As := [.int x1, .int x2]) (rest := []) (wc := [(z0, .inr (9, [.ref a0, .ref b0, .ref h0, .ref s0, .ref l0, .ref e0, .ref k0, .int u7, .int u8, .int u9])), (a0, .inr (8, [.ref a1])), (a1, .inr (6, [.ref a2])), (a2, .inl (cA 0, 61, .inl f))]) (wr := []) (w1 := (fun as => [(z0, .inr (9, [.ref a0, .ref b0, .ref h0, .ref s0, .ref l0, .ref e0, .ref k0, .int u7, .int u8, .int u9])), (a0, .inr (8, [.ref a1])), (a1, .inr (6, [.ref a2])), (a2, .inl (cA 0, 61, .inl f))])) (ws2 := (fun as => [(z0, .inr (9, [.ref a0, .ref b0, .ref h0, .ref s0, .ref l0, .ref e0, .ref k0, .int u7, .int u8, .int u9])), (a0, .inr (8, [.ref a1])), (a1, .inr (6, [.ref a2])), (a2, .inl (cA 0, 61, .inl f))])) (st1 := (fun as => [.int o1.2])) ⟨hx, hb, hml, hfc, hts⟩ hK hP hD hS hA hEV (kX5_conjunctionIn l hst D cA G z0 a0 b0 h0 s0 l0 e0 k0 a1 a2 N u7 u8 u9 f x1 x2 ho1) (cwV 2 hts gL_conjunctionIn_X5_conjunctionIn rfl rfl rfl (by decide +kernel) ⟨(Nat.le_of_ble_eq_true rfl), (Nat.le_of_ble_eq_true rfl)⟩) [0, 1, 2, 3] [] [0, 1, 2, 3] rfl rfl rfl rfl (by decide) (fun _ => rfl) rfl 0 9 rfl rfl rfl rfl (fun _ => rfl) rfl hl.1 (Nat.le_of_ble_eq_true rfl) dL_conjunctionIn_3 ⟨(Nat.le_of_ble_eq_true rfl), (Nat.le_of_ble_eq_true rfl)⟩ (fun c3 as2 H locs hP hD hS => ?_) (fun c3 as2 H locs q9 ce hP hD hS z1 z2 z3 => ?_)
  · have h := ite_t c3 h
    have hP : va_P D vwCl [(z0, .inr (9, [.ref a0, .ref b0, .ref h0, .ref s0, .ref l0, .ref e0, .ref k0, .int u7, .int u8, .int u9])), (a0, .inr (8, [.ref a1])), (a1, .inr (6, [.ref a2])), (a2, .inl (cA 0, 61, .inl f))] H := hP
    have hD : va_D A [(z0, .inr (9, [.ref a0, .ref b0, .ref h0, .ref s0, .ref l0, .ref e0, .ref k0, .int u7, .int u8, .int u9])), (a0, .inr (8, [.ref a1])), (a1, .inr (6, [.ref a2])), (a2, .inl (cA 0, 61, .inl f))] := hD
    refine W.cs (cells' := 3) (slots' := 18) rfl rfl ?_
    have h := Option.some.inj h
    subst h
    refine W.widen (k := 3) (n := 18) (Nat.le_of_ble_eq_true rfl) (Nat.le_of_ble_eq_true rfl) ?_
    exact hend (adr []) _ _ _ _ _ _ _ rfl rfl (rtn_i _) hP hD hS dL_conjunctionIn_6
  · have h := ite_f c3 h
    have hP : va_P D vwCl [(z0, .inr (9, [.ref a0, .ref b0, .ref h0, .ref s0, .ref l0, .ref e0, .ref k0, .int u7, .int u8, .int u9])), (a0, .inr (8, [.ref a1])), (a1, .inr (6, [.ref a2])), (a2, .inl (cA 0, 61, .inl f))] H := hP
    have hD : va_D A [(z0, .inr (9, [.ref a0, .ref b0, .ref h0, .ref s0, .ref l0, .ref e0, .ref k0, .int u7, .int u8, .int u9])), (a0, .inr (8, [.ref a1])), (a1, .inr (6, [.ref a2])), (a2, .inl (cA 0, 61, .inl f))] := hD
    by_cases c4 : o1.1 = 3
    · have h := ite_t c4 h
      have z4 : s.vm.findClass "java/lang/IndexOutOfBoundsException" = some ce.cls := by rw [c4] at z3; exact z3
      refine vx_catch (own := RL) (name := "java/lang/IndexOutOfBoundsException") (E := "java/lang/IndexOutOfBoundsException") hfc [] ⟨0, 6, 7, 28⟩ [⟨0, 6, 11, 84⟩] hT9 (fun z hz => absurd hz List.not_mem_nil) rfl (by decide) (hL9.link (List.mem_of_getElem? (i := 2) rfl)) ((hEV.1.2.2.2.2 "java/lang/IndexOutOfBoundsException" (by decide +kernel)).use rfl) z1 z2 z4 ?_
      refine W.cs (cells' := 3) (slots' := 18) rfl rfl ?_
      refine lv_astore_n hx hb dL_conjunctionIn_7 rfl hl (Nat.le_of_ble_eq_true rfl) rfl (fun ls hl => ?_)
      have hl : lv_has ls 4 [(3, .ref q9), (0, .ref z0), (1, .int x1), (2, .int x2)] := hl
      refine lv_bipush (v := (-11)) hx hb dL_conjunctionIn_8 (by decide) ?_
      have h := Option.some.inj h
      subst h
      refine W.widen (k := 3) (n := 18) (Nat.le_of_ble_eq_true rfl) (Nat.le_of_ble_eq_true rfl) ?_
      exact hend (adr []) _ _ _ _ _ _ _ rfl rfl (rtn_i _) hP hD hS dL_conjunctionIn_10
    · have h := ite_f c4 h
      by_cases c5 : o1.1 = 4
      · have h := ite_t c5 h
        have z4 : s.vm.findClass "java/util/NoSuchElementException" = some ce.cls := by rw [c5] at z3; exact z3
        have hp9 : ∀ z ∈ ([⟨0, 6, 7, 28⟩] : List ExceptionTableEntry), covers z 3 = false ∨ (z.catchType ≠ 0 ∧ ∃ nm : String, (Cond.classLink RL z.catchType nm).before args s = true ∧ va_Nc "java/util/NoSuchElementException" nm s) := by
          intro z hz
          rcases List.mem_cons.mp hz with rfl | hz
          · exact Or.inr ⟨by decide, _, (hL9.link (List.mem_of_getElem? (i := 2) rfl)), hL9.1.2.2.2⟩
          exact absurd hz List.not_mem_nil
        refine vx_catch (own := RL) (name := "java/util/NoSuchElementException") (E := "java/util/NoSuchElementException") hfc [⟨0, 6, 7, 28⟩] ⟨0, 6, 11, 84⟩ [] hT9 hp9 rfl (by decide) (hL9.link (List.mem_of_getElem? (i := 3) rfl)) ((hEV.1.2.2.2.2 "java/util/NoSuchElementException" (by decide +kernel)).use rfl) z1 z2 z4 ?_
        refine W.cs (cells' := 3) (slots' := 18) rfl rfl ?_
        refine lv_astore_n hx hb dL_conjunctionIn_11 rfl hl (Nat.le_of_ble_eq_true rfl) rfl (fun ls hl => ?_)
        have hl : lv_has ls 4 [(3, .ref q9), (0, .ref z0), (1, .int x1), (2, .int x2)] := hl
        refine lv_bipush (v := (-13)) hx hb dL_conjunctionIn_12 (by decide) ?_
        have h := Option.some.inj h
        subst h
        refine W.widen (k := 3) (n := 18) (Nat.le_of_ble_eq_true rfl) (Nat.le_of_ble_eq_true rfl) ?_
        exact hend (adr []) _ _ _ _ _ _ _ rfl rfl (rtn_i _) hP hD hS dL_conjunctionIn_14
      · have h := ite_f c5 h
        exact nn h

noncomputable def SL_eclipseIn (f : Nat → Int32) (x1 : Int32) : Option (Int32) := lt_ (SX5_eclipseIn f x1) (fun o1 : Nat × Int32 => if o1.1 = 0 then (some (o1.2)) else (if o1.1 = 3 then (some ((-11))) else (if o1.1 = 4 then (some ((-13))) else (none))))
abbrev RM_L_eclipseIn : Room := { frames := 8, cells := 2, slots := 12, locals := 124 }
set_option maxHeartbeats 4000000 in
theorem kL_eclipseIn (l : Launch) (hst : l.stackTraces = false) (D : va_G) (cA : Nat → ClassId) (G : eG) (z0 a0 b0 h0 s0 l0 e0 k0 a1 a2 : Nat) (u7 : Int32) (u8 : Int32) (u9 : Int32) (f : Nat → Int32) (x1 : Int32) {r : Int32} (hr : SL_eclipseIn f x1 = some r) {sz : Nat} : Met l yL_eclipseIn wsL_eclipseIn RM_L_eclipseIn (va_Pc [.ref z0, .int x1] (gqLB G D cA [(z0, .inr (9, [.ref a0, .ref b0, .ref h0, .ref s0, .ref l0, .ref e0, .ref k0, .int u7, .int u8, .int u9])), (a0, .inr (8, [.ref a1])), (a1, .inr (6, [.ref a2])), (a2, .inl (cA 0, 61, .inl f))] sz)) (gqQ D (fun as => (some (.int r))) (fun as => [(z0, .inr (9, [.ref a0, .ref b0, .ref h0, .ref s0, .ref l0, .ref e0, .ref k0, .int u7, .int u8, .int u9])), (a0, .inr (8, [.ref a1])), (a1, .inr (6, [.ref a2])), (a2, .inl (cA 0, 61, .inl f))]) (va_A [(z0, .inr (9, [.ref a0, .ref b0, .ref h0, .ref s0, .ref l0, .ref e0, .ref k0, .int u7, .int u8, .int u9])), (a0, .inr (8, [.ref a1])), (a1, .inr (6, [.ref a2])), (a2, .inl (cA 0, 61, .inl f))] sz)) 2 12 (va_A [(z0, .inr (9, [.ref a0, .ref b0, .ref h0, .ref s0, .ref l0, .ref e0, .ref k0, .int u7, .int u8, .int u9])), (a0, .inr (8, [.ref a1])), (a1, .inr (6, [.ref a2])), (a2, .inl (cA 0, 61, .inl f))] sz) := by
  refine gqL_ofW (hh := [(0, 5, 6, 28), (0, 5, 10, 84)]) (cc := cL_eclipseIn) (maxL := 3) (ret := (some .int)) (by decide) rfl (Nat.le_of_ble_eq_true rfl) (fun p e s m args below meth c ls Q A hx hb hml hT9 hts hfc hK hP hD hS hA hEV hL9 hl hend => ?_)
  have hfc : s.vm.findClass RL = some m.cls := hfc
  have hl : lv_has ls 3 [(0, .ref z0), (1, .int x1)] := hl
  have h := hr
  clear hr
  unfold SL_eclipseIn at h
  refine lv_aload_n hx hb dL_eclipseIn_0 rfl (lv_at hl 0 rfl) ?_
  refine lv_iload_n hx hb dL_eclipseIn_1 rfl (lv_at hl 1 rfl) ?_
  obtain ⟨o1, ho1, h⟩ := lt_i h
  refine xq_V (G := G) (v := (fun as => (some (.int o1.2)))) (As := [.int x1]) (rest := []) (wc := [(z0, .inr (9, [.ref a0, .ref b0, .ref h0, .ref s0, .ref l0, .ref e0, .ref k0, .int u7, .int u8, .int u9])), (a0, .inr (8, [.ref a1])), (a1, .inr (6, [.ref a2])), (a2, .inl (cA 0, 61, .inl f))]) (wr := []) (w1 := (fun as => [(z0, .inr (9, [.ref a0, .ref b0, .ref h0, .ref s0, .ref l0, .ref e0, .ref k0, .int u7, .int u8, .int u9])), (a0, .inr (8, [.ref a1])), (a1, .inr (6, [.ref a2])), (a2, .inl (cA 0, 61, .inl f))])) (ws2 := (fun as => [(z0, .inr (9, [.ref a0, .ref b0, .ref h0, .ref s0, .ref l0, .ref e0, .ref k0, .int u7, .int u8, .int u9])), (a0, .inr (8, [.ref a1])), (a1, .inr (6, [.ref a2])), (a2, .inl (cA 0, 61, .inl f))])) (st1 := (fun as => [.int o1.2])) ⟨hx, hb, hml, hfc, hts⟩ hK hP hD hS hA hEV (kX5_eclipseIn l hst D cA G z0 a0 b0 h0 s0 l0 e0 k0 a1 a2 u7 u8 u9 f x1 ho1) (cwV 1 hts gL_eclipseIn_X5_eclipseIn rfl rfl rfl (by decide +kernel) ⟨(Nat.le_of_ble_eq_true rfl), (Nat.le_of_ble_eq_true rfl)⟩) [0, 1, 2, 3] [] [0, 1, 2, 3] rfl rfl rfl rfl (by decide) (fun _ => rfl) rfl 0 9 rfl rfl rfl rfl (fun _ => rfl) rfl hl.1 (Nat.le_of_ble_eq_true rfl) dL_eclipseIn_2 ⟨(Nat.le_of_ble_eq_true rfl), (Nat.le_of_ble_eq_true rfl)⟩ (fun c3 as2 H locs hP hD hS => ?_) (fun c3 as2 H locs q9 ce hP hD hS z1 z2 z3 => ?_)
  · have h := ite_t c3 h
    have hP : va_P D vwCl [(z0, .inr (9, [.ref a0, .ref b0, .ref h0, .ref s0, .ref l0, .ref e0, .ref k0, .int u7, .int u8, .int u9])), (a0, .inr (8, [.ref a1])), (a1, .inr (6, [.ref a2])), (a2, .inl (cA 0, 61, .inl f))] H := hP
    have hD : va_D A [(z0, .inr (9, [.ref a0, .ref b0, .ref h0, .ref s0, .ref l0, .ref e0, .ref k0, .int u7, .int u8, .int u9])), (a0, .inr (8, [.ref a1])), (a1, .inr (6, [.ref a2])), (a2, .inl (cA 0, 61, .inl f))] := hD
    refine W.cs (cells' := 2) (slots' := 12) rfl rfl ?_
    have h := Option.some.inj h
    subst h
    refine W.widen (k := 2) (n := 12) (Nat.le_of_ble_eq_true rfl) (Nat.le_of_ble_eq_true rfl) ?_
    exact hend (adr []) _ _ _ _ _ _ _ rfl rfl (rtn_i _) hP hD hS dL_eclipseIn_5
  · have h := ite_f c3 h
    have hP : va_P D vwCl [(z0, .inr (9, [.ref a0, .ref b0, .ref h0, .ref s0, .ref l0, .ref e0, .ref k0, .int u7, .int u8, .int u9])), (a0, .inr (8, [.ref a1])), (a1, .inr (6, [.ref a2])), (a2, .inl (cA 0, 61, .inl f))] H := hP
    have hD : va_D A [(z0, .inr (9, [.ref a0, .ref b0, .ref h0, .ref s0, .ref l0, .ref e0, .ref k0, .int u7, .int u8, .int u9])), (a0, .inr (8, [.ref a1])), (a1, .inr (6, [.ref a2])), (a2, .inl (cA 0, 61, .inl f))] := hD
    by_cases c4 : o1.1 = 3
    · have h := ite_t c4 h
      have z4 : s.vm.findClass "java/lang/IndexOutOfBoundsException" = some ce.cls := by rw [c4] at z3; exact z3
      refine vx_catch (own := RL) (name := "java/lang/IndexOutOfBoundsException") (E := "java/lang/IndexOutOfBoundsException") hfc [] ⟨0, 5, 6, 28⟩ [⟨0, 5, 10, 84⟩] hT9 (fun z hz => absurd hz List.not_mem_nil) rfl (by decide) (hL9.link (List.mem_of_getElem? (i := 2) rfl)) ((hEV.1.2.2.2.2 "java/lang/IndexOutOfBoundsException" (by decide +kernel)).use rfl) z1 z2 z4 ?_
      refine W.cs (cells' := 2) (slots' := 12) rfl rfl ?_
      refine lv_astore_n hx hb dL_eclipseIn_6 rfl hl (Nat.le_of_ble_eq_true rfl) rfl (fun ls hl => ?_)
      have hl : lv_has ls 3 [(2, .ref q9), (0, .ref z0), (1, .int x1)] := hl
      refine lv_bipush (v := (-11)) hx hb dL_eclipseIn_7 (by decide) ?_
      have h := Option.some.inj h
      subst h
      refine W.widen (k := 2) (n := 12) (Nat.le_of_ble_eq_true rfl) (Nat.le_of_ble_eq_true rfl) ?_
      exact hend (adr []) _ _ _ _ _ _ _ rfl rfl (rtn_i _) hP hD hS dL_eclipseIn_9
    · have h := ite_f c4 h
      by_cases c5 : o1.1 = 4
      · have h := ite_t c5 h
        have z4 : s.vm.findClass "java/util/NoSuchElementException" = some ce.cls := by rw [c5] at z3; exact z3
        have hp9 : ∀ z ∈ ([⟨0, 5, 6, 28⟩] : List ExceptionTableEntry), covers z 2 = false ∨ (z.catchType ≠ 0 ∧ ∃ nm : String, (Cond.classLink RL z.catchType nm).before args s = true ∧ va_Nc "java/util/NoSuchElementException" nm s) := by
          intro z hz
          rcases List.mem_cons.mp hz with rfl | hz
          · exact Or.inr ⟨by decide, _, (hL9.link (List.mem_of_getElem? (i := 2) rfl)), hL9.1.2.2.2⟩
          exact absurd hz List.not_mem_nil
        refine vx_catch (own := RL) (name := "java/util/NoSuchElementException") (E := "java/util/NoSuchElementException") hfc [⟨0, 5, 6, 28⟩] ⟨0, 5, 10, 84⟩ [] hT9 hp9 rfl (by decide) (hL9.link (List.mem_of_getElem? (i := 3) rfl)) ((hEV.1.2.2.2.2 "java/util/NoSuchElementException" (by decide +kernel)).use rfl) z1 z2 z4 ?_
        refine W.cs (cells' := 2) (slots' := 12) rfl rfl ?_
        refine lv_astore_n hx hb dL_eclipseIn_10 rfl hl (Nat.le_of_ble_eq_true rfl) rfl (fun ls hl => ?_)
        have hl : lv_has ls 3 [(2, .ref q9), (0, .ref z0), (1, .int x1)] := hl
        refine lv_bipush (v := (-13)) hx hb dL_eclipseIn_11 (by decide) ?_
        have h := Option.some.inj h
        subst h
        refine W.widen (k := 2) (n := 12) (Nat.le_of_ble_eq_true rfl) (Nat.le_of_ble_eq_true rfl) ?_
        exact hend (adr []) _ _ _ _ _ _ _ rfl rfl (rtn_i _) hP hD hS dL_eclipseIn_13
      · have h := ite_f c5 h
        exact nn h

noncomputable def SL_executes (N : Nat) (u8 : Int32) (u9 : Int32) (f : Nat → Int32) (v1 : Int32) (v2 : Int32) (g : Nat → Int32) (w3 : Int32) (n : Nat) (tf : Nat → Int32) (ml : Int32) (c0 : Int32) (cm : Nat → Int32) (bf : Nat → Int32) : Option (Int32 × Int32 × Int32 × (Nat → Int32) × Int32 × Int32 × (Nat → Int32) × Int32 × Int32 × Int32 × Int32 × Int32 × (Nat → Int32) × Nat × (Nat → Int32) × (Nat → Int32)) := bnd (SX5_execute N u8 u9 f v1 v2 g w3 n tf ml c0 cm bf) (fun o1 : Nat × Int32 × Int32 × Int32 × (Nat → Int32) × Int32 × Int32 × (Nat → Int32) × Int32 × Int32 × Int32 × Int32 × Int32 × (Nat → Int32) × Nat × (Nat → Int32) × (Nat → Int32) => if o1.1 = 0 then (some ((o1.2.1, o1.2.2.1, o1.2.2.2.1, o1.2.2.2.2.1, o1.2.2.2.2.2.1, o1.2.2.2.2.2.2.1, o1.2.2.2.2.2.2.2.1, o1.2.2.2.2.2.2.2.2.1, o1.2.2.2.2.2.2.2.2.2.1, o1.2.2.2.2.2.2.2.2.2.2.1, o1.2.2.2.2.2.2.2.2.2.2.2.1, o1.2.2.2.2.2.2.2.2.2.2.2.2.1, o1.2.2.2.2.2.2.2.2.2.2.2.2.2.1, o1.2.2.2.2.2.2.2.2.2.2.2.2.2.2.1, o1.2.2.2.2.2.2.2.2.2.2.2.2.2.2.2.1, o1.2.2.2.2.2.2.2.2.2.2.2.2.2.2.2.2))) else (if o1.1 = 1 then (some (((-1), o1.2.2.1, o1.2.2.2.1, o1.2.2.2.2.1, o1.2.2.2.2.2.1, o1.2.2.2.2.2.2.1, o1.2.2.2.2.2.2.2.1, o1.2.2.2.2.2.2.2.2.1, o1.2.2.2.2.2.2.2.2.2.1, o1.2.2.2.2.2.2.2.2.2.2.1, o1.2.2.2.2.2.2.2.2.2.2.2.1, o1.2.2.2.2.2.2.2.2.2.2.2.2.1, o1.2.2.2.2.2.2.2.2.2.2.2.2.2.1, o1.2.2.2.2.2.2.2.2.2.2.2.2.2.2.1, o1.2.2.2.2.2.2.2.2.2.2.2.2.2.2.2.1, o1.2.2.2.2.2.2.2.2.2.2.2.2.2.2.2.2))) else (if o1.1 = 2 then (some (((-2), o1.2.2.1, o1.2.2.2.1, o1.2.2.2.2.1, o1.2.2.2.2.2.1, o1.2.2.2.2.2.2.1, o1.2.2.2.2.2.2.2.1, o1.2.2.2.2.2.2.2.2.1, o1.2.2.2.2.2.2.2.2.2.1, o1.2.2.2.2.2.2.2.2.2.2.1, o1.2.2.2.2.2.2.2.2.2.2.2.1, o1.2.2.2.2.2.2.2.2.2.2.2.2.1, o1.2.2.2.2.2.2.2.2.2.2.2.2.2.1, o1.2.2.2.2.2.2.2.2.2.2.2.2.2.2.1, o1.2.2.2.2.2.2.2.2.2.2.2.2.2.2.2.1, o1.2.2.2.2.2.2.2.2.2.2.2.2.2.2.2.2))) else (none))))
abbrev RM_L_executes : Room := { frames := 10, cells := 2, slots := 174, locals := 223 }
set_option maxHeartbeats 4000000 in
theorem kL_executes (l : Launch) (hst : l.stackTraces = false) (D : va_G) (cA : Nat → ClassId) (G : eG) (z0 a0 b0 h0 s0 l0 e0 k0 a1 a2 h1 h2 t0 m0 t1 m1 e1 : Nat) (N : Nat) (u7 : Int32) (u8 : Int32) (u9 : Int32) (f : Nat → Int32) (v1 : Int32) (v2 : Int32) (g : Nat → Int32) (w1 : Int32) (w2 : Int32) (w3 : Int32) (n : Nat) (tf : Nat → Int32) (ml : Int32) (c0 : Int32) (cm : Nat → Int32) (bf : Nat → Int32) {r : Int32 × Int32 × Int32 × (Nat → Int32) × Int32 × Int32 × (Nat → Int32) × Int32 × Int32 × Int32 × Int32 × Int32 × (Nat → Int32) × Nat × (Nat → Int32) × (Nat → Int32)} (hr : SL_executes N u8 u9 f v1 v2 g w3 n tf ml c0 cm bf = some r) {sz : Nat} : Met l yL_executes wsL_executes RM_L_executes (va_Pc [.ref z0] (gqLB G D cA [(z0, .inr (9, [.ref a0, .ref b0, .ref h0, .ref s0, .ref l0, .ref e0, .ref k0, .int u7, .int u8, .int u9])), (a0, .inr (8, [.ref a1])), (a1, .inr (6, [.ref a2])), (a2, .inl (cA 0, 61, .inl f)), (h0, .inr (5, [.ref h1, .int v1, .int v2])), (h1, .inr (6, [.ref h2])), (h2, .inl (cA 0, 488, .inl g)), (s0, .inr (7, [.ref t0, .ref m0, .int w1, .int w2, .int w3])), (t0, .inr (1, [.ref t1, .int 0, .int ml, .int c0])), (t1, .inl (cA 1, n, .inl tf)), (m0, .inr (6, [.ref m1])), (m1, .inl (cA 0, 60, .inl cm)), (e0, .inr (6, [.ref e1])), (e1, .inl (cA 0, 61, .inl bf))] sz)) (gqQ D (fun as => (some (.int r.1))) (fun as => [(z0, .inr (9, [.ref a0, .ref b0, .ref h0, .ref s0, .ref l0, .ref e0, .ref k0, .int u7, .int r.2.1, .int r.2.2.1])), (a0, .inr (8, [.ref a1])), (a1, .inr (6, [.ref a2])), (a2, .inl (cA 0, 61, .inl r.2.2.2.1)), (h0, .inr (5, [.ref h1, .int r.2.2.2.2.1, .int r.2.2.2.2.2.1])), (h1, .inr (6, [.ref h2])), (h2, .inl (cA 0, 488, .inl r.2.2.2.2.2.2.1)), (s0, .inr (7, [.ref t0, .ref m0, .int r.2.2.2.2.2.2.2.1, .int r.2.2.2.2.2.2.2.2.1, .int r.2.2.2.2.2.2.2.2.2.1])), (t0, .inr (1, [.ref (as 0), .int 0, .int r.2.2.2.2.2.2.2.2.2.2.1, .int r.2.2.2.2.2.2.2.2.2.2.2.1])), ((as 0), .inl (cA 1, r.2.2.2.2.2.2.2.2.2.2.2.2.2.1, .inl r.2.2.2.2.2.2.2.2.2.2.2.2.1)), (m0, .inr (6, [.ref m1])), (m1, .inl (cA 0, 60, .inl r.2.2.2.2.2.2.2.2.2.2.2.2.2.2.1)), (e0, .inr (6, [.ref e1])), (e1, .inl (cA 0, 61, .inl r.2.2.2.2.2.2.2.2.2.2.2.2.2.2.2))]) (va_A [(z0, .inr (9, [.ref a0, .ref b0, .ref h0, .ref s0, .ref l0, .ref e0, .ref k0, .int u7, .int u8, .int u9])), (a0, .inr (8, [.ref a1])), (a1, .inr (6, [.ref a2])), (a2, .inl (cA 0, 61, .inl f)), (h0, .inr (5, [.ref h1, .int v1, .int v2])), (h1, .inr (6, [.ref h2])), (h2, .inl (cA 0, 488, .inl g)), (s0, .inr (7, [.ref t0, .ref m0, .int w1, .int w2, .int w3])), (t0, .inr (1, [.ref t1, .int 0, .int ml, .int c0])), (t1, .inl (cA 1, n, .inl tf)), (m0, .inr (6, [.ref m1])), (m1, .inl (cA 0, 60, .inl cm)), (e0, .inr (6, [.ref e1])), (e1, .inl (cA 0, 61, .inl bf))] sz)) 2 174 (va_A [(z0, .inr (9, [.ref a0, .ref b0, .ref h0, .ref s0, .ref l0, .ref e0, .ref k0, .int u7, .int u8, .int u9])), (a0, .inr (8, [.ref a1])), (a1, .inr (6, [.ref a2])), (a2, .inl (cA 0, 61, .inl f)), (h0, .inr (5, [.ref h1, .int v1, .int v2])), (h1, .inr (6, [.ref h2])), (h2, .inl (cA 0, 488, .inl g)), (s0, .inr (7, [.ref t0, .ref m0, .int w1, .int w2, .int w3])), (t0, .inr (1, [.ref t1, .int 0, .int ml, .int c0])), (t1, .inl (cA 1, n, .inl tf)), (m0, .inr (6, [.ref m1])), (m1, .inl (cA 0, 60, .inl cm)), (e0, .inr (6, [.ref e1])), (e1, .inl (cA 0, 61, .inl bf))] sz) := by
  refine gqL_ofW (hh := [(0, 4, 5, 14), (0, 4, 8, 16)]) (cc := cL_executes) (maxL := 2) (ret := (some .int)) (by decide) rfl (Nat.le_of_ble_eq_true rfl) (fun p e s m args below meth c ls Q A hx hb hml hT9 hts hfc hK hP hD hS hA hEV hL9 hl hend => ?_)
  have hfc : s.vm.findClass RL = some m.cls := hfc
  have hl : lv_has ls 2 [(0, .ref z0)] := hl
  have h := hr
  clear hr
  unfold SL_executes at h
  refine lv_aload_n hx hb dL_executes_0 rfl (lv_at hl 0 rfl) ?_
  obtain ⟨o1, ho1, h⟩ := bnd_i h
  refine xq_V (G := G) (v := (fun as => (some (.int o1.2.1)))) (As := []) (rest := []) (wc := [(z0, .inr (9, [.ref a0, .ref b0, .ref h0, .ref s0, .ref l0, .ref e0, .ref k0, .int u7, .int u8, .int u9])), (a0, .inr (8, [.ref a1])), (a1, .inr (6, [.ref a2])), (a2, .inl (cA 0, 61, .inl f)), (h0, .inr (5, [.ref h1, .int v1, .int v2])), (h1, .inr (6, [.ref h2])), (h2, .inl (cA 0, 488, .inl g)), (s0, .inr (7, [.ref t0, .ref m0, .int w1, .int w2, .int w3])), (t0, .inr (1, [.ref t1, .int 0, .int ml, .int c0])), (t1, .inl (cA 1, n, .inl tf)), (m0, .inr (6, [.ref m1])), (m1, .inl (cA 0, 60, .inl cm)), (e0, .inr (6, [.ref e1])), (e1, .inl (cA 0, 61, .inl bf))]) (wr := []) (w1 := (fun as => [(z0, .inr (9, [.ref a0, .ref b0, .ref h0, .ref s0, .ref l0, .ref e0, .ref k0, .int u7, .int o1.2.2.1, .int o1.2.2.2.1])), (a0, .inr (8, [.ref a1])), (a1, .inr (6, [.ref a2])), (a2, .inl (cA 0, 61, .inl o1.2.2.2.2.1)), (h0, .inr (5, [.ref h1, .int o1.2.2.2.2.2.1, .int o1.2.2.2.2.2.2.1])), (h1, .inr (6, [.ref h2])), (h2, .inl (cA 0, 488, .inl o1.2.2.2.2.2.2.2.1)), (s0, .inr (7, [.ref t0, .ref m0, .int o1.2.2.2.2.2.2.2.2.1, .int o1.2.2.2.2.2.2.2.2.2.1, .int o1.2.2.2.2.2.2.2.2.2.2.1])), (t0, .inr (1, [.ref (as 0), .int 0, .int o1.2.2.2.2.2.2.2.2.2.2.2.1, .int o1.2.2.2.2.2.2.2.2.2.2.2.2.1])), ((as 0), .inl (cA 1, o1.2.2.2.2.2.2.2.2.2.2.2.2.2.2.1, .inl o1.2.2.2.2.2.2.2.2.2.2.2.2.2.1)), (m0, .inr (6, [.ref m1])), (m1, .inl (cA 0, 60, .inl o1.2.2.2.2.2.2.2.2.2.2.2.2.2.2.2.1)), (e0, .inr (6, [.ref e1])), (e1, .inl (cA 0, 61, .inl o1.2.2.2.2.2.2.2.2.2.2.2.2.2.2.2.2))])) (ws2 := (fun as => [(z0, .inr (9, [.ref a0, .ref b0, .ref h0, .ref s0, .ref l0, .ref e0, .ref k0, .int u7, .int o1.2.2.1, .int o1.2.2.2.1])), (a0, .inr (8, [.ref a1])), (a1, .inr (6, [.ref a2])), (a2, .inl (cA 0, 61, .inl o1.2.2.2.2.1)), (h0, .inr (5, [.ref h1, .int o1.2.2.2.2.2.1, .int o1.2.2.2.2.2.2.1])), (h1, .inr (6, [.ref h2])), (h2, .inl (cA 0, 488, .inl o1.2.2.2.2.2.2.2.1)), (s0, .inr (7, [.ref t0, .ref m0, .int o1.2.2.2.2.2.2.2.2.1, .int o1.2.2.2.2.2.2.2.2.2.1, .int o1.2.2.2.2.2.2.2.2.2.2.1])), (t0, .inr (1, [.ref (as 0), .int 0, .int o1.2.2.2.2.2.2.2.2.2.2.2.1, .int o1.2.2.2.2.2.2.2.2.2.2.2.2.1])), ((as 0), .inl (cA 1, o1.2.2.2.2.2.2.2.2.2.2.2.2.2.2.1, .inl o1.2.2.2.2.2.2.2.2.2.2.2.2.2.1)), (m0, .inr (6, [.ref m1])), (m1, .inl (cA 0, 60, .inl o1.2.2.2.2.2.2.2.2.2.2.2.2.2.2.2.1)), (e0, .inr (6, [.ref e1])), (e1, .inl (cA 0, 61, .inl o1.2.2.2.2.2.2.2.2.2.2.2.2.2.2.2.2))])) (st1 := (fun as => [.int o1.2.1])) ⟨hx, hb, hml, hfc, hts⟩ hK hP hD hS hA hEV (kX5_execute l hst D cA G z0 a0 b0 h0 s0 l0 e0 k0 a1 a2 h1 h2 t0 m0 t1 m1 e1 N u7 u8 u9 f v1 v2 g w1 w2 w3 n tf ml c0 cm bf ho1) (cwV 0 hts gL_executes_X5_execute rfl rfl rfl (by decide +kernel) ⟨(Nat.le_of_ble_eq_true rfl), (Nat.le_of_ble_eq_true rfl)⟩) [0, 1, 2, 3, 4, 5, 6, 7, 8, 9, 10, 11, 12, 13] [] [0, 1, 2, 3, 4, 5, 6, 7, 8, 9, 10, 11, 12, 13] rfl rfl rfl rfl (by decide) (fun _ => rfl) rfl 0 9 rfl rfl rfl rfl (fun _ => rfl) rfl hl.1 (Nat.le_of_ble_eq_true rfl) dL_executes_1 ⟨(Nat.le_of_ble_eq_true rfl), (Nat.le_of_ble_eq_true rfl)⟩ (fun c3 as2 H locs hP hD hS => ?_) (fun c3 as2 H locs q9 ce hP hD hS z1 z2 z3 => ?_)
  · have h := ite_t c3 h
    have hP : va_P D vwCl [(z0, .inr (9, [.ref a0, .ref b0, .ref h0, .ref s0, .ref l0, .ref e0, .ref k0, .int u7, .int o1.2.2.1, .int o1.2.2.2.1])), (a0, .inr (8, [.ref a1])), (a1, .inr (6, [.ref a2])), (a2, .inl (cA 0, 61, .inl o1.2.2.2.2.1)), (h0, .inr (5, [.ref h1, .int o1.2.2.2.2.2.1, .int o1.2.2.2.2.2.2.1])), (h1, .inr (6, [.ref h2])), (h2, .inl (cA 0, 488, .inl o1.2.2.2.2.2.2.2.1)), (s0, .inr (7, [.ref t0, .ref m0, .int o1.2.2.2.2.2.2.2.2.1, .int o1.2.2.2.2.2.2.2.2.2.1, .int o1.2.2.2.2.2.2.2.2.2.2.1])), (t0, .inr (1, [.ref (as2 0), .int 0, .int o1.2.2.2.2.2.2.2.2.2.2.2.1, .int o1.2.2.2.2.2.2.2.2.2.2.2.2.1])), ((as2 0), .inl (cA 1, o1.2.2.2.2.2.2.2.2.2.2.2.2.2.2.1, .inl o1.2.2.2.2.2.2.2.2.2.2.2.2.2.1)), (m0, .inr (6, [.ref m1])), (m1, .inl (cA 0, 60, .inl o1.2.2.2.2.2.2.2.2.2.2.2.2.2.2.2.1)), (e0, .inr (6, [.ref e1])), (e1, .inl (cA 0, 61, .inl o1.2.2.2.2.2.2.2.2.2.2.2.2.2.2.2.2))] H := hP
    have hD : va_D A [(z0, .inr (9, [.ref a0, .ref b0, .ref h0, .ref s0, .ref l0, .ref e0, .ref k0, .int u7, .int o1.2.2.1, .int o1.2.2.2.1])), (a0, .inr (8, [.ref a1])), (a1, .inr (6, [.ref a2])), (a2, .inl (cA 0, 61, .inl o1.2.2.2.2.1)), (h0, .inr (5, [.ref h1, .int o1.2.2.2.2.2.1, .int o1.2.2.2.2.2.2.1])), (h1, .inr (6, [.ref h2])), (h2, .inl (cA 0, 488, .inl o1.2.2.2.2.2.2.2.1)), (s0, .inr (7, [.ref t0, .ref m0, .int o1.2.2.2.2.2.2.2.2.1, .int o1.2.2.2.2.2.2.2.2.2.1, .int o1.2.2.2.2.2.2.2.2.2.2.1])), (t0, .inr (1, [.ref (as2 0), .int 0, .int o1.2.2.2.2.2.2.2.2.2.2.2.1, .int o1.2.2.2.2.2.2.2.2.2.2.2.2.1])), ((as2 0), .inl (cA 1, o1.2.2.2.2.2.2.2.2.2.2.2.2.2.2.1, .inl o1.2.2.2.2.2.2.2.2.2.2.2.2.2.1)), (m0, .inr (6, [.ref m1])), (m1, .inl (cA 0, 60, .inl o1.2.2.2.2.2.2.2.2.2.2.2.2.2.2.2.1)), (e0, .inr (6, [.ref e1])), (e1, .inl (cA 0, 61, .inl o1.2.2.2.2.2.2.2.2.2.2.2.2.2.2.2.2))] := hD
    refine W.cs (cells' := 2) (slots' := 174) rfl rfl ?_
    have h := Option.some.inj h
    subst h
    refine W.widen (k := 2) (n := 174) (Nat.le_of_ble_eq_true rfl) (Nat.le_of_ble_eq_true rfl) ?_
    exact hend (adr [(as2 0)]) _ _ _ _ _ _ _ rfl rfl (rtn_i _) hP hD hS dL_executes_4
  · have h := ite_f c3 h
    have hP : va_P D vwCl [(z0, .inr (9, [.ref a0, .ref b0, .ref h0, .ref s0, .ref l0, .ref e0, .ref k0, .int u7, .int o1.2.2.1, .int o1.2.2.2.1])), (a0, .inr (8, [.ref a1])), (a1, .inr (6, [.ref a2])), (a2, .inl (cA 0, 61, .inl o1.2.2.2.2.1)), (h0, .inr (5, [.ref h1, .int o1.2.2.2.2.2.1, .int o1.2.2.2.2.2.2.1])), (h1, .inr (6, [.ref h2])), (h2, .inl (cA 0, 488, .inl o1.2.2.2.2.2.2.2.1)), (s0, .inr (7, [.ref t0, .ref m0, .int o1.2.2.2.2.2.2.2.2.1, .int o1.2.2.2.2.2.2.2.2.2.1, .int o1.2.2.2.2.2.2.2.2.2.2.1])), (t0, .inr (1, [.ref (as2 0), .int 0, .int o1.2.2.2.2.2.2.2.2.2.2.2.1, .int o1.2.2.2.2.2.2.2.2.2.2.2.2.1])), ((as2 0), .inl (cA 1, o1.2.2.2.2.2.2.2.2.2.2.2.2.2.2.1, .inl o1.2.2.2.2.2.2.2.2.2.2.2.2.2.1)), (m0, .inr (6, [.ref m1])), (m1, .inl (cA 0, 60, .inl o1.2.2.2.2.2.2.2.2.2.2.2.2.2.2.2.1)), (e0, .inr (6, [.ref e1])), (e1, .inl (cA 0, 61, .inl o1.2.2.2.2.2.2.2.2.2.2.2.2.2.2.2.2))] H := hP
    have hD : va_D A [(z0, .inr (9, [.ref a0, .ref b0, .ref h0, .ref s0, .ref l0, .ref e0, .ref k0, .int u7, .int o1.2.2.1, .int o1.2.2.2.1])), (a0, .inr (8, [.ref a1])), (a1, .inr (6, [.ref a2])), (a2, .inl (cA 0, 61, .inl o1.2.2.2.2.1)), (h0, .inr (5, [.ref h1, .int o1.2.2.2.2.2.1, .int o1.2.2.2.2.2.2.1])), (h1, .inr (6, [.ref h2])), (h2, .inl (cA 0, 488, .inl o1.2.2.2.2.2.2.2.1)), (s0, .inr (7, [.ref t0, .ref m0, .int o1.2.2.2.2.2.2.2.2.1, .int o1.2.2.2.2.2.2.2.2.2.1, .int o1.2.2.2.2.2.2.2.2.2.2.1])), (t0, .inr (1, [.ref (as2 0), .int 0, .int o1.2.2.2.2.2.2.2.2.2.2.2.1, .int o1.2.2.2.2.2.2.2.2.2.2.2.2.1])), ((as2 0), .inl (cA 1, o1.2.2.2.2.2.2.2.2.2.2.2.2.2.2.1, .inl o1.2.2.2.2.2.2.2.2.2.2.2.2.2.1)), (m0, .inr (6, [.ref m1])), (m1, .inl (cA 0, 60, .inl o1.2.2.2.2.2.2.2.2.2.2.2.2.2.2.2.1)), (e0, .inr (6, [.ref e1])), (e1, .inl (cA 0, 61, .inl o1.2.2.2.2.2.2.2.2.2.2.2.2.2.2.2.2))] := hD
    by_cases c4 : o1.1 = 1
    · have h := ite_t c4 h
      have z4 : s.vm.findClass "java/lang/IllegalArgumentException" = some ce.cls := by rw [c4] at z3; exact z3
      refine vx_catch (own := RL) (name := "java/lang/IllegalArgumentException") (E := "java/lang/IllegalArgumentException") hfc [] ⟨0, 4, 5, 14⟩ [⟨0, 4, 8, 16⟩] hT9 (fun z hz => absurd hz List.not_mem_nil) rfl (by decide) (hL9.link (List.mem_of_getElem? (i := 0) rfl)) ((hEV.1.2.2.2.2 "java/lang/IllegalArgumentException" (by decide +kernel)).use rfl) z1 z2 z4 ?_
      refine W.cs (cells' := 2) (slots' := 174) rfl rfl ?_
      refine lv_astore_n hx hb dL_executes_5 rfl hl (Nat.le_of_ble_eq_true rfl) rfl (fun ls hl => ?_)
      have hl : lv_has ls 2 [(1, .ref q9), (0, .ref z0)] := hl
      refine lv_iconst (v := (-1)) hx hb dL_executes_6 (by decide) ?_
      have h := Option.some.inj h
      subst h
      refine W.widen (k := 2) (n := 174) (Nat.le_of_ble_eq_true rfl) (Nat.le_of_ble_eq_true rfl) ?_
      exact hend (adr [(as2 0)]) _ _ _ _ _ _ _ rfl rfl (rtn_i _) hP hD hS dL_executes_7
    · have h := ite_f c4 h
      by_cases c5 : o1.1 = 2
      · have h := ite_t c5 h
        have z4 : s.vm.findClass "java/lang/IllegalStateException" = some ce.cls := by rw [c5] at z3; exact z3
        have hp9 : ∀ z ∈ ([⟨0, 4, 5, 14⟩] : List ExceptionTableEntry), covers z 1 = false ∨ (z.catchType ≠ 0 ∧ ∃ nm : String, (Cond.classLink RL z.catchType nm).before args s = true ∧ va_Nc "java/lang/IllegalStateException" nm s) := by
          intro z hz
          rcases List.mem_cons.mp hz with rfl | hz
          · exact Or.inr ⟨by decide, _, (hL9.link (List.mem_of_getElem? (i := 0) rfl)), hL9.1.1⟩
          exact absurd hz List.not_mem_nil
        refine vx_catch (own := RL) (name := "java/lang/IllegalStateException") (E := "java/lang/IllegalStateException") hfc [⟨0, 4, 5, 14⟩] ⟨0, 4, 8, 16⟩ [] hT9 hp9 rfl (by decide) (hL9.link (List.mem_of_getElem? (i := 1) rfl)) ((hEV.1.2.2.2.2 "java/lang/IllegalStateException" (by decide +kernel)).use rfl) z1 z2 z4 ?_
        refine W.cs (cells' := 2) (slots' := 174) rfl rfl ?_
        refine lv_astore_n hx hb dL_executes_8 rfl hl (Nat.le_of_ble_eq_true rfl) rfl (fun ls hl => ?_)
        have hl : lv_has ls 2 [(1, .ref q9), (0, .ref z0)] := hl
        refine lv_bipush (v := (-2)) hx hb dL_executes_9 (by decide) ?_
        have h := Option.some.inj h
        subst h
        refine W.widen (k := 2) (n := 174) (Nat.le_of_ble_eq_true rfl) (Nat.le_of_ble_eq_true rfl) ?_
        exact hend (adr [(as2 0)]) _ _ _ _ _ _ _ rfl rfl (rtn_i _) hP hD hS dL_executes_11
      · have h := ite_f c5 h
        exact nn h

noncomputable def SL_hard (N : Nat) (f : Nat → Int32) (v1 : Int32) (v2 : Int32) (g : Nat → Int32) (x1 : Int32) (x2 : Int32) (x3 : Int32) : Option (Int32 × (Nat → Int32) × Int32 × Int32 × (Nat → Int32)) := bnd (SX5_addHardMoon N f v1 v2 g x1 x2 x3) (fun o1 : Nat × Int32 × (Nat → Int32) × (Nat → Int32) × Int32 × Int32 => if o1.1 = 0 then (some ((o1.2.1, o1.2.2.1, o1.2.2.2.2.1, o1.2.2.2.2.2, o1.2.2.2.1))) else (if o1.1 = 1 then (some (((-1), o1.2.2.1, o1.2.2.2.2.1, o1.2.2.2.2.2, o1.2.2.2.1))) else (if o1.1 = 2 then (some (((-2), o1.2.2.1, o1.2.2.2.2.1, o1.2.2.2.2.2, o1.2.2.2.1))) else (none))))
abbrev RM_L_hard : Room := { frames := 8, cells := 1, slots := 6, locals := 129 }
set_option maxHeartbeats 4000000 in
theorem kL_hard (l : Launch) (hst : l.stackTraces = false) (D : va_G) (cA : Nat → ClassId) (G : eG) (z0 a0 b0 h0 s0 l0 e0 k0 a1 a2 h1 h2 : Nat) (N : Nat) (u7 : Int32) (u8 : Int32) (u9 : Int32) (f : Nat → Int32) (v1 : Int32) (v2 : Int32) (g : Nat → Int32) (x1 : Int32) (x2 : Int32) (x3 : Int32) {r : Int32 × (Nat → Int32) × Int32 × Int32 × (Nat → Int32)} (hr : SL_hard N f v1 v2 g x1 x2 x3 = some r) {sz : Nat} : Met l yL_hard wsL_hard RM_L_hard (va_Pc [.ref z0, .int x1, .int x2, .int x3] (gqLB G D cA [(z0, .inr (9, [.ref a0, .ref b0, .ref h0, .ref s0, .ref l0, .ref e0, .ref k0, .int u7, .int u8, .int u9])), (a0, .inr (8, [.ref a1])), (a1, .inr (6, [.ref a2])), (a2, .inl (cA 0, 61, .inl f)), (h0, .inr (5, [.ref h1, .int v1, .int v2])), (h1, .inr (6, [.ref h2])), (h2, .inl (cA 0, 488, .inl g))] sz)) (gqQ D (fun as => (some (.int r.1))) (fun as => [(z0, .inr (9, [.ref a0, .ref b0, .ref h0, .ref s0, .ref l0, .ref e0, .ref k0, .int u7, .int u8, .int u9])), (a0, .inr (8, [.ref a1])), (a1, .inr (6, [.ref a2])), (a2, .inl (cA 0, 61, .inl r.2.1)), (h0, .inr (5, [.ref h1, .int r.2.2.1, .int r.2.2.2.1])), (h1, .inr (6, [.ref h2])), (h2, .inl (cA 0, 488, .inl r.2.2.2.2))]) (va_A [(z0, .inr (9, [.ref a0, .ref b0, .ref h0, .ref s0, .ref l0, .ref e0, .ref k0, .int u7, .int u8, .int u9])), (a0, .inr (8, [.ref a1])), (a1, .inr (6, [.ref a2])), (a2, .inl (cA 0, 61, .inl f)), (h0, .inr (5, [.ref h1, .int v1, .int v2])), (h1, .inr (6, [.ref h2])), (h2, .inl (cA 0, 488, .inl g))] sz)) 1 6 (va_A [(z0, .inr (9, [.ref a0, .ref b0, .ref h0, .ref s0, .ref l0, .ref e0, .ref k0, .int u7, .int u8, .int u9])), (a0, .inr (8, [.ref a1])), (a1, .inr (6, [.ref a2])), (a2, .inl (cA 0, 61, .inl f)), (h0, .inr (5, [.ref h1, .int v1, .int v2])), (h1, .inr (6, [.ref h2])), (h2, .inl (cA 0, 488, .inl g))] sz) := by
  refine gqL_ofW (hh := [(0, 7, 8, 14), (0, 7, 12, 16)]) (cc := cL_hard) (maxL := 5) (ret := (some .int)) (by decide) rfl (Nat.le_of_ble_eq_true rfl) (fun p e s m args below meth c ls Q A hx hb hml hT9 hts hfc hK hP hD hS hA hEV hL9 hl hend => ?_)
  have hfc : s.vm.findClass RL = some m.cls := hfc
  have hl : lv_has ls 5 [(0, .ref z0), (1, .int x1), (2, .int x2), (3, .int x3)] := hl
  have h := hr
  clear hr
  unfold SL_hard at h
  refine lv_aload_n hx hb dL_hard_0 rfl (lv_at hl 0 rfl) ?_
  refine lv_iload_n hx hb dL_hard_1 rfl (lv_at hl 1 rfl) ?_
  refine lv_iload_n hx hb dL_hard_2 rfl (lv_at hl 2 rfl) ?_
  refine lv_iload_n hx hb dL_hard_3 rfl (lv_at hl 3 rfl) ?_
  obtain ⟨o1, ho1, h⟩ := bnd_i h
  refine xq_V (G := G) (v := (fun as => (some (.int o1.2.1)))) (As := [.int x1, .int x2, .int x3]) (rest := []) (wc := [(z0, .inr (9, [.ref a0, .ref b0, .ref h0, .ref s0, .ref l0, .ref e0, .ref k0, .int u7, .int u8, .int u9])), (a0, .inr (8, [.ref a1])), (a1, .inr (6, [.ref a2])), (a2, .inl (cA 0, 61, .inl f)), (h0, .inr (5, [.ref h1, .int v1, .int v2])), (h1, .inr (6, [.ref h2])), (h2, .inl (cA 0, 488, .inl g))]) (wr := []) (w1 := (fun as => [(z0, .inr (9, [.ref a0, .ref b0, .ref h0, .ref s0, .ref l0, .ref e0, .ref k0, .int u7, .int u8, .int u9])), (a0, .inr (8, [.ref a1])), (a1, .inr (6, [.ref a2])), (a2, .inl (cA 0, 61, .inl o1.2.2.1)), (h0, .inr (5, [.ref h1, .int o1.2.2.2.2.1, .int o1.2.2.2.2.2])), (h1, .inr (6, [.ref h2])), (h2, .inl (cA 0, 488, .inl o1.2.2.2.1))])) (ws2 := (fun as => [(z0, .inr (9, [.ref a0, .ref b0, .ref h0, .ref s0, .ref l0, .ref e0, .ref k0, .int u7, .int u8, .int u9])), (a0, .inr (8, [.ref a1])), (a1, .inr (6, [.ref a2])), (a2, .inl (cA 0, 61, .inl o1.2.2.1)), (h0, .inr (5, [.ref h1, .int o1.2.2.2.2.1, .int o1.2.2.2.2.2])), (h1, .inr (6, [.ref h2])), (h2, .inl (cA 0, 488, .inl o1.2.2.2.1))])) (st1 := (fun as => [.int o1.2.1])) ⟨hx, hb, hml, hfc, hts⟩ hK hP hD hS hA hEV (kX5_addHardMoon l hst D cA G z0 a0 b0 h0 s0 l0 e0 k0 a1 a2 h1 h2 N u7 u8 u9 f v1 v2 g x1 x2 x3 ho1) (cwV 3 hts gL_hard_X5_addHardMoon rfl rfl rfl (by decide +kernel) ⟨(Nat.le_of_ble_eq_true rfl), (Nat.le_of_ble_eq_true rfl)⟩) [0, 1, 2, 3, 4, 5, 6] [] [0, 1, 2, 3, 4, 5, 6] rfl rfl rfl rfl (by decide) (fun _ => rfl) rfl 0 9 rfl rfl rfl rfl (fun _ => rfl) rfl hl.1 (Nat.le_of_ble_eq_true rfl) dL_hard_4 ⟨(Nat.le_of_ble_eq_true rfl), (Nat.le_of_ble_eq_true rfl)⟩ (fun c3 as2 H locs hP hD hS => ?_) (fun c3 as2 H locs q9 ce hP hD hS z1 z2 z3 => ?_)
  · have h := ite_t c3 h
    have hP : va_P D vwCl [(z0, .inr (9, [.ref a0, .ref b0, .ref h0, .ref s0, .ref l0, .ref e0, .ref k0, .int u7, .int u8, .int u9])), (a0, .inr (8, [.ref a1])), (a1, .inr (6, [.ref a2])), (a2, .inl (cA 0, 61, .inl o1.2.2.1)), (h0, .inr (5, [.ref h1, .int o1.2.2.2.2.1, .int o1.2.2.2.2.2])), (h1, .inr (6, [.ref h2])), (h2, .inl (cA 0, 488, .inl o1.2.2.2.1))] H := hP
    have hD : va_D A [(z0, .inr (9, [.ref a0, .ref b0, .ref h0, .ref s0, .ref l0, .ref e0, .ref k0, .int u7, .int u8, .int u9])), (a0, .inr (8, [.ref a1])), (a1, .inr (6, [.ref a2])), (a2, .inl (cA 0, 61, .inl o1.2.2.1)), (h0, .inr (5, [.ref h1, .int o1.2.2.2.2.1, .int o1.2.2.2.2.2])), (h1, .inr (6, [.ref h2])), (h2, .inl (cA 0, 488, .inl o1.2.2.2.1))] := hD
    refine W.cs (cells' := 1) (slots' := 6) rfl rfl ?_
    have h := Option.some.inj h
    subst h
    refine W.widen (k := 1) (n := 6) (Nat.le_of_ble_eq_true rfl) (Nat.le_of_ble_eq_true rfl) ?_
    exact hend (adr []) _ _ _ _ _ _ _ rfl rfl (rtn_i _) hP hD hS dL_hard_7
  · have h := ite_f c3 h
    have hP : va_P D vwCl [(z0, .inr (9, [.ref a0, .ref b0, .ref h0, .ref s0, .ref l0, .ref e0, .ref k0, .int u7, .int u8, .int u9])), (a0, .inr (8, [.ref a1])), (a1, .inr (6, [.ref a2])), (a2, .inl (cA 0, 61, .inl o1.2.2.1)), (h0, .inr (5, [.ref h1, .int o1.2.2.2.2.1, .int o1.2.2.2.2.2])), (h1, .inr (6, [.ref h2])), (h2, .inl (cA 0, 488, .inl o1.2.2.2.1))] H := hP
    have hD : va_D A [(z0, .inr (9, [.ref a0, .ref b0, .ref h0, .ref s0, .ref l0, .ref e0, .ref k0, .int u7, .int u8, .int u9])), (a0, .inr (8, [.ref a1])), (a1, .inr (6, [.ref a2])), (a2, .inl (cA 0, 61, .inl o1.2.2.1)), (h0, .inr (5, [.ref h1, .int o1.2.2.2.2.1, .int o1.2.2.2.2.2])), (h1, .inr (6, [.ref h2])), (h2, .inl (cA 0, 488, .inl o1.2.2.2.1))] := hD
    by_cases c4 : o1.1 = 1
    · have h := ite_t c4 h
      have z4 : s.vm.findClass "java/lang/IllegalArgumentException" = some ce.cls := by rw [c4] at z3; exact z3
      refine vx_catch (own := RL) (name := "java/lang/IllegalArgumentException") (E := "java/lang/IllegalArgumentException") hfc [] ⟨0, 7, 8, 14⟩ [⟨0, 7, 12, 16⟩] hT9 (fun z hz => absurd hz List.not_mem_nil) rfl (by decide) (hL9.link (List.mem_of_getElem? (i := 0) rfl)) ((hEV.1.2.2.2.2 "java/lang/IllegalArgumentException" (by decide +kernel)).use rfl) z1 z2 z4 ?_
      refine W.cs (cells' := 1) (slots' := 6) rfl rfl ?_
      refine lv_astore hx hb dL_hard_8 hl (Nat.le_of_ble_eq_true rfl) rfl (fun ls hl => ?_)
      have hl : lv_has ls 5 [(4, .ref q9), (0, .ref z0), (1, .int x1), (2, .int x2), (3, .int x3)] := hl
      refine lv_iconst (v := (-1)) hx hb dL_hard_10 (by decide) ?_
      have h := Option.some.inj h
      subst h
      refine W.widen (k := 1) (n := 6) (Nat.le_of_ble_eq_true rfl) (Nat.le_of_ble_eq_true rfl) ?_
      exact hend (adr []) _ _ _ _ _ _ _ rfl rfl (rtn_i _) hP hD hS dL_hard_11
    · have h := ite_f c4 h
      by_cases c5 : o1.1 = 2
      · have h := ite_t c5 h
        have z4 : s.vm.findClass "java/lang/IllegalStateException" = some ce.cls := by rw [c5] at z3; exact z3
        have hp9 : ∀ z ∈ ([⟨0, 7, 8, 14⟩] : List ExceptionTableEntry), covers z 4 = false ∨ (z.catchType ≠ 0 ∧ ∃ nm : String, (Cond.classLink RL z.catchType nm).before args s = true ∧ va_Nc "java/lang/IllegalStateException" nm s) := by
          intro z hz
          rcases List.mem_cons.mp hz with rfl | hz
          · exact Or.inr ⟨by decide, _, (hL9.link (List.mem_of_getElem? (i := 0) rfl)), hL9.1.1⟩
          exact absurd hz List.not_mem_nil
        refine vx_catch (own := RL) (name := "java/lang/IllegalStateException") (E := "java/lang/IllegalStateException") hfc [⟨0, 7, 8, 14⟩] ⟨0, 7, 12, 16⟩ [] hT9 hp9 rfl (by decide) (hL9.link (List.mem_of_getElem? (i := 1) rfl)) ((hEV.1.2.2.2.2 "java/lang/IllegalStateException" (by decide +kernel)).use rfl) z1 z2 z4 ?_
        refine W.cs (cells' := 1) (slots' := 6) rfl rfl ?_
        refine lv_astore hx hb dL_hard_12 hl (Nat.le_of_ble_eq_true rfl) rfl (fun ls hl => ?_)
        have hl : lv_has ls 5 [(4, .ref q9), (0, .ref z0), (1, .int x1), (2, .int x2), (3, .int x3)] := hl
        refine lv_bipush (v := (-2)) hx hb dL_hard_14 (by decide) ?_
        have h := Option.some.inj h
        subst h
        refine W.widen (k := 1) (n := 6) (Nat.le_of_ble_eq_true rfl) (Nat.le_of_ble_eq_true rfl) ?_
        exact hend (adr []) _ _ _ _ _ _ _ rfl rfl (rtn_i _) hP hD hS dL_hard_16
      · have h := ite_f c5 h
        exact nn h

noncomputable def SL_highTideIn (N : Nat) (f : Nat → Int32) (x1 : Int32) : Option (Int32) := bnd (SX5_highTideIn N f x1) (fun o1 : Nat × Int32 => if o1.1 = 0 then (some (o1.2)) else (if o1.1 = 3 then (some ((-11))) else (none)))
abbrev RM_L_highTideIn : Room := { frames := 8, cells := 1, slots := 6, locals := 151 }
set_option maxHeartbeats 4000000 in
theorem kL_highTideIn (l : Launch) (hst : l.stackTraces = false) (D : va_G) (cA : Nat → ClassId) (G : eG) (z0 a0 b0 h0 s0 l0 e0 k0 a1 a2 : Nat) (N : Nat) (u7 : Int32) (u8 : Int32) (u9 : Int32) (f : Nat → Int32) (x1 : Int32) {r : Int32} (hr : SL_highTideIn N f x1 = some r) {sz : Nat} : Met l yL_highTideIn wsL_highTideIn RM_L_highTideIn (va_Pc [.ref z0, .int x1] (gqLB G D cA [(z0, .inr (9, [.ref a0, .ref b0, .ref h0, .ref s0, .ref l0, .ref e0, .ref k0, .int u7, .int u8, .int u9])), (a0, .inr (8, [.ref a1])), (a1, .inr (6, [.ref a2])), (a2, .inl (cA 0, 61, .inl f))] sz)) (gqQ D (fun as => (some (.int r))) (fun as => [(z0, .inr (9, [.ref a0, .ref b0, .ref h0, .ref s0, .ref l0, .ref e0, .ref k0, .int u7, .int u8, .int u9])), (a0, .inr (8, [.ref a1])), (a1, .inr (6, [.ref a2])), (a2, .inl (cA 0, 61, .inl f))]) (va_A [(z0, .inr (9, [.ref a0, .ref b0, .ref h0, .ref s0, .ref l0, .ref e0, .ref k0, .int u7, .int u8, .int u9])), (a0, .inr (8, [.ref a1])), (a1, .inr (6, [.ref a2])), (a2, .inl (cA 0, 61, .inl f))] sz)) 1 6 (va_A [(z0, .inr (9, [.ref a0, .ref b0, .ref h0, .ref s0, .ref l0, .ref e0, .ref k0, .int u7, .int u8, .int u9])), (a0, .inr (8, [.ref a1])), (a1, .inr (6, [.ref a2])), (a2, .inl (cA 0, 61, .inl f))] sz) := by
  refine gqL_ofW (hh := [(0, 5, 6, 28)]) (cc := cL_highTideIn) (maxL := 3) (ret := (some .int)) (by decide) rfl (Nat.le_of_ble_eq_true rfl) (fun p e s m args below meth c ls Q A hx hb hml hT9 hts hfc hK hP hD hS hA hEV hL9 hl hend => ?_)
  have hfc : s.vm.findClass RL = some m.cls := hfc
  have hl : lv_has ls 3 [(0, .ref z0), (1, .int x1)] := hl
  have h := hr
  clear hr
  unfold SL_highTideIn at h
  refine lv_aload_n hx hb dL_highTideIn_0 rfl (lv_at hl 0 rfl) ?_
  refine lv_iload_n hx hb dL_highTideIn_1 rfl (lv_at hl 1 rfl) ?_
  obtain ⟨o1, ho1, h⟩ := bnd_i h
  refine xq_V (G := G) (v := (fun as => (some (.int o1.2)))) (As := [.int x1]) (rest := []) (wc := [(z0, .inr (9, [.ref a0, .ref b0, .ref h0, .ref s0, .ref l0, .ref e0, .ref k0, .int u7, .int u8, .int u9])), (a0, .inr (8, [.ref a1])), (a1, .inr (6, [.ref a2])), (a2, .inl (cA 0, 61, .inl f))]) (wr := []) (w1 := (fun as => [(z0, .inr (9, [.ref a0, .ref b0, .ref h0, .ref s0, .ref l0, .ref e0, .ref k0, .int u7, .int u8, .int u9])), (a0, .inr (8, [.ref a1])), (a1, .inr (6, [.ref a2])), (a2, .inl (cA 0, 61, .inl f))])) (ws2 := (fun as => [(z0, .inr (9, [.ref a0, .ref b0, .ref h0, .ref s0, .ref l0, .ref e0, .ref k0, .int u7, .int u8, .int u9])), (a0, .inr (8, [.ref a1])), (a1, .inr (6, [.ref a2])), (a2, .inl (cA 0, 61, .inl f))])) (st1 := (fun as => [.int o1.2])) ⟨hx, hb, hml, hfc, hts⟩ hK hP hD hS hA hEV (kX5_highTideIn l hst D cA G z0 a0 b0 h0 s0 l0 e0 k0 a1 a2 N u7 u8 u9 f x1 ho1) (cwV 1 hts gL_highTideIn_X5_highTideIn rfl rfl rfl (by decide +kernel) ⟨(Nat.le_of_ble_eq_true rfl), (Nat.le_of_ble_eq_true rfl)⟩) [0, 1, 2, 3] [] [0, 1, 2, 3] rfl rfl rfl rfl (by decide) (fun _ => rfl) rfl 0 9 rfl rfl rfl rfl (fun _ => rfl) rfl hl.1 (Nat.le_of_ble_eq_true rfl) dL_highTideIn_2 ⟨(Nat.le_of_ble_eq_true rfl), (Nat.le_of_ble_eq_true rfl)⟩ (fun c3 as2 H locs hP hD hS => ?_) (fun c3 as2 H locs q9 ce hP hD hS z1 z2 z3 => ?_)
  · have h := ite_t c3 h
    have hP : va_P D vwCl [(z0, .inr (9, [.ref a0, .ref b0, .ref h0, .ref s0, .ref l0, .ref e0, .ref k0, .int u7, .int u8, .int u9])), (a0, .inr (8, [.ref a1])), (a1, .inr (6, [.ref a2])), (a2, .inl (cA 0, 61, .inl f))] H := hP
    have hD : va_D A [(z0, .inr (9, [.ref a0, .ref b0, .ref h0, .ref s0, .ref l0, .ref e0, .ref k0, .int u7, .int u8, .int u9])), (a0, .inr (8, [.ref a1])), (a1, .inr (6, [.ref a2])), (a2, .inl (cA 0, 61, .inl f))] := hD
    refine W.cs (cells' := 1) (slots' := 6) rfl rfl ?_
    have h := Option.some.inj h
    subst h
    refine W.widen (k := 1) (n := 6) (Nat.le_of_ble_eq_true rfl) (Nat.le_of_ble_eq_true rfl) ?_
    exact hend (adr []) _ _ _ _ _ _ _ rfl rfl (rtn_i _) hP hD hS dL_highTideIn_5
  · have h := ite_f c3 h
    have hP : va_P D vwCl [(z0, .inr (9, [.ref a0, .ref b0, .ref h0, .ref s0, .ref l0, .ref e0, .ref k0, .int u7, .int u8, .int u9])), (a0, .inr (8, [.ref a1])), (a1, .inr (6, [.ref a2])), (a2, .inl (cA 0, 61, .inl f))] H := hP
    have hD : va_D A [(z0, .inr (9, [.ref a0, .ref b0, .ref h0, .ref s0, .ref l0, .ref e0, .ref k0, .int u7, .int u8, .int u9])), (a0, .inr (8, [.ref a1])), (a1, .inr (6, [.ref a2])), (a2, .inl (cA 0, 61, .inl f))] := hD
    by_cases c4 : o1.1 = 3
    · have h := ite_t c4 h
      have z4 : s.vm.findClass "java/lang/IndexOutOfBoundsException" = some ce.cls := by rw [c4] at z3; exact z3
      refine vx_catch (own := RL) (name := "java/lang/IndexOutOfBoundsException") (E := "java/lang/IndexOutOfBoundsException") hfc [] ⟨0, 5, 6, 28⟩ [] hT9 (fun z hz => absurd hz List.not_mem_nil) rfl (by decide) (hL9.link (List.mem_of_getElem? (i := 2) rfl)) ((hEV.1.2.2.2.2 "java/lang/IndexOutOfBoundsException" (by decide +kernel)).use rfl) z1 z2 z4 ?_
      refine W.cs (cells' := 1) (slots' := 6) rfl rfl ?_
      refine lv_astore_n hx hb dL_highTideIn_6 rfl hl (Nat.le_of_ble_eq_true rfl) rfl (fun ls hl => ?_)
      have hl : lv_has ls 3 [(2, .ref q9), (0, .ref z0), (1, .int x1)] := hl
      refine lv_bipush (v := (-11)) hx hb dL_highTideIn_7 (by decide) ?_
      have h := Option.some.inj h
      subst h
      refine W.widen (k := 1) (n := 6) (Nat.le_of_ble_eq_true rfl) (Nat.le_of_ble_eq_true rfl) ?_
      exact hend (adr []) _ _ _ _ _ _ _ rfl rfl (rtn_i _) hP hD hS dL_highTideIn_9
    · have h := ite_f c4 h
      exact nn h

noncomputable def SL_insertPlug (N : Nat) (f : Nat → Int32) (v1 : Int32) (v2 : Int32) (g : Nat → Int32) (x1 : Int32) : Option (Int32 × (Nat → Int32) × Int32 × Int32 × (Nat → Int32)) := bnd (SX5_insertPlug N f v1 v2 g x1) (fun o1 : Nat × Int32 × (Nat → Int32) × (Nat → Int32) × Int32 × Int32 => if o1.1 = 0 then (if o1.2.1 = 0 then (some ((0, o1.2.2.1, o1.2.2.2.2.1, o1.2.2.2.2.2, o1.2.2.2.1))) else (some ((1, o1.2.2.1, o1.2.2.2.2.1, o1.2.2.2.2.2, o1.2.2.2.1)))) else (if o1.1 = 3 then (some (((-1), o1.2.2.1, o1.2.2.2.2.1, o1.2.2.2.2.2, o1.2.2.2.1))) else (none)))
abbrev RM_L_insertPlug : Room := { frames := 8, cells := 1, slots := 6, locals := 123 }
set_option maxHeartbeats 4000000 in
theorem kL_insertPlug (l : Launch) (hst : l.stackTraces = false) (D : va_G) (cA : Nat → ClassId) (G : eG) (z0 a0 b0 h0 s0 l0 e0 k0 a1 a2 h1 h2 : Nat) (N : Nat) (u7 : Int32) (u8 : Int32) (u9 : Int32) (f : Nat → Int32) (v1 : Int32) (v2 : Int32) (g : Nat → Int32) (x1 : Int32) {r : Int32 × (Nat → Int32) × Int32 × Int32 × (Nat → Int32)} (hr : SL_insertPlug N f v1 v2 g x1 = some r) {sz : Nat} : Met l yL_insertPlug wsL_insertPlug RM_L_insertPlug (va_Pc [.ref z0, .int x1] (gqLB G D cA [(z0, .inr (9, [.ref a0, .ref b0, .ref h0, .ref s0, .ref l0, .ref e0, .ref k0, .int u7, .int u8, .int u9])), (a0, .inr (8, [.ref a1])), (a1, .inr (6, [.ref a2])), (a2, .inl (cA 0, 61, .inl f)), (h0, .inr (5, [.ref h1, .int v1, .int v2])), (h1, .inr (6, [.ref h2])), (h2, .inl (cA 0, 488, .inl g))] sz)) (gqQ D (fun as => (some (.int r.1))) (fun as => [(z0, .inr (9, [.ref a0, .ref b0, .ref h0, .ref s0, .ref l0, .ref e0, .ref k0, .int u7, .int u8, .int u9])), (a0, .inr (8, [.ref a1])), (a1, .inr (6, [.ref a2])), (a2, .inl (cA 0, 61, .inl r.2.1)), (h0, .inr (5, [.ref h1, .int r.2.2.1, .int r.2.2.2.1])), (h1, .inr (6, [.ref h2])), (h2, .inl (cA 0, 488, .inl r.2.2.2.2))]) (va_A [(z0, .inr (9, [.ref a0, .ref b0, .ref h0, .ref s0, .ref l0, .ref e0, .ref k0, .int u7, .int u8, .int u9])), (a0, .inr (8, [.ref a1])), (a1, .inr (6, [.ref a2])), (a2, .inl (cA 0, 61, .inl f)), (h0, .inr (5, [.ref h1, .int v1, .int v2])), (h1, .inr (6, [.ref h2])), (h2, .inl (cA 0, 488, .inl g))] sz)) 1 6 (va_A [(z0, .inr (9, [.ref a0, .ref b0, .ref h0, .ref s0, .ref l0, .ref e0, .ref k0, .int u7, .int u8, .int u9])), (a0, .inr (8, [.ref a1])), (a1, .inr (6, [.ref a2])), (a2, .inl (cA 0, 61, .inl f)), (h0, .inr (5, [.ref h1, .int v1, .int v2])), (h1, .inr (6, [.ref h2])), (h2, .inl (cA 0, 488, .inl g))] sz) := by
  refine gqL_ofW (hh := [(0, 13, 14, 28)]) (cc := cL_insertPlug) (maxL := 3) (ret := (some .int)) (by decide) rfl (Nat.le_of_ble_eq_true rfl) (fun p e s m args below meth c ls Q A hx hb hml hT9 hts hfc hK hP hD hS hA hEV hL9 hl hend => ?_)
  have hfc : s.vm.findClass RL = some m.cls := hfc
  have hl : lv_has ls 3 [(0, .ref z0), (1, .int x1)] := hl
  have h := hr
  clear hr
  unfold SL_insertPlug at h
  refine lv_aload_n hx hb dL_insertPlug_0 rfl (lv_at hl 0 rfl) ?_
  refine lv_iload_n hx hb dL_insertPlug_1 rfl (lv_at hl 1 rfl) ?_
  obtain ⟨o1, ho1, h⟩ := bnd_i h
  refine xq_V (G := G) (v := (fun as => (some (.int o1.2.1)))) (As := [.int x1]) (rest := []) (wc := [(z0, .inr (9, [.ref a0, .ref b0, .ref h0, .ref s0, .ref l0, .ref e0, .ref k0, .int u7, .int u8, .int u9])), (a0, .inr (8, [.ref a1])), (a1, .inr (6, [.ref a2])), (a2, .inl (cA 0, 61, .inl f)), (h0, .inr (5, [.ref h1, .int v1, .int v2])), (h1, .inr (6, [.ref h2])), (h2, .inl (cA 0, 488, .inl g))]) (wr := []) (w1 := (fun as => [(z0, .inr (9, [.ref a0, .ref b0, .ref h0, .ref s0, .ref l0, .ref e0, .ref k0, .int u7, .int u8, .int u9])), (a0, .inr (8, [.ref a1])), (a1, .inr (6, [.ref a2])), (a2, .inl (cA 0, 61, .inl o1.2.2.1)), (h0, .inr (5, [.ref h1, .int o1.2.2.2.2.1, .int o1.2.2.2.2.2])), (h1, .inr (6, [.ref h2])), (h2, .inl (cA 0, 488, .inl o1.2.2.2.1))])) (ws2 := (fun as => [(z0, .inr (9, [.ref a0, .ref b0, .ref h0, .ref s0, .ref l0, .ref e0, .ref k0, .int u7, .int u8, .int u9])), (a0, .inr (8, [.ref a1])), (a1, .inr (6, [.ref a2])), (a2, .inl (cA 0, 61, .inl o1.2.2.1)), (h0, .inr (5, [.ref h1, .int o1.2.2.2.2.1, .int o1.2.2.2.2.2])), (h1, .inr (6, [.ref h2])), (h2, .inl (cA 0, 488, .inl o1.2.2.2.1))])) (st1 := (fun as => [.int o1.2.1])) ⟨hx, hb, hml, hfc, hts⟩ hK hP hD hS hA hEV (kX5_insertPlug l hst D cA G z0 a0 b0 h0 s0 l0 e0 k0 a1 a2 h1 h2 N u7 u8 u9 f v1 v2 g x1 ho1) (cwV 1 hts gL_insertPlug_X5_insertPlug rfl rfl rfl (by decide +kernel) ⟨(Nat.le_of_ble_eq_true rfl), (Nat.le_of_ble_eq_true rfl)⟩) [0, 1, 2, 3, 4, 5, 6] [] [0, 1, 2, 3, 4, 5, 6] rfl rfl rfl rfl (by decide) (fun _ => rfl) rfl 0 9 rfl rfl rfl rfl (fun _ => rfl) rfl hl.1 (Nat.le_of_ble_eq_true rfl) dL_insertPlug_2 ⟨(Nat.le_of_ble_eq_true rfl), (Nat.le_of_ble_eq_true rfl)⟩ (fun c3 as2 H locs hP hD hS => ?_) (fun c3 as2 H locs q9 ce hP hD hS z1 z2 z3 => ?_)
  · have h := ite_t c3 h
    have hP : va_P D vwCl [(z0, .inr (9, [.ref a0, .ref b0, .ref h0, .ref s0, .ref l0, .ref e0, .ref k0, .int u7, .int u8, .int u9])), (a0, .inr (8, [.ref a1])), (a1, .inr (6, [.ref a2])), (a2, .inl (cA 0, 61, .inl o1.2.2.1)), (h0, .inr (5, [.ref h1, .int o1.2.2.2.2.1, .int o1.2.2.2.2.2])), (h1, .inr (6, [.ref h2])), (h2, .inl (cA 0, 488, .inl o1.2.2.2.1))] H := hP
    have hD : va_D A [(z0, .inr (9, [.ref a0, .ref b0, .ref h0, .ref s0, .ref l0, .ref e0, .ref k0, .int u7, .int u8, .int u9])), (a0, .inr (8, [.ref a1])), (a1, .inr (6, [.ref a2])), (a2, .inl (cA 0, 61, .inl o1.2.2.1)), (h0, .inr (5, [.ref h1, .int o1.2.2.2.2.1, .int o1.2.2.2.2.2])), (h1, .inr (6, [.ref h2])), (h2, .inl (cA 0, 488, .inl o1.2.2.2.1))] := hD
    refine W.cs (cells' := 1) (slots' := 6) rfl rfl ?_
    refine lv_if_eq (tgt := 12) hx hb dL_insertPlug_5 (by decide) (fun c5 => ?_) (fun c5 => ?_)
    · have h := ite_t c5 h
      refine lv_iconst (v := 0) hx hb dL_insertPlug_12 (by decide) ?_
      have h := Option.some.inj h
      subst h
      refine W.widen (k := 1) (n := 6) (Nat.le_of_ble_eq_true rfl) (Nat.le_of_ble_eq_true rfl) ?_
      exact hend (adr []) _ _ _ _ _ _ _ rfl rfl (rtn_i _) hP hD hS dL_insertPlug_13
    · have h := ite_f c5 h
      refine lv_iconst (v := 1) hx hb dL_insertPlug_8 (by decide) ?_
      refine lv_goto (tgt := 13) hx hb dL_insertPlug_9 (by decide) ?_
      have h := Option.some.inj h
      subst h
      refine W.widen (k := 1) (n := 6) (Nat.le_of_ble_eq_true rfl) (Nat.le_of_ble_eq_true rfl) ?_
      exact hend (adr []) _ _ _ _ _ _ _ rfl rfl (rtn_i _) hP hD hS dL_insertPlug_13
  · have h := ite_f c3 h
    have hP : va_P D vwCl [(z0, .inr (9, [.ref a0, .ref b0, .ref h0, .ref s0, .ref l0, .ref e0, .ref k0, .int u7, .int u8, .int u9])), (a0, .inr (8, [.ref a1])), (a1, .inr (6, [.ref a2])), (a2, .inl (cA 0, 61, .inl o1.2.2.1)), (h0, .inr (5, [.ref h1, .int o1.2.2.2.2.1, .int o1.2.2.2.2.2])), (h1, .inr (6, [.ref h2])), (h2, .inl (cA 0, 488, .inl o1.2.2.2.1))] H := hP
    have hD : va_D A [(z0, .inr (9, [.ref a0, .ref b0, .ref h0, .ref s0, .ref l0, .ref e0, .ref k0, .int u7, .int u8, .int u9])), (a0, .inr (8, [.ref a1])), (a1, .inr (6, [.ref a2])), (a2, .inl (cA 0, 61, .inl o1.2.2.1)), (h0, .inr (5, [.ref h1, .int o1.2.2.2.2.1, .int o1.2.2.2.2.2])), (h1, .inr (6, [.ref h2])), (h2, .inl (cA 0, 488, .inl o1.2.2.2.1))] := hD
    by_cases c4 : o1.1 = 3
    · have h := ite_t c4 h
      have z4 : s.vm.findClass "java/lang/IndexOutOfBoundsException" = some ce.cls := by rw [c4] at z3; exact z3
      refine vx_catch (own := RL) (name := "java/lang/IndexOutOfBoundsException") (E := "java/lang/IndexOutOfBoundsException") hfc [] ⟨0, 13, 14, 28⟩ [] hT9 (fun z hz => absurd hz List.not_mem_nil) rfl (by decide) (hL9.link (List.mem_of_getElem? (i := 2) rfl)) ((hEV.1.2.2.2.2 "java/lang/IndexOutOfBoundsException" (by decide +kernel)).use rfl) z1 z2 z4 ?_
      refine W.cs (cells' := 1) (slots' := 6) rfl rfl ?_
      refine lv_astore_n hx hb dL_insertPlug_14 rfl hl (Nat.le_of_ble_eq_true rfl) rfl (fun ls hl => ?_)
      have hl : lv_has ls 3 [(2, .ref q9), (0, .ref z0), (1, .int x1)] := hl
      refine lv_iconst (v := (-1)) hx hb dL_insertPlug_15 (by decide) ?_
      have h := Option.some.inj h
      subst h
      refine W.widen (k := 1) (n := 6) (Nat.le_of_ble_eq_true rfl) (Nat.le_of_ble_eq_true rfl) ?_
      exact hend (adr []) _ _ _ _ _ _ _ rfl rfl (rtn_i _) hP hD hS dL_insertPlug_16
    · have h := ite_f c4 h
      exact nn h

noncomputable def SL_isEclipsed (f : Nat → Int32) (x1 : Int32) : Option (Int32) := bnd (SX5_isEclipsed f x1) (fun o1 : Nat × Int32 => if o1.1 = 0 then (if o1.2 = 0 then (some (0)) else (some (1))) else (if o1.1 = 3 then (some ((-11))) else (none)))
abbrev RM_L_isEclipsed : Room := { frames := 8, cells := 1, slots := 6, locals := 124 }
set_option maxHeartbeats 4000000 in
theorem kL_isEclipsed (l : Launch) (hst : l.stackTraces = false) (D : va_G) (cA : Nat → ClassId) (G : eG) (z0 a0 b0 h0 s0 l0 e0 k0 a1 a2 : Nat) (u7 : Int32) (u8 : Int32) (u9 : Int32) (f : Nat → Int32) (x1 : Int32) {r : Int32} (hr : SL_isEclipsed f x1 = some r) {sz : Nat} : Met l yL_isEclipsed wsL_isEclipsed RM_L_isEclipsed (va_Pc [.ref z0, .int x1] (gqLB G D cA [(z0, .inr (9, [.ref a0, .ref b0, .ref h0, .ref s0, .ref l0, .ref e0, .ref k0, .int u7, .int u8, .int u9])), (a0, .inr (8, [.ref a1])), (a1, .inr (6, [.ref a2])), (a2, .inl (cA 0, 61, .inl f))] sz)) (gqQ D (fun as => (some (.int r))) (fun as => [(z0, .inr (9, [.ref a0, .ref b0, .ref h0, .ref s0, .ref l0, .ref e0, .ref k0, .int u7, .int u8, .int u9])), (a0, .inr (8, [.ref a1])), (a1, .inr (6, [.ref a2])), (a2, .inl (cA 0, 61, .inl f))]) (va_A [(z0, .inr (9, [.ref a0, .ref b0, .ref h0, .ref s0, .ref l0, .ref e0, .ref k0, .int u7, .int u8, .int u9])), (a0, .inr (8, [.ref a1])), (a1, .inr (6, [.ref a2])), (a2, .inl (cA 0, 61, .inl f))] sz)) 1 6 (va_A [(z0, .inr (9, [.ref a0, .ref b0, .ref h0, .ref s0, .ref l0, .ref e0, .ref k0, .int u7, .int u8, .int u9])), (a0, .inr (8, [.ref a1])), (a1, .inr (6, [.ref a2])), (a2, .inl (cA 0, 61, .inl f))] sz) := by
  refine gqL_ofW (hh := [(0, 13, 14, 28)]) (cc := cL_isEclipsed) (maxL := 3) (ret := (some .int)) (by decide) rfl (Nat.le_of_ble_eq_true rfl) (fun p e s m args below meth c ls Q A hx hb hml hT9 hts hfc hK hP hD hS hA hEV hL9 hl hend => ?_)
  have hfc : s.vm.findClass RL = some m.cls := hfc
  have hl : lv_has ls 3 [(0, .ref z0), (1, .int x1)] := hl
  have h := hr
  clear hr
  unfold SL_isEclipsed at h
  refine lv_aload_n hx hb dL_isEclipsed_0 rfl (lv_at hl 0 rfl) ?_
  refine lv_iload_n hx hb dL_isEclipsed_1 rfl (lv_at hl 1 rfl) ?_
  obtain ⟨o1, ho1, h⟩ := bnd_i h
  refine xq_V (G := G) (v := (fun as => (some (.int o1.2)))) (As := [.int x1]) (rest := []) (wc := [(z0, .inr (9, [.ref a0, .ref b0, .ref h0, .ref s0, .ref l0, .ref e0, .ref k0, .int u7, .int u8, .int u9])), (a0, .inr (8, [.ref a1])), (a1, .inr (6, [.ref a2])), (a2, .inl (cA 0, 61, .inl f))]) (wr := []) (w1 := (fun as => [(z0, .inr (9, [.ref a0, .ref b0, .ref h0, .ref s0, .ref l0, .ref e0, .ref k0, .int u7, .int u8, .int u9])), (a0, .inr (8, [.ref a1])), (a1, .inr (6, [.ref a2])), (a2, .inl (cA 0, 61, .inl f))])) (ws2 := (fun as => [(z0, .inr (9, [.ref a0, .ref b0, .ref h0, .ref s0, .ref l0, .ref e0, .ref k0, .int u7, .int u8, .int u9])), (a0, .inr (8, [.ref a1])), (a1, .inr (6, [.ref a2])), (a2, .inl (cA 0, 61, .inl f))])) (st1 := (fun as => [.int o1.2])) ⟨hx, hb, hml, hfc, hts⟩ hK hP hD hS hA hEV (kX5_isEclipsed l hst D cA G z0 a0 b0 h0 s0 l0 e0 k0 a1 a2 u7 u8 u9 f x1 ho1) (cwV 1 hts gL_isEclipsed_X5_isEclipsed rfl rfl rfl (by decide +kernel) ⟨(Nat.le_of_ble_eq_true rfl), (Nat.le_of_ble_eq_true rfl)⟩) [0, 1, 2, 3] [] [0, 1, 2, 3] rfl rfl rfl rfl (by decide) (fun _ => rfl) rfl 0 9 rfl rfl rfl rfl (fun _ => rfl) rfl hl.1 (Nat.le_of_ble_eq_true rfl) dL_isEclipsed_2 ⟨(Nat.le_of_ble_eq_true rfl), (Nat.le_of_ble_eq_true rfl)⟩ (fun c3 as2 H locs hP hD hS => ?_) (fun c3 as2 H locs q9 ce hP hD hS z1 z2 z3 => ?_)
  · have h := ite_t c3 h
    have hP : va_P D vwCl [(z0, .inr (9, [.ref a0, .ref b0, .ref h0, .ref s0, .ref l0, .ref e0, .ref k0, .int u7, .int u8, .int u9])), (a0, .inr (8, [.ref a1])), (a1, .inr (6, [.ref a2])), (a2, .inl (cA 0, 61, .inl f))] H := hP
    have hD : va_D A [(z0, .inr (9, [.ref a0, .ref b0, .ref h0, .ref s0, .ref l0, .ref e0, .ref k0, .int u7, .int u8, .int u9])), (a0, .inr (8, [.ref a1])), (a1, .inr (6, [.ref a2])), (a2, .inl (cA 0, 61, .inl f))] := hD
    refine W.cs (cells' := 1) (slots' := 6) rfl rfl ?_
    refine lv_if_eq (tgt := 12) hx hb dL_isEclipsed_5 (by decide) (fun c5 => ?_) (fun c5 => ?_)
    · have h := ite_t c5 h
      refine lv_iconst (v := 0) hx hb dL_isEclipsed_12 (by decide) ?_
      have h := Option.some.inj h
      subst h
      refine W.widen (k := 1) (n := 6) (Nat.le_of_ble_eq_true rfl) (Nat.le_of_ble_eq_true rfl) ?_
      exact hend (adr []) _ _ _ _ _ _ _ rfl rfl (rtn_i _) hP hD hS dL_isEclipsed_13
    · have h := ite_f c5 h
      refine lv_iconst (v := 1) hx hb dL_isEclipsed_8 (by decide) ?_
      refine lv_goto (tgt := 13) hx hb dL_isEclipsed_9 (by decide) ?_
      have h := Option.some.inj h
      subst h
      refine W.widen (k := 1) (n := 6) (Nat.le_of_ble_eq_true rfl) (Nat.le_of_ble_eq_true rfl) ?_
      exact hend (adr []) _ _ _ _ _ _ _ rfl rfl (rtn_i _) hP hD hS dL_isEclipsed_13
  · have h := ite_f c3 h
    have hP : va_P D vwCl [(z0, .inr (9, [.ref a0, .ref b0, .ref h0, .ref s0, .ref l0, .ref e0, .ref k0, .int u7, .int u8, .int u9])), (a0, .inr (8, [.ref a1])), (a1, .inr (6, [.ref a2])), (a2, .inl (cA 0, 61, .inl f))] H := hP
    have hD : va_D A [(z0, .inr (9, [.ref a0, .ref b0, .ref h0, .ref s0, .ref l0, .ref e0, .ref k0, .int u7, .int u8, .int u9])), (a0, .inr (8, [.ref a1])), (a1, .inr (6, [.ref a2])), (a2, .inl (cA 0, 61, .inl f))] := hD
    by_cases c4 : o1.1 = 3
    · have h := ite_t c4 h
      have z4 : s.vm.findClass "java/lang/IndexOutOfBoundsException" = some ce.cls := by rw [c4] at z3; exact z3
      refine vx_catch (own := RL) (name := "java/lang/IndexOutOfBoundsException") (E := "java/lang/IndexOutOfBoundsException") hfc [] ⟨0, 13, 14, 28⟩ [] hT9 (fun z hz => absurd hz List.not_mem_nil) rfl (by decide) (hL9.link (List.mem_of_getElem? (i := 2) rfl)) ((hEV.1.2.2.2.2 "java/lang/IndexOutOfBoundsException" (by decide +kernel)).use rfl) z1 z2 z4 ?_
      refine W.cs (cells' := 1) (slots' := 6) rfl rfl ?_
      refine lv_astore_n hx hb dL_isEclipsed_14 rfl hl (Nat.le_of_ble_eq_true rfl) rfl (fun ls hl => ?_)
      have hl : lv_has ls 3 [(2, .ref q9), (0, .ref z0), (1, .int x1)] := hl
      refine lv_bipush (v := (-11)) hx hb dL_isEclipsed_15 (by decide) ?_
      have h := Option.some.inj h
      subst h
      refine W.widen (k := 1) (n := 6) (Nat.le_of_ble_eq_true rfl) (Nat.le_of_ble_eq_true rfl) ?_
      exact hend (adr []) _ _ _ _ _ _ _ rfl rfl (rtn_i _) hP hD hS dL_isEclipsed_17
    · have h := ite_f c4 h
      exact nn h

noncomputable def SL_isHard (f : Nat → Int32) (x1 : Int32) : Option (Int32) := lt_ (SX5_isHard f x1) (fun o1 : Nat × Int32 => if o1.1 = 0 then (if o1.2 = 0 then (some (0)) else (some (1))) else (if o1.1 = 3 then (some ((-11))) else (none)))
abbrev RM_L_isHard : Room := { frames := 8, cells := 1, slots := 6, locals := 124 }
set_option maxHeartbeats 4000000 in
theorem kL_isHard (l : Launch) (hst : l.stackTraces = false) (D : va_G) (cA : Nat → ClassId) (G : eG) (z0 a0 b0 h0 s0 l0 e0 k0 a1 a2 : Nat) (u7 : Int32) (u8 : Int32) (u9 : Int32) (f : Nat → Int32) (x1 : Int32) {r : Int32} (hr : SL_isHard f x1 = some r) {sz : Nat} : Met l yL_isHard wsL_isHard RM_L_isHard (va_Pc [.ref z0, .int x1] (gqLB G D cA [(z0, .inr (9, [.ref a0, .ref b0, .ref h0, .ref s0, .ref l0, .ref e0, .ref k0, .int u7, .int u8, .int u9])), (a0, .inr (8, [.ref a1])), (a1, .inr (6, [.ref a2])), (a2, .inl (cA 0, 61, .inl f))] sz)) (gqQ D (fun as => (some (.int r))) (fun as => [(z0, .inr (9, [.ref a0, .ref b0, .ref h0, .ref s0, .ref l0, .ref e0, .ref k0, .int u7, .int u8, .int u9])), (a0, .inr (8, [.ref a1])), (a1, .inr (6, [.ref a2])), (a2, .inl (cA 0, 61, .inl f))]) (va_A [(z0, .inr (9, [.ref a0, .ref b0, .ref h0, .ref s0, .ref l0, .ref e0, .ref k0, .int u7, .int u8, .int u9])), (a0, .inr (8, [.ref a1])), (a1, .inr (6, [.ref a2])), (a2, .inl (cA 0, 61, .inl f))] sz)) 1 6 (va_A [(z0, .inr (9, [.ref a0, .ref b0, .ref h0, .ref s0, .ref l0, .ref e0, .ref k0, .int u7, .int u8, .int u9])), (a0, .inr (8, [.ref a1])), (a1, .inr (6, [.ref a2])), (a2, .inl (cA 0, 61, .inl f))] sz) := by
  refine gqL_ofW (hh := [(0, 13, 14, 28)]) (cc := cL_isHard) (maxL := 3) (ret := (some .int)) (by decide) rfl (Nat.le_of_ble_eq_true rfl) (fun p e s m args below meth c ls Q A hx hb hml hT9 hts hfc hK hP hD hS hA hEV hL9 hl hend => ?_)
  have hfc : s.vm.findClass RL = some m.cls := hfc
  have hl : lv_has ls 3 [(0, .ref z0), (1, .int x1)] := hl
  have h := hr
  clear hr
  unfold SL_isHard at h
  refine lv_aload_n hx hb dL_isHard_0 rfl (lv_at hl 0 rfl) ?_
  refine lv_iload_n hx hb dL_isHard_1 rfl (lv_at hl 1 rfl) ?_
  obtain ⟨o1, ho1, h⟩ := lt_i h
  refine xq_V (G := G) (v := (fun as => (some (.int o1.2)))) (As := [.int x1]) (rest := []) (wc := [(z0, .inr (9, [.ref a0, .ref b0, .ref h0, .ref s0, .ref l0, .ref e0, .ref k0, .int u7, .int u8, .int u9])), (a0, .inr (8, [.ref a1])), (a1, .inr (6, [.ref a2])), (a2, .inl (cA 0, 61, .inl f))]) (wr := []) (w1 := (fun as => [(z0, .inr (9, [.ref a0, .ref b0, .ref h0, .ref s0, .ref l0, .ref e0, .ref k0, .int u7, .int u8, .int u9])), (a0, .inr (8, [.ref a1])), (a1, .inr (6, [.ref a2])), (a2, .inl (cA 0, 61, .inl f))])) (ws2 := (fun as => [(z0, .inr (9, [.ref a0, .ref b0, .ref h0, .ref s0, .ref l0, .ref e0, .ref k0, .int u7, .int u8, .int u9])), (a0, .inr (8, [.ref a1])), (a1, .inr (6, [.ref a2])), (a2, .inl (cA 0, 61, .inl f))])) (st1 := (fun as => [.int o1.2])) ⟨hx, hb, hml, hfc, hts⟩ hK hP hD hS hA hEV (kX5_isHard l hst D cA G z0 a0 b0 h0 s0 l0 e0 k0 a1 a2 u7 u8 u9 f x1 ho1) (cwV 1 hts gL_isHard_X5_isHard rfl rfl rfl (by decide +kernel) ⟨(Nat.le_of_ble_eq_true rfl), (Nat.le_of_ble_eq_true rfl)⟩) [0, 1, 2, 3] [] [0, 1, 2, 3] rfl rfl rfl rfl (by decide) (fun _ => rfl) rfl 0 9 rfl rfl rfl rfl (fun _ => rfl) rfl hl.1 (Nat.le_of_ble_eq_true rfl) dL_isHard_2 ⟨(Nat.le_of_ble_eq_true rfl), (Nat.le_of_ble_eq_true rfl)⟩ (fun c3 as2 H locs hP hD hS => ?_) (fun c3 as2 H locs q9 ce hP hD hS z1 z2 z3 => ?_)
  · have h := ite_t c3 h
    have hP : va_P D vwCl [(z0, .inr (9, [.ref a0, .ref b0, .ref h0, .ref s0, .ref l0, .ref e0, .ref k0, .int u7, .int u8, .int u9])), (a0, .inr (8, [.ref a1])), (a1, .inr (6, [.ref a2])), (a2, .inl (cA 0, 61, .inl f))] H := hP
    have hD : va_D A [(z0, .inr (9, [.ref a0, .ref b0, .ref h0, .ref s0, .ref l0, .ref e0, .ref k0, .int u7, .int u8, .int u9])), (a0, .inr (8, [.ref a1])), (a1, .inr (6, [.ref a2])), (a2, .inl (cA 0, 61, .inl f))] := hD
    refine W.cs (cells' := 1) (slots' := 6) rfl rfl ?_
    refine lv_if_eq (tgt := 12) hx hb dL_isHard_5 (by decide) (fun c5 => ?_) (fun c5 => ?_)
    · have h := ite_t c5 h
      refine lv_iconst (v := 0) hx hb dL_isHard_12 (by decide) ?_
      have h := Option.some.inj h
      subst h
      refine W.widen (k := 1) (n := 6) (Nat.le_of_ble_eq_true rfl) (Nat.le_of_ble_eq_true rfl) ?_
      exact hend (adr []) _ _ _ _ _ _ _ rfl rfl (rtn_i _) hP hD hS dL_isHard_13
    · have h := ite_f c5 h
      refine lv_iconst (v := 1) hx hb dL_isHard_8 (by decide) ?_
      refine lv_goto (tgt := 13) hx hb dL_isHard_9 (by decide) ?_
      have h := Option.some.inj h
      subst h
      refine W.widen (k := 1) (n := 6) (Nat.le_of_ble_eq_true rfl) (Nat.le_of_ble_eq_true rfl) ?_
      exact hend (adr []) _ _ _ _ _ _ _ rfl rfl (rtn_i _) hP hD hS dL_isHard_13
  · have h := ite_f c3 h
    have hP : va_P D vwCl [(z0, .inr (9, [.ref a0, .ref b0, .ref h0, .ref s0, .ref l0, .ref e0, .ref k0, .int u7, .int u8, .int u9])), (a0, .inr (8, [.ref a1])), (a1, .inr (6, [.ref a2])), (a2, .inl (cA 0, 61, .inl f))] H := hP
    have hD : va_D A [(z0, .inr (9, [.ref a0, .ref b0, .ref h0, .ref s0, .ref l0, .ref e0, .ref k0, .int u7, .int u8, .int u9])), (a0, .inr (8, [.ref a1])), (a1, .inr (6, [.ref a2])), (a2, .inl (cA 0, 61, .inl f))] := hD
    by_cases c4 : o1.1 = 3
    · have h := ite_t c4 h
      have z4 : s.vm.findClass "java/lang/IndexOutOfBoundsException" = some ce.cls := by rw [c4] at z3; exact z3
      refine vx_catch (own := RL) (name := "java/lang/IndexOutOfBoundsException") (E := "java/lang/IndexOutOfBoundsException") hfc [] ⟨0, 13, 14, 28⟩ [] hT9 (fun z hz => absurd hz List.not_mem_nil) rfl (by decide) (hL9.link (List.mem_of_getElem? (i := 2) rfl)) ((hEV.1.2.2.2.2 "java/lang/IndexOutOfBoundsException" (by decide +kernel)).use rfl) z1 z2 z4 ?_
      refine W.cs (cells' := 1) (slots' := 6) rfl rfl ?_
      refine lv_astore_n hx hb dL_isHard_14 rfl hl (Nat.le_of_ble_eq_true rfl) rfl (fun ls hl => ?_)
      have hl : lv_has ls 3 [(2, .ref q9), (0, .ref z0), (1, .int x1)] := hl
      refine lv_bipush (v := (-11)) hx hb dL_isHard_15 (by decide) ?_
      have h := Option.some.inj h
      subst h
      refine W.widen (k := 1) (n := 6) (Nat.le_of_ble_eq_true rfl) (Nat.le_of_ble_eq_true rfl) ?_
      exact hend (adr []) _ _ _ _ _ _ _ rfl rfl (rtn_i _) hP hD hS dL_isHard_17
    · have h := ite_f c4 h
      exact nn h

noncomputable def SL_isSoft (f : Nat → Int32) (x1 : Int32) : Option (Int32) := lt_ (SX5_isSoft f x1) (fun o1 : Nat × Int32 => if o1.1 = 0 then (if o1.2 = 0 then (some (0)) else (some (1))) else (if o1.1 = 3 then (some ((-11))) else (none)))
abbrev RM_L_isSoft : Room := { frames := 8, cells := 1, slots := 6, locals := 124 }
set_option maxHeartbeats 4000000 in
theorem kL_isSoft (l : Launch) (hst : l.stackTraces = false) (D : va_G) (cA : Nat → ClassId) (G : eG) (z0 a0 b0 h0 s0 l0 e0 k0 a1 a2 : Nat) (u7 : Int32) (u8 : Int32) (u9 : Int32) (f : Nat → Int32) (x1 : Int32) {r : Int32} (hr : SL_isSoft f x1 = some r) {sz : Nat} : Met l yL_isSoft wsL_isSoft RM_L_isSoft (va_Pc [.ref z0, .int x1] (gqLB G D cA [(z0, .inr (9, [.ref a0, .ref b0, .ref h0, .ref s0, .ref l0, .ref e0, .ref k0, .int u7, .int u8, .int u9])), (a0, .inr (8, [.ref a1])), (a1, .inr (6, [.ref a2])), (a2, .inl (cA 0, 61, .inl f))] sz)) (gqQ D (fun as => (some (.int r))) (fun as => [(z0, .inr (9, [.ref a0, .ref b0, .ref h0, .ref s0, .ref l0, .ref e0, .ref k0, .int u7, .int u8, .int u9])), (a0, .inr (8, [.ref a1])), (a1, .inr (6, [.ref a2])), (a2, .inl (cA 0, 61, .inl f))]) (va_A [(z0, .inr (9, [.ref a0, .ref b0, .ref h0, .ref s0, .ref l0, .ref e0, .ref k0, .int u7, .int u8, .int u9])), (a0, .inr (8, [.ref a1])), (a1, .inr (6, [.ref a2])), (a2, .inl (cA 0, 61, .inl f))] sz)) 1 6 (va_A [(z0, .inr (9, [.ref a0, .ref b0, .ref h0, .ref s0, .ref l0, .ref e0, .ref k0, .int u7, .int u8, .int u9])), (a0, .inr (8, [.ref a1])), (a1, .inr (6, [.ref a2])), (a2, .inl (cA 0, 61, .inl f))] sz) := by
  refine gqL_ofW (hh := [(0, 13, 14, 28)]) (cc := cL_isSoft) (maxL := 3) (ret := (some .int)) (by decide) rfl (Nat.le_of_ble_eq_true rfl) (fun p e s m args below meth c ls Q A hx hb hml hT9 hts hfc hK hP hD hS hA hEV hL9 hl hend => ?_)
  have hfc : s.vm.findClass RL = some m.cls := hfc
  have hl : lv_has ls 3 [(0, .ref z0), (1, .int x1)] := hl
  have h := hr
  clear hr
  unfold SL_isSoft at h
  refine lv_aload_n hx hb dL_isSoft_0 rfl (lv_at hl 0 rfl) ?_
  refine lv_iload_n hx hb dL_isSoft_1 rfl (lv_at hl 1 rfl) ?_
  obtain ⟨o1, ho1, h⟩ := lt_i h
  refine xq_V (G := G) (v := (fun as => (some (.int o1.2)))) (As := [.int x1]) (rest := []) (wc := [(z0, .inr (9, [.ref a0, .ref b0, .ref h0, .ref s0, .ref l0, .ref e0, .ref k0, .int u7, .int u8, .int u9])), (a0, .inr (8, [.ref a1])), (a1, .inr (6, [.ref a2])), (a2, .inl (cA 0, 61, .inl f))]) (wr := []) (w1 := (fun as => [(z0, .inr (9, [.ref a0, .ref b0, .ref h0, .ref s0, .ref l0, .ref e0, .ref k0, .int u7, .int u8, .int u9])), (a0, .inr (8, [.ref a1])), (a1, .inr (6, [.ref a2])), (a2, .inl (cA 0, 61, .inl f))])) (ws2 := (fun as => [(z0, .inr (9, [.ref a0, .ref b0, .ref h0, .ref s0, .ref l0, .ref e0, .ref k0, .int u7, .int u8, .int u9])), (a0, .inr (8, [.ref a1])), (a1, .inr (6, [.ref a2])), (a2, .inl (cA 0, 61, .inl f))])) (st1 := (fun as => [.int o1.2])) ⟨hx, hb, hml, hfc, hts⟩ hK hP hD hS hA hEV (kX5_isSoft l hst D cA G z0 a0 b0 h0 s0 l0 e0 k0 a1 a2 u7 u8 u9 f x1 ho1) (cwV 1 hts gL_isSoft_X5_isSoft rfl rfl rfl (by decide +kernel) ⟨(Nat.le_of_ble_eq_true rfl), (Nat.le_of_ble_eq_true rfl)⟩) [0, 1, 2, 3] [] [0, 1, 2, 3] rfl rfl rfl rfl (by decide) (fun _ => rfl) rfl 0 9 rfl rfl rfl rfl (fun _ => rfl) rfl hl.1 (Nat.le_of_ble_eq_true rfl) dL_isSoft_2 ⟨(Nat.le_of_ble_eq_true rfl), (Nat.le_of_ble_eq_true rfl)⟩ (fun c3 as2 H locs hP hD hS => ?_) (fun c3 as2 H locs q9 ce hP hD hS z1 z2 z3 => ?_)
  · have h := ite_t c3 h
    have hP : va_P D vwCl [(z0, .inr (9, [.ref a0, .ref b0, .ref h0, .ref s0, .ref l0, .ref e0, .ref k0, .int u7, .int u8, .int u9])), (a0, .inr (8, [.ref a1])), (a1, .inr (6, [.ref a2])), (a2, .inl (cA 0, 61, .inl f))] H := hP
    have hD : va_D A [(z0, .inr (9, [.ref a0, .ref b0, .ref h0, .ref s0, .ref l0, .ref e0, .ref k0, .int u7, .int u8, .int u9])), (a0, .inr (8, [.ref a1])), (a1, .inr (6, [.ref a2])), (a2, .inl (cA 0, 61, .inl f))] := hD
    refine W.cs (cells' := 1) (slots' := 6) rfl rfl ?_
    refine lv_if_eq (tgt := 12) hx hb dL_isSoft_5 (by decide) (fun c5 => ?_) (fun c5 => ?_)
    · have h := ite_t c5 h
      refine lv_iconst (v := 0) hx hb dL_isSoft_12 (by decide) ?_
      have h := Option.some.inj h
      subst h
      refine W.widen (k := 1) (n := 6) (Nat.le_of_ble_eq_true rfl) (Nat.le_of_ble_eq_true rfl) ?_
      exact hend (adr []) _ _ _ _ _ _ _ rfl rfl (rtn_i _) hP hD hS dL_isSoft_13
    · have h := ite_f c5 h
      refine lv_iconst (v := 1) hx hb dL_isSoft_8 (by decide) ?_
      refine lv_goto (tgt := 13) hx hb dL_isSoft_9 (by decide) ?_
      have h := Option.some.inj h
      subst h
      refine W.widen (k := 1) (n := 6) (Nat.le_of_ble_eq_true rfl) (Nat.le_of_ble_eq_true rfl) ?_
      exact hend (adr []) _ _ _ _ _ _ _ rfl rfl (rtn_i _) hP hD hS dL_isSoft_13
  · have h := ite_f c3 h
    have hP : va_P D vwCl [(z0, .inr (9, [.ref a0, .ref b0, .ref h0, .ref s0, .ref l0, .ref e0, .ref k0, .int u7, .int u8, .int u9])), (a0, .inr (8, [.ref a1])), (a1, .inr (6, [.ref a2])), (a2, .inl (cA 0, 61, .inl f))] H := hP
    have hD : va_D A [(z0, .inr (9, [.ref a0, .ref b0, .ref h0, .ref s0, .ref l0, .ref e0, .ref k0, .int u7, .int u8, .int u9])), (a0, .inr (8, [.ref a1])), (a1, .inr (6, [.ref a2])), (a2, .inl (cA 0, 61, .inl f))] := hD
    by_cases c4 : o1.1 = 3
    · have h := ite_t c4 h
      have z4 : s.vm.findClass "java/lang/IndexOutOfBoundsException" = some ce.cls := by rw [c4] at z3; exact z3
      refine vx_catch (own := RL) (name := "java/lang/IndexOutOfBoundsException") (E := "java/lang/IndexOutOfBoundsException") hfc [] ⟨0, 13, 14, 28⟩ [] hT9 (fun z hz => absurd hz List.not_mem_nil) rfl (by decide) (hL9.link (List.mem_of_getElem? (i := 2) rfl)) ((hEV.1.2.2.2.2 "java/lang/IndexOutOfBoundsException" (by decide +kernel)).use rfl) z1 z2 z4 ?_
      refine W.cs (cells' := 1) (slots' := 6) rfl rfl ?_
      refine lv_astore_n hx hb dL_isSoft_14 rfl hl (Nat.le_of_ble_eq_true rfl) rfl (fun ls hl => ?_)
      have hl : lv_has ls 3 [(2, .ref q9), (0, .ref z0), (1, .int x1)] := hl
      refine lv_bipush (v := (-11)) hx hb dL_isSoft_15 (by decide) ?_
      have h := Option.some.inj h
      subst h
      refine W.widen (k := 1) (n := 6) (Nat.le_of_ble_eq_true rfl) (Nat.le_of_ble_eq_true rfl) ?_
      exact hend (adr []) _ _ _ _ _ _ _ rfl rfl (rtn_i _) hP hD hS dL_isSoft_17
    · have h := ite_f c4 h
      exact nn h

noncomputable def SL_layTowel (N : Nat) (f : Nat → Int32) (v1 : Int32) (v2 : Int32) (g : Nat → Int32) (x1 : Int32) (x2 : Int32) : Option (Int32 × (Nat → Int32) × Int32 × Int32 × (Nat → Int32)) := bnd (SX5_layTowel N f v1 v2 g x1 x2) (fun o1 : Nat × Int32 × (Nat → Int32) × (Nat → Int32) × Int32 × Int32 => if o1.1 = 0 then (some ((o1.2.1, o1.2.2.1, o1.2.2.2.2.1, o1.2.2.2.2.2, o1.2.2.2.1))) else (if o1.1 = 3 then (some (((-1), o1.2.2.1, o1.2.2.2.2.1, o1.2.2.2.2.2, o1.2.2.2.1))) else (if o1.1 = 1 then (some (((-2), o1.2.2.1, o1.2.2.2.2.1, o1.2.2.2.2.2, o1.2.2.2.1))) else (if o1.1 = 2 then (some (((-3), o1.2.2.1, o1.2.2.2.2.1, o1.2.2.2.2.2, o1.2.2.2.1))) else (none)))))
abbrev RM_L_layTowel : Room := { frames := 8, cells := 2, slots := 12, locals := 124 }
set_option maxHeartbeats 4000000 in
theorem kL_layTowel (l : Launch) (hst : l.stackTraces = false) (D : va_G) (cA : Nat → ClassId) (G : eG) (z0 a0 b0 h0 s0 l0 e0 k0 a1 a2 h1 h2 : Nat) (N : Nat) (u7 : Int32) (u8 : Int32) (u9 : Int32) (f : Nat → Int32) (v1 : Int32) (v2 : Int32) (g : Nat → Int32) (x1 : Int32) (x2 : Int32) {r : Int32 × (Nat → Int32) × Int32 × Int32 × (Nat → Int32)} (hr : SL_layTowel N f v1 v2 g x1 x2 = some r) {sz : Nat} : Met l yL_layTowel wsL_layTowel RM_L_layTowel (va_Pc [.ref z0, .int x1, .int x2] (gqLB G D cA [(z0, .inr (9, [.ref a0, .ref b0, .ref h0, .ref s0, .ref l0, .ref e0, .ref k0, .int u7, .int u8, .int u9])), (a0, .inr (8, [.ref a1])), (a1, .inr (6, [.ref a2])), (a2, .inl (cA 0, 61, .inl f)), (h0, .inr (5, [.ref h1, .int v1, .int v2])), (h1, .inr (6, [.ref h2])), (h2, .inl (cA 0, 488, .inl g))] sz)) (gqQ D (fun as => (some (.int r.1))) (fun as => [(z0, .inr (9, [.ref a0, .ref b0, .ref h0, .ref s0, .ref l0, .ref e0, .ref k0, .int u7, .int u8, .int u9])), (a0, .inr (8, [.ref a1])), (a1, .inr (6, [.ref a2])), (a2, .inl (cA 0, 61, .inl r.2.1)), (h0, .inr (5, [.ref h1, .int r.2.2.1, .int r.2.2.2.1])), (h1, .inr (6, [.ref h2])), (h2, .inl (cA 0, 488, .inl r.2.2.2.2))]) (va_A [(z0, .inr (9, [.ref a0, .ref b0, .ref h0, .ref s0, .ref l0, .ref e0, .ref k0, .int u7, .int u8, .int u9])), (a0, .inr (8, [.ref a1])), (a1, .inr (6, [.ref a2])), (a2, .inl (cA 0, 61, .inl f)), (h0, .inr (5, [.ref h1, .int v1, .int v2])), (h1, .inr (6, [.ref h2])), (h2, .inl (cA 0, 488, .inl g))] sz)) 2 12 (va_A [(z0, .inr (9, [.ref a0, .ref b0, .ref h0, .ref s0, .ref l0, .ref e0, .ref k0, .int u7, .int u8, .int u9])), (a0, .inr (8, [.ref a1])), (a1, .inr (6, [.ref a2])), (a2, .inl (cA 0, 61, .inl f)), (h0, .inr (5, [.ref h1, .int v1, .int v2])), (h1, .inr (6, [.ref h2])), (h2, .inl (cA 0, 488, .inl g))] sz) := by
  refine gqL_ofW (hh := [(0, 6, 7, 28), (0, 6, 10, 14), (0, 6, 14, 16)]) (cc := cL_layTowel) (maxL := 4) (ret := (some .int)) (by decide) rfl (Nat.le_of_ble_eq_true rfl) (fun p e s m args below meth c ls Q A hx hb hml hT9 hts hfc hK hP hD hS hA hEV hL9 hl hend => ?_)
  have hfc : s.vm.findClass RL = some m.cls := hfc
  have hl : lv_has ls 4 [(0, .ref z0), (1, .int x1), (2, .int x2)] := hl
  have h := hr
  clear hr
  unfold SL_layTowel at h
  refine lv_aload_n hx hb dL_layTowel_0 rfl (lv_at hl 0 rfl) ?_
  refine lv_iload_n hx hb dL_layTowel_1 rfl (lv_at hl 1 rfl) ?_
  refine lv_iload_n hx hb dL_layTowel_2 rfl (lv_at hl 2 rfl) ?_
  obtain ⟨o1, ho1, h⟩ := bnd_i h
  refine xq_V (G := G) (v := (fun as => (some (.int o1.2.1)))) (As := [.int x1, .int x2]) (rest := []) (wc := [(z0, .inr (9, [.ref a0, .ref b0, .ref h0, .ref s0, .ref l0, .ref e0, .ref k0, .int u7, .int u8, .int u9])), (a0, .inr (8, [.ref a1])), (a1, .inr (6, [.ref a2])), (a2, .inl (cA 0, 61, .inl f)), (h0, .inr (5, [.ref h1, .int v1, .int v2])), (h1, .inr (6, [.ref h2])), (h2, .inl (cA 0, 488, .inl g))]) (wr := []) (w1 := (fun as => [(z0, .inr (9, [.ref a0, .ref b0, .ref h0, .ref s0, .ref l0, .ref e0, .ref k0, .int u7, .int u8, .int u9])), (a0, .inr (8, [.ref a1])), (a1, .inr (6, [.ref a2])), (a2, .inl (cA 0, 61, .inl o1.2.2.1)), (h0, .inr (5, [.ref h1, .int o1.2.2.2.2.1, .int o1.2.2.2.2.2])), (h1, .inr (6, [.ref h2])), (h2, .inl (cA 0, 488, .inl o1.2.2.2.1))])) (ws2 := (fun as => [(z0, .inr (9, [.ref a0, .ref b0, .ref h0, .ref s0, .ref l0, .ref e0, .ref k0, .int u7, .int u8, .int u9])), (a0, .inr (8, [.ref a1])), (a1, .inr (6, [.ref a2])), (a2, .inl (cA 0, 61, .inl o1.2.2.1)), (h0, .inr (5, [.ref h1, .int o1.2.2.2.2.1, .int o1.2.2.2.2.2])), (h1, .inr (6, [.ref h2])), (h2, .inl (cA 0, 488, .inl o1.2.2.2.1))])) (st1 := (fun as => [.int o1.2.1])) ⟨hx, hb, hml, hfc, hts⟩ hK hP hD hS hA hEV (kX5_layTowel l hst D cA G z0 a0 b0 h0 s0 l0 e0 k0 a1 a2 h1 h2 N u7 u8 u9 f v1 v2 g x1 x2 ho1) (cwV 2 hts gL_layTowel_X5_layTowel rfl rfl rfl (by decide +kernel) ⟨(Nat.le_of_ble_eq_true rfl), (Nat.le_of_ble_eq_true rfl)⟩) [0, 1, 2, 3, 4, 5, 6] [] [0, 1, 2, 3, 4, 5, 6] rfl rfl rfl rfl (by decide) (fun _ => rfl) rfl 0 9 rfl rfl rfl rfl (fun _ => rfl) rfl hl.1 (Nat.le_of_ble_eq_true rfl) dL_layTowel_3 ⟨(Nat.le_of_ble_eq_true rfl), (Nat.le_of_ble_eq_true rfl)⟩ (fun c3 as2 H locs hP hD hS => ?_) (fun c3 as2 H locs q9 ce hP hD hS z1 z2 z3 => ?_)
  · have h := ite_t c3 h
    have hP : va_P D vwCl [(z0, .inr (9, [.ref a0, .ref b0, .ref h0, .ref s0, .ref l0, .ref e0, .ref k0, .int u7, .int u8, .int u9])), (a0, .inr (8, [.ref a1])), (a1, .inr (6, [.ref a2])), (a2, .inl (cA 0, 61, .inl o1.2.2.1)), (h0, .inr (5, [.ref h1, .int o1.2.2.2.2.1, .int o1.2.2.2.2.2])), (h1, .inr (6, [.ref h2])), (h2, .inl (cA 0, 488, .inl o1.2.2.2.1))] H := hP
    have hD : va_D A [(z0, .inr (9, [.ref a0, .ref b0, .ref h0, .ref s0, .ref l0, .ref e0, .ref k0, .int u7, .int u8, .int u9])), (a0, .inr (8, [.ref a1])), (a1, .inr (6, [.ref a2])), (a2, .inl (cA 0, 61, .inl o1.2.2.1)), (h0, .inr (5, [.ref h1, .int o1.2.2.2.2.1, .int o1.2.2.2.2.2])), (h1, .inr (6, [.ref h2])), (h2, .inl (cA 0, 488, .inl o1.2.2.2.1))] := hD
    refine W.cs (cells' := 2) (slots' := 12) rfl rfl ?_
    have h := Option.some.inj h
    subst h
    refine W.widen (k := 2) (n := 12) (Nat.le_of_ble_eq_true rfl) (Nat.le_of_ble_eq_true rfl) ?_
    exact hend (adr []) _ _ _ _ _ _ _ rfl rfl (rtn_i _) hP hD hS dL_layTowel_6
  · have h := ite_f c3 h
    have hP : va_P D vwCl [(z0, .inr (9, [.ref a0, .ref b0, .ref h0, .ref s0, .ref l0, .ref e0, .ref k0, .int u7, .int u8, .int u9])), (a0, .inr (8, [.ref a1])), (a1, .inr (6, [.ref a2])), (a2, .inl (cA 0, 61, .inl o1.2.2.1)), (h0, .inr (5, [.ref h1, .int o1.2.2.2.2.1, .int o1.2.2.2.2.2])), (h1, .inr (6, [.ref h2])), (h2, .inl (cA 0, 488, .inl o1.2.2.2.1))] H := hP
    have hD : va_D A [(z0, .inr (9, [.ref a0, .ref b0, .ref h0, .ref s0, .ref l0, .ref e0, .ref k0, .int u7, .int u8, .int u9])), (a0, .inr (8, [.ref a1])), (a1, .inr (6, [.ref a2])), (a2, .inl (cA 0, 61, .inl o1.2.2.1)), (h0, .inr (5, [.ref h1, .int o1.2.2.2.2.1, .int o1.2.2.2.2.2])), (h1, .inr (6, [.ref h2])), (h2, .inl (cA 0, 488, .inl o1.2.2.2.1))] := hD
    by_cases c4 : o1.1 = 3
    · have h := ite_t c4 h
      have z4 : s.vm.findClass "java/lang/IndexOutOfBoundsException" = some ce.cls := by rw [c4] at z3; exact z3
      refine vx_catch (own := RL) (name := "java/lang/IndexOutOfBoundsException") (E := "java/lang/IndexOutOfBoundsException") hfc [] ⟨0, 6, 7, 28⟩ [⟨0, 6, 10, 14⟩, ⟨0, 6, 14, 16⟩] hT9 (fun z hz => absurd hz List.not_mem_nil) rfl (by decide) (hL9.link (List.mem_of_getElem? (i := 2) rfl)) ((hEV.1.2.2.2.2 "java/lang/IndexOutOfBoundsException" (by decide +kernel)).use rfl) z1 z2 z4 ?_
      refine W.cs (cells' := 2) (slots' := 12) rfl rfl ?_
      refine lv_astore_n hx hb dL_layTowel_7 rfl hl (Nat.le_of_ble_eq_true rfl) rfl (fun ls hl => ?_)
      have hl : lv_has ls 4 [(3, .ref q9), (0, .ref z0), (1, .int x1), (2, .int x2)] := hl
      refine lv_iconst (v := (-1)) hx hb dL_layTowel_8 (by decide) ?_
      have h := Option.some.inj h
      subst h
      refine W.widen (k := 2) (n := 12) (Nat.le_of_ble_eq_true rfl) (Nat.le_of_ble_eq_true rfl) ?_
      exact hend (adr []) _ _ _ _ _ _ _ rfl rfl (rtn_i _) hP hD hS dL_layTowel_9
    · have h := ite_f c4 h
      by_cases c5 : o1.1 = 1
      · have h := ite_t c5 h
        have z4 : s.vm.findClass "java/lang/IllegalArgumentException" = some ce.cls := by rw [c5] at z3; exact z3
        have hp9 : ∀ z ∈ ([⟨0, 6, 7, 28⟩] : List ExceptionTableEntry), covers z 3 = false ∨ (z.catchType ≠ 0 ∧ ∃ nm : String, (Cond.classLink RL z.catchType nm).before args s = true ∧ va_Nc "java/lang/IllegalArgumentException" nm s) := by
          intro z hz
          rcases List.mem_cons.mp hz with rfl | hz
          · exact Or.inr ⟨by decide, _, (hL9.link (List.mem_of_getElem? (i := 2) rfl)), hL9.1.2.1⟩
          exact absurd hz List.not_mem_nil
        refine vx_catch (own := RL) (name := "java/lang/IllegalArgumentException") (E := "java/lang/IllegalArgumentException") hfc [⟨0, 6, 7, 28⟩] ⟨0, 6, 10, 14⟩ [⟨0, 6, 14, 16⟩] hT9 hp9 rfl (by decide) (hL9.link (List.mem_of_getElem? (i := 0) rfl)) ((hEV.1.2.2.2.2 "java/lang/IllegalArgumentException" (by decide +kernel)).use rfl) z1 z2 z4 ?_
        refine W.cs (cells' := 2) (slots' := 12) rfl rfl ?_
        refine lv_astore_n hx hb dL_layTowel_10 rfl hl (Nat.le_of_ble_eq_true rfl) rfl (fun ls hl => ?_)
        have hl : lv_has ls 4 [(3, .ref q9), (0, .ref z0), (1, .int x1), (2, .int x2)] := hl
        refine lv_bipush (v := (-2)) hx hb dL_layTowel_11 (by decide) ?_
        have h := Option.some.inj h
        subst h
        refine W.widen (k := 2) (n := 12) (Nat.le_of_ble_eq_true rfl) (Nat.le_of_ble_eq_true rfl) ?_
        exact hend (adr []) _ _ _ _ _ _ _ rfl rfl (rtn_i _) hP hD hS dL_layTowel_13
      · have h := ite_f c5 h
        by_cases c6 : o1.1 = 2
        · have h := ite_t c6 h
          have z4 : s.vm.findClass "java/lang/IllegalStateException" = some ce.cls := by rw [c6] at z3; exact z3
          have hp9 : ∀ z ∈ ([⟨0, 6, 7, 28⟩, ⟨0, 6, 10, 14⟩] : List ExceptionTableEntry), covers z 3 = false ∨ (z.catchType ≠ 0 ∧ ∃ nm : String, (Cond.classLink RL z.catchType nm).before args s = true ∧ va_Nc "java/lang/IllegalStateException" nm s) := by
            intro z hz
            rcases List.mem_cons.mp hz with rfl | hz
            · exact Or.inr ⟨by decide, _, (hL9.link (List.mem_of_getElem? (i := 2) rfl)), hL9.1.2.2.1⟩
            rcases List.mem_cons.mp hz with rfl | hz
            · exact Or.inr ⟨by decide, _, (hL9.link (List.mem_of_getElem? (i := 0) rfl)), hL9.1.1⟩
            exact absurd hz List.not_mem_nil
          refine vx_catch (own := RL) (name := "java/lang/IllegalStateException") (E := "java/lang/IllegalStateException") hfc [⟨0, 6, 7, 28⟩, ⟨0, 6, 10, 14⟩] ⟨0, 6, 14, 16⟩ [] hT9 hp9 rfl (by decide) (hL9.link (List.mem_of_getElem? (i := 1) rfl)) ((hEV.1.2.2.2.2 "java/lang/IllegalStateException" (by decide +kernel)).use rfl) z1 z2 z4 ?_
          refine W.cs (cells' := 2) (slots' := 12) rfl rfl ?_
          refine lv_astore_n hx hb dL_layTowel_14 rfl hl (Nat.le_of_ble_eq_true rfl) rfl (fun ls hl => ?_)
          have hl : lv_has ls 4 [(3, .ref q9), (0, .ref z0), (1, .int x1), (2, .int x2)] := hl
          refine lv_bipush (v := (-3)) hx hb dL_layTowel_15 (by decide) ?_
          have h := Option.some.inj h
          subst h
          refine W.widen (k := 2) (n := 12) (Nat.le_of_ble_eq_true rfl) (Nat.le_of_ble_eq_true rfl) ?_
          exact hend (adr []) _ _ _ _ _ _ _ rfl rfl (rtn_i _) hP hD hS dL_layTowel_17
        · have h := ite_f c6 h
          exact nn h

noncomputable def SL_levelAt (N : Nat) (f : Nat → Int32) (x1 : Int32) : Option (Int32) := bnd (SX5_levelAt N f x1) (fun o1 : Nat × Int32 => if o1.1 = 0 then (some (o1.2)) else (if o1.1 = 3 then (some ((-1011))) else (none)))
abbrev RM_L_levelAt : Room := { frames := 8, cells := 1, slots := 6, locals := 149 }
set_option maxHeartbeats 4000000 in
theorem kL_levelAt (l : Launch) (hst : l.stackTraces = false) (D : va_G) (cA : Nat → ClassId) (G : eG) (z0 a0 b0 h0 s0 l0 e0 k0 a1 a2 : Nat) (N : Nat) (u7 : Int32) (u8 : Int32) (u9 : Int32) (f : Nat → Int32) (x1 : Int32) {r : Int32} (hr : SL_levelAt N f x1 = some r) {sz : Nat} : Met l yL_levelAt wsL_levelAt RM_L_levelAt (va_Pc [.ref z0, .int x1] (gqLB G D cA [(z0, .inr (9, [.ref a0, .ref b0, .ref h0, .ref s0, .ref l0, .ref e0, .ref k0, .int u7, .int u8, .int u9])), (a0, .inr (8, [.ref a1])), (a1, .inr (6, [.ref a2])), (a2, .inl (cA 0, 61, .inl f))] sz)) (gqQ D (fun as => (some (.int r))) (fun as => [(z0, .inr (9, [.ref a0, .ref b0, .ref h0, .ref s0, .ref l0, .ref e0, .ref k0, .int u7, .int u8, .int u9])), (a0, .inr (8, [.ref a1])), (a1, .inr (6, [.ref a2])), (a2, .inl (cA 0, 61, .inl f))]) (va_A [(z0, .inr (9, [.ref a0, .ref b0, .ref h0, .ref s0, .ref l0, .ref e0, .ref k0, .int u7, .int u8, .int u9])), (a0, .inr (8, [.ref a1])), (a1, .inr (6, [.ref a2])), (a2, .inl (cA 0, 61, .inl f))] sz)) 1 6 (va_A [(z0, .inr (9, [.ref a0, .ref b0, .ref h0, .ref s0, .ref l0, .ref e0, .ref k0, .int u7, .int u8, .int u9])), (a0, .inr (8, [.ref a1])), (a1, .inr (6, [.ref a2])), (a2, .inl (cA 0, 61, .inl f))] sz) := by
  refine gqL_ofW (hh := [(0, 5, 6, 28)]) (cc := cL_levelAt) (maxL := 3) (ret := (some .int)) (by decide) rfl (Nat.le_of_ble_eq_true rfl) (fun p e s m args below meth c ls Q A hx hb hml hT9 hts hfc hK hP hD hS hA hEV hL9 hl hend => ?_)
  have hfc : s.vm.findClass RL = some m.cls := hfc
  have hl : lv_has ls 3 [(0, .ref z0), (1, .int x1)] := hl
  have h := hr
  clear hr
  unfold SL_levelAt at h
  refine lv_aload_n hx hb dL_levelAt_0 rfl (lv_at hl 0 rfl) ?_
  refine lv_iload_n hx hb dL_levelAt_1 rfl (lv_at hl 1 rfl) ?_
  obtain ⟨o1, ho1, h⟩ := bnd_i h
  refine xq_V (G := G) (v := (fun as => (some (.int o1.2)))) (As := [.int x1]) (rest := []) (wc := [(z0, .inr (9, [.ref a0, .ref b0, .ref h0, .ref s0, .ref l0, .ref e0, .ref k0, .int u7, .int u8, .int u9])), (a0, .inr (8, [.ref a1])), (a1, .inr (6, [.ref a2])), (a2, .inl (cA 0, 61, .inl f))]) (wr := []) (w1 := (fun as => [(z0, .inr (9, [.ref a0, .ref b0, .ref h0, .ref s0, .ref l0, .ref e0, .ref k0, .int u7, .int u8, .int u9])), (a0, .inr (8, [.ref a1])), (a1, .inr (6, [.ref a2])), (a2, .inl (cA 0, 61, .inl f))])) (ws2 := (fun as => [(z0, .inr (9, [.ref a0, .ref b0, .ref h0, .ref s0, .ref l0, .ref e0, .ref k0, .int u7, .int u8, .int u9])), (a0, .inr (8, [.ref a1])), (a1, .inr (6, [.ref a2])), (a2, .inl (cA 0, 61, .inl f))])) (st1 := (fun as => [.int o1.2])) ⟨hx, hb, hml, hfc, hts⟩ hK hP hD hS hA hEV (kX5_levelAt l hst D cA G z0 a0 b0 h0 s0 l0 e0 k0 a1 a2 N u7 u8 u9 f x1 ho1) (cwV 1 hts gL_levelAt_X5_levelAt rfl rfl rfl (by decide +kernel) ⟨(Nat.le_of_ble_eq_true rfl), (Nat.le_of_ble_eq_true rfl)⟩) [0, 1, 2, 3] [] [0, 1, 2, 3] rfl rfl rfl rfl (by decide) (fun _ => rfl) rfl 0 9 rfl rfl rfl rfl (fun _ => rfl) rfl hl.1 (Nat.le_of_ble_eq_true rfl) dL_levelAt_2 ⟨(Nat.le_of_ble_eq_true rfl), (Nat.le_of_ble_eq_true rfl)⟩ (fun c3 as2 H locs hP hD hS => ?_) (fun c3 as2 H locs q9 ce hP hD hS z1 z2 z3 => ?_)
  · have h := ite_t c3 h
    have hP : va_P D vwCl [(z0, .inr (9, [.ref a0, .ref b0, .ref h0, .ref s0, .ref l0, .ref e0, .ref k0, .int u7, .int u8, .int u9])), (a0, .inr (8, [.ref a1])), (a1, .inr (6, [.ref a2])), (a2, .inl (cA 0, 61, .inl f))] H := hP
    have hD : va_D A [(z0, .inr (9, [.ref a0, .ref b0, .ref h0, .ref s0, .ref l0, .ref e0, .ref k0, .int u7, .int u8, .int u9])), (a0, .inr (8, [.ref a1])), (a1, .inr (6, [.ref a2])), (a2, .inl (cA 0, 61, .inl f))] := hD
    refine W.cs (cells' := 1) (slots' := 6) rfl rfl ?_
    have h := Option.some.inj h
    subst h
    refine W.widen (k := 1) (n := 6) (Nat.le_of_ble_eq_true rfl) (Nat.le_of_ble_eq_true rfl) ?_
    exact hend (adr []) _ _ _ _ _ _ _ rfl rfl (rtn_i _) hP hD hS dL_levelAt_5
  · have h := ite_f c3 h
    have hP : va_P D vwCl [(z0, .inr (9, [.ref a0, .ref b0, .ref h0, .ref s0, .ref l0, .ref e0, .ref k0, .int u7, .int u8, .int u9])), (a0, .inr (8, [.ref a1])), (a1, .inr (6, [.ref a2])), (a2, .inl (cA 0, 61, .inl f))] H := hP
    have hD : va_D A [(z0, .inr (9, [.ref a0, .ref b0, .ref h0, .ref s0, .ref l0, .ref e0, .ref k0, .int u7, .int u8, .int u9])), (a0, .inr (8, [.ref a1])), (a1, .inr (6, [.ref a2])), (a2, .inl (cA 0, 61, .inl f))] := hD
    by_cases c4 : o1.1 = 3
    · have h := ite_t c4 h
      have z4 : s.vm.findClass "java/lang/IndexOutOfBoundsException" = some ce.cls := by rw [c4] at z3; exact z3
      refine vx_catch (own := RL) (name := "java/lang/IndexOutOfBoundsException") (E := "java/lang/IndexOutOfBoundsException") hfc [] ⟨0, 5, 6, 28⟩ [] hT9 (fun z hz => absurd hz List.not_mem_nil) rfl (by decide) (hL9.link (List.mem_of_getElem? (i := 2) rfl)) ((hEV.1.2.2.2.2 "java/lang/IndexOutOfBoundsException" (by decide +kernel)).use rfl) z1 z2 z4 ?_
      refine W.cs (cells' := 1) (slots' := 6) rfl rfl ?_
      refine lv_astore_n hx hb dL_levelAt_6 rfl hl (Nat.le_of_ble_eq_true rfl) rfl (fun ls hl => ?_)
      have hl : lv_has ls 3 [(2, .ref q9), (0, .ref z0), (1, .int x1)] := hl
      refine lv_sipush (v := (-1011)) hx hb dL_levelAt_7 (by decide) ?_
      have h := Option.some.inj h
      subst h
      refine W.widen (k := 1) (n := 6) (Nat.le_of_ble_eq_true rfl) (Nat.le_of_ble_eq_true rfl) ?_
      exact hend (adr []) _ _ _ _ _ _ _ rfl rfl (rtn_i _) hP hD hS dL_levelAt_10
    · have h := ite_f c4 h
      exact nn h

noncomputable def SL_lineAt (n : Nat) (lf : Nat → Int32) (c0 : Int32) (x1 : Int32) : Option (Int32) := bnd (SX5_lineAt n lf c0 x1) (fun o1 : Nat × Int32 => if o1.1 = 0 then (some (o1.2)) else (if o1.1 = 3 then (some ((-11))) else (none)))
abbrev RM_L_lineAt : Room := { frames := 7, cells := 1, slots := 6, locals := 109 }
set_option maxHeartbeats 4000000 in
theorem kL_lineAt (l : Launch) (hst : l.stackTraces = false) (D : va_G) (cA : Nat → ClassId) (G : eG) (z0 a0 b0 h0 s0 l0 e0 k0 l1 : Nat) (u7 : Int32) (u8 : Int32) (u9 : Int32) (n : Nat) (lf : Nat → Int32) (ml : Int32) (c0 : Int32) (x1 : Int32) {r : Int32} (hr : SL_lineAt n lf c0 x1 = some r) {sz : Nat} : Met l yL_lineAt wsL_lineAt RM_L_lineAt (va_Pc [.ref z0, .int x1] (gqLB G D cA [(z0, .inr (9, [.ref a0, .ref b0, .ref h0, .ref s0, .ref l0, .ref e0, .ref k0, .int u7, .int u8, .int u9])), (l0, .inr (1, [.ref l1, .int 0, .int ml, .int c0])), (l1, .inl (cA 1, n, .inl lf))] sz)) (gqQ D (fun as => (some (.int r))) (fun as => [(z0, .inr (9, [.ref a0, .ref b0, .ref h0, .ref s0, .ref l0, .ref e0, .ref k0, .int u7, .int u8, .int u9])), (l0, .inr (1, [.ref l1, .int 0, .int ml, .int c0])), (l1, .inl (cA 1, n, .inl lf))]) (va_A [(z0, .inr (9, [.ref a0, .ref b0, .ref h0, .ref s0, .ref l0, .ref e0, .ref k0, .int u7, .int u8, .int u9])), (l0, .inr (1, [.ref l1, .int 0, .int ml, .int c0])), (l1, .inl (cA 1, n, .inl lf))] sz)) 1 6 (va_A [(z0, .inr (9, [.ref a0, .ref b0, .ref h0, .ref s0, .ref l0, .ref e0, .ref k0, .int u7, .int u8, .int u9])), (l0, .inr (1, [.ref l1, .int 0, .int ml, .int c0])), (l1, .inl (cA 1, n, .inl lf))] sz) := by
  refine gqL_ofW (hh := [(0, 5, 6, 28)]) (cc := cL_lineAt) (maxL := 3) (ret := (some .int)) (by decide) rfl (Nat.le_of_ble_eq_true rfl) (fun p e s m args below meth c ls Q A hx hb hml hT9 hts hfc hK hP hD hS hA hEV hL9 hl hend => ?_)
  have hfc : s.vm.findClass RL = some m.cls := hfc
  have hl : lv_has ls 3 [(0, .ref z0), (1, .int x1)] := hl
  have h := hr
  clear hr
  unfold SL_lineAt at h
  refine lv_aload_n hx hb dL_lineAt_0 rfl (lv_at hl 0 rfl) ?_
  refine lv_iload_n hx hb dL_lineAt_1 rfl (lv_at hl 1 rfl) ?_
  obtain ⟨o1, ho1, h⟩ := bnd_i h
  refine xq_V (G := G) (v := (fun as => (some (.int o1.2)))) (As := [.int x1]) (rest := []) (wc := [(z0, .inr (9, [.ref a0, .ref b0, .ref h0, .ref s0, .ref l0, .ref e0, .ref k0, .int u7, .int u8, .int u9])), (l0, .inr (1, [.ref l1, .int 0, .int ml, .int c0])), (l1, .inl (cA 1, n, .inl lf))]) (wr := []) (w1 := (fun as => [(z0, .inr (9, [.ref a0, .ref b0, .ref h0, .ref s0, .ref l0, .ref e0, .ref k0, .int u7, .int u8, .int u9])), (l0, .inr (1, [.ref l1, .int 0, .int ml, .int c0])), (l1, .inl (cA 1, n, .inl lf))])) (ws2 := (fun as => [(z0, .inr (9, [.ref a0, .ref b0, .ref h0, .ref s0, .ref l0, .ref e0, .ref k0, .int u7, .int u8, .int u9])), (l0, .inr (1, [.ref l1, .int 0, .int ml, .int c0])), (l1, .inl (cA 1, n, .inl lf))])) (st1 := (fun as => [.int o1.2])) ⟨hx, hb, hml, hfc, hts⟩ hK hP hD hS hA hEV (kX5_lineAt l hst D cA G z0 a0 b0 h0 s0 l0 e0 k0 l1 u7 u8 u9 n lf ml c0 x1 ho1) (cwV 1 hts gL_lineAt_X5_lineAt rfl rfl rfl (by decide +kernel) ⟨(Nat.le_of_ble_eq_true rfl), (Nat.le_of_ble_eq_true rfl)⟩) [0, 1, 2] [] [0, 1, 2] rfl rfl rfl rfl (by decide) (fun _ => rfl) rfl 0 9 rfl rfl rfl rfl (fun _ => rfl) rfl hl.1 (Nat.le_of_ble_eq_true rfl) dL_lineAt_2 ⟨(Nat.le_of_ble_eq_true rfl), (Nat.le_of_ble_eq_true rfl)⟩ (fun c3 as2 H locs hP hD hS => ?_) (fun c3 as2 H locs q9 ce hP hD hS z1 z2 z3 => ?_)
  · have h := ite_t c3 h
    have hP : va_P D vwCl [(z0, .inr (9, [.ref a0, .ref b0, .ref h0, .ref s0, .ref l0, .ref e0, .ref k0, .int u7, .int u8, .int u9])), (l0, .inr (1, [.ref l1, .int 0, .int ml, .int c0])), (l1, .inl (cA 1, n, .inl lf))] H := hP
    have hD : va_D A [(z0, .inr (9, [.ref a0, .ref b0, .ref h0, .ref s0, .ref l0, .ref e0, .ref k0, .int u7, .int u8, .int u9])), (l0, .inr (1, [.ref l1, .int 0, .int ml, .int c0])), (l1, .inl (cA 1, n, .inl lf))] := hD
    refine W.cs (cells' := 1) (slots' := 6) rfl rfl ?_
    have h := Option.some.inj h
    subst h
    refine W.widen (k := 1) (n := 6) (Nat.le_of_ble_eq_true rfl) (Nat.le_of_ble_eq_true rfl) ?_
    exact hend (adr []) _ _ _ _ _ _ _ rfl rfl (rtn_i _) hP hD hS dL_lineAt_5
  · have h := ite_f c3 h
    have hP : va_P D vwCl [(z0, .inr (9, [.ref a0, .ref b0, .ref h0, .ref s0, .ref l0, .ref e0, .ref k0, .int u7, .int u8, .int u9])), (l0, .inr (1, [.ref l1, .int 0, .int ml, .int c0])), (l1, .inl (cA 1, n, .inl lf))] H := hP
    have hD : va_D A [(z0, .inr (9, [.ref a0, .ref b0, .ref h0, .ref s0, .ref l0, .ref e0, .ref k0, .int u7, .int u8, .int u9])), (l0, .inr (1, [.ref l1, .int 0, .int ml, .int c0])), (l1, .inl (cA 1, n, .inl lf))] := hD
    by_cases c4 : o1.1 = 3
    · have h := ite_t c4 h
      have z4 : s.vm.findClass "java/lang/IndexOutOfBoundsException" = some ce.cls := by rw [c4] at z3; exact z3
      refine vx_catch (own := RL) (name := "java/lang/IndexOutOfBoundsException") (E := "java/lang/IndexOutOfBoundsException") hfc [] ⟨0, 5, 6, 28⟩ [] hT9 (fun z hz => absurd hz List.not_mem_nil) rfl (by decide) (hL9.link (List.mem_of_getElem? (i := 2) rfl)) ((hEV.1.2.2.2.2 "java/lang/IndexOutOfBoundsException" (by decide +kernel)).use rfl) z1 z2 z4 ?_
      refine W.cs (cells' := 1) (slots' := 6) rfl rfl ?_
      refine lv_astore_n hx hb dL_lineAt_6 rfl hl (Nat.le_of_ble_eq_true rfl) rfl (fun ls hl => ?_)
      have hl : lv_has ls 3 [(2, .ref q9), (0, .ref z0), (1, .int x1)] := hl
      refine lv_bipush (v := (-11)) hx hb dL_lineAt_7 (by decide) ?_
      have h := Option.some.inj h
      subst h
      refine W.widen (k := 1) (n := 6) (Nat.le_of_ble_eq_true rfl) (Nat.le_of_ble_eq_true rfl) ?_
      exact hend (adr []) _ _ _ _ _ _ _ rfl rfl (rtn_i _) hP hD hS dL_lineAt_9
    · have h := ite_f c4 h
      exact nn h

noncomputable def SL_lowTideIn (N : Nat) (f : Nat → Int32) (x1 : Int32) : Option (Int32) := bnd (SX5_lowTideIn N f x1) (fun o1 : Nat × Int32 => if o1.1 = 0 then (some (o1.2)) else (if o1.1 = 3 then (some ((-11))) else (none)))
abbrev RM_L_lowTideIn : Room := { frames := 8, cells := 1, slots := 6, locals := 151 }
set_option maxHeartbeats 4000000 in
theorem kL_lowTideIn (l : Launch) (hst : l.stackTraces = false) (D : va_G) (cA : Nat → ClassId) (G : eG) (z0 a0 b0 h0 s0 l0 e0 k0 a1 a2 : Nat) (N : Nat) (u7 : Int32) (u8 : Int32) (u9 : Int32) (f : Nat → Int32) (x1 : Int32) {r : Int32} (hr : SL_lowTideIn N f x1 = some r) {sz : Nat} : Met l yL_lowTideIn wsL_lowTideIn RM_L_lowTideIn (va_Pc [.ref z0, .int x1] (gqLB G D cA [(z0, .inr (9, [.ref a0, .ref b0, .ref h0, .ref s0, .ref l0, .ref e0, .ref k0, .int u7, .int u8, .int u9])), (a0, .inr (8, [.ref a1])), (a1, .inr (6, [.ref a2])), (a2, .inl (cA 0, 61, .inl f))] sz)) (gqQ D (fun as => (some (.int r))) (fun as => [(z0, .inr (9, [.ref a0, .ref b0, .ref h0, .ref s0, .ref l0, .ref e0, .ref k0, .int u7, .int u8, .int u9])), (a0, .inr (8, [.ref a1])), (a1, .inr (6, [.ref a2])), (a2, .inl (cA 0, 61, .inl f))]) (va_A [(z0, .inr (9, [.ref a0, .ref b0, .ref h0, .ref s0, .ref l0, .ref e0, .ref k0, .int u7, .int u8, .int u9])), (a0, .inr (8, [.ref a1])), (a1, .inr (6, [.ref a2])), (a2, .inl (cA 0, 61, .inl f))] sz)) 1 6 (va_A [(z0, .inr (9, [.ref a0, .ref b0, .ref h0, .ref s0, .ref l0, .ref e0, .ref k0, .int u7, .int u8, .int u9])), (a0, .inr (8, [.ref a1])), (a1, .inr (6, [.ref a2])), (a2, .inl (cA 0, 61, .inl f))] sz) := by
  refine gqL_ofW (hh := [(0, 5, 6, 28)]) (cc := cL_lowTideIn) (maxL := 3) (ret := (some .int)) (by decide) rfl (Nat.le_of_ble_eq_true rfl) (fun p e s m args below meth c ls Q A hx hb hml hT9 hts hfc hK hP hD hS hA hEV hL9 hl hend => ?_)
  have hfc : s.vm.findClass RL = some m.cls := hfc
  have hl : lv_has ls 3 [(0, .ref z0), (1, .int x1)] := hl
  have h := hr
  clear hr
  unfold SL_lowTideIn at h
  refine lv_aload_n hx hb dL_lowTideIn_0 rfl (lv_at hl 0 rfl) ?_
  refine lv_iload_n hx hb dL_lowTideIn_1 rfl (lv_at hl 1 rfl) ?_
  obtain ⟨o1, ho1, h⟩ := bnd_i h
  refine xq_V (G := G) (v := (fun as => (some (.int o1.2)))) (As := [.int x1]) (rest := []) (wc := [(z0, .inr (9, [.ref a0, .ref b0, .ref h0, .ref s0, .ref l0, .ref e0, .ref k0, .int u7, .int u8, .int u9])), (a0, .inr (8, [.ref a1])), (a1, .inr (6, [.ref a2])), (a2, .inl (cA 0, 61, .inl f))]) (wr := []) (w1 := (fun as => [(z0, .inr (9, [.ref a0, .ref b0, .ref h0, .ref s0, .ref l0, .ref e0, .ref k0, .int u7, .int u8, .int u9])), (a0, .inr (8, [.ref a1])), (a1, .inr (6, [.ref a2])), (a2, .inl (cA 0, 61, .inl f))])) (ws2 := (fun as => [(z0, .inr (9, [.ref a0, .ref b0, .ref h0, .ref s0, .ref l0, .ref e0, .ref k0, .int u7, .int u8, .int u9])), (a0, .inr (8, [.ref a1])), (a1, .inr (6, [.ref a2])), (a2, .inl (cA 0, 61, .inl f))])) (st1 := (fun as => [.int o1.2])) ⟨hx, hb, hml, hfc, hts⟩ hK hP hD hS hA hEV (kX5_lowTideIn l hst D cA G z0 a0 b0 h0 s0 l0 e0 k0 a1 a2 N u7 u8 u9 f x1 ho1) (cwV 1 hts gL_lowTideIn_X5_lowTideIn rfl rfl rfl (by decide +kernel) ⟨(Nat.le_of_ble_eq_true rfl), (Nat.le_of_ble_eq_true rfl)⟩) [0, 1, 2, 3] [] [0, 1, 2, 3] rfl rfl rfl rfl (by decide) (fun _ => rfl) rfl 0 9 rfl rfl rfl rfl (fun _ => rfl) rfl hl.1 (Nat.le_of_ble_eq_true rfl) dL_lowTideIn_2 ⟨(Nat.le_of_ble_eq_true rfl), (Nat.le_of_ble_eq_true rfl)⟩ (fun c3 as2 H locs hP hD hS => ?_) (fun c3 as2 H locs q9 ce hP hD hS z1 z2 z3 => ?_)
  · have h := ite_t c3 h
    have hP : va_P D vwCl [(z0, .inr (9, [.ref a0, .ref b0, .ref h0, .ref s0, .ref l0, .ref e0, .ref k0, .int u7, .int u8, .int u9])), (a0, .inr (8, [.ref a1])), (a1, .inr (6, [.ref a2])), (a2, .inl (cA 0, 61, .inl f))] H := hP
    have hD : va_D A [(z0, .inr (9, [.ref a0, .ref b0, .ref h0, .ref s0, .ref l0, .ref e0, .ref k0, .int u7, .int u8, .int u9])), (a0, .inr (8, [.ref a1])), (a1, .inr (6, [.ref a2])), (a2, .inl (cA 0, 61, .inl f))] := hD
    refine W.cs (cells' := 1) (slots' := 6) rfl rfl ?_
    have h := Option.some.inj h
    subst h
    refine W.widen (k := 1) (n := 6) (Nat.le_of_ble_eq_true rfl) (Nat.le_of_ble_eq_true rfl) ?_
    exact hend (adr []) _ _ _ _ _ _ _ rfl rfl (rtn_i _) hP hD hS dL_lowTideIn_5
  · have h := ite_f c3 h
    have hP : va_P D vwCl [(z0, .inr (9, [.ref a0, .ref b0, .ref h0, .ref s0, .ref l0, .ref e0, .ref k0, .int u7, .int u8, .int u9])), (a0, .inr (8, [.ref a1])), (a1, .inr (6, [.ref a2])), (a2, .inl (cA 0, 61, .inl f))] H := hP
    have hD : va_D A [(z0, .inr (9, [.ref a0, .ref b0, .ref h0, .ref s0, .ref l0, .ref e0, .ref k0, .int u7, .int u8, .int u9])), (a0, .inr (8, [.ref a1])), (a1, .inr (6, [.ref a2])), (a2, .inl (cA 0, 61, .inl f))] := hD
    by_cases c4 : o1.1 = 3
    · have h := ite_t c4 h
      have z4 : s.vm.findClass "java/lang/IndexOutOfBoundsException" = some ce.cls := by rw [c4] at z3; exact z3
      refine vx_catch (own := RL) (name := "java/lang/IndexOutOfBoundsException") (E := "java/lang/IndexOutOfBoundsException") hfc [] ⟨0, 5, 6, 28⟩ [] hT9 (fun z hz => absurd hz List.not_mem_nil) rfl (by decide) (hL9.link (List.mem_of_getElem? (i := 2) rfl)) ((hEV.1.2.2.2.2 "java/lang/IndexOutOfBoundsException" (by decide +kernel)).use rfl) z1 z2 z4 ?_
      refine W.cs (cells' := 1) (slots' := 6) rfl rfl ?_
      refine lv_astore_n hx hb dL_lowTideIn_6 rfl hl (Nat.le_of_ble_eq_true rfl) rfl (fun ls hl => ?_)
      have hl : lv_has ls 3 [(2, .ref q9), (0, .ref z0), (1, .int x1)] := hl
      refine lv_bipush (v := (-11)) hx hb dL_lowTideIn_7 (by decide) ?_
      have h := Option.some.inj h
      subst h
      refine W.widen (k := 1) (n := 6) (Nat.le_of_ble_eq_true rfl) (Nat.le_of_ble_eq_true rfl) ?_
      exact hend (adr []) _ _ _ _ _ _ _ rfl rfl (rtn_i _) hP hD hS dL_lowTideIn_9
    · have h := ite_f c4 h
      exact nn h

noncomputable def SL_massOf (f : Nat → Int32) (x1 : Int32) : Option (Int32) := lt_ (SX5_massOf f x1) (fun o1 : Nat × Int32 => if o1.1 = 0 then (some (o1.2)) else (if o1.1 = 3 then (some ((-11))) else (none)))
abbrev RM_L_massOf : Room := { frames := 8, cells := 1, slots := 6, locals := 124 }
set_option maxHeartbeats 4000000 in
theorem kL_massOf (l : Launch) (hst : l.stackTraces = false) (D : va_G) (cA : Nat → ClassId) (G : eG) (z0 a0 b0 h0 s0 l0 e0 k0 a1 a2 : Nat) (u7 : Int32) (u8 : Int32) (u9 : Int32) (f : Nat → Int32) (x1 : Int32) {r : Int32} (hr : SL_massOf f x1 = some r) {sz : Nat} : Met l yL_massOf wsL_massOf RM_L_massOf (va_Pc [.ref z0, .int x1] (gqLB G D cA [(z0, .inr (9, [.ref a0, .ref b0, .ref h0, .ref s0, .ref l0, .ref e0, .ref k0, .int u7, .int u8, .int u9])), (a0, .inr (8, [.ref a1])), (a1, .inr (6, [.ref a2])), (a2, .inl (cA 0, 61, .inl f))] sz)) (gqQ D (fun as => (some (.int r))) (fun as => [(z0, .inr (9, [.ref a0, .ref b0, .ref h0, .ref s0, .ref l0, .ref e0, .ref k0, .int u7, .int u8, .int u9])), (a0, .inr (8, [.ref a1])), (a1, .inr (6, [.ref a2])), (a2, .inl (cA 0, 61, .inl f))]) (va_A [(z0, .inr (9, [.ref a0, .ref b0, .ref h0, .ref s0, .ref l0, .ref e0, .ref k0, .int u7, .int u8, .int u9])), (a0, .inr (8, [.ref a1])), (a1, .inr (6, [.ref a2])), (a2, .inl (cA 0, 61, .inl f))] sz)) 1 6 (va_A [(z0, .inr (9, [.ref a0, .ref b0, .ref h0, .ref s0, .ref l0, .ref e0, .ref k0, .int u7, .int u8, .int u9])), (a0, .inr (8, [.ref a1])), (a1, .inr (6, [.ref a2])), (a2, .inl (cA 0, 61, .inl f))] sz) := by
  refine gqL_ofW (hh := [(0, 5, 6, 28)]) (cc := cL_massOf) (maxL := 3) (ret := (some .int)) (by decide) rfl (Nat.le_of_ble_eq_true rfl) (fun p e s m args below meth c ls Q A hx hb hml hT9 hts hfc hK hP hD hS hA hEV hL9 hl hend => ?_)
  have hfc : s.vm.findClass RL = some m.cls := hfc
  have hl : lv_has ls 3 [(0, .ref z0), (1, .int x1)] := hl
  have h := hr
  clear hr
  unfold SL_massOf at h
  refine lv_aload_n hx hb dL_massOf_0 rfl (lv_at hl 0 rfl) ?_
  refine lv_iload_n hx hb dL_massOf_1 rfl (lv_at hl 1 rfl) ?_
  obtain ⟨o1, ho1, h⟩ := lt_i h
  refine xq_V (G := G) (v := (fun as => (some (.int o1.2)))) (As := [.int x1]) (rest := []) (wc := [(z0, .inr (9, [.ref a0, .ref b0, .ref h0, .ref s0, .ref l0, .ref e0, .ref k0, .int u7, .int u8, .int u9])), (a0, .inr (8, [.ref a1])), (a1, .inr (6, [.ref a2])), (a2, .inl (cA 0, 61, .inl f))]) (wr := []) (w1 := (fun as => [(z0, .inr (9, [.ref a0, .ref b0, .ref h0, .ref s0, .ref l0, .ref e0, .ref k0, .int u7, .int u8, .int u9])), (a0, .inr (8, [.ref a1])), (a1, .inr (6, [.ref a2])), (a2, .inl (cA 0, 61, .inl f))])) (ws2 := (fun as => [(z0, .inr (9, [.ref a0, .ref b0, .ref h0, .ref s0, .ref l0, .ref e0, .ref k0, .int u7, .int u8, .int u9])), (a0, .inr (8, [.ref a1])), (a1, .inr (6, [.ref a2])), (a2, .inl (cA 0, 61, .inl f))])) (st1 := (fun as => [.int o1.2])) ⟨hx, hb, hml, hfc, hts⟩ hK hP hD hS hA hEV (kX5_massOf l hst D cA G z0 a0 b0 h0 s0 l0 e0 k0 a1 a2 u7 u8 u9 f x1 ho1) (cwV 1 hts gL_massOf_X5_massOf rfl rfl rfl (by decide +kernel) ⟨(Nat.le_of_ble_eq_true rfl), (Nat.le_of_ble_eq_true rfl)⟩) [0, 1, 2, 3] [] [0, 1, 2, 3] rfl rfl rfl rfl (by decide) (fun _ => rfl) rfl 0 9 rfl rfl rfl rfl (fun _ => rfl) rfl hl.1 (Nat.le_of_ble_eq_true rfl) dL_massOf_2 ⟨(Nat.le_of_ble_eq_true rfl), (Nat.le_of_ble_eq_true rfl)⟩ (fun c3 as2 H locs hP hD hS => ?_) (fun c3 as2 H locs q9 ce hP hD hS z1 z2 z3 => ?_)
  · have h := ite_t c3 h
    have hP : va_P D vwCl [(z0, .inr (9, [.ref a0, .ref b0, .ref h0, .ref s0, .ref l0, .ref e0, .ref k0, .int u7, .int u8, .int u9])), (a0, .inr (8, [.ref a1])), (a1, .inr (6, [.ref a2])), (a2, .inl (cA 0, 61, .inl f))] H := hP
    have hD : va_D A [(z0, .inr (9, [.ref a0, .ref b0, .ref h0, .ref s0, .ref l0, .ref e0, .ref k0, .int u7, .int u8, .int u9])), (a0, .inr (8, [.ref a1])), (a1, .inr (6, [.ref a2])), (a2, .inl (cA 0, 61, .inl f))] := hD
    refine W.cs (cells' := 1) (slots' := 6) rfl rfl ?_
    have h := Option.some.inj h
    subst h
    refine W.widen (k := 1) (n := 6) (Nat.le_of_ble_eq_true rfl) (Nat.le_of_ble_eq_true rfl) ?_
    exact hend (adr []) _ _ _ _ _ _ _ rfl rfl (rtn_i _) hP hD hS dL_massOf_5
  · have h := ite_f c3 h
    have hP : va_P D vwCl [(z0, .inr (9, [.ref a0, .ref b0, .ref h0, .ref s0, .ref l0, .ref e0, .ref k0, .int u7, .int u8, .int u9])), (a0, .inr (8, [.ref a1])), (a1, .inr (6, [.ref a2])), (a2, .inl (cA 0, 61, .inl f))] H := hP
    have hD : va_D A [(z0, .inr (9, [.ref a0, .ref b0, .ref h0, .ref s0, .ref l0, .ref e0, .ref k0, .int u7, .int u8, .int u9])), (a0, .inr (8, [.ref a1])), (a1, .inr (6, [.ref a2])), (a2, .inl (cA 0, 61, .inl f))] := hD
    by_cases c4 : o1.1 = 3
    · have h := ite_t c4 h
      have z4 : s.vm.findClass "java/lang/IndexOutOfBoundsException" = some ce.cls := by rw [c4] at z3; exact z3
      refine vx_catch (own := RL) (name := "java/lang/IndexOutOfBoundsException") (E := "java/lang/IndexOutOfBoundsException") hfc [] ⟨0, 5, 6, 28⟩ [] hT9 (fun z hz => absurd hz List.not_mem_nil) rfl (by decide) (hL9.link (List.mem_of_getElem? (i := 2) rfl)) ((hEV.1.2.2.2.2 "java/lang/IndexOutOfBoundsException" (by decide +kernel)).use rfl) z1 z2 z4 ?_
      refine W.cs (cells' := 1) (slots' := 6) rfl rfl ?_
      refine lv_astore_n hx hb dL_massOf_6 rfl hl (Nat.le_of_ble_eq_true rfl) rfl (fun ls hl => ?_)
      have hl : lv_has ls 3 [(2, .ref q9), (0, .ref z0), (1, .int x1)] := hl
      refine lv_bipush (v := (-11)) hx hb dL_massOf_7 (by decide) ?_
      have h := Option.some.inj h
      subst h
      refine W.widen (k := 1) (n := 6) (Nat.le_of_ble_eq_true rfl) (Nat.le_of_ble_eq_true rfl) ?_
      exact hend (adr []) _ _ _ _ _ _ _ rfl rfl (rtn_i _) hP hD hS dL_massOf_9
    · have h := ite_f c4 h
      exact nn h

noncomputable def SL_placeToe (N : Nat) (f : Nat → Int32) (v1 : Int32) (v2 : Int32) (g : Nat → Int32) (x1 : Int32) : Option (Int32 × (Nat → Int32) × Int32 × Int32 × (Nat → Int32)) := bnd (SX5_placeToe N f v1 v2 g x1) (fun o1 : Nat × Int32 × (Nat → Int32) × (Nat → Int32) × Int32 × Int32 => if o1.1 = 0 then (some ((o1.2.1, o1.2.2.1, o1.2.2.2.2.1, o1.2.2.2.2.2, o1.2.2.2.1))) else (if o1.1 = 3 then (some (((-1), o1.2.2.1, o1.2.2.2.2.1, o1.2.2.2.2.2, o1.2.2.2.1))) else (if o1.1 = 2 then (some (((-2), o1.2.2.1, o1.2.2.2.2.1, o1.2.2.2.2.2, o1.2.2.2.1))) else (none))))
abbrev RM_L_placeToe : Room := { frames := 8, cells := 2, slots := 12, locals := 123 }
set_option maxHeartbeats 4000000 in
theorem kL_placeToe (l : Launch) (hst : l.stackTraces = false) (D : va_G) (cA : Nat → ClassId) (G : eG) (z0 a0 b0 h0 s0 l0 e0 k0 a1 a2 h1 h2 : Nat) (N : Nat) (u7 : Int32) (u8 : Int32) (u9 : Int32) (f : Nat → Int32) (v1 : Int32) (v2 : Int32) (g : Nat → Int32) (x1 : Int32) {r : Int32 × (Nat → Int32) × Int32 × Int32 × (Nat → Int32)} (hr : SL_placeToe N f v1 v2 g x1 = some r) {sz : Nat} : Met l yL_placeToe wsL_placeToe RM_L_placeToe (va_Pc [.ref z0, .int x1] (gqLB G D cA [(z0, .inr (9, [.ref a0, .ref b0, .ref h0, .ref s0, .ref l0, .ref e0, .ref k0, .int u7, .int u8, .int u9])), (a0, .inr (8, [.ref a1])), (a1, .inr (6, [.ref a2])), (a2, .inl (cA 0, 61, .inl f)), (h0, .inr (5, [.ref h1, .int v1, .int v2])), (h1, .inr (6, [.ref h2])), (h2, .inl (cA 0, 488, .inl g))] sz)) (gqQ D (fun as => (some (.int r.1))) (fun as => [(z0, .inr (9, [.ref a0, .ref b0, .ref h0, .ref s0, .ref l0, .ref e0, .ref k0, .int u7, .int u8, .int u9])), (a0, .inr (8, [.ref a1])), (a1, .inr (6, [.ref a2])), (a2, .inl (cA 0, 61, .inl r.2.1)), (h0, .inr (5, [.ref h1, .int r.2.2.1, .int r.2.2.2.1])), (h1, .inr (6, [.ref h2])), (h2, .inl (cA 0, 488, .inl r.2.2.2.2))]) (va_A [(z0, .inr (9, [.ref a0, .ref b0, .ref h0, .ref s0, .ref l0, .ref e0, .ref k0, .int u7, .int u8, .int u9])), (a0, .inr (8, [.ref a1])), (a1, .inr (6, [.ref a2])), (a2, .inl (cA 0, 61, .inl f)), (h0, .inr (5, [.ref h1, .int v1, .int v2])), (h1, .inr (6, [.ref h2])), (h2, .inl (cA 0, 488, .inl g))] sz)) 2 12 (va_A [(z0, .inr (9, [.ref a0, .ref b0, .ref h0, .ref s0, .ref l0, .ref e0, .ref k0, .int u7, .int u8, .int u9])), (a0, .inr (8, [.ref a1])), (a1, .inr (6, [.ref a2])), (a2, .inl (cA 0, 61, .inl f)), (h0, .inr (5, [.ref h1, .int v1, .int v2])), (h1, .inr (6, [.ref h2])), (h2, .inl (cA 0, 488, .inl g))] sz) := by
  refine gqL_ofW (hh := [(0, 5, 6, 28), (0, 5, 9, 16)]) (cc := cL_placeToe) (maxL := 3) (ret := (some .int)) (by decide) rfl (Nat.le_of_ble_eq_true rfl) (fun p e s m args below meth c ls Q A hx hb hml hT9 hts hfc hK hP hD hS hA hEV hL9 hl hend => ?_)
  have hfc : s.vm.findClass RL = some m.cls := hfc
  have hl : lv_has ls 3 [(0, .ref z0), (1, .int x1)] := hl
  have h := hr
  clear hr
  unfold SL_placeToe at h
  refine lv_aload_n hx hb dL_placeToe_0 rfl (lv_at hl 0 rfl) ?_
  refine lv_iload_n hx hb dL_placeToe_1 rfl (lv_at hl 1 rfl) ?_
  obtain ⟨o1, ho1, h⟩ := bnd_i h
  refine xq_V (G := G) (v := (fun as => (some (.int o1.2.1)))) (As := [.int x1]) (rest := []) (wc := [(z0, .inr (9, [.ref a0, .ref b0, .ref h0, .ref s0, .ref l0, .ref e0, .ref k0, .int u7, .int u8, .int u9])), (a0, .inr (8, [.ref a1])), (a1, .inr (6, [.ref a2])), (a2, .inl (cA 0, 61, .inl f)), (h0, .inr (5, [.ref h1, .int v1, .int v2])), (h1, .inr (6, [.ref h2])), (h2, .inl (cA 0, 488, .inl g))]) (wr := []) (w1 := (fun as => [(z0, .inr (9, [.ref a0, .ref b0, .ref h0, .ref s0, .ref l0, .ref e0, .ref k0, .int u7, .int u8, .int u9])), (a0, .inr (8, [.ref a1])), (a1, .inr (6, [.ref a2])), (a2, .inl (cA 0, 61, .inl o1.2.2.1)), (h0, .inr (5, [.ref h1, .int o1.2.2.2.2.1, .int o1.2.2.2.2.2])), (h1, .inr (6, [.ref h2])), (h2, .inl (cA 0, 488, .inl o1.2.2.2.1))])) (ws2 := (fun as => [(z0, .inr (9, [.ref a0, .ref b0, .ref h0, .ref s0, .ref l0, .ref e0, .ref k0, .int u7, .int u8, .int u9])), (a0, .inr (8, [.ref a1])), (a1, .inr (6, [.ref a2])), (a2, .inl (cA 0, 61, .inl o1.2.2.1)), (h0, .inr (5, [.ref h1, .int o1.2.2.2.2.1, .int o1.2.2.2.2.2])), (h1, .inr (6, [.ref h2])), (h2, .inl (cA 0, 488, .inl o1.2.2.2.1))])) (st1 := (fun as => [.int o1.2.1])) ⟨hx, hb, hml, hfc, hts⟩ hK hP hD hS hA hEV (kX5_placeToe l hst D cA G z0 a0 b0 h0 s0 l0 e0 k0 a1 a2 h1 h2 N u7 u8 u9 f v1 v2 g x1 ho1) (cwV 1 hts gL_placeToe_X5_placeToe rfl rfl rfl (by decide +kernel) ⟨(Nat.le_of_ble_eq_true rfl), (Nat.le_of_ble_eq_true rfl)⟩) [0, 1, 2, 3, 4, 5, 6] [] [0, 1, 2, 3, 4, 5, 6] rfl rfl rfl rfl (by decide) (fun _ => rfl) rfl 0 9 rfl rfl rfl rfl (fun _ => rfl) rfl hl.1 (Nat.le_of_ble_eq_true rfl) dL_placeToe_2 ⟨(Nat.le_of_ble_eq_true rfl), (Nat.le_of_ble_eq_true rfl)⟩ (fun c3 as2 H locs hP hD hS => ?_) (fun c3 as2 H locs q9 ce hP hD hS z1 z2 z3 => ?_)
  · have h := ite_t c3 h
    have hP : va_P D vwCl [(z0, .inr (9, [.ref a0, .ref b0, .ref h0, .ref s0, .ref l0, .ref e0, .ref k0, .int u7, .int u8, .int u9])), (a0, .inr (8, [.ref a1])), (a1, .inr (6, [.ref a2])), (a2, .inl (cA 0, 61, .inl o1.2.2.1)), (h0, .inr (5, [.ref h1, .int o1.2.2.2.2.1, .int o1.2.2.2.2.2])), (h1, .inr (6, [.ref h2])), (h2, .inl (cA 0, 488, .inl o1.2.2.2.1))] H := hP
    have hD : va_D A [(z0, .inr (9, [.ref a0, .ref b0, .ref h0, .ref s0, .ref l0, .ref e0, .ref k0, .int u7, .int u8, .int u9])), (a0, .inr (8, [.ref a1])), (a1, .inr (6, [.ref a2])), (a2, .inl (cA 0, 61, .inl o1.2.2.1)), (h0, .inr (5, [.ref h1, .int o1.2.2.2.2.1, .int o1.2.2.2.2.2])), (h1, .inr (6, [.ref h2])), (h2, .inl (cA 0, 488, .inl o1.2.2.2.1))] := hD
    refine W.cs (cells' := 2) (slots' := 12) rfl rfl ?_
    have h := Option.some.inj h
    subst h
    refine W.widen (k := 2) (n := 12) (Nat.le_of_ble_eq_true rfl) (Nat.le_of_ble_eq_true rfl) ?_
    exact hend (adr []) _ _ _ _ _ _ _ rfl rfl (rtn_i _) hP hD hS dL_placeToe_5
  · have h := ite_f c3 h
    have hP : va_P D vwCl [(z0, .inr (9, [.ref a0, .ref b0, .ref h0, .ref s0, .ref l0, .ref e0, .ref k0, .int u7, .int u8, .int u9])), (a0, .inr (8, [.ref a1])), (a1, .inr (6, [.ref a2])), (a2, .inl (cA 0, 61, .inl o1.2.2.1)), (h0, .inr (5, [.ref h1, .int o1.2.2.2.2.1, .int o1.2.2.2.2.2])), (h1, .inr (6, [.ref h2])), (h2, .inl (cA 0, 488, .inl o1.2.2.2.1))] H := hP
    have hD : va_D A [(z0, .inr (9, [.ref a0, .ref b0, .ref h0, .ref s0, .ref l0, .ref e0, .ref k0, .int u7, .int u8, .int u9])), (a0, .inr (8, [.ref a1])), (a1, .inr (6, [.ref a2])), (a2, .inl (cA 0, 61, .inl o1.2.2.1)), (h0, .inr (5, [.ref h1, .int o1.2.2.2.2.1, .int o1.2.2.2.2.2])), (h1, .inr (6, [.ref h2])), (h2, .inl (cA 0, 488, .inl o1.2.2.2.1))] := hD
    by_cases c4 : o1.1 = 3
    · have h := ite_t c4 h
      have z4 : s.vm.findClass "java/lang/IndexOutOfBoundsException" = some ce.cls := by rw [c4] at z3; exact z3
      refine vx_catch (own := RL) (name := "java/lang/IndexOutOfBoundsException") (E := "java/lang/IndexOutOfBoundsException") hfc [] ⟨0, 5, 6, 28⟩ [⟨0, 5, 9, 16⟩] hT9 (fun z hz => absurd hz List.not_mem_nil) rfl (by decide) (hL9.link (List.mem_of_getElem? (i := 2) rfl)) ((hEV.1.2.2.2.2 "java/lang/IndexOutOfBoundsException" (by decide +kernel)).use rfl) z1 z2 z4 ?_
      refine W.cs (cells' := 2) (slots' := 12) rfl rfl ?_
      refine lv_astore_n hx hb dL_placeToe_6 rfl hl (Nat.le_of_ble_eq_true rfl) rfl (fun ls hl => ?_)
      have hl : lv_has ls 3 [(2, .ref q9), (0, .ref z0), (1, .int x1)] := hl
      refine lv_iconst (v := (-1)) hx hb dL_placeToe_7 (by decide) ?_
      have h := Option.some.inj h
      subst h
      refine W.widen (k := 2) (n := 12) (Nat.le_of_ble_eq_true rfl) (Nat.le_of_ble_eq_true rfl) ?_
      exact hend (adr []) _ _ _ _ _ _ _ rfl rfl (rtn_i _) hP hD hS dL_placeToe_8
    · have h := ite_f c4 h
      by_cases c5 : o1.1 = 2
      · have h := ite_t c5 h
        have z4 : s.vm.findClass "java/lang/IllegalStateException" = some ce.cls := by rw [c5] at z3; exact z3
        have hp9 : ∀ z ∈ ([⟨0, 5, 6, 28⟩] : List ExceptionTableEntry), covers z 2 = false ∨ (z.catchType ≠ 0 ∧ ∃ nm : String, (Cond.classLink RL z.catchType nm).before args s = true ∧ va_Nc "java/lang/IllegalStateException" nm s) := by
          intro z hz
          rcases List.mem_cons.mp hz with rfl | hz
          · exact Or.inr ⟨by decide, _, (hL9.link (List.mem_of_getElem? (i := 2) rfl)), hL9.1.2.2.1⟩
          exact absurd hz List.not_mem_nil
        refine vx_catch (own := RL) (name := "java/lang/IllegalStateException") (E := "java/lang/IllegalStateException") hfc [⟨0, 5, 6, 28⟩] ⟨0, 5, 9, 16⟩ [] hT9 hp9 rfl (by decide) (hL9.link (List.mem_of_getElem? (i := 1) rfl)) ((hEV.1.2.2.2.2 "java/lang/IllegalStateException" (by decide +kernel)).use rfl) z1 z2 z4 ?_
        refine W.cs (cells' := 2) (slots' := 12) rfl rfl ?_
        refine lv_astore_n hx hb dL_placeToe_9 rfl hl (Nat.le_of_ble_eq_true rfl) rfl (fun ls hl => ?_)
        have hl : lv_has ls 3 [(2, .ref q9), (0, .ref z0), (1, .int x1)] := hl
        refine lv_bipush (v := (-2)) hx hb dL_placeToe_10 (by decide) ?_
        have h := Option.some.inj h
        subst h
        refine W.widen (k := 2) (n := 12) (Nat.le_of_ble_eq_true rfl) (Nat.le_of_ble_eq_true rfl) ?_
        exact hend (adr []) _ _ _ _ _ _ _ rfl rfl (rtn_i _) hP hD hS dL_placeToe_12
      · have h := ite_f c5 h
        exact nn h

noncomputable def SL_plugPosition (f : Nat → Int32) : Option (Int32) := lt_ (SX5_plugPosition f) (fun o1 : Nat × Int32 => if o1.1 = 0 then (some (o1.2)) else (if o1.1 = 4 then (some ((-13))) else (none)))
abbrev RM_L_plugPosition : Room := { frames := 8, cells := 1, slots := 6, locals := 122 }
set_option maxHeartbeats 4000000 in
theorem kL_plugPosition (l : Launch) (hst : l.stackTraces = false) (D : va_G) (cA : Nat → ClassId) (G : eG) (z0 a0 b0 h0 s0 l0 e0 k0 a1 a2 : Nat) (u7 : Int32) (u8 : Int32) (u9 : Int32) (f : Nat → Int32) {r : Int32} (hr : SL_plugPosition f = some r) {sz : Nat} : Met l yL_plugPosition wsL_plugPosition RM_L_plugPosition (va_Pc [.ref z0] (gqLB G D cA [(z0, .inr (9, [.ref a0, .ref b0, .ref h0, .ref s0, .ref l0, .ref e0, .ref k0, .int u7, .int u8, .int u9])), (a0, .inr (8, [.ref a1])), (a1, .inr (6, [.ref a2])), (a2, .inl (cA 0, 61, .inl f))] sz)) (gqQ D (fun as => (some (.int r))) (fun as => [(z0, .inr (9, [.ref a0, .ref b0, .ref h0, .ref s0, .ref l0, .ref e0, .ref k0, .int u7, .int u8, .int u9])), (a0, .inr (8, [.ref a1])), (a1, .inr (6, [.ref a2])), (a2, .inl (cA 0, 61, .inl f))]) (va_A [(z0, .inr (9, [.ref a0, .ref b0, .ref h0, .ref s0, .ref l0, .ref e0, .ref k0, .int u7, .int u8, .int u9])), (a0, .inr (8, [.ref a1])), (a1, .inr (6, [.ref a2])), (a2, .inl (cA 0, 61, .inl f))] sz)) 1 6 (va_A [(z0, .inr (9, [.ref a0, .ref b0, .ref h0, .ref s0, .ref l0, .ref e0, .ref k0, .int u7, .int u8, .int u9])), (a0, .inr (8, [.ref a1])), (a1, .inr (6, [.ref a2])), (a2, .inl (cA 0, 61, .inl f))] sz) := by
  refine gqL_ofW (hh := [(0, 4, 5, 84)]) (cc := cL_plugPosition) (maxL := 2) (ret := (some .int)) (by decide) rfl (Nat.le_of_ble_eq_true rfl) (fun p e s m args below meth c ls Q A hx hb hml hT9 hts hfc hK hP hD hS hA hEV hL9 hl hend => ?_)
  have hfc : s.vm.findClass RL = some m.cls := hfc
  have hl : lv_has ls 2 [(0, .ref z0)] := hl
  have h := hr
  clear hr
  unfold SL_plugPosition at h
  refine lv_aload_n hx hb dL_plugPosition_0 rfl (lv_at hl 0 rfl) ?_
  obtain ⟨o1, ho1, h⟩ := lt_i h
  refine xq_V (G := G) (v := (fun as => (some (.int o1.2)))) (As := []) (rest := []) (wc := [(z0, .inr (9, [.ref a0, .ref b0, .ref h0, .ref s0, .ref l0, .ref e0, .ref k0, .int u7, .int u8, .int u9])), (a0, .inr (8, [.ref a1])), (a1, .inr (6, [.ref a2])), (a2, .inl (cA 0, 61, .inl f))]) (wr := []) (w1 := (fun as => [(z0, .inr (9, [.ref a0, .ref b0, .ref h0, .ref s0, .ref l0, .ref e0, .ref k0, .int u7, .int u8, .int u9])), (a0, .inr (8, [.ref a1])), (a1, .inr (6, [.ref a2])), (a2, .inl (cA 0, 61, .inl f))])) (ws2 := (fun as => [(z0, .inr (9, [.ref a0, .ref b0, .ref h0, .ref s0, .ref l0, .ref e0, .ref k0, .int u7, .int u8, .int u9])), (a0, .inr (8, [.ref a1])), (a1, .inr (6, [.ref a2])), (a2, .inl (cA 0, 61, .inl f))])) (st1 := (fun as => [.int o1.2])) ⟨hx, hb, hml, hfc, hts⟩ hK hP hD hS hA hEV (kX5_plugPosition l hst D cA G z0 a0 b0 h0 s0 l0 e0 k0 a1 a2 u7 u8 u9 f ho1) (cwV 0 hts gL_plugPosition_X5_plugPosition rfl rfl rfl (by decide +kernel) ⟨(Nat.le_of_ble_eq_true rfl), (Nat.le_of_ble_eq_true rfl)⟩) [0, 1, 2, 3] [] [0, 1, 2, 3] rfl rfl rfl rfl (by decide) (fun _ => rfl) rfl 0 9 rfl rfl rfl rfl (fun _ => rfl) rfl hl.1 (Nat.le_of_ble_eq_true rfl) dL_plugPosition_1 ⟨(Nat.le_of_ble_eq_true rfl), (Nat.le_of_ble_eq_true rfl)⟩ (fun c3 as2 H locs hP hD hS => ?_) (fun c3 as2 H locs q9 ce hP hD hS z1 z2 z3 => ?_)
  · have h := ite_t c3 h
    have hP : va_P D vwCl [(z0, .inr (9, [.ref a0, .ref b0, .ref h0, .ref s0, .ref l0, .ref e0, .ref k0, .int u7, .int u8, .int u9])), (a0, .inr (8, [.ref a1])), (a1, .inr (6, [.ref a2])), (a2, .inl (cA 0, 61, .inl f))] H := hP
    have hD : va_D A [(z0, .inr (9, [.ref a0, .ref b0, .ref h0, .ref s0, .ref l0, .ref e0, .ref k0, .int u7, .int u8, .int u9])), (a0, .inr (8, [.ref a1])), (a1, .inr (6, [.ref a2])), (a2, .inl (cA 0, 61, .inl f))] := hD
    refine W.cs (cells' := 1) (slots' := 6) rfl rfl ?_
    have h := Option.some.inj h
    subst h
    refine W.widen (k := 1) (n := 6) (Nat.le_of_ble_eq_true rfl) (Nat.le_of_ble_eq_true rfl) ?_
    exact hend (adr []) _ _ _ _ _ _ _ rfl rfl (rtn_i _) hP hD hS dL_plugPosition_4
  · have h := ite_f c3 h
    have hP : va_P D vwCl [(z0, .inr (9, [.ref a0, .ref b0, .ref h0, .ref s0, .ref l0, .ref e0, .ref k0, .int u7, .int u8, .int u9])), (a0, .inr (8, [.ref a1])), (a1, .inr (6, [.ref a2])), (a2, .inl (cA 0, 61, .inl f))] H := hP
    have hD : va_D A [(z0, .inr (9, [.ref a0, .ref b0, .ref h0, .ref s0, .ref l0, .ref e0, .ref k0, .int u7, .int u8, .int u9])), (a0, .inr (8, [.ref a1])), (a1, .inr (6, [.ref a2])), (a2, .inl (cA 0, 61, .inl f))] := hD
    by_cases c4 : o1.1 = 4
    · have h := ite_t c4 h
      have z4 : s.vm.findClass "java/util/NoSuchElementException" = some ce.cls := by rw [c4] at z3; exact z3
      refine vx_catch (own := RL) (name := "java/util/NoSuchElementException") (E := "java/util/NoSuchElementException") hfc [] ⟨0, 4, 5, 84⟩ [] hT9 (fun z hz => absurd hz List.not_mem_nil) rfl (by decide) (hL9.link (List.mem_of_getElem? (i := 3) rfl)) ((hEV.1.2.2.2.2 "java/util/NoSuchElementException" (by decide +kernel)).use rfl) z1 z2 z4 ?_
      refine W.cs (cells' := 1) (slots' := 6) rfl rfl ?_
      refine lv_astore_n hx hb dL_plugPosition_5 rfl hl (Nat.le_of_ble_eq_true rfl) rfl (fun ls hl => ?_)
      have hl : lv_has ls 2 [(1, .ref q9), (0, .ref z0)] := hl
      refine lv_bipush (v := (-13)) hx hb dL_plugPosition_6 (by decide) ?_
      have h := Option.some.inj h
      subst h
      refine W.widen (k := 1) (n := 6) (Nat.le_of_ble_eq_true rfl) (Nat.le_of_ble_eq_true rfl) ?_
      exact hend (adr []) _ _ _ _ _ _ _ rfl rfl (rtn_i _) hP hD hS dL_plugPosition_8
    · have h := ite_f c4 h
      exact nn h

noncomputable def SL_positionOf (f : Nat → Int32) (x1 : Int32) : Option (Int32) := lt_ (SX5_positionOf f x1) (fun o1 : Nat × Int32 => if o1.1 = 0 then (some (o1.2)) else (if o1.1 = 3 then (some ((-11))) else (none)))
abbrev RM_L_positionOf : Room := { frames := 8, cells := 1, slots := 6, locals := 124 }
set_option maxHeartbeats 4000000 in
theorem kL_positionOf (l : Launch) (hst : l.stackTraces = false) (D : va_G) (cA : Nat → ClassId) (G : eG) (z0 a0 b0 h0 s0 l0 e0 k0 a1 a2 : Nat) (u7 : Int32) (u8 : Int32) (u9 : Int32) (f : Nat → Int32) (x1 : Int32) {r : Int32} (hr : SL_positionOf f x1 = some r) {sz : Nat} : Met l yL_positionOf wsL_positionOf RM_L_positionOf (va_Pc [.ref z0, .int x1] (gqLB G D cA [(z0, .inr (9, [.ref a0, .ref b0, .ref h0, .ref s0, .ref l0, .ref e0, .ref k0, .int u7, .int u8, .int u9])), (a0, .inr (8, [.ref a1])), (a1, .inr (6, [.ref a2])), (a2, .inl (cA 0, 61, .inl f))] sz)) (gqQ D (fun as => (some (.int r))) (fun as => [(z0, .inr (9, [.ref a0, .ref b0, .ref h0, .ref s0, .ref l0, .ref e0, .ref k0, .int u7, .int u8, .int u9])), (a0, .inr (8, [.ref a1])), (a1, .inr (6, [.ref a2])), (a2, .inl (cA 0, 61, .inl f))]) (va_A [(z0, .inr (9, [.ref a0, .ref b0, .ref h0, .ref s0, .ref l0, .ref e0, .ref k0, .int u7, .int u8, .int u9])), (a0, .inr (8, [.ref a1])), (a1, .inr (6, [.ref a2])), (a2, .inl (cA 0, 61, .inl f))] sz)) 1 6 (va_A [(z0, .inr (9, [.ref a0, .ref b0, .ref h0, .ref s0, .ref l0, .ref e0, .ref k0, .int u7, .int u8, .int u9])), (a0, .inr (8, [.ref a1])), (a1, .inr (6, [.ref a2])), (a2, .inl (cA 0, 61, .inl f))] sz) := by
  refine gqL_ofW (hh := [(0, 5, 6, 28)]) (cc := cL_positionOf) (maxL := 3) (ret := (some .int)) (by decide) rfl (Nat.le_of_ble_eq_true rfl) (fun p e s m args below meth c ls Q A hx hb hml hT9 hts hfc hK hP hD hS hA hEV hL9 hl hend => ?_)
  have hfc : s.vm.findClass RL = some m.cls := hfc
  have hl : lv_has ls 3 [(0, .ref z0), (1, .int x1)] := hl
  have h := hr
  clear hr
  unfold SL_positionOf at h
  refine lv_aload_n hx hb dL_positionOf_0 rfl (lv_at hl 0 rfl) ?_
  refine lv_iload_n hx hb dL_positionOf_1 rfl (lv_at hl 1 rfl) ?_
  obtain ⟨o1, ho1, h⟩ := lt_i h
  refine xq_V (G := G) (v := (fun as => (some (.int o1.2)))) (As := [.int x1]) (rest := []) (wc := [(z0, .inr (9, [.ref a0, .ref b0, .ref h0, .ref s0, .ref l0, .ref e0, .ref k0, .int u7, .int u8, .int u9])), (a0, .inr (8, [.ref a1])), (a1, .inr (6, [.ref a2])), (a2, .inl (cA 0, 61, .inl f))]) (wr := []) (w1 := (fun as => [(z0, .inr (9, [.ref a0, .ref b0, .ref h0, .ref s0, .ref l0, .ref e0, .ref k0, .int u7, .int u8, .int u9])), (a0, .inr (8, [.ref a1])), (a1, .inr (6, [.ref a2])), (a2, .inl (cA 0, 61, .inl f))])) (ws2 := (fun as => [(z0, .inr (9, [.ref a0, .ref b0, .ref h0, .ref s0, .ref l0, .ref e0, .ref k0, .int u7, .int u8, .int u9])), (a0, .inr (8, [.ref a1])), (a1, .inr (6, [.ref a2])), (a2, .inl (cA 0, 61, .inl f))])) (st1 := (fun as => [.int o1.2])) ⟨hx, hb, hml, hfc, hts⟩ hK hP hD hS hA hEV (kX5_positionOf l hst D cA G z0 a0 b0 h0 s0 l0 e0 k0 a1 a2 u7 u8 u9 f x1 ho1) (cwV 1 hts gL_positionOf_X5_positionOf rfl rfl rfl (by decide +kernel) ⟨(Nat.le_of_ble_eq_true rfl), (Nat.le_of_ble_eq_true rfl)⟩) [0, 1, 2, 3] [] [0, 1, 2, 3] rfl rfl rfl rfl (by decide) (fun _ => rfl) rfl 0 9 rfl rfl rfl rfl (fun _ => rfl) rfl hl.1 (Nat.le_of_ble_eq_true rfl) dL_positionOf_2 ⟨(Nat.le_of_ble_eq_true rfl), (Nat.le_of_ble_eq_true rfl)⟩ (fun c3 as2 H locs hP hD hS => ?_) (fun c3 as2 H locs q9 ce hP hD hS z1 z2 z3 => ?_)
  · have h := ite_t c3 h
    have hP : va_P D vwCl [(z0, .inr (9, [.ref a0, .ref b0, .ref h0, .ref s0, .ref l0, .ref e0, .ref k0, .int u7, .int u8, .int u9])), (a0, .inr (8, [.ref a1])), (a1, .inr (6, [.ref a2])), (a2, .inl (cA 0, 61, .inl f))] H := hP
    have hD : va_D A [(z0, .inr (9, [.ref a0, .ref b0, .ref h0, .ref s0, .ref l0, .ref e0, .ref k0, .int u7, .int u8, .int u9])), (a0, .inr (8, [.ref a1])), (a1, .inr (6, [.ref a2])), (a2, .inl (cA 0, 61, .inl f))] := hD
    refine W.cs (cells' := 1) (slots' := 6) rfl rfl ?_
    have h := Option.some.inj h
    subst h
    refine W.widen (k := 1) (n := 6) (Nat.le_of_ble_eq_true rfl) (Nat.le_of_ble_eq_true rfl) ?_
    exact hend (adr []) _ _ _ _ _ _ _ rfl rfl (rtn_i _) hP hD hS dL_positionOf_5
  · have h := ite_f c3 h
    have hP : va_P D vwCl [(z0, .inr (9, [.ref a0, .ref b0, .ref h0, .ref s0, .ref l0, .ref e0, .ref k0, .int u7, .int u8, .int u9])), (a0, .inr (8, [.ref a1])), (a1, .inr (6, [.ref a2])), (a2, .inl (cA 0, 61, .inl f))] H := hP
    have hD : va_D A [(z0, .inr (9, [.ref a0, .ref b0, .ref h0, .ref s0, .ref l0, .ref e0, .ref k0, .int u7, .int u8, .int u9])), (a0, .inr (8, [.ref a1])), (a1, .inr (6, [.ref a2])), (a2, .inl (cA 0, 61, .inl f))] := hD
    by_cases c4 : o1.1 = 3
    · have h := ite_t c4 h
      have z4 : s.vm.findClass "java/lang/IndexOutOfBoundsException" = some ce.cls := by rw [c4] at z3; exact z3
      refine vx_catch (own := RL) (name := "java/lang/IndexOutOfBoundsException") (E := "java/lang/IndexOutOfBoundsException") hfc [] ⟨0, 5, 6, 28⟩ [] hT9 (fun z hz => absurd hz List.not_mem_nil) rfl (by decide) (hL9.link (List.mem_of_getElem? (i := 2) rfl)) ((hEV.1.2.2.2.2 "java/lang/IndexOutOfBoundsException" (by decide +kernel)).use rfl) z1 z2 z4 ?_
      refine W.cs (cells' := 1) (slots' := 6) rfl rfl ?_
      refine lv_astore_n hx hb dL_positionOf_6 rfl hl (Nat.le_of_ble_eq_true rfl) rfl (fun ls hl => ?_)
      have hl : lv_has ls 3 [(2, .ref q9), (0, .ref z0), (1, .int x1)] := hl
      refine lv_bipush (v := (-11)) hx hb dL_positionOf_7 (by decide) ?_
      have h := Option.some.inj h
      subst h
      refine W.widen (k := 1) (n := 6) (Nat.le_of_ble_eq_true rfl) (Nat.le_of_ble_eq_true rfl) ?_
      exact hend (adr []) _ _ _ _ _ _ _ rfl rfl (rtn_i _) hP hD hS dL_positionOf_9
    · have h := ite_f c4 h
      exact nn h

noncomputable def SL_pullPlug (N : Nat) (f : Nat → Int32) (v1 : Int32) (v2 : Int32) (g : Nat → Int32) : Option (Int32 × (Nat → Int32) × Int32 × Int32 × (Nat → Int32)) := bnd (SX5_pullPlug N f v1 v2 g) (fun o1 : Nat × Int32 × (Nat → Int32) × (Nat → Int32) × Int32 × Int32 => if o1.1 = 0 then (some ((o1.2.1, o1.2.2.1, o1.2.2.2.2.1, o1.2.2.2.2.2, o1.2.2.2.1))) else (if o1.1 = 2 then (some (((-1), o1.2.2.1, o1.2.2.2.2.1, o1.2.2.2.2.2, o1.2.2.2.1))) else (none)))
abbrev RM_L_pullPlug : Room := { frames := 7, cells := 1, slots := 6, locals := 102 }
set_option maxHeartbeats 4000000 in
theorem kL_pullPlug (l : Launch) (hst : l.stackTraces = false) (D : va_G) (cA : Nat → ClassId) (G : eG) (z0 a0 b0 h0 s0 l0 e0 k0 a1 a2 h1 h2 : Nat) (N : Nat) (u7 : Int32) (u8 : Int32) (u9 : Int32) (f : Nat → Int32) (v1 : Int32) (v2 : Int32) (g : Nat → Int32) {r : Int32 × (Nat → Int32) × Int32 × Int32 × (Nat → Int32)} (hr : SL_pullPlug N f v1 v2 g = some r) {sz : Nat} : Met l yL_pullPlug wsL_pullPlug RM_L_pullPlug (va_Pc [.ref z0] (gqLB G D cA [(z0, .inr (9, [.ref a0, .ref b0, .ref h0, .ref s0, .ref l0, .ref e0, .ref k0, .int u7, .int u8, .int u9])), (a0, .inr (8, [.ref a1])), (a1, .inr (6, [.ref a2])), (a2, .inl (cA 0, 61, .inl f)), (h0, .inr (5, [.ref h1, .int v1, .int v2])), (h1, .inr (6, [.ref h2])), (h2, .inl (cA 0, 488, .inl g))] sz)) (gqQ D (fun as => (some (.int r.1))) (fun as => [(z0, .inr (9, [.ref a0, .ref b0, .ref h0, .ref s0, .ref l0, .ref e0, .ref k0, .int u7, .int u8, .int u9])), (a0, .inr (8, [.ref a1])), (a1, .inr (6, [.ref a2])), (a2, .inl (cA 0, 61, .inl r.2.1)), (h0, .inr (5, [.ref h1, .int r.2.2.1, .int r.2.2.2.1])), (h1, .inr (6, [.ref h2])), (h2, .inl (cA 0, 488, .inl r.2.2.2.2))]) (va_A [(z0, .inr (9, [.ref a0, .ref b0, .ref h0, .ref s0, .ref l0, .ref e0, .ref k0, .int u7, .int u8, .int u9])), (a0, .inr (8, [.ref a1])), (a1, .inr (6, [.ref a2])), (a2, .inl (cA 0, 61, .inl f)), (h0, .inr (5, [.ref h1, .int v1, .int v2])), (h1, .inr (6, [.ref h2])), (h2, .inl (cA 0, 488, .inl g))] sz)) 1 6 (va_A [(z0, .inr (9, [.ref a0, .ref b0, .ref h0, .ref s0, .ref l0, .ref e0, .ref k0, .int u7, .int u8, .int u9])), (a0, .inr (8, [.ref a1])), (a1, .inr (6, [.ref a2])), (a2, .inl (cA 0, 61, .inl f)), (h0, .inr (5, [.ref h1, .int v1, .int v2])), (h1, .inr (6, [.ref h2])), (h2, .inl (cA 0, 488, .inl g))] sz) := by
  refine gqL_ofW (hh := [(0, 4, 5, 16)]) (cc := cL_pullPlug) (maxL := 2) (ret := (some .int)) (by decide) rfl (Nat.le_of_ble_eq_true rfl) (fun p e s m args below meth c ls Q A hx hb hml hT9 hts hfc hK hP hD hS hA hEV hL9 hl hend => ?_)
  have hfc : s.vm.findClass RL = some m.cls := hfc
  have hl : lv_has ls 2 [(0, .ref z0)] := hl
  have h := hr
  clear hr
  unfold SL_pullPlug at h
  refine lv_aload_n hx hb dL_pullPlug_0 rfl (lv_at hl 0 rfl) ?_
  obtain ⟨o1, ho1, h⟩ := bnd_i h
  refine xq_V (G := G) (v := (fun as => (some (.int o1.2.1)))) (As := []) (rest := []) (wc := [(z0, .inr (9, [.ref a0, .ref b0, .ref h0, .ref s0, .ref l0, .ref e0, .ref k0, .int u7, .int u8, .int u9])), (a0, .inr (8, [.ref a1])), (a1, .inr (6, [.ref a2])), (a2, .inl (cA 0, 61, .inl f)), (h0, .inr (5, [.ref h1, .int v1, .int v2])), (h1, .inr (6, [.ref h2])), (h2, .inl (cA 0, 488, .inl g))]) (wr := []) (w1 := (fun as => [(z0, .inr (9, [.ref a0, .ref b0, .ref h0, .ref s0, .ref l0, .ref e0, .ref k0, .int u7, .int u8, .int u9])), (a0, .inr (8, [.ref a1])), (a1, .inr (6, [.ref a2])), (a2, .inl (cA 0, 61, .inl o1.2.2.1)), (h0, .inr (5, [.ref h1, .int o1.2.2.2.2.1, .int o1.2.2.2.2.2])), (h1, .inr (6, [.ref h2])), (h2, .inl (cA 0, 488, .inl o1.2.2.2.1))])) (ws2 := (fun as => [(z0, .inr (9, [.ref a0, .ref b0, .ref h0, .ref s0, .ref l0, .ref e0, .ref k0, .int u7, .int u8, .int u9])), (a0, .inr (8, [.ref a1])), (a1, .inr (6, [.ref a2])), (a2, .inl (cA 0, 61, .inl o1.2.2.1)), (h0, .inr (5, [.ref h1, .int o1.2.2.2.2.1, .int o1.2.2.2.2.2])), (h1, .inr (6, [.ref h2])), (h2, .inl (cA 0, 488, .inl o1.2.2.2.1))])) (st1 := (fun as => [.int o1.2.1])) ⟨hx, hb, hml, hfc, hts⟩ hK hP hD hS hA hEV (kX5_pullPlug l hst D cA G z0 a0 b0 h0 s0 l0 e0 k0 a1 a2 h1 h2 N u7 u8 u9 f v1 v2 g ho1) (cwV 0 hts gL_pullPlug_X5_pullPlug rfl rfl rfl (by decide +kernel) ⟨(Nat.le_of_ble_eq_true rfl), (Nat.le_of_ble_eq_true rfl)⟩) [0, 1, 2, 3, 4, 5, 6] [] [0, 1, 2, 3, 4, 5, 6] rfl rfl rfl rfl (by decide) (fun _ => rfl) rfl 0 9 rfl rfl rfl rfl (fun _ => rfl) rfl hl.1 (Nat.le_of_ble_eq_true rfl) dL_pullPlug_1 ⟨(Nat.le_of_ble_eq_true rfl), (Nat.le_of_ble_eq_true rfl)⟩ (fun c3 as2 H locs hP hD hS => ?_) (fun c3 as2 H locs q9 ce hP hD hS z1 z2 z3 => ?_)
  · have h := ite_t c3 h
    have hP : va_P D vwCl [(z0, .inr (9, [.ref a0, .ref b0, .ref h0, .ref s0, .ref l0, .ref e0, .ref k0, .int u7, .int u8, .int u9])), (a0, .inr (8, [.ref a1])), (a1, .inr (6, [.ref a2])), (a2, .inl (cA 0, 61, .inl o1.2.2.1)), (h0, .inr (5, [.ref h1, .int o1.2.2.2.2.1, .int o1.2.2.2.2.2])), (h1, .inr (6, [.ref h2])), (h2, .inl (cA 0, 488, .inl o1.2.2.2.1))] H := hP
    have hD : va_D A [(z0, .inr (9, [.ref a0, .ref b0, .ref h0, .ref s0, .ref l0, .ref e0, .ref k0, .int u7, .int u8, .int u9])), (a0, .inr (8, [.ref a1])), (a1, .inr (6, [.ref a2])), (a2, .inl (cA 0, 61, .inl o1.2.2.1)), (h0, .inr (5, [.ref h1, .int o1.2.2.2.2.1, .int o1.2.2.2.2.2])), (h1, .inr (6, [.ref h2])), (h2, .inl (cA 0, 488, .inl o1.2.2.2.1))] := hD
    refine W.cs (cells' := 1) (slots' := 6) rfl rfl ?_
    have h := Option.some.inj h
    subst h
    refine W.widen (k := 1) (n := 6) (Nat.le_of_ble_eq_true rfl) (Nat.le_of_ble_eq_true rfl) ?_
    exact hend (adr []) _ _ _ _ _ _ _ rfl rfl (rtn_i _) hP hD hS dL_pullPlug_4
  · have h := ite_f c3 h
    have hP : va_P D vwCl [(z0, .inr (9, [.ref a0, .ref b0, .ref h0, .ref s0, .ref l0, .ref e0, .ref k0, .int u7, .int u8, .int u9])), (a0, .inr (8, [.ref a1])), (a1, .inr (6, [.ref a2])), (a2, .inl (cA 0, 61, .inl o1.2.2.1)), (h0, .inr (5, [.ref h1, .int o1.2.2.2.2.1, .int o1.2.2.2.2.2])), (h1, .inr (6, [.ref h2])), (h2, .inl (cA 0, 488, .inl o1.2.2.2.1))] H := hP
    have hD : va_D A [(z0, .inr (9, [.ref a0, .ref b0, .ref h0, .ref s0, .ref l0, .ref e0, .ref k0, .int u7, .int u8, .int u9])), (a0, .inr (8, [.ref a1])), (a1, .inr (6, [.ref a2])), (a2, .inl (cA 0, 61, .inl o1.2.2.1)), (h0, .inr (5, [.ref h1, .int o1.2.2.2.2.1, .int o1.2.2.2.2.2])), (h1, .inr (6, [.ref h2])), (h2, .inl (cA 0, 488, .inl o1.2.2.2.1))] := hD
    by_cases c4 : o1.1 = 2
    · have h := ite_t c4 h
      have z4 : s.vm.findClass "java/lang/IllegalStateException" = some ce.cls := by rw [c4] at z3; exact z3
      refine vx_catch (own := RL) (name := "java/lang/IllegalStateException") (E := "java/lang/IllegalStateException") hfc [] ⟨0, 4, 5, 16⟩ [] hT9 (fun z hz => absurd hz List.not_mem_nil) rfl (by decide) (hL9.link (List.mem_of_getElem? (i := 1) rfl)) ((hEV.1.2.2.2.2 "java/lang/IllegalStateException" (by decide +kernel)).use rfl) z1 z2 z4 ?_
      refine W.cs (cells' := 1) (slots' := 6) rfl rfl ?_
      refine lv_astore_n hx hb dL_pullPlug_5 rfl hl (Nat.le_of_ble_eq_true rfl) rfl (fun ls hl => ?_)
      have hl : lv_has ls 2 [(1, .ref q9), (0, .ref z0)] := hl
      refine lv_iconst (v := (-1)) hx hb dL_pullPlug_6 (by decide) ?_
      have h := Option.some.inj h
      subst h
      refine W.widen (k := 1) (n := 6) (Nat.le_of_ble_eq_true rfl) (Nat.le_of_ble_eq_true rfl) ?_
      exact hend (adr []) _ _ _ _ _ _ _ rfl rfl (rtn_i _) hP hD hS dL_pullPlug_7
    · have h := ite_f c4 h
      exact nn h

noncomputable def SL_removeMoon (N : Nat) (f : Nat → Int32) (v1 : Int32) (v2 : Int32) (g : Nat → Int32) (x1 : Int32) : Option (Int32 × (Nat → Int32) × Int32 × Int32 × (Nat → Int32)) := bnd (SX5_removeMoon N f v1 v2 g x1) (fun o1 : Nat × Int32 × (Nat → Int32) × (Nat → Int32) × Int32 × Int32 => if o1.1 = 0 then (some ((o1.2.1, o1.2.2.1, o1.2.2.2.2.1, o1.2.2.2.2.2, o1.2.2.2.1))) else (if o1.1 = 3 then (some (((-1), o1.2.2.1, o1.2.2.2.2.1, o1.2.2.2.2.2, o1.2.2.2.1))) else (none)))
abbrev RM_L_removeMoon : Room := { frames := 8, cells := 1, slots := 6, locals := 124 }
set_option maxHeartbeats 4000000 in
theorem kL_removeMoon (l : Launch) (hst : l.stackTraces = false) (D : va_G) (cA : Nat → ClassId) (G : eG) (z0 a0 b0 h0 s0 l0 e0 k0 a1 a2 h1 h2 : Nat) (N : Nat) (u7 : Int32) (u8 : Int32) (u9 : Int32) (f : Nat → Int32) (v1 : Int32) (v2 : Int32) (g : Nat → Int32) (x1 : Int32) {r : Int32 × (Nat → Int32) × Int32 × Int32 × (Nat → Int32)} (hr : SL_removeMoon N f v1 v2 g x1 = some r) {sz : Nat} : Met l yL_removeMoon wsL_removeMoon RM_L_removeMoon (va_Pc [.ref z0, .int x1] (gqLB G D cA [(z0, .inr (9, [.ref a0, .ref b0, .ref h0, .ref s0, .ref l0, .ref e0, .ref k0, .int u7, .int u8, .int u9])), (a0, .inr (8, [.ref a1])), (a1, .inr (6, [.ref a2])), (a2, .inl (cA 0, 61, .inl f)), (h0, .inr (5, [.ref h1, .int v1, .int v2])), (h1, .inr (6, [.ref h2])), (h2, .inl (cA 0, 488, .inl g))] sz)) (gqQ D (fun as => (some (.int r.1))) (fun as => [(z0, .inr (9, [.ref a0, .ref b0, .ref h0, .ref s0, .ref l0, .ref e0, .ref k0, .int u7, .int u8, .int u9])), (a0, .inr (8, [.ref a1])), (a1, .inr (6, [.ref a2])), (a2, .inl (cA 0, 61, .inl r.2.1)), (h0, .inr (5, [.ref h1, .int r.2.2.1, .int r.2.2.2.1])), (h1, .inr (6, [.ref h2])), (h2, .inl (cA 0, 488, .inl r.2.2.2.2))]) (va_A [(z0, .inr (9, [.ref a0, .ref b0, .ref h0, .ref s0, .ref l0, .ref e0, .ref k0, .int u7, .int u8, .int u9])), (a0, .inr (8, [.ref a1])), (a1, .inr (6, [.ref a2])), (a2, .inl (cA 0, 61, .inl f)), (h0, .inr (5, [.ref h1, .int v1, .int v2])), (h1, .inr (6, [.ref h2])), (h2, .inl (cA 0, 488, .inl g))] sz)) 1 6 (va_A [(z0, .inr (9, [.ref a0, .ref b0, .ref h0, .ref s0, .ref l0, .ref e0, .ref k0, .int u7, .int u8, .int u9])), (a0, .inr (8, [.ref a1])), (a1, .inr (6, [.ref a2])), (a2, .inl (cA 0, 61, .inl f)), (h0, .inr (5, [.ref h1, .int v1, .int v2])), (h1, .inr (6, [.ref h2])), (h2, .inl (cA 0, 488, .inl g))] sz) := by
  refine gqL_ofW (hh := [(0, 5, 6, 28)]) (cc := cL_removeMoon) (maxL := 3) (ret := (some .int)) (by decide) rfl (Nat.le_of_ble_eq_true rfl) (fun p e s m args below meth c ls Q A hx hb hml hT9 hts hfc hK hP hD hS hA hEV hL9 hl hend => ?_)
  have hfc : s.vm.findClass RL = some m.cls := hfc
  have hl : lv_has ls 3 [(0, .ref z0), (1, .int x1)] := hl
  have h := hr
  clear hr
  unfold SL_removeMoon at h
  refine lv_aload_n hx hb dL_removeMoon_0 rfl (lv_at hl 0 rfl) ?_
  refine lv_iload_n hx hb dL_removeMoon_1 rfl (lv_at hl 1 rfl) ?_
  obtain ⟨o1, ho1, h⟩ := bnd_i h
  refine xq_V (G := G) (v := (fun as => (some (.int o1.2.1)))) (As := [.int x1]) (rest := []) (wc := [(z0, .inr (9, [.ref a0, .ref b0, .ref h0, .ref s0, .ref l0, .ref e0, .ref k0, .int u7, .int u8, .int u9])), (a0, .inr (8, [.ref a1])), (a1, .inr (6, [.ref a2])), (a2, .inl (cA 0, 61, .inl f)), (h0, .inr (5, [.ref h1, .int v1, .int v2])), (h1, .inr (6, [.ref h2])), (h2, .inl (cA 0, 488, .inl g))]) (wr := []) (w1 := (fun as => [(z0, .inr (9, [.ref a0, .ref b0, .ref h0, .ref s0, .ref l0, .ref e0, .ref k0, .int u7, .int u8, .int u9])), (a0, .inr (8, [.ref a1])), (a1, .inr (6, [.ref a2])), (a2, .inl (cA 0, 61, .inl o1.2.2.1)), (h0, .inr (5, [.ref h1, .int o1.2.2.2.2.1, .int o1.2.2.2.2.2])), (h1, .inr (6, [.ref h2])), (h2, .inl (cA 0, 488, .inl o1.2.2.2.1))])) (ws2 := (fun as => [(z0, .inr (9, [.ref a0, .ref b0, .ref h0, .ref s0, .ref l0, .ref e0, .ref k0, .int u7, .int u8, .int u9])), (a0, .inr (8, [.ref a1])), (a1, .inr (6, [.ref a2])), (a2, .inl (cA 0, 61, .inl o1.2.2.1)), (h0, .inr (5, [.ref h1, .int o1.2.2.2.2.1, .int o1.2.2.2.2.2])), (h1, .inr (6, [.ref h2])), (h2, .inl (cA 0, 488, .inl o1.2.2.2.1))])) (st1 := (fun as => [.int o1.2.1])) ⟨hx, hb, hml, hfc, hts⟩ hK hP hD hS hA hEV (kX5_removeMoon l hst D cA G z0 a0 b0 h0 s0 l0 e0 k0 a1 a2 h1 h2 N u7 u8 u9 f v1 v2 g x1 ho1) (cwV 1 hts gL_removeMoon_X5_removeMoon rfl rfl rfl (by decide +kernel) ⟨(Nat.le_of_ble_eq_true rfl), (Nat.le_of_ble_eq_true rfl)⟩) [0, 1, 2, 3, 4, 5, 6] [] [0, 1, 2, 3, 4, 5, 6] rfl rfl rfl rfl (by decide) (fun _ => rfl) rfl 0 9 rfl rfl rfl rfl (fun _ => rfl) rfl hl.1 (Nat.le_of_ble_eq_true rfl) dL_removeMoon_2 ⟨(Nat.le_of_ble_eq_true rfl), (Nat.le_of_ble_eq_true rfl)⟩ (fun c3 as2 H locs hP hD hS => ?_) (fun c3 as2 H locs q9 ce hP hD hS z1 z2 z3 => ?_)
  · have h := ite_t c3 h
    have hP : va_P D vwCl [(z0, .inr (9, [.ref a0, .ref b0, .ref h0, .ref s0, .ref l0, .ref e0, .ref k0, .int u7, .int u8, .int u9])), (a0, .inr (8, [.ref a1])), (a1, .inr (6, [.ref a2])), (a2, .inl (cA 0, 61, .inl o1.2.2.1)), (h0, .inr (5, [.ref h1, .int o1.2.2.2.2.1, .int o1.2.2.2.2.2])), (h1, .inr (6, [.ref h2])), (h2, .inl (cA 0, 488, .inl o1.2.2.2.1))] H := hP
    have hD : va_D A [(z0, .inr (9, [.ref a0, .ref b0, .ref h0, .ref s0, .ref l0, .ref e0, .ref k0, .int u7, .int u8, .int u9])), (a0, .inr (8, [.ref a1])), (a1, .inr (6, [.ref a2])), (a2, .inl (cA 0, 61, .inl o1.2.2.1)), (h0, .inr (5, [.ref h1, .int o1.2.2.2.2.1, .int o1.2.2.2.2.2])), (h1, .inr (6, [.ref h2])), (h2, .inl (cA 0, 488, .inl o1.2.2.2.1))] := hD
    refine W.cs (cells' := 1) (slots' := 6) rfl rfl ?_
    have h := Option.some.inj h
    subst h
    refine W.widen (k := 1) (n := 6) (Nat.le_of_ble_eq_true rfl) (Nat.le_of_ble_eq_true rfl) ?_
    exact hend (adr []) _ _ _ _ _ _ _ rfl rfl (rtn_i _) hP hD hS dL_removeMoon_5
  · have h := ite_f c3 h
    have hP : va_P D vwCl [(z0, .inr (9, [.ref a0, .ref b0, .ref h0, .ref s0, .ref l0, .ref e0, .ref k0, .int u7, .int u8, .int u9])), (a0, .inr (8, [.ref a1])), (a1, .inr (6, [.ref a2])), (a2, .inl (cA 0, 61, .inl o1.2.2.1)), (h0, .inr (5, [.ref h1, .int o1.2.2.2.2.1, .int o1.2.2.2.2.2])), (h1, .inr (6, [.ref h2])), (h2, .inl (cA 0, 488, .inl o1.2.2.2.1))] H := hP
    have hD : va_D A [(z0, .inr (9, [.ref a0, .ref b0, .ref h0, .ref s0, .ref l0, .ref e0, .ref k0, .int u7, .int u8, .int u9])), (a0, .inr (8, [.ref a1])), (a1, .inr (6, [.ref a2])), (a2, .inl (cA 0, 61, .inl o1.2.2.1)), (h0, .inr (5, [.ref h1, .int o1.2.2.2.2.1, .int o1.2.2.2.2.2])), (h1, .inr (6, [.ref h2])), (h2, .inl (cA 0, 488, .inl o1.2.2.2.1))] := hD
    by_cases c4 : o1.1 = 3
    · have h := ite_t c4 h
      have z4 : s.vm.findClass "java/lang/IndexOutOfBoundsException" = some ce.cls := by rw [c4] at z3; exact z3
      refine vx_catch (own := RL) (name := "java/lang/IndexOutOfBoundsException") (E := "java/lang/IndexOutOfBoundsException") hfc [] ⟨0, 5, 6, 28⟩ [] hT9 (fun z hz => absurd hz List.not_mem_nil) rfl (by decide) (hL9.link (List.mem_of_getElem? (i := 2) rfl)) ((hEV.1.2.2.2.2 "java/lang/IndexOutOfBoundsException" (by decide +kernel)).use rfl) z1 z2 z4 ?_
      refine W.cs (cells' := 1) (slots' := 6) rfl rfl ?_
      refine lv_astore_n hx hb dL_removeMoon_6 rfl hl (Nat.le_of_ble_eq_true rfl) rfl (fun ls hl => ?_)
      have hl : lv_has ls 3 [(2, .ref q9), (0, .ref z0), (1, .int x1)] := hl
      refine lv_iconst (v := (-1)) hx hb dL_removeMoon_7 (by decide) ?_
      have h := Option.some.inj h
      subst h
      refine W.widen (k := 1) (n := 6) (Nat.le_of_ble_eq_true rfl) (Nat.le_of_ble_eq_true rfl) ?_
      exact hend (adr []) _ _ _ _ _ _ _ rfl rfl (rtn_i _) hP hD hS dL_removeMoon_8
    · have h := ite_f c4 h
      exact nn h

noncomputable def SL_removeToe (N : Nat) (f : Nat → Int32) (v1 : Int32) (v2 : Int32) (g : Nat → Int32) (x1 : Int32) : Option (Int32 × (Nat → Int32) × Int32 × Int32 × (Nat → Int32)) := bnd (SX5_removeToe N f v1 v2 g x1) (fun o1 : Nat × Int32 × (Nat → Int32) × (Nat → Int32) × Int32 × Int32 => if o1.1 = 0 then (some ((o1.2.1, o1.2.2.1, o1.2.2.2.2.1, o1.2.2.2.2.2, o1.2.2.2.1))) else (if o1.1 = 3 then (some (((-1), o1.2.2.1, o1.2.2.2.2.1, o1.2.2.2.2.2, o1.2.2.2.1))) else (if o1.1 = 2 then (some (((-2), o1.2.2.1, o1.2.2.2.2.1, o1.2.2.2.2.2, o1.2.2.2.1))) else (none))))
abbrev RM_L_removeToe : Room := { frames := 8, cells := 2, slots := 12, locals := 123 }
set_option maxHeartbeats 4000000 in
theorem kL_removeToe (l : Launch) (hst : l.stackTraces = false) (D : va_G) (cA : Nat → ClassId) (G : eG) (z0 a0 b0 h0 s0 l0 e0 k0 a1 a2 h1 h2 : Nat) (N : Nat) (u7 : Int32) (u8 : Int32) (u9 : Int32) (f : Nat → Int32) (v1 : Int32) (v2 : Int32) (g : Nat → Int32) (x1 : Int32) {r : Int32 × (Nat → Int32) × Int32 × Int32 × (Nat → Int32)} (hr : SL_removeToe N f v1 v2 g x1 = some r) {sz : Nat} : Met l yL_removeToe wsL_removeToe RM_L_removeToe (va_Pc [.ref z0, .int x1] (gqLB G D cA [(z0, .inr (9, [.ref a0, .ref b0, .ref h0, .ref s0, .ref l0, .ref e0, .ref k0, .int u7, .int u8, .int u9])), (a0, .inr (8, [.ref a1])), (a1, .inr (6, [.ref a2])), (a2, .inl (cA 0, 61, .inl f)), (h0, .inr (5, [.ref h1, .int v1, .int v2])), (h1, .inr (6, [.ref h2])), (h2, .inl (cA 0, 488, .inl g))] sz)) (gqQ D (fun as => (some (.int r.1))) (fun as => [(z0, .inr (9, [.ref a0, .ref b0, .ref h0, .ref s0, .ref l0, .ref e0, .ref k0, .int u7, .int u8, .int u9])), (a0, .inr (8, [.ref a1])), (a1, .inr (6, [.ref a2])), (a2, .inl (cA 0, 61, .inl r.2.1)), (h0, .inr (5, [.ref h1, .int r.2.2.1, .int r.2.2.2.1])), (h1, .inr (6, [.ref h2])), (h2, .inl (cA 0, 488, .inl r.2.2.2.2))]) (va_A [(z0, .inr (9, [.ref a0, .ref b0, .ref h0, .ref s0, .ref l0, .ref e0, .ref k0, .int u7, .int u8, .int u9])), (a0, .inr (8, [.ref a1])), (a1, .inr (6, [.ref a2])), (a2, .inl (cA 0, 61, .inl f)), (h0, .inr (5, [.ref h1, .int v1, .int v2])), (h1, .inr (6, [.ref h2])), (h2, .inl (cA 0, 488, .inl g))] sz)) 2 12 (va_A [(z0, .inr (9, [.ref a0, .ref b0, .ref h0, .ref s0, .ref l0, .ref e0, .ref k0, .int u7, .int u8, .int u9])), (a0, .inr (8, [.ref a1])), (a1, .inr (6, [.ref a2])), (a2, .inl (cA 0, 61, .inl f)), (h0, .inr (5, [.ref h1, .int v1, .int v2])), (h1, .inr (6, [.ref h2])), (h2, .inl (cA 0, 488, .inl g))] sz) := by
  refine gqL_ofW (hh := [(0, 5, 6, 28), (0, 5, 9, 16)]) (cc := cL_removeToe) (maxL := 3) (ret := (some .int)) (by decide) rfl (Nat.le_of_ble_eq_true rfl) (fun p e s m args below meth c ls Q A hx hb hml hT9 hts hfc hK hP hD hS hA hEV hL9 hl hend => ?_)
  have hfc : s.vm.findClass RL = some m.cls := hfc
  have hl : lv_has ls 3 [(0, .ref z0), (1, .int x1)] := hl
  have h := hr
  clear hr
  unfold SL_removeToe at h
  refine lv_aload_n hx hb dL_removeToe_0 rfl (lv_at hl 0 rfl) ?_
  refine lv_iload_n hx hb dL_removeToe_1 rfl (lv_at hl 1 rfl) ?_
  obtain ⟨o1, ho1, h⟩ := bnd_i h
  refine xq_V (G := G) (v := (fun as => (some (.int o1.2.1)))) (As := [.int x1]) (rest := []) (wc := [(z0, .inr (9, [.ref a0, .ref b0, .ref h0, .ref s0, .ref l0, .ref e0, .ref k0, .int u7, .int u8, .int u9])), (a0, .inr (8, [.ref a1])), (a1, .inr (6, [.ref a2])), (a2, .inl (cA 0, 61, .inl f)), (h0, .inr (5, [.ref h1, .int v1, .int v2])), (h1, .inr (6, [.ref h2])), (h2, .inl (cA 0, 488, .inl g))]) (wr := []) (w1 := (fun as => [(z0, .inr (9, [.ref a0, .ref b0, .ref h0, .ref s0, .ref l0, .ref e0, .ref k0, .int u7, .int u8, .int u9])), (a0, .inr (8, [.ref a1])), (a1, .inr (6, [.ref a2])), (a2, .inl (cA 0, 61, .inl o1.2.2.1)), (h0, .inr (5, [.ref h1, .int o1.2.2.2.2.1, .int o1.2.2.2.2.2])), (h1, .inr (6, [.ref h2])), (h2, .inl (cA 0, 488, .inl o1.2.2.2.1))])) (ws2 := (fun as => [(z0, .inr (9, [.ref a0, .ref b0, .ref h0, .ref s0, .ref l0, .ref e0, .ref k0, .int u7, .int u8, .int u9])), (a0, .inr (8, [.ref a1])), (a1, .inr (6, [.ref a2])), (a2, .inl (cA 0, 61, .inl o1.2.2.1)), (h0, .inr (5, [.ref h1, .int o1.2.2.2.2.1, .int o1.2.2.2.2.2])), (h1, .inr (6, [.ref h2])), (h2, .inl (cA 0, 488, .inl o1.2.2.2.1))])) (st1 := (fun as => [.int o1.2.1])) ⟨hx, hb, hml, hfc, hts⟩ hK hP hD hS hA hEV (kX5_removeToe l hst D cA G z0 a0 b0 h0 s0 l0 e0 k0 a1 a2 h1 h2 N u7 u8 u9 f v1 v2 g x1 ho1) (cwV 1 hts gL_removeToe_X5_removeToe rfl rfl rfl (by decide +kernel) ⟨(Nat.le_of_ble_eq_true rfl), (Nat.le_of_ble_eq_true rfl)⟩) [0, 1, 2, 3, 4, 5, 6] [] [0, 1, 2, 3, 4, 5, 6] rfl rfl rfl rfl (by decide) (fun _ => rfl) rfl 0 9 rfl rfl rfl rfl (fun _ => rfl) rfl hl.1 (Nat.le_of_ble_eq_true rfl) dL_removeToe_2 ⟨(Nat.le_of_ble_eq_true rfl), (Nat.le_of_ble_eq_true rfl)⟩ (fun c3 as2 H locs hP hD hS => ?_) (fun c3 as2 H locs q9 ce hP hD hS z1 z2 z3 => ?_)
  · have h := ite_t c3 h
    have hP : va_P D vwCl [(z0, .inr (9, [.ref a0, .ref b0, .ref h0, .ref s0, .ref l0, .ref e0, .ref k0, .int u7, .int u8, .int u9])), (a0, .inr (8, [.ref a1])), (a1, .inr (6, [.ref a2])), (a2, .inl (cA 0, 61, .inl o1.2.2.1)), (h0, .inr (5, [.ref h1, .int o1.2.2.2.2.1, .int o1.2.2.2.2.2])), (h1, .inr (6, [.ref h2])), (h2, .inl (cA 0, 488, .inl o1.2.2.2.1))] H := hP
    have hD : va_D A [(z0, .inr (9, [.ref a0, .ref b0, .ref h0, .ref s0, .ref l0, .ref e0, .ref k0, .int u7, .int u8, .int u9])), (a0, .inr (8, [.ref a1])), (a1, .inr (6, [.ref a2])), (a2, .inl (cA 0, 61, .inl o1.2.2.1)), (h0, .inr (5, [.ref h1, .int o1.2.2.2.2.1, .int o1.2.2.2.2.2])), (h1, .inr (6, [.ref h2])), (h2, .inl (cA 0, 488, .inl o1.2.2.2.1))] := hD
    refine W.cs (cells' := 2) (slots' := 12) rfl rfl ?_
    have h := Option.some.inj h
    subst h
    refine W.widen (k := 2) (n := 12) (Nat.le_of_ble_eq_true rfl) (Nat.le_of_ble_eq_true rfl) ?_
    exact hend (adr []) _ _ _ _ _ _ _ rfl rfl (rtn_i _) hP hD hS dL_removeToe_5
  · have h := ite_f c3 h
    have hP : va_P D vwCl [(z0, .inr (9, [.ref a0, .ref b0, .ref h0, .ref s0, .ref l0, .ref e0, .ref k0, .int u7, .int u8, .int u9])), (a0, .inr (8, [.ref a1])), (a1, .inr (6, [.ref a2])), (a2, .inl (cA 0, 61, .inl o1.2.2.1)), (h0, .inr (5, [.ref h1, .int o1.2.2.2.2.1, .int o1.2.2.2.2.2])), (h1, .inr (6, [.ref h2])), (h2, .inl (cA 0, 488, .inl o1.2.2.2.1))] H := hP
    have hD : va_D A [(z0, .inr (9, [.ref a0, .ref b0, .ref h0, .ref s0, .ref l0, .ref e0, .ref k0, .int u7, .int u8, .int u9])), (a0, .inr (8, [.ref a1])), (a1, .inr (6, [.ref a2])), (a2, .inl (cA 0, 61, .inl o1.2.2.1)), (h0, .inr (5, [.ref h1, .int o1.2.2.2.2.1, .int o1.2.2.2.2.2])), (h1, .inr (6, [.ref h2])), (h2, .inl (cA 0, 488, .inl o1.2.2.2.1))] := hD
    by_cases c4 : o1.1 = 3
    · have h := ite_t c4 h
      have z4 : s.vm.findClass "java/lang/IndexOutOfBoundsException" = some ce.cls := by rw [c4] at z3; exact z3
      refine vx_catch (own := RL) (name := "java/lang/IndexOutOfBoundsException") (E := "java/lang/IndexOutOfBoundsException") hfc [] ⟨0, 5, 6, 28⟩ [⟨0, 5, 9, 16⟩] hT9 (fun z hz => absurd hz List.not_mem_nil) rfl (by decide) (hL9.link (List.mem_of_getElem? (i := 2) rfl)) ((hEV.1.2.2.2.2 "java/lang/IndexOutOfBoundsException" (by decide +kernel)).use rfl) z1 z2 z4 ?_
      refine W.cs (cells' := 2) (slots' := 12) rfl rfl ?_
      refine lv_astore_n hx hb dL_removeToe_6 rfl hl (Nat.le_of_ble_eq_true rfl) rfl (fun ls hl => ?_)
      have hl : lv_has ls 3 [(2, .ref q9), (0, .ref z0), (1, .int x1)] := hl
      refine lv_iconst (v := (-1)) hx hb dL_removeToe_7 (by decide) ?_
      have h := Option.some.inj h
      subst h
      refine W.widen (k := 2) (n := 12) (Nat.le_of_ble_eq_true rfl) (Nat.le_of_ble_eq_true rfl) ?_
      exact hend (adr []) _ _ _ _ _ _ _ rfl rfl (rtn_i _) hP hD hS dL_removeToe_8
    · have h := ite_f c4 h
      by_cases c5 : o1.1 = 2
      · have h := ite_t c5 h
        have z4 : s.vm.findClass "java/lang/IllegalStateException" = some ce.cls := by rw [c5] at z3; exact z3
        have hp9 : ∀ z ∈ ([⟨0, 5, 6, 28⟩] : List ExceptionTableEntry), covers z 2 = false ∨ (z.catchType ≠ 0 ∧ ∃ nm : String, (Cond.classLink RL z.catchType nm).before args s = true ∧ va_Nc "java/lang/IllegalStateException" nm s) := by
          intro z hz
          rcases List.mem_cons.mp hz with rfl | hz
          · exact Or.inr ⟨by decide, _, (hL9.link (List.mem_of_getElem? (i := 2) rfl)), hL9.1.2.2.1⟩
          exact absurd hz List.not_mem_nil
        refine vx_catch (own := RL) (name := "java/lang/IllegalStateException") (E := "java/lang/IllegalStateException") hfc [⟨0, 5, 6, 28⟩] ⟨0, 5, 9, 16⟩ [] hT9 hp9 rfl (by decide) (hL9.link (List.mem_of_getElem? (i := 1) rfl)) ((hEV.1.2.2.2.2 "java/lang/IllegalStateException" (by decide +kernel)).use rfl) z1 z2 z4 ?_
        refine W.cs (cells' := 2) (slots' := 12) rfl rfl ?_
        refine lv_astore_n hx hb dL_removeToe_9 rfl hl (Nat.le_of_ble_eq_true rfl) rfl (fun ls hl => ?_)
        have hl : lv_has ls 3 [(2, .ref q9), (0, .ref z0), (1, .int x1)] := hl
        refine lv_bipush (v := (-2)) hx hb dL_removeToe_10 (by decide) ?_
        have h := Option.some.inj h
        subst h
        refine W.widen (k := 2) (n := 12) (Nat.le_of_ble_eq_true rfl) (Nat.le_of_ble_eq_true rfl) ?_
        exact hend (adr []) _ _ _ _ _ _ _ rfl rfl (rtn_i _) hP hD hS dL_removeToe_12
      · have h := ite_f c5 h
        exact nn h

noncomputable def SL_removeTowel (N : Nat) (f : Nat → Int32) (v1 : Int32) (v2 : Int32) (g : Nat → Int32) (x1 : Int32) : Option (Int32 × (Nat → Int32) × Int32 × Int32 × (Nat → Int32)) := bnd (SX5_removeTowel N f v1 v2 g x1) (fun o1 : Nat × Int32 × (Nat → Int32) × (Nat → Int32) × Int32 × Int32 => if o1.1 = 0 then (some ((o1.2.1, o1.2.2.1, o1.2.2.2.2.1, o1.2.2.2.2.2, o1.2.2.2.1))) else (if o1.1 = 3 then (some (((-1), o1.2.2.1, o1.2.2.2.2.1, o1.2.2.2.2.2, o1.2.2.2.1))) else (none)))
abbrev RM_L_removeTowel : Room := { frames := 8, cells := 1, slots := 6, locals := 124 }
set_option maxHeartbeats 4000000 in
theorem kL_removeTowel (l : Launch) (hst : l.stackTraces = false) (D : va_G) (cA : Nat → ClassId) (G : eG) (z0 a0 b0 h0 s0 l0 e0 k0 a1 a2 h1 h2 : Nat) (N : Nat) (u7 : Int32) (u8 : Int32) (u9 : Int32) (f : Nat → Int32) (v1 : Int32) (v2 : Int32) (g : Nat → Int32) (x1 : Int32) {r : Int32 × (Nat → Int32) × Int32 × Int32 × (Nat → Int32)} (hr : SL_removeTowel N f v1 v2 g x1 = some r) {sz : Nat} : Met l yL_removeTowel wsL_removeTowel RM_L_removeTowel (va_Pc [.ref z0, .int x1] (gqLB G D cA [(z0, .inr (9, [.ref a0, .ref b0, .ref h0, .ref s0, .ref l0, .ref e0, .ref k0, .int u7, .int u8, .int u9])), (a0, .inr (8, [.ref a1])), (a1, .inr (6, [.ref a2])), (a2, .inl (cA 0, 61, .inl f)), (h0, .inr (5, [.ref h1, .int v1, .int v2])), (h1, .inr (6, [.ref h2])), (h2, .inl (cA 0, 488, .inl g))] sz)) (gqQ D (fun as => (some (.int r.1))) (fun as => [(z0, .inr (9, [.ref a0, .ref b0, .ref h0, .ref s0, .ref l0, .ref e0, .ref k0, .int u7, .int u8, .int u9])), (a0, .inr (8, [.ref a1])), (a1, .inr (6, [.ref a2])), (a2, .inl (cA 0, 61, .inl r.2.1)), (h0, .inr (5, [.ref h1, .int r.2.2.1, .int r.2.2.2.1])), (h1, .inr (6, [.ref h2])), (h2, .inl (cA 0, 488, .inl r.2.2.2.2))]) (va_A [(z0, .inr (9, [.ref a0, .ref b0, .ref h0, .ref s0, .ref l0, .ref e0, .ref k0, .int u7, .int u8, .int u9])), (a0, .inr (8, [.ref a1])), (a1, .inr (6, [.ref a2])), (a2, .inl (cA 0, 61, .inl f)), (h0, .inr (5, [.ref h1, .int v1, .int v2])), (h1, .inr (6, [.ref h2])), (h2, .inl (cA 0, 488, .inl g))] sz)) 1 6 (va_A [(z0, .inr (9, [.ref a0, .ref b0, .ref h0, .ref s0, .ref l0, .ref e0, .ref k0, .int u7, .int u8, .int u9])), (a0, .inr (8, [.ref a1])), (a1, .inr (6, [.ref a2])), (a2, .inl (cA 0, 61, .inl f)), (h0, .inr (5, [.ref h1, .int v1, .int v2])), (h1, .inr (6, [.ref h2])), (h2, .inl (cA 0, 488, .inl g))] sz) := by
  refine gqL_ofW (hh := [(0, 5, 6, 28)]) (cc := cL_removeTowel) (maxL := 3) (ret := (some .int)) (by decide) rfl (Nat.le_of_ble_eq_true rfl) (fun p e s m args below meth c ls Q A hx hb hml hT9 hts hfc hK hP hD hS hA hEV hL9 hl hend => ?_)
  have hfc : s.vm.findClass RL = some m.cls := hfc
  have hl : lv_has ls 3 [(0, .ref z0), (1, .int x1)] := hl
  have h := hr
  clear hr
  unfold SL_removeTowel at h
  refine lv_aload_n hx hb dL_removeTowel_0 rfl (lv_at hl 0 rfl) ?_
  refine lv_iload_n hx hb dL_removeTowel_1 rfl (lv_at hl 1 rfl) ?_
  obtain ⟨o1, ho1, h⟩ := bnd_i h
  refine xq_V (G := G) (v := (fun as => (some (.int o1.2.1)))) (As := [.int x1]) (rest := []) (wc := [(z0, .inr (9, [.ref a0, .ref b0, .ref h0, .ref s0, .ref l0, .ref e0, .ref k0, .int u7, .int u8, .int u9])), (a0, .inr (8, [.ref a1])), (a1, .inr (6, [.ref a2])), (a2, .inl (cA 0, 61, .inl f)), (h0, .inr (5, [.ref h1, .int v1, .int v2])), (h1, .inr (6, [.ref h2])), (h2, .inl (cA 0, 488, .inl g))]) (wr := []) (w1 := (fun as => [(z0, .inr (9, [.ref a0, .ref b0, .ref h0, .ref s0, .ref l0, .ref e0, .ref k0, .int u7, .int u8, .int u9])), (a0, .inr (8, [.ref a1])), (a1, .inr (6, [.ref a2])), (a2, .inl (cA 0, 61, .inl o1.2.2.1)), (h0, .inr (5, [.ref h1, .int o1.2.2.2.2.1, .int o1.2.2.2.2.2])), (h1, .inr (6, [.ref h2])), (h2, .inl (cA 0, 488, .inl o1.2.2.2.1))])) (ws2 := (fun as => [(z0, .inr (9, [.ref a0, .ref b0, .ref h0, .ref s0, .ref l0, .ref e0, .ref k0, .int u7, .int u8, .int u9])), (a0, .inr (8, [.ref a1])), (a1, .inr (6, [.ref a2])), (a2, .inl (cA 0, 61, .inl o1.2.2.1)), (h0, .inr (5, [.ref h1, .int o1.2.2.2.2.1, .int o1.2.2.2.2.2])), (h1, .inr (6, [.ref h2])), (h2, .inl (cA 0, 488, .inl o1.2.2.2.1))])) (st1 := (fun as => [.int o1.2.1])) ⟨hx, hb, hml, hfc, hts⟩ hK hP hD hS hA hEV (kX5_removeTowel l hst D cA G z0 a0 b0 h0 s0 l0 e0 k0 a1 a2 h1 h2 N u7 u8 u9 f v1 v2 g x1 ho1) (cwV 1 hts gL_removeTowel_X5_removeTowel rfl rfl rfl (by decide +kernel) ⟨(Nat.le_of_ble_eq_true rfl), (Nat.le_of_ble_eq_true rfl)⟩) [0, 1, 2, 3, 4, 5, 6] [] [0, 1, 2, 3, 4, 5, 6] rfl rfl rfl rfl (by decide) (fun _ => rfl) rfl 0 9 rfl rfl rfl rfl (fun _ => rfl) rfl hl.1 (Nat.le_of_ble_eq_true rfl) dL_removeTowel_2 ⟨(Nat.le_of_ble_eq_true rfl), (Nat.le_of_ble_eq_true rfl)⟩ (fun c3 as2 H locs hP hD hS => ?_) (fun c3 as2 H locs q9 ce hP hD hS z1 z2 z3 => ?_)
  · have h := ite_t c3 h
    have hP : va_P D vwCl [(z0, .inr (9, [.ref a0, .ref b0, .ref h0, .ref s0, .ref l0, .ref e0, .ref k0, .int u7, .int u8, .int u9])), (a0, .inr (8, [.ref a1])), (a1, .inr (6, [.ref a2])), (a2, .inl (cA 0, 61, .inl o1.2.2.1)), (h0, .inr (5, [.ref h1, .int o1.2.2.2.2.1, .int o1.2.2.2.2.2])), (h1, .inr (6, [.ref h2])), (h2, .inl (cA 0, 488, .inl o1.2.2.2.1))] H := hP
    have hD : va_D A [(z0, .inr (9, [.ref a0, .ref b0, .ref h0, .ref s0, .ref l0, .ref e0, .ref k0, .int u7, .int u8, .int u9])), (a0, .inr (8, [.ref a1])), (a1, .inr (6, [.ref a2])), (a2, .inl (cA 0, 61, .inl o1.2.2.1)), (h0, .inr (5, [.ref h1, .int o1.2.2.2.2.1, .int o1.2.2.2.2.2])), (h1, .inr (6, [.ref h2])), (h2, .inl (cA 0, 488, .inl o1.2.2.2.1))] := hD
    refine W.cs (cells' := 1) (slots' := 6) rfl rfl ?_
    have h := Option.some.inj h
    subst h
    refine W.widen (k := 1) (n := 6) (Nat.le_of_ble_eq_true rfl) (Nat.le_of_ble_eq_true rfl) ?_
    exact hend (adr []) _ _ _ _ _ _ _ rfl rfl (rtn_i _) hP hD hS dL_removeTowel_5
  · have h := ite_f c3 h
    have hP : va_P D vwCl [(z0, .inr (9, [.ref a0, .ref b0, .ref h0, .ref s0, .ref l0, .ref e0, .ref k0, .int u7, .int u8, .int u9])), (a0, .inr (8, [.ref a1])), (a1, .inr (6, [.ref a2])), (a2, .inl (cA 0, 61, .inl o1.2.2.1)), (h0, .inr (5, [.ref h1, .int o1.2.2.2.2.1, .int o1.2.2.2.2.2])), (h1, .inr (6, [.ref h2])), (h2, .inl (cA 0, 488, .inl o1.2.2.2.1))] H := hP
    have hD : va_D A [(z0, .inr (9, [.ref a0, .ref b0, .ref h0, .ref s0, .ref l0, .ref e0, .ref k0, .int u7, .int u8, .int u9])), (a0, .inr (8, [.ref a1])), (a1, .inr (6, [.ref a2])), (a2, .inl (cA 0, 61, .inl o1.2.2.1)), (h0, .inr (5, [.ref h1, .int o1.2.2.2.2.1, .int o1.2.2.2.2.2])), (h1, .inr (6, [.ref h2])), (h2, .inl (cA 0, 488, .inl o1.2.2.2.1))] := hD
    by_cases c4 : o1.1 = 3
    · have h := ite_t c4 h
      have z4 : s.vm.findClass "java/lang/IndexOutOfBoundsException" = some ce.cls := by rw [c4] at z3; exact z3
      refine vx_catch (own := RL) (name := "java/lang/IndexOutOfBoundsException") (E := "java/lang/IndexOutOfBoundsException") hfc [] ⟨0, 5, 6, 28⟩ [] hT9 (fun z hz => absurd hz List.not_mem_nil) rfl (by decide) (hL9.link (List.mem_of_getElem? (i := 2) rfl)) ((hEV.1.2.2.2.2 "java/lang/IndexOutOfBoundsException" (by decide +kernel)).use rfl) z1 z2 z4 ?_
      refine W.cs (cells' := 1) (slots' := 6) rfl rfl ?_
      refine lv_astore_n hx hb dL_removeTowel_6 rfl hl (Nat.le_of_ble_eq_true rfl) rfl (fun ls hl => ?_)
      have hl : lv_has ls 3 [(2, .ref q9), (0, .ref z0), (1, .int x1)] := hl
      refine lv_iconst (v := (-1)) hx hb dL_removeTowel_7 (by decide) ?_
      have h := Option.some.inj h
      subst h
      refine W.widen (k := 1) (n := 6) (Nat.le_of_ble_eq_true rfl) (Nat.le_of_ble_eq_true rfl) ?_
      exact hend (adr []) _ _ _ _ _ _ _ rfl rfl (rtn_i _) hP hD hS dL_removeTowel_8
    · have h := ite_f c4 h
      exact nn h

noncomputable def SL_setFlow (N : Nat) (f : Nat → Int32) (v1 : Int32) (v2 : Int32) (g : Nat → Int32) (x1 : Int32) : Option (Int32 × (Nat → Int32) × Int32 × Int32 × (Nat → Int32)) := bnd (SX5_setFlow N f v1 v2 g x1) (fun o1 : Nat × Int32 × (Nat → Int32) × (Nat → Int32) × Int32 × Int32 => if o1.1 = 0 then (some ((o1.2.1, o1.2.2.1, o1.2.2.2.2.1, o1.2.2.2.2.2, o1.2.2.2.1))) else (if o1.1 = 1 then (some (((-9), o1.2.2.1, o1.2.2.2.2.1, o1.2.2.2.2.2, o1.2.2.2.1))) else (none)))
abbrev RM_L_setFlow : Room := { frames := 7, cells := 1, slots := 6, locals := 103 }
set_option maxHeartbeats 4000000 in
theorem kL_setFlow (l : Launch) (hst : l.stackTraces = false) (D : va_G) (cA : Nat → ClassId) (G : eG) (z0 a0 b0 h0 s0 l0 e0 k0 a1 a2 h1 h2 : Nat) (N : Nat) (u7 : Int32) (u8 : Int32) (u9 : Int32) (f : Nat → Int32) (v1 : Int32) (v2 : Int32) (g : Nat → Int32) (x1 : Int32) {r : Int32 × (Nat → Int32) × Int32 × Int32 × (Nat → Int32)} (hr : SL_setFlow N f v1 v2 g x1 = some r) {sz : Nat} : Met l yL_setFlow wsL_setFlow RM_L_setFlow (va_Pc [.ref z0, .int x1] (gqLB G D cA [(z0, .inr (9, [.ref a0, .ref b0, .ref h0, .ref s0, .ref l0, .ref e0, .ref k0, .int u7, .int u8, .int u9])), (a0, .inr (8, [.ref a1])), (a1, .inr (6, [.ref a2])), (a2, .inl (cA 0, 61, .inl f)), (h0, .inr (5, [.ref h1, .int v1, .int v2])), (h1, .inr (6, [.ref h2])), (h2, .inl (cA 0, 488, .inl g))] sz)) (gqQ D (fun as => (some (.int r.1))) (fun as => [(z0, .inr (9, [.ref a0, .ref b0, .ref h0, .ref s0, .ref l0, .ref e0, .ref k0, .int u7, .int u8, .int u9])), (a0, .inr (8, [.ref a1])), (a1, .inr (6, [.ref a2])), (a2, .inl (cA 0, 61, .inl r.2.1)), (h0, .inr (5, [.ref h1, .int r.2.2.1, .int r.2.2.2.1])), (h1, .inr (6, [.ref h2])), (h2, .inl (cA 0, 488, .inl r.2.2.2.2))]) (va_A [(z0, .inr (9, [.ref a0, .ref b0, .ref h0, .ref s0, .ref l0, .ref e0, .ref k0, .int u7, .int u8, .int u9])), (a0, .inr (8, [.ref a1])), (a1, .inr (6, [.ref a2])), (a2, .inl (cA 0, 61, .inl f)), (h0, .inr (5, [.ref h1, .int v1, .int v2])), (h1, .inr (6, [.ref h2])), (h2, .inl (cA 0, 488, .inl g))] sz)) 1 6 (va_A [(z0, .inr (9, [.ref a0, .ref b0, .ref h0, .ref s0, .ref l0, .ref e0, .ref k0, .int u7, .int u8, .int u9])), (a0, .inr (8, [.ref a1])), (a1, .inr (6, [.ref a2])), (a2, .inl (cA 0, 61, .inl f)), (h0, .inr (5, [.ref h1, .int v1, .int v2])), (h1, .inr (6, [.ref h2])), (h2, .inl (cA 0, 488, .inl g))] sz) := by
  refine gqL_ofW (hh := [(0, 5, 6, 14)]) (cc := cL_setFlow) (maxL := 3) (ret := (some .int)) (by decide) rfl (Nat.le_of_ble_eq_true rfl) (fun p e s m args below meth c ls Q A hx hb hml hT9 hts hfc hK hP hD hS hA hEV hL9 hl hend => ?_)
  have hfc : s.vm.findClass RL = some m.cls := hfc
  have hl : lv_has ls 3 [(0, .ref z0), (1, .int x1)] := hl
  have h := hr
  clear hr
  unfold SL_setFlow at h
  refine lv_aload_n hx hb dL_setFlow_0 rfl (lv_at hl 0 rfl) ?_
  refine lv_iload_n hx hb dL_setFlow_1 rfl (lv_at hl 1 rfl) ?_
  obtain ⟨o1, ho1, h⟩ := bnd_i h
  refine xq_V (G := G) (v := (fun as => (some (.int o1.2.1)))) (As := [.int x1]) (rest := []) (wc := [(z0, .inr (9, [.ref a0, .ref b0, .ref h0, .ref s0, .ref l0, .ref e0, .ref k0, .int u7, .int u8, .int u9])), (a0, .inr (8, [.ref a1])), (a1, .inr (6, [.ref a2])), (a2, .inl (cA 0, 61, .inl f)), (h0, .inr (5, [.ref h1, .int v1, .int v2])), (h1, .inr (6, [.ref h2])), (h2, .inl (cA 0, 488, .inl g))]) (wr := []) (w1 := (fun as => [(z0, .inr (9, [.ref a0, .ref b0, .ref h0, .ref s0, .ref l0, .ref e0, .ref k0, .int u7, .int u8, .int u9])), (a0, .inr (8, [.ref a1])), (a1, .inr (6, [.ref a2])), (a2, .inl (cA 0, 61, .inl o1.2.2.1)), (h0, .inr (5, [.ref h1, .int o1.2.2.2.2.1, .int o1.2.2.2.2.2])), (h1, .inr (6, [.ref h2])), (h2, .inl (cA 0, 488, .inl o1.2.2.2.1))])) (ws2 := (fun as => [(z0, .inr (9, [.ref a0, .ref b0, .ref h0, .ref s0, .ref l0, .ref e0, .ref k0, .int u7, .int u8, .int u9])), (a0, .inr (8, [.ref a1])), (a1, .inr (6, [.ref a2])), (a2, .inl (cA 0, 61, .inl o1.2.2.1)), (h0, .inr (5, [.ref h1, .int o1.2.2.2.2.1, .int o1.2.2.2.2.2])), (h1, .inr (6, [.ref h2])), (h2, .inl (cA 0, 488, .inl o1.2.2.2.1))])) (st1 := (fun as => [.int o1.2.1])) ⟨hx, hb, hml, hfc, hts⟩ hK hP hD hS hA hEV (kX5_setFlow l hst D cA G z0 a0 b0 h0 s0 l0 e0 k0 a1 a2 h1 h2 N u7 u8 u9 f v1 v2 g x1 ho1) (cwV 1 hts gL_setFlow_X5_setFlow rfl rfl rfl (by decide +kernel) ⟨(Nat.le_of_ble_eq_true rfl), (Nat.le_of_ble_eq_true rfl)⟩) [0, 1, 2, 3, 4, 5, 6] [] [0, 1, 2, 3, 4, 5, 6] rfl rfl rfl rfl (by decide) (fun _ => rfl) rfl 0 9 rfl rfl rfl rfl (fun _ => rfl) rfl hl.1 (Nat.le_of_ble_eq_true rfl) dL_setFlow_2 ⟨(Nat.le_of_ble_eq_true rfl), (Nat.le_of_ble_eq_true rfl)⟩ (fun c3 as2 H locs hP hD hS => ?_) (fun c3 as2 H locs q9 ce hP hD hS z1 z2 z3 => ?_)
  · have h := ite_t c3 h
    have hP : va_P D vwCl [(z0, .inr (9, [.ref a0, .ref b0, .ref h0, .ref s0, .ref l0, .ref e0, .ref k0, .int u7, .int u8, .int u9])), (a0, .inr (8, [.ref a1])), (a1, .inr (6, [.ref a2])), (a2, .inl (cA 0, 61, .inl o1.2.2.1)), (h0, .inr (5, [.ref h1, .int o1.2.2.2.2.1, .int o1.2.2.2.2.2])), (h1, .inr (6, [.ref h2])), (h2, .inl (cA 0, 488, .inl o1.2.2.2.1))] H := hP
    have hD : va_D A [(z0, .inr (9, [.ref a0, .ref b0, .ref h0, .ref s0, .ref l0, .ref e0, .ref k0, .int u7, .int u8, .int u9])), (a0, .inr (8, [.ref a1])), (a1, .inr (6, [.ref a2])), (a2, .inl (cA 0, 61, .inl o1.2.2.1)), (h0, .inr (5, [.ref h1, .int o1.2.2.2.2.1, .int o1.2.2.2.2.2])), (h1, .inr (6, [.ref h2])), (h2, .inl (cA 0, 488, .inl o1.2.2.2.1))] := hD
    refine W.cs (cells' := 1) (slots' := 6) rfl rfl ?_
    have h := Option.some.inj h
    subst h
    refine W.widen (k := 1) (n := 6) (Nat.le_of_ble_eq_true rfl) (Nat.le_of_ble_eq_true rfl) ?_
    exact hend (adr []) _ _ _ _ _ _ _ rfl rfl (rtn_i _) hP hD hS dL_setFlow_5
  · have h := ite_f c3 h
    have hP : va_P D vwCl [(z0, .inr (9, [.ref a0, .ref b0, .ref h0, .ref s0, .ref l0, .ref e0, .ref k0, .int u7, .int u8, .int u9])), (a0, .inr (8, [.ref a1])), (a1, .inr (6, [.ref a2])), (a2, .inl (cA 0, 61, .inl o1.2.2.1)), (h0, .inr (5, [.ref h1, .int o1.2.2.2.2.1, .int o1.2.2.2.2.2])), (h1, .inr (6, [.ref h2])), (h2, .inl (cA 0, 488, .inl o1.2.2.2.1))] H := hP
    have hD : va_D A [(z0, .inr (9, [.ref a0, .ref b0, .ref h0, .ref s0, .ref l0, .ref e0, .ref k0, .int u7, .int u8, .int u9])), (a0, .inr (8, [.ref a1])), (a1, .inr (6, [.ref a2])), (a2, .inl (cA 0, 61, .inl o1.2.2.1)), (h0, .inr (5, [.ref h1, .int o1.2.2.2.2.1, .int o1.2.2.2.2.2])), (h1, .inr (6, [.ref h2])), (h2, .inl (cA 0, 488, .inl o1.2.2.2.1))] := hD
    by_cases c4 : o1.1 = 1
    · have h := ite_t c4 h
      have z4 : s.vm.findClass "java/lang/IllegalArgumentException" = some ce.cls := by rw [c4] at z3; exact z3
      refine vx_catch (own := RL) (name := "java/lang/IllegalArgumentException") (E := "java/lang/IllegalArgumentException") hfc [] ⟨0, 5, 6, 14⟩ [] hT9 (fun z hz => absurd hz List.not_mem_nil) rfl (by decide) (hL9.link (List.mem_of_getElem? (i := 0) rfl)) ((hEV.1.2.2.2.2 "java/lang/IllegalArgumentException" (by decide +kernel)).use rfl) z1 z2 z4 ?_
      refine W.cs (cells' := 1) (slots' := 6) rfl rfl ?_
      refine lv_astore_n hx hb dL_setFlow_6 rfl hl (Nat.le_of_ble_eq_true rfl) rfl (fun ls hl => ?_)
      have hl : lv_has ls 3 [(2, .ref q9), (0, .ref z0), (1, .int x1)] := hl
      refine lv_bipush (v := (-9)) hx hb dL_setFlow_7 (by decide) ?_
      have h := Option.some.inj h
      subst h
      refine W.widen (k := 1) (n := 6) (Nat.le_of_ble_eq_true rfl) (Nat.le_of_ble_eq_true rfl) ?_
      exact hend (adr []) _ _ _ _ _ _ _ rfl rfl (rtn_i _) hP hD hS dL_setFlow_9
    · have h := ite_f c4 h
      exact nn h

noncomputable def SL_soft (N : Nat) (f : Nat → Int32) (v1 : Int32) (v2 : Int32) (g : Nat → Int32) (x1 : Int32) (x2 : Int32) (x3 : Int32) : Option (Int32 × (Nat → Int32) × Int32 × Int32 × (Nat → Int32)) := bnd (SX5_addSoftMoon N f v1 v2 g x1 x2 x3) (fun o1 : Nat × Int32 × (Nat → Int32) × (Nat → Int32) × Int32 × Int32 => if o1.1 = 0 then (some ((o1.2.1, o1.2.2.1, o1.2.2.2.2.1, o1.2.2.2.2.2, o1.2.2.2.1))) else (if o1.1 = 1 then (some (((-1), o1.2.2.1, o1.2.2.2.2.1, o1.2.2.2.2.2, o1.2.2.2.1))) else (if o1.1 = 2 then (some (((-2), o1.2.2.1, o1.2.2.2.2.1, o1.2.2.2.2.2, o1.2.2.2.1))) else (none))))
abbrev RM_L_soft : Room := { frames := 8, cells := 1, slots := 6, locals := 129 }
set_option maxHeartbeats 4000000 in
theorem kL_soft (l : Launch) (hst : l.stackTraces = false) (D : va_G) (cA : Nat → ClassId) (G : eG) (z0 a0 b0 h0 s0 l0 e0 k0 a1 a2 h1 h2 : Nat) (N : Nat) (u7 : Int32) (u8 : Int32) (u9 : Int32) (f : Nat → Int32) (v1 : Int32) (v2 : Int32) (g : Nat → Int32) (x1 : Int32) (x2 : Int32) (x3 : Int32) {r : Int32 × (Nat → Int32) × Int32 × Int32 × (Nat → Int32)} (hr : SL_soft N f v1 v2 g x1 x2 x3 = some r) {sz : Nat} : Met l yL_soft wsL_soft RM_L_soft (va_Pc [.ref z0, .int x1, .int x2, .int x3] (gqLB G D cA [(z0, .inr (9, [.ref a0, .ref b0, .ref h0, .ref s0, .ref l0, .ref e0, .ref k0, .int u7, .int u8, .int u9])), (a0, .inr (8, [.ref a1])), (a1, .inr (6, [.ref a2])), (a2, .inl (cA 0, 61, .inl f)), (h0, .inr (5, [.ref h1, .int v1, .int v2])), (h1, .inr (6, [.ref h2])), (h2, .inl (cA 0, 488, .inl g))] sz)) (gqQ D (fun as => (some (.int r.1))) (fun as => [(z0, .inr (9, [.ref a0, .ref b0, .ref h0, .ref s0, .ref l0, .ref e0, .ref k0, .int u7, .int u8, .int u9])), (a0, .inr (8, [.ref a1])), (a1, .inr (6, [.ref a2])), (a2, .inl (cA 0, 61, .inl r.2.1)), (h0, .inr (5, [.ref h1, .int r.2.2.1, .int r.2.2.2.1])), (h1, .inr (6, [.ref h2])), (h2, .inl (cA 0, 488, .inl r.2.2.2.2))]) (va_A [(z0, .inr (9, [.ref a0, .ref b0, .ref h0, .ref s0, .ref l0, .ref e0, .ref k0, .int u7, .int u8, .int u9])), (a0, .inr (8, [.ref a1])), (a1, .inr (6, [.ref a2])), (a2, .inl (cA 0, 61, .inl f)), (h0, .inr (5, [.ref h1, .int v1, .int v2])), (h1, .inr (6, [.ref h2])), (h2, .inl (cA 0, 488, .inl g))] sz)) 1 6 (va_A [(z0, .inr (9, [.ref a0, .ref b0, .ref h0, .ref s0, .ref l0, .ref e0, .ref k0, .int u7, .int u8, .int u9])), (a0, .inr (8, [.ref a1])), (a1, .inr (6, [.ref a2])), (a2, .inl (cA 0, 61, .inl f)), (h0, .inr (5, [.ref h1, .int v1, .int v2])), (h1, .inr (6, [.ref h2])), (h2, .inl (cA 0, 488, .inl g))] sz) := by
  refine gqL_ofW (hh := [(0, 7, 8, 14), (0, 7, 12, 16)]) (cc := cL_soft) (maxL := 5) (ret := (some .int)) (by decide) rfl (Nat.le_of_ble_eq_true rfl) (fun p e s m args below meth c ls Q A hx hb hml hT9 hts hfc hK hP hD hS hA hEV hL9 hl hend => ?_)
  have hfc : s.vm.findClass RL = some m.cls := hfc
  have hl : lv_has ls 5 [(0, .ref z0), (1, .int x1), (2, .int x2), (3, .int x3)] := hl
  have h := hr
  clear hr
  unfold SL_soft at h
  refine lv_aload_n hx hb dL_soft_0 rfl (lv_at hl 0 rfl) ?_
  refine lv_iload_n hx hb dL_soft_1 rfl (lv_at hl 1 rfl) ?_
  refine lv_iload_n hx hb dL_soft_2 rfl (lv_at hl 2 rfl) ?_
  refine lv_iload_n hx hb dL_soft_3 rfl (lv_at hl 3 rfl) ?_
  obtain ⟨o1, ho1, h⟩ := bnd_i h
  refine xq_V (G := G) (v := (fun as => (some (.int o1.2.1)))) (As := [.int x1, .int x2, .int x3]) (rest := []) (wc := [(z0, .inr (9, [.ref a0, .ref b0, .ref h0, .ref s0, .ref l0, .ref e0, .ref k0, .int u7, .int u8, .int u9])), (a0, .inr (8, [.ref a1])), (a1, .inr (6, [.ref a2])), (a2, .inl (cA 0, 61, .inl f)), (h0, .inr (5, [.ref h1, .int v1, .int v2])), (h1, .inr (6, [.ref h2])), (h2, .inl (cA 0, 488, .inl g))]) (wr := []) (w1 := (fun as => [(z0, .inr (9, [.ref a0, .ref b0, .ref h0, .ref s0, .ref l0, .ref e0, .ref k0, .int u7, .int u8, .int u9])), (a0, .inr (8, [.ref a1])), (a1, .inr (6, [.ref a2])), (a2, .inl (cA 0, 61, .inl o1.2.2.1)), (h0, .inr (5, [.ref h1, .int o1.2.2.2.2.1, .int o1.2.2.2.2.2])), (h1, .inr (6, [.ref h2])), (h2, .inl (cA 0, 488, .inl o1.2.2.2.1))])) (ws2 := (fun as => [(z0, .inr (9, [.ref a0, .ref b0, .ref h0, .ref s0, .ref l0, .ref e0, .ref k0, .int u7, .int u8, .int u9])), (a0, .inr (8, [.ref a1])), (a1, .inr (6, [.ref a2])), (a2, .inl (cA 0, 61, .inl o1.2.2.1)), (h0, .inr (5, [.ref h1, .int o1.2.2.2.2.1, .int o1.2.2.2.2.2])), (h1, .inr (6, [.ref h2])), (h2, .inl (cA 0, 488, .inl o1.2.2.2.1))])) (st1 := (fun as => [.int o1.2.1])) ⟨hx, hb, hml, hfc, hts⟩ hK hP hD hS hA hEV (kX5_addSoftMoon l hst D cA G z0 a0 b0 h0 s0 l0 e0 k0 a1 a2 h1 h2 N u7 u8 u9 f v1 v2 g x1 x2 x3 ho1) (cwV 3 hts gL_soft_X5_addSoftMoon rfl rfl rfl (by decide +kernel) ⟨(Nat.le_of_ble_eq_true rfl), (Nat.le_of_ble_eq_true rfl)⟩) [0, 1, 2, 3, 4, 5, 6] [] [0, 1, 2, 3, 4, 5, 6] rfl rfl rfl rfl (by decide) (fun _ => rfl) rfl 0 9 rfl rfl rfl rfl (fun _ => rfl) rfl hl.1 (Nat.le_of_ble_eq_true rfl) dL_soft_4 ⟨(Nat.le_of_ble_eq_true rfl), (Nat.le_of_ble_eq_true rfl)⟩ (fun c3 as2 H locs hP hD hS => ?_) (fun c3 as2 H locs q9 ce hP hD hS z1 z2 z3 => ?_)
  · have h := ite_t c3 h
    have hP : va_P D vwCl [(z0, .inr (9, [.ref a0, .ref b0, .ref h0, .ref s0, .ref l0, .ref e0, .ref k0, .int u7, .int u8, .int u9])), (a0, .inr (8, [.ref a1])), (a1, .inr (6, [.ref a2])), (a2, .inl (cA 0, 61, .inl o1.2.2.1)), (h0, .inr (5, [.ref h1, .int o1.2.2.2.2.1, .int o1.2.2.2.2.2])), (h1, .inr (6, [.ref h2])), (h2, .inl (cA 0, 488, .inl o1.2.2.2.1))] H := hP
    have hD : va_D A [(z0, .inr (9, [.ref a0, .ref b0, .ref h0, .ref s0, .ref l0, .ref e0, .ref k0, .int u7, .int u8, .int u9])), (a0, .inr (8, [.ref a1])), (a1, .inr (6, [.ref a2])), (a2, .inl (cA 0, 61, .inl o1.2.2.1)), (h0, .inr (5, [.ref h1, .int o1.2.2.2.2.1, .int o1.2.2.2.2.2])), (h1, .inr (6, [.ref h2])), (h2, .inl (cA 0, 488, .inl o1.2.2.2.1))] := hD
    refine W.cs (cells' := 1) (slots' := 6) rfl rfl ?_
    have h := Option.some.inj h
    subst h
    refine W.widen (k := 1) (n := 6) (Nat.le_of_ble_eq_true rfl) (Nat.le_of_ble_eq_true rfl) ?_
    exact hend (adr []) _ _ _ _ _ _ _ rfl rfl (rtn_i _) hP hD hS dL_soft_7
  · have h := ite_f c3 h
    have hP : va_P D vwCl [(z0, .inr (9, [.ref a0, .ref b0, .ref h0, .ref s0, .ref l0, .ref e0, .ref k0, .int u7, .int u8, .int u9])), (a0, .inr (8, [.ref a1])), (a1, .inr (6, [.ref a2])), (a2, .inl (cA 0, 61, .inl o1.2.2.1)), (h0, .inr (5, [.ref h1, .int o1.2.2.2.2.1, .int o1.2.2.2.2.2])), (h1, .inr (6, [.ref h2])), (h2, .inl (cA 0, 488, .inl o1.2.2.2.1))] H := hP
    have hD : va_D A [(z0, .inr (9, [.ref a0, .ref b0, .ref h0, .ref s0, .ref l0, .ref e0, .ref k0, .int u7, .int u8, .int u9])), (a0, .inr (8, [.ref a1])), (a1, .inr (6, [.ref a2])), (a2, .inl (cA 0, 61, .inl o1.2.2.1)), (h0, .inr (5, [.ref h1, .int o1.2.2.2.2.1, .int o1.2.2.2.2.2])), (h1, .inr (6, [.ref h2])), (h2, .inl (cA 0, 488, .inl o1.2.2.2.1))] := hD
    by_cases c4 : o1.1 = 1
    · have h := ite_t c4 h
      have z4 : s.vm.findClass "java/lang/IllegalArgumentException" = some ce.cls := by rw [c4] at z3; exact z3
      refine vx_catch (own := RL) (name := "java/lang/IllegalArgumentException") (E := "java/lang/IllegalArgumentException") hfc [] ⟨0, 7, 8, 14⟩ [⟨0, 7, 12, 16⟩] hT9 (fun z hz => absurd hz List.not_mem_nil) rfl (by decide) (hL9.link (List.mem_of_getElem? (i := 0) rfl)) ((hEV.1.2.2.2.2 "java/lang/IllegalArgumentException" (by decide +kernel)).use rfl) z1 z2 z4 ?_
      refine W.cs (cells' := 1) (slots' := 6) rfl rfl ?_
      refine lv_astore hx hb dL_soft_8 hl (Nat.le_of_ble_eq_true rfl) rfl (fun ls hl => ?_)
      have hl : lv_has ls 5 [(4, .ref q9), (0, .ref z0), (1, .int x1), (2, .int x2), (3, .int x3)] := hl
      refine lv_iconst (v := (-1)) hx hb dL_soft_10 (by decide) ?_
      have h := Option.some.inj h
      subst h
      refine W.widen (k := 1) (n := 6) (Nat.le_of_ble_eq_true rfl) (Nat.le_of_ble_eq_true rfl) ?_
      exact hend (adr []) _ _ _ _ _ _ _ rfl rfl (rtn_i _) hP hD hS dL_soft_11
    · have h := ite_f c4 h
      by_cases c5 : o1.1 = 2
      · have h := ite_t c5 h
        have z4 : s.vm.findClass "java/lang/IllegalStateException" = some ce.cls := by rw [c5] at z3; exact z3
        have hp9 : ∀ z ∈ ([⟨0, 7, 8, 14⟩] : List ExceptionTableEntry), covers z 4 = false ∨ (z.catchType ≠ 0 ∧ ∃ nm : String, (Cond.classLink RL z.catchType nm).before args s = true ∧ va_Nc "java/lang/IllegalStateException" nm s) := by
          intro z hz
          rcases List.mem_cons.mp hz with rfl | hz
          · exact Or.inr ⟨by decide, _, (hL9.link (List.mem_of_getElem? (i := 0) rfl)), hL9.1.1⟩
          exact absurd hz List.not_mem_nil
        refine vx_catch (own := RL) (name := "java/lang/IllegalStateException") (E := "java/lang/IllegalStateException") hfc [⟨0, 7, 8, 14⟩] ⟨0, 7, 12, 16⟩ [] hT9 hp9 rfl (by decide) (hL9.link (List.mem_of_getElem? (i := 1) rfl)) ((hEV.1.2.2.2.2 "java/lang/IllegalStateException" (by decide +kernel)).use rfl) z1 z2 z4 ?_
        refine W.cs (cells' := 1) (slots' := 6) rfl rfl ?_
        refine lv_astore hx hb dL_soft_12 hl (Nat.le_of_ble_eq_true rfl) rfl (fun ls hl => ?_)
        have hl : lv_has ls 5 [(4, .ref q9), (0, .ref z0), (1, .int x1), (2, .int x2), (3, .int x3)] := hl
        refine lv_bipush (v := (-2)) hx hb dL_soft_14 (by decide) ?_
        have h := Option.some.inj h
        subst h
        refine W.widen (k := 1) (n := 6) (Nat.le_of_ble_eq_true rfl) (Nat.le_of_ble_eq_true rfl) ?_
        exact hend (adr []) _ _ _ _ _ _ _ rfl rfl (rtn_i _) hP hD hS dL_soft_16
      · have h := ite_f c5 h
        exact nn h

noncomputable def SL_tideAt (N : Nat) (f : Nat → Int32) (x1 : Int32) : Option (Int32) := bnd (SX5_tideAt N f x1) (fun o1 : Nat × Int32 => if o1.1 = 0 then (some (o1.2)) else (if o1.1 = 3 then (some ((-1011))) else (none)))
abbrev RM_L_tideAt : Room := { frames := 8, cells := 1, slots := 6, locals := 126 }
set_option maxHeartbeats 4000000 in
theorem kL_tideAt (l : Launch) (hst : l.stackTraces = false) (D : va_G) (cA : Nat → ClassId) (G : eG) (z0 a0 b0 h0 s0 l0 e0 k0 a1 a2 : Nat) (N : Nat) (u7 : Int32) (u8 : Int32) (u9 : Int32) (f : Nat → Int32) (x1 : Int32) {r : Int32} (hr : SL_tideAt N f x1 = some r) {sz : Nat} : Met l yL_tideAt wsL_tideAt RM_L_tideAt (va_Pc [.ref z0, .int x1] (gqLB G D cA [(z0, .inr (9, [.ref a0, .ref b0, .ref h0, .ref s0, .ref l0, .ref e0, .ref k0, .int u7, .int u8, .int u9])), (a0, .inr (8, [.ref a1])), (a1, .inr (6, [.ref a2])), (a2, .inl (cA 0, 61, .inl f))] sz)) (gqQ D (fun as => (some (.int r))) (fun as => [(z0, .inr (9, [.ref a0, .ref b0, .ref h0, .ref s0, .ref l0, .ref e0, .ref k0, .int u7, .int u8, .int u9])), (a0, .inr (8, [.ref a1])), (a1, .inr (6, [.ref a2])), (a2, .inl (cA 0, 61, .inl f))]) (va_A [(z0, .inr (9, [.ref a0, .ref b0, .ref h0, .ref s0, .ref l0, .ref e0, .ref k0, .int u7, .int u8, .int u9])), (a0, .inr (8, [.ref a1])), (a1, .inr (6, [.ref a2])), (a2, .inl (cA 0, 61, .inl f))] sz)) 1 6 (va_A [(z0, .inr (9, [.ref a0, .ref b0, .ref h0, .ref s0, .ref l0, .ref e0, .ref k0, .int u7, .int u8, .int u9])), (a0, .inr (8, [.ref a1])), (a1, .inr (6, [.ref a2])), (a2, .inl (cA 0, 61, .inl f))] sz) := by
  refine gqL_ofW (hh := [(0, 5, 6, 28)]) (cc := cL_tideAt) (maxL := 3) (ret := (some .int)) (by decide) rfl (Nat.le_of_ble_eq_true rfl) (fun p e s m args below meth c ls Q A hx hb hml hT9 hts hfc hK hP hD hS hA hEV hL9 hl hend => ?_)
  have hfc : s.vm.findClass RL = some m.cls := hfc
  have hl : lv_has ls 3 [(0, .ref z0), (1, .int x1)] := hl
  have h := hr
  clear hr
  unfold SL_tideAt at h
  refine lv_aload_n hx hb dL_tideAt_0 rfl (lv_at hl 0 rfl) ?_
  refine lv_iload_n hx hb dL_tideAt_1 rfl (lv_at hl 1 rfl) ?_
  obtain ⟨o1, ho1, h⟩ := bnd_i h
  refine xq_V (G := G) (v := (fun as => (some (.int o1.2)))) (As := [.int x1]) (rest := []) (wc := [(z0, .inr (9, [.ref a0, .ref b0, .ref h0, .ref s0, .ref l0, .ref e0, .ref k0, .int u7, .int u8, .int u9])), (a0, .inr (8, [.ref a1])), (a1, .inr (6, [.ref a2])), (a2, .inl (cA 0, 61, .inl f))]) (wr := []) (w1 := (fun as => [(z0, .inr (9, [.ref a0, .ref b0, .ref h0, .ref s0, .ref l0, .ref e0, .ref k0, .int u7, .int u8, .int u9])), (a0, .inr (8, [.ref a1])), (a1, .inr (6, [.ref a2])), (a2, .inl (cA 0, 61, .inl f))])) (ws2 := (fun as => [(z0, .inr (9, [.ref a0, .ref b0, .ref h0, .ref s0, .ref l0, .ref e0, .ref k0, .int u7, .int u8, .int u9])), (a0, .inr (8, [.ref a1])), (a1, .inr (6, [.ref a2])), (a2, .inl (cA 0, 61, .inl f))])) (st1 := (fun as => [.int o1.2])) ⟨hx, hb, hml, hfc, hts⟩ hK hP hD hS hA hEV (kX5_tideAt l hst D cA G z0 a0 b0 h0 s0 l0 e0 k0 a1 a2 N u7 u8 u9 f x1 ho1) (cwV 1 hts gL_tideAt_X5_tideAt rfl rfl rfl (by decide +kernel) ⟨(Nat.le_of_ble_eq_true rfl), (Nat.le_of_ble_eq_true rfl)⟩) [0, 1, 2, 3] [] [0, 1, 2, 3] rfl rfl rfl rfl (by decide) (fun _ => rfl) rfl 0 9 rfl rfl rfl rfl (fun _ => rfl) rfl hl.1 (Nat.le_of_ble_eq_true rfl) dL_tideAt_2 ⟨(Nat.le_of_ble_eq_true rfl), (Nat.le_of_ble_eq_true rfl)⟩ (fun c3 as2 H locs hP hD hS => ?_) (fun c3 as2 H locs q9 ce hP hD hS z1 z2 z3 => ?_)
  · have h := ite_t c3 h
    have hP : va_P D vwCl [(z0, .inr (9, [.ref a0, .ref b0, .ref h0, .ref s0, .ref l0, .ref e0, .ref k0, .int u7, .int u8, .int u9])), (a0, .inr (8, [.ref a1])), (a1, .inr (6, [.ref a2])), (a2, .inl (cA 0, 61, .inl f))] H := hP
    have hD : va_D A [(z0, .inr (9, [.ref a0, .ref b0, .ref h0, .ref s0, .ref l0, .ref e0, .ref k0, .int u7, .int u8, .int u9])), (a0, .inr (8, [.ref a1])), (a1, .inr (6, [.ref a2])), (a2, .inl (cA 0, 61, .inl f))] := hD
    refine W.cs (cells' := 1) (slots' := 6) rfl rfl ?_
    have h := Option.some.inj h
    subst h
    refine W.widen (k := 1) (n := 6) (Nat.le_of_ble_eq_true rfl) (Nat.le_of_ble_eq_true rfl) ?_
    exact hend (adr []) _ _ _ _ _ _ _ rfl rfl (rtn_i _) hP hD hS dL_tideAt_5
  · have h := ite_f c3 h
    have hP : va_P D vwCl [(z0, .inr (9, [.ref a0, .ref b0, .ref h0, .ref s0, .ref l0, .ref e0, .ref k0, .int u7, .int u8, .int u9])), (a0, .inr (8, [.ref a1])), (a1, .inr (6, [.ref a2])), (a2, .inl (cA 0, 61, .inl f))] H := hP
    have hD : va_D A [(z0, .inr (9, [.ref a0, .ref b0, .ref h0, .ref s0, .ref l0, .ref e0, .ref k0, .int u7, .int u8, .int u9])), (a0, .inr (8, [.ref a1])), (a1, .inr (6, [.ref a2])), (a2, .inl (cA 0, 61, .inl f))] := hD
    by_cases c4 : o1.1 = 3
    · have h := ite_t c4 h
      have z4 : s.vm.findClass "java/lang/IndexOutOfBoundsException" = some ce.cls := by rw [c4] at z3; exact z3
      refine vx_catch (own := RL) (name := "java/lang/IndexOutOfBoundsException") (E := "java/lang/IndexOutOfBoundsException") hfc [] ⟨0, 5, 6, 28⟩ [] hT9 (fun z hz => absurd hz List.not_mem_nil) rfl (by decide) (hL9.link (List.mem_of_getElem? (i := 2) rfl)) ((hEV.1.2.2.2.2 "java/lang/IndexOutOfBoundsException" (by decide +kernel)).use rfl) z1 z2 z4 ?_
      refine W.cs (cells' := 1) (slots' := 6) rfl rfl ?_
      refine lv_astore_n hx hb dL_tideAt_6 rfl hl (Nat.le_of_ble_eq_true rfl) rfl (fun ls hl => ?_)
      have hl : lv_has ls 3 [(2, .ref q9), (0, .ref z0), (1, .int x1)] := hl
      refine lv_sipush (v := (-1011)) hx hb dL_tideAt_7 (by decide) ?_
      have h := Option.some.inj h
      subst h
      refine W.widen (k := 1) (n := 6) (Nat.le_of_ble_eq_true rfl) (Nat.le_of_ble_eq_true rfl) ?_
      exact hend (adr []) _ _ _ _ _ _ _ rfl rfl (rtn_i _) hP hD hS dL_tideAt_10
    · have h := ite_f c4 h
      exact nn h

noncomputable def SL_tideBySteps (N : Nat) (f : Nat → Int32) (f1 : Nat → Int32) (f2 : Nat → Int32) (f3 : Nat → Int32) (x1 : Int32) (x2 : Int32) : Option (Int32 × (Nat → Int32) × (Nat → Int32) × (Nat → Int32)) := bnd (SX5_tideBySteps N f f1 f2 f3 x1 x2) (fun o1 : Nat × Int32 × (Nat → Int32) × (Nat → Int32) × (Nat → Int32) => if o1.1 = 0 then (some ((o1.2.1, o1.2.2.2.1, o1.2.2.2.2, o1.2.2.1))) else (if o1.1 = 3 then (some (((-1011), o1.2.2.2.1, o1.2.2.2.2, o1.2.2.1))) else (if o1.1 = 1 then (some (((-1012), o1.2.2.2.1, o1.2.2.2.2, o1.2.2.1))) else (none))))
abbrev RM_L_tideBySteps : Room := { frames := 8, cells := 2, slots := 12, locals := 128 }
set_option maxHeartbeats 4000000 in
theorem kL_tideBySteps (l : Launch) (hst : l.stackTraces = false) (D : va_G) (cA : Nat → ClassId) (G : eG) (z0 a0 b0 h0 s0 l0 e0 k0 a1 a2 b1 b2 b3 b4 b5 b6 : Nat) (N : Nat) (u7 : Int32) (u8 : Int32) (u9 : Int32) (f : Nat → Int32) (f1 : Nat → Int32) (f2 : Nat → Int32) (f3 : Nat → Int32) (x1 : Int32) (x2 : Int32) {r : Int32 × (Nat → Int32) × (Nat → Int32) × (Nat → Int32)} (hr : SL_tideBySteps N f f1 f2 f3 x1 x2 = some r) {sz : Nat} : Met l yL_tideBySteps wsL_tideBySteps RM_L_tideBySteps (va_Pc [.ref z0, .int x1, .int x2] (gqLB G D cA [(z0, .inr (9, [.ref a0, .ref b0, .ref h0, .ref s0, .ref l0, .ref e0, .ref k0, .int u7, .int u8, .int u9])), (a0, .inr (8, [.ref a1])), (a1, .inr (6, [.ref a2])), (a2, .inl (cA 0, 61, .inl f)), (b0, .inr (4, [.ref b1, .ref b2, .ref b3])), (b1, .inr (6, [.ref b4])), (b4, .inl (cA 0, 5, .inl f1)), (b2, .inr (6, [.ref b5])), (b5, .inl (cA 0, 5, .inl f2)), (b3, .inr (6, [.ref b6])), (b6, .inl (cA 0, 5, .inl f3))] sz)) (gqQ D (fun as => (some (.int r.1))) (fun as => [(z0, .inr (9, [.ref a0, .ref b0, .ref h0, .ref s0, .ref l0, .ref e0, .ref k0, .int u7, .int u8, .int u9])), (a0, .inr (8, [.ref a1])), (a1, .inr (6, [.ref a2])), (a2, .inl (cA 0, 61, .inl f)), (b0, .inr (4, [.ref b1, .ref b2, .ref b3])), (b1, .inr (6, [.ref b4])), (b4, .inl (cA 0, 5, .inl r.2.1)), (b2, .inr (6, [.ref b5])), (b5, .inl (cA 0, 5, .inl r.2.2.1)), (b3, .inr (6, [.ref b6])), (b6, .inl (cA 0, 5, .inl r.2.2.2))]) (va_A [(z0, .inr (9, [.ref a0, .ref b0, .ref h0, .ref s0, .ref l0, .ref e0, .ref k0, .int u7, .int u8, .int u9])), (a0, .inr (8, [.ref a1])), (a1, .inr (6, [.ref a2])), (a2, .inl (cA 0, 61, .inl f)), (b0, .inr (4, [.ref b1, .ref b2, .ref b3])), (b1, .inr (6, [.ref b4])), (b4, .inl (cA 0, 5, .inl f1)), (b2, .inr (6, [.ref b5])), (b5, .inl (cA 0, 5, .inl f2)), (b3, .inr (6, [.ref b6])), (b6, .inl (cA 0, 5, .inl f3))] sz)) 2 12 (va_A [(z0, .inr (9, [.ref a0, .ref b0, .ref h0, .ref s0, .ref l0, .ref e0, .ref k0, .int u7, .int u8, .int u9])), (a0, .inr (8, [.ref a1])), (a1, .inr (6, [.ref a2])), (a2, .inl (cA 0, 61, .inl f)), (b0, .inr (4, [.ref b1, .ref b2, .ref b3])), (b1, .inr (6, [.ref b4])), (b4, .inl (cA 0, 5, .inl f1)), (b2, .inr (6, [.ref b5])), (b5, .inl (cA 0, 5, .inl f2)), (b3, .inr (6, [.ref b6])), (b6, .inl (cA 0, 5, .inl f3))] sz) := by
  refine gqL_ofW (hh := [(0, 6, 7, 28), (0, 6, 12, 14)]) (cc := cL_tideBySteps) (maxL := 4) (ret := (some .int)) (by decide) rfl (Nat.le_of_ble_eq_true rfl) (fun p e s m args below meth c ls Q A hx hb hml hT9 hts hfc hK hP hD hS hA hEV hL9 hl hend => ?_)
  have hfc : s.vm.findClass RL = some m.cls := hfc
  have hl : lv_has ls 4 [(0, .ref z0), (1, .int x1), (2, .int x2)] := hl
  have h := hr
  clear hr
  unfold SL_tideBySteps at h
  refine lv_aload_n hx hb dL_tideBySteps_0 rfl (lv_at hl 0 rfl) ?_
  refine lv_iload_n hx hb dL_tideBySteps_1 rfl (lv_at hl 1 rfl) ?_
  refine lv_iload_n hx hb dL_tideBySteps_2 rfl (lv_at hl 2 rfl) ?_
  obtain ⟨o1, ho1, h⟩ := bnd_i h
  refine xq_V (G := G) (v := (fun as => (some (.int o1.2.1)))) (As := [.int x1, .int x2]) (rest := []) (wc := [(z0, .inr (9, [.ref a0, .ref b0, .ref h0, .ref s0, .ref l0, .ref e0, .ref k0, .int u7, .int u8, .int u9])), (a0, .inr (8, [.ref a1])), (a1, .inr (6, [.ref a2])), (a2, .inl (cA 0, 61, .inl f)), (b0, .inr (4, [.ref b1, .ref b2, .ref b3])), (b1, .inr (6, [.ref b4])), (b4, .inl (cA 0, 5, .inl f1)), (b2, .inr (6, [.ref b5])), (b5, .inl (cA 0, 5, .inl f2)), (b3, .inr (6, [.ref b6])), (b6, .inl (cA 0, 5, .inl f3))]) (wr := []) (w1 := (fun as => [(z0, .inr (9, [.ref a0, .ref b0, .ref h0, .ref s0, .ref l0, .ref e0, .ref k0, .int u7, .int u8, .int u9])), (a0, .inr (8, [.ref a1])), (a1, .inr (6, [.ref a2])), (a2, .inl (cA 0, 61, .inl f)), (b0, .inr (4, [.ref b1, .ref b2, .ref b3])), (b1, .inr (6, [.ref b4])), (b4, .inl (cA 0, 5, .inl o1.2.2.2.1)), (b2, .inr (6, [.ref b5])), (b5, .inl (cA 0, 5, .inl o1.2.2.2.2)), (b3, .inr (6, [.ref b6])), (b6, .inl (cA 0, 5, .inl o1.2.2.1))])) (ws2 := (fun as => [(z0, .inr (9, [.ref a0, .ref b0, .ref h0, .ref s0, .ref l0, .ref e0, .ref k0, .int u7, .int u8, .int u9])), (a0, .inr (8, [.ref a1])), (a1, .inr (6, [.ref a2])), (a2, .inl (cA 0, 61, .inl f)), (b0, .inr (4, [.ref b1, .ref b2, .ref b3])), (b1, .inr (6, [.ref b4])), (b4, .inl (cA 0, 5, .inl o1.2.2.2.1)), (b2, .inr (6, [.ref b5])), (b5, .inl (cA 0, 5, .inl o1.2.2.2.2)), (b3, .inr (6, [.ref b6])), (b6, .inl (cA 0, 5, .inl o1.2.2.1))])) (st1 := (fun as => [.int o1.2.1])) ⟨hx, hb, hml, hfc, hts⟩ hK hP hD hS hA hEV (kX5_tideBySteps l hst D cA G z0 a0 b0 h0 s0 l0 e0 k0 a1 a2 b1 b2 b3 b4 b5 b6 N u7 u8 u9 f f1 f2 f3 x1 x2 ho1) (cwV 2 hts gL_tideBySteps_X5_tideBySteps rfl rfl rfl (by decide +kernel) ⟨(Nat.le_of_ble_eq_true rfl), (Nat.le_of_ble_eq_true rfl)⟩) [0, 1, 2, 3, 4, 5, 6, 7, 8, 9, 10] [] [0, 1, 2, 3, 4, 5, 6, 7, 8, 9, 10] rfl rfl rfl rfl (by decide) (fun _ => rfl) rfl 0 9 rfl rfl rfl rfl (fun _ => rfl) rfl hl.1 (Nat.le_of_ble_eq_true rfl) dL_tideBySteps_3 ⟨(Nat.le_of_ble_eq_true rfl), (Nat.le_of_ble_eq_true rfl)⟩ (fun c3 as2 H locs hP hD hS => ?_) (fun c3 as2 H locs q9 ce hP hD hS z1 z2 z3 => ?_)
  · have h := ite_t c3 h
    have hP : va_P D vwCl [(z0, .inr (9, [.ref a0, .ref b0, .ref h0, .ref s0, .ref l0, .ref e0, .ref k0, .int u7, .int u8, .int u9])), (a0, .inr (8, [.ref a1])), (a1, .inr (6, [.ref a2])), (a2, .inl (cA 0, 61, .inl f)), (b0, .inr (4, [.ref b1, .ref b2, .ref b3])), (b1, .inr (6, [.ref b4])), (b4, .inl (cA 0, 5, .inl o1.2.2.2.1)), (b2, .inr (6, [.ref b5])), (b5, .inl (cA 0, 5, .inl o1.2.2.2.2)), (b3, .inr (6, [.ref b6])), (b6, .inl (cA 0, 5, .inl o1.2.2.1))] H := hP
    have hD : va_D A [(z0, .inr (9, [.ref a0, .ref b0, .ref h0, .ref s0, .ref l0, .ref e0, .ref k0, .int u7, .int u8, .int u9])), (a0, .inr (8, [.ref a1])), (a1, .inr (6, [.ref a2])), (a2, .inl (cA 0, 61, .inl f)), (b0, .inr (4, [.ref b1, .ref b2, .ref b3])), (b1, .inr (6, [.ref b4])), (b4, .inl (cA 0, 5, .inl o1.2.2.2.1)), (b2, .inr (6, [.ref b5])), (b5, .inl (cA 0, 5, .inl o1.2.2.2.2)), (b3, .inr (6, [.ref b6])), (b6, .inl (cA 0, 5, .inl o1.2.2.1))] := hD
    refine W.cs (cells' := 2) (slots' := 12) rfl rfl ?_
    have h := Option.some.inj h
    subst h
    refine W.widen (k := 2) (n := 12) (Nat.le_of_ble_eq_true rfl) (Nat.le_of_ble_eq_true rfl) ?_
    exact hend (adr []) _ _ _ _ _ _ _ rfl rfl (rtn_i _) hP hD hS dL_tideBySteps_6
  · have h := ite_f c3 h
    have hP : va_P D vwCl [(z0, .inr (9, [.ref a0, .ref b0, .ref h0, .ref s0, .ref l0, .ref e0, .ref k0, .int u7, .int u8, .int u9])), (a0, .inr (8, [.ref a1])), (a1, .inr (6, [.ref a2])), (a2, .inl (cA 0, 61, .inl f)), (b0, .inr (4, [.ref b1, .ref b2, .ref b3])), (b1, .inr (6, [.ref b4])), (b4, .inl (cA 0, 5, .inl o1.2.2.2.1)), (b2, .inr (6, [.ref b5])), (b5, .inl (cA 0, 5, .inl o1.2.2.2.2)), (b3, .inr (6, [.ref b6])), (b6, .inl (cA 0, 5, .inl o1.2.2.1))] H := hP
    have hD : va_D A [(z0, .inr (9, [.ref a0, .ref b0, .ref h0, .ref s0, .ref l0, .ref e0, .ref k0, .int u7, .int u8, .int u9])), (a0, .inr (8, [.ref a1])), (a1, .inr (6, [.ref a2])), (a2, .inl (cA 0, 61, .inl f)), (b0, .inr (4, [.ref b1, .ref b2, .ref b3])), (b1, .inr (6, [.ref b4])), (b4, .inl (cA 0, 5, .inl o1.2.2.2.1)), (b2, .inr (6, [.ref b5])), (b5, .inl (cA 0, 5, .inl o1.2.2.2.2)), (b3, .inr (6, [.ref b6])), (b6, .inl (cA 0, 5, .inl o1.2.2.1))] := hD
    by_cases c4 : o1.1 = 3
    · have h := ite_t c4 h
      have z4 : s.vm.findClass "java/lang/IndexOutOfBoundsException" = some ce.cls := by rw [c4] at z3; exact z3
      refine vx_catch (own := RL) (name := "java/lang/IndexOutOfBoundsException") (E := "java/lang/IndexOutOfBoundsException") hfc [] ⟨0, 6, 7, 28⟩ [⟨0, 6, 12, 14⟩] hT9 (fun z hz => absurd hz List.not_mem_nil) rfl (by decide) (hL9.link (List.mem_of_getElem? (i := 2) rfl)) ((hEV.1.2.2.2.2 "java/lang/IndexOutOfBoundsException" (by decide +kernel)).use rfl) z1 z2 z4 ?_
      refine W.cs (cells' := 2) (slots' := 12) rfl rfl ?_
      refine lv_astore_n hx hb dL_tideBySteps_7 rfl hl (Nat.le_of_ble_eq_true rfl) rfl (fun ls hl => ?_)
      have hl : lv_has ls 4 [(3, .ref q9), (0, .ref z0), (1, .int x1), (2, .int x2)] := hl
      refine lv_sipush (v := (-1011)) hx hb dL_tideBySteps_8 (by decide) ?_
      have h := Option.some.inj h
      subst h
      refine W.widen (k := 2) (n := 12) (Nat.le_of_ble_eq_true rfl) (Nat.le_of_ble_eq_true rfl) ?_
      exact hend (adr []) _ _ _ _ _ _ _ rfl rfl (rtn_i _) hP hD hS dL_tideBySteps_11
    · have h := ite_f c4 h
      by_cases c5 : o1.1 = 1
      · have h := ite_t c5 h
        have z4 : s.vm.findClass "java/lang/IllegalArgumentException" = some ce.cls := by rw [c5] at z3; exact z3
        have hp9 : ∀ z ∈ ([⟨0, 6, 7, 28⟩] : List ExceptionTableEntry), covers z 3 = false ∨ (z.catchType ≠ 0 ∧ ∃ nm : String, (Cond.classLink RL z.catchType nm).before args s = true ∧ va_Nc "java/lang/IllegalArgumentException" nm s) := by
          intro z hz
          rcases List.mem_cons.mp hz with rfl | hz
          · exact Or.inr ⟨by decide, _, (hL9.link (List.mem_of_getElem? (i := 2) rfl)), hL9.1.2.1⟩
          exact absurd hz List.not_mem_nil
        refine vx_catch (own := RL) (name := "java/lang/IllegalArgumentException") (E := "java/lang/IllegalArgumentException") hfc [⟨0, 6, 7, 28⟩] ⟨0, 6, 12, 14⟩ [] hT9 hp9 rfl (by decide) (hL9.link (List.mem_of_getElem? (i := 0) rfl)) ((hEV.1.2.2.2.2 "java/lang/IllegalArgumentException" (by decide +kernel)).use rfl) z1 z2 z4 ?_
        refine W.cs (cells' := 2) (slots' := 12) rfl rfl ?_
        refine lv_astore_n hx hb dL_tideBySteps_12 rfl hl (Nat.le_of_ble_eq_true rfl) rfl (fun ls hl => ?_)
        have hl : lv_has ls 4 [(3, .ref q9), (0, .ref z0), (1, .int x1), (2, .int x2)] := hl
        refine lv_sipush (v := (-1012)) hx hb dL_tideBySteps_13 (by decide) ?_
        have h := Option.some.inj h
        subst h
        refine W.widen (k := 2) (n := 12) (Nat.le_of_ble_eq_true rfl) (Nat.le_of_ble_eq_true rfl) ?_
        exact hend (adr []) _ _ _ _ _ _ _ rfl rfl (rtn_i _) hP hD hS dL_tideBySteps_16
      · have h := ite_f c5 h
        exact nn h

noncomputable def SL_tideIn (N : Nat) (f : Nat → Int32) (x1 : Int32) (x2 : Int32) : Option (Int32) := bnd (SX5_tideIn N f x1 x2) (fun o1 : Nat × Int32 => if o1.1 = 0 then (some (o1.2)) else (if o1.1 = 3 then (some ((-1011))) else (if o1.1 = 1 then (some ((-1012))) else (none))))
abbrev RM_L_tideIn : Room := { frames := 8, cells := 2, slots := 12, locals := 127 }
set_option maxHeartbeats 4000000 in
theorem kL_tideIn (l : Launch) (hst : l.stackTraces = false) (D : va_G) (cA : Nat → ClassId) (G : eG) (z0 a0 b0 h0 s0 l0 e0 k0 a1 a2 : Nat) (N : Nat) (u7 : Int32) (u8 : Int32) (u9 : Int32) (f : Nat → Int32) (x1 : Int32) (x2 : Int32) {r : Int32} (hr : SL_tideIn N f x1 x2 = some r) {sz : Nat} : Met l yL_tideIn wsL_tideIn RM_L_tideIn (va_Pc [.ref z0, .int x1, .int x2] (gqLB G D cA [(z0, .inr (9, [.ref a0, .ref b0, .ref h0, .ref s0, .ref l0, .ref e0, .ref k0, .int u7, .int u8, .int u9])), (a0, .inr (8, [.ref a1])), (a1, .inr (6, [.ref a2])), (a2, .inl (cA 0, 61, .inl f))] sz)) (gqQ D (fun as => (some (.int r))) (fun as => [(z0, .inr (9, [.ref a0, .ref b0, .ref h0, .ref s0, .ref l0, .ref e0, .ref k0, .int u7, .int u8, .int u9])), (a0, .inr (8, [.ref a1])), (a1, .inr (6, [.ref a2])), (a2, .inl (cA 0, 61, .inl f))]) (va_A [(z0, .inr (9, [.ref a0, .ref b0, .ref h0, .ref s0, .ref l0, .ref e0, .ref k0, .int u7, .int u8, .int u9])), (a0, .inr (8, [.ref a1])), (a1, .inr (6, [.ref a2])), (a2, .inl (cA 0, 61, .inl f))] sz)) 2 12 (va_A [(z0, .inr (9, [.ref a0, .ref b0, .ref h0, .ref s0, .ref l0, .ref e0, .ref k0, .int u7, .int u8, .int u9])), (a0, .inr (8, [.ref a1])), (a1, .inr (6, [.ref a2])), (a2, .inl (cA 0, 61, .inl f))] sz) := by
  refine gqL_ofW (hh := [(0, 6, 7, 28), (0, 6, 12, 14)]) (cc := cL_tideIn) (maxL := 4) (ret := (some .int)) (by decide) rfl (Nat.le_of_ble_eq_true rfl) (fun p e s m args below meth c ls Q A hx hb hml hT9 hts hfc hK hP hD hS hA hEV hL9 hl hend => ?_)
  have hfc : s.vm.findClass RL = some m.cls := hfc
  have hl : lv_has ls 4 [(0, .ref z0), (1, .int x1), (2, .int x2)] := hl
  have h := hr
  clear hr
  unfold SL_tideIn at h
  refine lv_aload_n hx hb dL_tideIn_0 rfl (lv_at hl 0 rfl) ?_
  refine lv_iload_n hx hb dL_tideIn_1 rfl (lv_at hl 1 rfl) ?_
  refine lv_iload_n hx hb dL_tideIn_2 rfl (lv_at hl 2 rfl) ?_
  obtain ⟨o1, ho1, h⟩ := bnd_i h
  refine xq_V (G := G) (v := (fun as => (some (.int o1.2)))) (As := [.int x1, .int x2]) (rest := []) (wc := [(z0, .inr (9, [.ref a0, .ref b0, .ref h0, .ref s0, .ref l0, .ref e0, .ref k0, .int u7, .int u8, .int u9])), (a0, .inr (8, [.ref a1])), (a1, .inr (6, [.ref a2])), (a2, .inl (cA 0, 61, .inl f))]) (wr := []) (w1 := (fun as => [(z0, .inr (9, [.ref a0, .ref b0, .ref h0, .ref s0, .ref l0, .ref e0, .ref k0, .int u7, .int u8, .int u9])), (a0, .inr (8, [.ref a1])), (a1, .inr (6, [.ref a2])), (a2, .inl (cA 0, 61, .inl f))])) (ws2 := (fun as => [(z0, .inr (9, [.ref a0, .ref b0, .ref h0, .ref s0, .ref l0, .ref e0, .ref k0, .int u7, .int u8, .int u9])), (a0, .inr (8, [.ref a1])), (a1, .inr (6, [.ref a2])), (a2, .inl (cA 0, 61, .inl f))])) (st1 := (fun as => [.int o1.2])) ⟨hx, hb, hml, hfc, hts⟩ hK hP hD hS hA hEV (kX5_tideIn l hst D cA G z0 a0 b0 h0 s0 l0 e0 k0 a1 a2 N u7 u8 u9 f x1 x2 ho1) (cwV 2 hts gL_tideIn_X5_tideIn rfl rfl rfl (by decide +kernel) ⟨(Nat.le_of_ble_eq_true rfl), (Nat.le_of_ble_eq_true rfl)⟩) [0, 1, 2, 3] [] [0, 1, 2, 3] rfl rfl rfl rfl (by decide) (fun _ => rfl) rfl 0 9 rfl rfl rfl rfl (fun _ => rfl) rfl hl.1 (Nat.le_of_ble_eq_true rfl) dL_tideIn_3 ⟨(Nat.le_of_ble_eq_true rfl), (Nat.le_of_ble_eq_true rfl)⟩ (fun c3 as2 H locs hP hD hS => ?_) (fun c3 as2 H locs q9 ce hP hD hS z1 z2 z3 => ?_)
  · have h := ite_t c3 h
    have hP : va_P D vwCl [(z0, .inr (9, [.ref a0, .ref b0, .ref h0, .ref s0, .ref l0, .ref e0, .ref k0, .int u7, .int u8, .int u9])), (a0, .inr (8, [.ref a1])), (a1, .inr (6, [.ref a2])), (a2, .inl (cA 0, 61, .inl f))] H := hP
    have hD : va_D A [(z0, .inr (9, [.ref a0, .ref b0, .ref h0, .ref s0, .ref l0, .ref e0, .ref k0, .int u7, .int u8, .int u9])), (a0, .inr (8, [.ref a1])), (a1, .inr (6, [.ref a2])), (a2, .inl (cA 0, 61, .inl f))] := hD
    refine W.cs (cells' := 2) (slots' := 12) rfl rfl ?_
    have h := Option.some.inj h
    subst h
    refine W.widen (k := 2) (n := 12) (Nat.le_of_ble_eq_true rfl) (Nat.le_of_ble_eq_true rfl) ?_
    exact hend (adr []) _ _ _ _ _ _ _ rfl rfl (rtn_i _) hP hD hS dL_tideIn_6
  · have h := ite_f c3 h
    have hP : va_P D vwCl [(z0, .inr (9, [.ref a0, .ref b0, .ref h0, .ref s0, .ref l0, .ref e0, .ref k0, .int u7, .int u8, .int u9])), (a0, .inr (8, [.ref a1])), (a1, .inr (6, [.ref a2])), (a2, .inl (cA 0, 61, .inl f))] H := hP
    have hD : va_D A [(z0, .inr (9, [.ref a0, .ref b0, .ref h0, .ref s0, .ref l0, .ref e0, .ref k0, .int u7, .int u8, .int u9])), (a0, .inr (8, [.ref a1])), (a1, .inr (6, [.ref a2])), (a2, .inl (cA 0, 61, .inl f))] := hD
    by_cases c4 : o1.1 = 3
    · have h := ite_t c4 h
      have z4 : s.vm.findClass "java/lang/IndexOutOfBoundsException" = some ce.cls := by rw [c4] at z3; exact z3
      refine vx_catch (own := RL) (name := "java/lang/IndexOutOfBoundsException") (E := "java/lang/IndexOutOfBoundsException") hfc [] ⟨0, 6, 7, 28⟩ [⟨0, 6, 12, 14⟩] hT9 (fun z hz => absurd hz List.not_mem_nil) rfl (by decide) (hL9.link (List.mem_of_getElem? (i := 2) rfl)) ((hEV.1.2.2.2.2 "java/lang/IndexOutOfBoundsException" (by decide +kernel)).use rfl) z1 z2 z4 ?_
      refine W.cs (cells' := 2) (slots' := 12) rfl rfl ?_
      refine lv_astore_n hx hb dL_tideIn_7 rfl hl (Nat.le_of_ble_eq_true rfl) rfl (fun ls hl => ?_)
      have hl : lv_has ls 4 [(3, .ref q9), (0, .ref z0), (1, .int x1), (2, .int x2)] := hl
      refine lv_sipush (v := (-1011)) hx hb dL_tideIn_8 (by decide) ?_
      have h := Option.some.inj h
      subst h
      refine W.widen (k := 2) (n := 12) (Nat.le_of_ble_eq_true rfl) (Nat.le_of_ble_eq_true rfl) ?_
      exact hend (adr []) _ _ _ _ _ _ _ rfl rfl (rtn_i _) hP hD hS dL_tideIn_11
    · have h := ite_f c4 h
      by_cases c5 : o1.1 = 1
      · have h := ite_t c5 h
        have z4 : s.vm.findClass "java/lang/IllegalArgumentException" = some ce.cls := by rw [c5] at z3; exact z3
        have hp9 : ∀ z ∈ ([⟨0, 6, 7, 28⟩] : List ExceptionTableEntry), covers z 3 = false ∨ (z.catchType ≠ 0 ∧ ∃ nm : String, (Cond.classLink RL z.catchType nm).before args s = true ∧ va_Nc "java/lang/IllegalArgumentException" nm s) := by
          intro z hz
          rcases List.mem_cons.mp hz with rfl | hz
          · exact Or.inr ⟨by decide, _, (hL9.link (List.mem_of_getElem? (i := 2) rfl)), hL9.1.2.1⟩
          exact absurd hz List.not_mem_nil
        refine vx_catch (own := RL) (name := "java/lang/IllegalArgumentException") (E := "java/lang/IllegalArgumentException") hfc [⟨0, 6, 7, 28⟩] ⟨0, 6, 12, 14⟩ [] hT9 hp9 rfl (by decide) (hL9.link (List.mem_of_getElem? (i := 0) rfl)) ((hEV.1.2.2.2.2 "java/lang/IllegalArgumentException" (by decide +kernel)).use rfl) z1 z2 z4 ?_
        refine W.cs (cells' := 2) (slots' := 12) rfl rfl ?_
        refine lv_astore_n hx hb dL_tideIn_12 rfl hl (Nat.le_of_ble_eq_true rfl) rfl (fun ls hl => ?_)
        have hl : lv_has ls 4 [(3, .ref q9), (0, .ref z0), (1, .int x1), (2, .int x2)] := hl
        refine lv_sipush (v := (-1012)) hx hb dL_tideIn_13 (by decide) ?_
        have h := Option.some.inj h
        subst h
        refine W.widen (k := 2) (n := 12) (Nat.le_of_ble_eq_true rfl) (Nat.le_of_ble_eq_true rfl) ?_
        exact hend (adr []) _ _ _ _ _ _ _ rfl rfl (rtn_i _) hP hD hS dL_tideIn_16
      · have h := ite_f c5 h
        exact nn h

noncomputable def SL_type (n : Nat) (tf : Nat → Int32) (c0 : Int32) (x1 : Int32) : Option (Int32 × Int32 × (Nat → Int32) × Nat) := bnd (SX5_type n tf c0 x1) (fun o1 : Nat × Int32 × Int32 × (Nat → Int32) × Nat => if o1.1 = 0 then (some ((o1.2.1, o1.2.2.1, o1.2.2.2.1, o1.2.2.2.2))) else (if o1.1 = 1 then (some (((-12), o1.2.2.1, o1.2.2.2.1, o1.2.2.2.2))) else (if o1.1 = 2 then (some (((-14), o1.2.2.1, o1.2.2.2.1, o1.2.2.2.2))) else (none))))
abbrev RM_L_type : Room := { frames := 8, cells := 1, slots := 168, locals := 170 }
set_option maxHeartbeats 4000000 in
theorem kL_type (l : Launch) (hst : l.stackTraces = false) (D : va_G) (cA : Nat → ClassId) (G : eG) (z0 a0 b0 h0 s0 l0 e0 k0 t0 m0 t1 m1 : Nat) (u7 : Int32) (u8 : Int32) (u9 : Int32) (w1 : Int32) (w2 : Int32) (w3 : Int32) (n : Nat) (tf : Nat → Int32) (ml : Int32) (c0 : Int32) (cm : Nat → Int32) (x1 : Int32) {r : Int32 × Int32 × (Nat → Int32) × Nat} (hr : SL_type n tf c0 x1 = some r) {sz : Nat} : Met l yL_type wsL_type RM_L_type (va_Pc [.ref z0, .int x1] (gqLB G D cA [(z0, .inr (9, [.ref a0, .ref b0, .ref h0, .ref s0, .ref l0, .ref e0, .ref k0, .int u7, .int u8, .int u9])), (s0, .inr (7, [.ref t0, .ref m0, .int w1, .int w2, .int w3])), (t0, .inr (1, [.ref t1, .int 0, .int ml, .int c0])), (t1, .inl (cA 1, n, .inl tf)), (m0, .inr (6, [.ref m1])), (m1, .inl (cA 0, 60, .inl cm))] sz)) (gqQ D (fun as => (some (.int r.1))) (fun as => [(z0, .inr (9, [.ref a0, .ref b0, .ref h0, .ref s0, .ref l0, .ref e0, .ref k0, .int u7, .int u8, .int u9])), (s0, .inr (7, [.ref t0, .ref m0, .int w1, .int w2, .int w3])), (t0, .inr (1, [.ref (as 0), .int 0, .int ml, .int r.2.1])), ((as 0), .inl (cA 1, r.2.2.2, .inl r.2.2.1)), (m0, .inr (6, [.ref m1])), (m1, .inl (cA 0, 60, .inl cm))]) (va_A [(z0, .inr (9, [.ref a0, .ref b0, .ref h0, .ref s0, .ref l0, .ref e0, .ref k0, .int u7, .int u8, .int u9])), (s0, .inr (7, [.ref t0, .ref m0, .int w1, .int w2, .int w3])), (t0, .inr (1, [.ref t1, .int 0, .int ml, .int c0])), (t1, .inl (cA 1, n, .inl tf)), (m0, .inr (6, [.ref m1])), (m1, .inl (cA 0, 60, .inl cm))] sz)) 1 168 (va_A [(z0, .inr (9, [.ref a0, .ref b0, .ref h0, .ref s0, .ref l0, .ref e0, .ref k0, .int u7, .int u8, .int u9])), (s0, .inr (7, [.ref t0, .ref m0, .int w1, .int w2, .int w3])), (t0, .inr (1, [.ref t1, .int 0, .int ml, .int c0])), (t1, .inl (cA 1, n, .inl tf)), (m0, .inr (6, [.ref m1])), (m1, .inl (cA 0, 60, .inl cm))] sz) := by
  refine gqL_ofW (hh := [(0, 5, 6, 14), (0, 5, 10, 16)]) (cc := cL_type) (maxL := 3) (ret := (some .int)) (by decide) rfl (Nat.le_of_ble_eq_true rfl) (fun p e s m args below meth c ls Q A hx hb hml hT9 hts hfc hK hP hD hS hA hEV hL9 hl hend => ?_)
  have hfc : s.vm.findClass RL = some m.cls := hfc
  have hl : lv_has ls 3 [(0, .ref z0), (1, .int x1)] := hl
  have h := hr
  clear hr
  unfold SL_type at h
  refine lv_aload_n hx hb dL_type_0 rfl (lv_at hl 0 rfl) ?_
  refine lv_iload_n hx hb dL_type_1 rfl (lv_at hl 1 rfl) ?_
  obtain ⟨o1, ho1, h⟩ := bnd_i h
  refine xq_V (G := G) (v := (fun as => (some (.int o1.2.1)))) (As := [.int x1]) (rest := []) (wc := [(z0, .inr (9, [.ref a0, .ref b0, .ref h0, .ref s0, .ref l0, .ref e0, .ref k0, .int u7, .int u8, .int u9])), (s0, .inr (7, [.ref t0, .ref m0, .int w1, .int w2, .int w3])), (t0, .inr (1, [.ref t1, .int 0, .int ml, .int c0])), (t1, .inl (cA 1, n, .inl tf)), (m0, .inr (6, [.ref m1])), (m1, .inl (cA 0, 60, .inl cm))]) (wr := []) (w1 := (fun as => [(z0, .inr (9, [.ref a0, .ref b0, .ref h0, .ref s0, .ref l0, .ref e0, .ref k0, .int u7, .int u8, .int u9])), (s0, .inr (7, [.ref t0, .ref m0, .int w1, .int w2, .int w3])), (t0, .inr (1, [.ref (as 0), .int 0, .int ml, .int o1.2.2.1])), ((as 0), .inl (cA 1, o1.2.2.2.2, .inl o1.2.2.2.1)), (m0, .inr (6, [.ref m1])), (m1, .inl (cA 0, 60, .inl cm))])) (ws2 := (fun as => [(z0, .inr (9, [.ref a0, .ref b0, .ref h0, .ref s0, .ref l0, .ref e0, .ref k0, .int u7, .int u8, .int u9])), (s0, .inr (7, [.ref t0, .ref m0, .int w1, .int w2, .int w3])), (t0, .inr (1, [.ref (as 0), .int 0, .int ml, .int o1.2.2.1])), ((as 0), .inl (cA 1, o1.2.2.2.2, .inl o1.2.2.2.1)), (m0, .inr (6, [.ref m1])), (m1, .inl (cA 0, 60, .inl cm))])) (st1 := (fun as => [.int o1.2.1])) ⟨hx, hb, hml, hfc, hts⟩ hK hP hD hS hA hEV (kX5_type l hst D cA G z0 a0 b0 h0 s0 l0 e0 k0 t0 m0 t1 m1 u7 u8 u9 w1 w2 w3 n tf ml c0 cm x1 ho1) (cwV 1 hts gL_type_X5_type rfl rfl rfl (by decide +kernel) ⟨(Nat.le_of_ble_eq_true rfl), (Nat.le_of_ble_eq_true rfl)⟩) [0, 1, 2, 3, 4, 5] [] [0, 1, 2, 3, 4, 5] rfl rfl rfl rfl (by decide) (fun _ => rfl) rfl 0 9 rfl rfl rfl rfl (fun _ => rfl) rfl hl.1 (Nat.le_of_ble_eq_true rfl) dL_type_2 ⟨(Nat.le_of_ble_eq_true rfl), (Nat.le_of_ble_eq_true rfl)⟩ (fun c3 as2 H locs hP hD hS => ?_) (fun c3 as2 H locs q9 ce hP hD hS z1 z2 z3 => ?_)
  · have h := ite_t c3 h
    have hP : va_P D vwCl [(z0, .inr (9, [.ref a0, .ref b0, .ref h0, .ref s0, .ref l0, .ref e0, .ref k0, .int u7, .int u8, .int u9])), (s0, .inr (7, [.ref t0, .ref m0, .int w1, .int w2, .int w3])), (t0, .inr (1, [.ref (as2 0), .int 0, .int ml, .int o1.2.2.1])), ((as2 0), .inl (cA 1, o1.2.2.2.2, .inl o1.2.2.2.1)), (m0, .inr (6, [.ref m1])), (m1, .inl (cA 0, 60, .inl cm))] H := hP
    have hD : va_D A [(z0, .inr (9, [.ref a0, .ref b0, .ref h0, .ref s0, .ref l0, .ref e0, .ref k0, .int u7, .int u8, .int u9])), (s0, .inr (7, [.ref t0, .ref m0, .int w1, .int w2, .int w3])), (t0, .inr (1, [.ref (as2 0), .int 0, .int ml, .int o1.2.2.1])), ((as2 0), .inl (cA 1, o1.2.2.2.2, .inl o1.2.2.2.1)), (m0, .inr (6, [.ref m1])), (m1, .inl (cA 0, 60, .inl cm))] := hD
    refine W.cs (cells' := 1) (slots' := 168) rfl rfl ?_
    have h := Option.some.inj h
    subst h
    refine W.widen (k := 1) (n := 168) (Nat.le_of_ble_eq_true rfl) (Nat.le_of_ble_eq_true rfl) ?_
    exact hend (adr [(as2 0)]) _ _ _ _ _ _ _ rfl rfl (rtn_i _) hP hD hS dL_type_5
  · have h := ite_f c3 h
    have hP : va_P D vwCl [(z0, .inr (9, [.ref a0, .ref b0, .ref h0, .ref s0, .ref l0, .ref e0, .ref k0, .int u7, .int u8, .int u9])), (s0, .inr (7, [.ref t0, .ref m0, .int w1, .int w2, .int w3])), (t0, .inr (1, [.ref (as2 0), .int 0, .int ml, .int o1.2.2.1])), ((as2 0), .inl (cA 1, o1.2.2.2.2, .inl o1.2.2.2.1)), (m0, .inr (6, [.ref m1])), (m1, .inl (cA 0, 60, .inl cm))] H := hP
    have hD : va_D A [(z0, .inr (9, [.ref a0, .ref b0, .ref h0, .ref s0, .ref l0, .ref e0, .ref k0, .int u7, .int u8, .int u9])), (s0, .inr (7, [.ref t0, .ref m0, .int w1, .int w2, .int w3])), (t0, .inr (1, [.ref (as2 0), .int 0, .int ml, .int o1.2.2.1])), ((as2 0), .inl (cA 1, o1.2.2.2.2, .inl o1.2.2.2.1)), (m0, .inr (6, [.ref m1])), (m1, .inl (cA 0, 60, .inl cm))] := hD
    by_cases c4 : o1.1 = 1
    · have h := ite_t c4 h
      have z4 : s.vm.findClass "java/lang/IllegalArgumentException" = some ce.cls := by rw [c4] at z3; exact z3
      refine vx_catch (own := RL) (name := "java/lang/IllegalArgumentException") (E := "java/lang/IllegalArgumentException") hfc [] ⟨0, 5, 6, 14⟩ [⟨0, 5, 10, 16⟩] hT9 (fun z hz => absurd hz List.not_mem_nil) rfl (by decide) (hL9.link (List.mem_of_getElem? (i := 0) rfl)) ((hEV.1.2.2.2.2 "java/lang/IllegalArgumentException" (by decide +kernel)).use rfl) z1 z2 z4 ?_
      refine W.cs (cells' := 1) (slots' := 168) rfl rfl ?_
      refine lv_astore_n hx hb dL_type_6 rfl hl (Nat.le_of_ble_eq_true rfl) rfl (fun ls hl => ?_)
      have hl : lv_has ls 3 [(2, .ref q9), (0, .ref z0), (1, .int x1)] := hl
      refine lv_bipush (v := (-12)) hx hb dL_type_7 (by decide) ?_
      have h := Option.some.inj h
      subst h
      refine W.widen (k := 1) (n := 168) (Nat.le_of_ble_eq_true rfl) (Nat.le_of_ble_eq_true rfl) ?_
      exact hend (adr [(as2 0)]) _ _ _ _ _ _ _ rfl rfl (rtn_i _) hP hD hS dL_type_9
    · have h := ite_f c4 h
      by_cases c5 : o1.1 = 2
      · have h := ite_t c5 h
        have z4 : s.vm.findClass "java/lang/IllegalStateException" = some ce.cls := by rw [c5] at z3; exact z3
        have hp9 : ∀ z ∈ ([⟨0, 5, 6, 14⟩] : List ExceptionTableEntry), covers z 2 = false ∨ (z.catchType ≠ 0 ∧ ∃ nm : String, (Cond.classLink RL z.catchType nm).before args s = true ∧ va_Nc "java/lang/IllegalStateException" nm s) := by
          intro z hz
          rcases List.mem_cons.mp hz with rfl | hz
          · exact Or.inr ⟨by decide, _, (hL9.link (List.mem_of_getElem? (i := 0) rfl)), hL9.1.1⟩
          exact absurd hz List.not_mem_nil
        refine vx_catch (own := RL) (name := "java/lang/IllegalStateException") (E := "java/lang/IllegalStateException") hfc [⟨0, 5, 6, 14⟩] ⟨0, 5, 10, 16⟩ [] hT9 hp9 rfl (by decide) (hL9.link (List.mem_of_getElem? (i := 1) rfl)) ((hEV.1.2.2.2.2 "java/lang/IllegalStateException" (by decide +kernel)).use rfl) z1 z2 z4 ?_
        refine W.cs (cells' := 1) (slots' := 168) rfl rfl ?_
        refine lv_astore_n hx hb dL_type_10 rfl hl (Nat.le_of_ble_eq_true rfl) rfl (fun ls hl => ?_)
        have hl : lv_has ls 3 [(2, .ref q9), (0, .ref z0), (1, .int x1)] := hl
        refine lv_bipush (v := (-14)) hx hb dL_type_11 (by decide) ?_
        have h := Option.some.inj h
        subst h
        refine W.widen (k := 1) (n := 168) (Nat.le_of_ble_eq_true rfl) (Nat.le_of_ble_eq_true rfl) ?_
        exact hend (adr [(as2 0)]) _ _ _ _ _ _ _ rfl rfl (rtn_i _) hP hD hS dL_type_13
      · have h := ite_f c5 h
        exact nn h

noncomputable def SL_undo (N : Nat) (f : Nat → Int32) (v1 : Int32) (v2 : Int32) (g : Nat → Int32) : Option (Int32 × (Nat → Int32) × Int32 × Int32) := bnd (SX5_undo N f v1 v2 g) (fun o1 : Nat × Int32 × (Nat → Int32) × Int32 × Int32 => if o1.1 = 0 then (some ((o1.2.1, o1.2.2.1, o1.2.2.2.1, o1.2.2.2.2))) else (if o1.1 = 2 then (some (((-1), o1.2.2.1, o1.2.2.2.1, o1.2.2.2.2))) else (none)))
abbrev RM_L_undo : Room := { frames := 7, cells := 1, slots := 6, locals := 102 }
set_option maxHeartbeats 4000000 in
theorem kL_undo (l : Launch) (hst : l.stackTraces = false) (D : va_G) (cA : Nat → ClassId) (G : eG) (z0 a0 b0 h0 s0 l0 e0 k0 a1 a2 h1 h2 : Nat) (N : Nat) (u7 : Int32) (u8 : Int32) (u9 : Int32) (f : Nat → Int32) (v1 : Int32) (v2 : Int32) (g : Nat → Int32) {r : Int32 × (Nat → Int32) × Int32 × Int32} (hr : SL_undo N f v1 v2 g = some r) {sz : Nat} : Met l yL_undo wsL_undo RM_L_undo (va_Pc [.ref z0] (gqLB G D cA [(z0, .inr (9, [.ref a0, .ref b0, .ref h0, .ref s0, .ref l0, .ref e0, .ref k0, .int u7, .int u8, .int u9])), (a0, .inr (8, [.ref a1])), (a1, .inr (6, [.ref a2])), (a2, .inl (cA 0, 61, .inl f)), (h0, .inr (5, [.ref h1, .int v1, .int v2])), (h1, .inr (6, [.ref h2])), (h2, .inl (cA 0, 488, .inl g))] sz)) (gqQ D (fun as => (some (.int r.1))) (fun as => [(z0, .inr (9, [.ref a0, .ref b0, .ref h0, .ref s0, .ref l0, .ref e0, .ref k0, .int u7, .int u8, .int u9])), (a0, .inr (8, [.ref a1])), (a1, .inr (6, [.ref a2])), (a2, .inl (cA 0, 61, .inl r.2.1)), (h0, .inr (5, [.ref h1, .int r.2.2.1, .int r.2.2.2])), (h1, .inr (6, [.ref h2])), (h2, .inl (cA 0, 488, .inl g))]) (va_A [(z0, .inr (9, [.ref a0, .ref b0, .ref h0, .ref s0, .ref l0, .ref e0, .ref k0, .int u7, .int u8, .int u9])), (a0, .inr (8, [.ref a1])), (a1, .inr (6, [.ref a2])), (a2, .inl (cA 0, 61, .inl f)), (h0, .inr (5, [.ref h1, .int v1, .int v2])), (h1, .inr (6, [.ref h2])), (h2, .inl (cA 0, 488, .inl g))] sz)) 1 6 (va_A [(z0, .inr (9, [.ref a0, .ref b0, .ref h0, .ref s0, .ref l0, .ref e0, .ref k0, .int u7, .int u8, .int u9])), (a0, .inr (8, [.ref a1])), (a1, .inr (6, [.ref a2])), (a2, .inl (cA 0, 61, .inl f)), (h0, .inr (5, [.ref h1, .int v1, .int v2])), (h1, .inr (6, [.ref h2])), (h2, .inl (cA 0, 488, .inl g))] sz) := by
  refine gqL_ofW (hh := [(0, 4, 5, 16)]) (cc := cL_undo) (maxL := 2) (ret := (some .int)) (by decide) rfl (Nat.le_of_ble_eq_true rfl) (fun p e s m args below meth c ls Q A hx hb hml hT9 hts hfc hK hP hD hS hA hEV hL9 hl hend => ?_)
  have hfc : s.vm.findClass RL = some m.cls := hfc
  have hl : lv_has ls 2 [(0, .ref z0)] := hl
  have h := hr
  clear hr
  unfold SL_undo at h
  refine lv_aload_n hx hb dL_undo_0 rfl (lv_at hl 0 rfl) ?_
  obtain ⟨o1, ho1, h⟩ := bnd_i h
  refine xq_V (G := G) (v := (fun as => (some (.int o1.2.1)))) (As := []) (rest := []) (wc := [(z0, .inr (9, [.ref a0, .ref b0, .ref h0, .ref s0, .ref l0, .ref e0, .ref k0, .int u7, .int u8, .int u9])), (a0, .inr (8, [.ref a1])), (a1, .inr (6, [.ref a2])), (a2, .inl (cA 0, 61, .inl f)), (h0, .inr (5, [.ref h1, .int v1, .int v2])), (h1, .inr (6, [.ref h2])), (h2, .inl (cA 0, 488, .inl g))]) (wr := []) (w1 := (fun as => [(z0, .inr (9, [.ref a0, .ref b0, .ref h0, .ref s0, .ref l0, .ref e0, .ref k0, .int u7, .int u8, .int u9])), (a0, .inr (8, [.ref a1])), (a1, .inr (6, [.ref a2])), (a2, .inl (cA 0, 61, .inl o1.2.2.1)), (h0, .inr (5, [.ref h1, .int o1.2.2.2.1, .int o1.2.2.2.2])), (h1, .inr (6, [.ref h2])), (h2, .inl (cA 0, 488, .inl g))])) (ws2 := (fun as => [(z0, .inr (9, [.ref a0, .ref b0, .ref h0, .ref s0, .ref l0, .ref e0, .ref k0, .int u7, .int u8, .int u9])), (a0, .inr (8, [.ref a1])), (a1, .inr (6, [.ref a2])), (a2, .inl (cA 0, 61, .inl o1.2.2.1)), (h0, .inr (5, [.ref h1, .int o1.2.2.2.1, .int o1.2.2.2.2])), (h1, .inr (6, [.ref h2])), (h2, .inl (cA 0, 488, .inl g))])) (st1 := (fun as => [.int o1.2.1])) ⟨hx, hb, hml, hfc, hts⟩ hK hP hD hS hA hEV (kX5_undo l hst D cA G z0 a0 b0 h0 s0 l0 e0 k0 a1 a2 h1 h2 N u7 u8 u9 f v1 v2 g ho1) (cwV 0 hts gL_undo_X5_undo rfl rfl rfl (by decide +kernel) ⟨(Nat.le_of_ble_eq_true rfl), (Nat.le_of_ble_eq_true rfl)⟩) [0, 1, 2, 3, 4, 5, 6] [] [0, 1, 2, 3, 4, 5, 6] rfl rfl rfl rfl (by decide) (fun _ => rfl) rfl 0 9 rfl rfl rfl rfl (fun _ => rfl) rfl hl.1 (Nat.le_of_ble_eq_true rfl) dL_undo_1 ⟨(Nat.le_of_ble_eq_true rfl), (Nat.le_of_ble_eq_true rfl)⟩ (fun c3 as2 H locs hP hD hS => ?_) (fun c3 as2 H locs q9 ce hP hD hS z1 z2 z3 => ?_)
  · have h := ite_t c3 h
    have hP : va_P D vwCl [(z0, .inr (9, [.ref a0, .ref b0, .ref h0, .ref s0, .ref l0, .ref e0, .ref k0, .int u7, .int u8, .int u9])), (a0, .inr (8, [.ref a1])), (a1, .inr (6, [.ref a2])), (a2, .inl (cA 0, 61, .inl o1.2.2.1)), (h0, .inr (5, [.ref h1, .int o1.2.2.2.1, .int o1.2.2.2.2])), (h1, .inr (6, [.ref h2])), (h2, .inl (cA 0, 488, .inl g))] H := hP
    have hD : va_D A [(z0, .inr (9, [.ref a0, .ref b0, .ref h0, .ref s0, .ref l0, .ref e0, .ref k0, .int u7, .int u8, .int u9])), (a0, .inr (8, [.ref a1])), (a1, .inr (6, [.ref a2])), (a2, .inl (cA 0, 61, .inl o1.2.2.1)), (h0, .inr (5, [.ref h1, .int o1.2.2.2.1, .int o1.2.2.2.2])), (h1, .inr (6, [.ref h2])), (h2, .inl (cA 0, 488, .inl g))] := hD
    refine W.cs (cells' := 1) (slots' := 6) rfl rfl ?_
    have h := Option.some.inj h
    subst h
    refine W.widen (k := 1) (n := 6) (Nat.le_of_ble_eq_true rfl) (Nat.le_of_ble_eq_true rfl) ?_
    exact hend (adr []) _ _ _ _ _ _ _ rfl rfl (rtn_i _) hP hD hS dL_undo_4
  · have h := ite_f c3 h
    have hP : va_P D vwCl [(z0, .inr (9, [.ref a0, .ref b0, .ref h0, .ref s0, .ref l0, .ref e0, .ref k0, .int u7, .int u8, .int u9])), (a0, .inr (8, [.ref a1])), (a1, .inr (6, [.ref a2])), (a2, .inl (cA 0, 61, .inl o1.2.2.1)), (h0, .inr (5, [.ref h1, .int o1.2.2.2.1, .int o1.2.2.2.2])), (h1, .inr (6, [.ref h2])), (h2, .inl (cA 0, 488, .inl g))] H := hP
    have hD : va_D A [(z0, .inr (9, [.ref a0, .ref b0, .ref h0, .ref s0, .ref l0, .ref e0, .ref k0, .int u7, .int u8, .int u9])), (a0, .inr (8, [.ref a1])), (a1, .inr (6, [.ref a2])), (a2, .inl (cA 0, 61, .inl o1.2.2.1)), (h0, .inr (5, [.ref h1, .int o1.2.2.2.1, .int o1.2.2.2.2])), (h1, .inr (6, [.ref h2])), (h2, .inl (cA 0, 488, .inl g))] := hD
    by_cases c4 : o1.1 = 2
    · have h := ite_t c4 h
      have z4 : s.vm.findClass "java/lang/IllegalStateException" = some ce.cls := by rw [c4] at z3; exact z3
      refine vx_catch (own := RL) (name := "java/lang/IllegalStateException") (E := "java/lang/IllegalStateException") hfc [] ⟨0, 4, 5, 16⟩ [] hT9 (fun z hz => absurd hz List.not_mem_nil) rfl (by decide) (hL9.link (List.mem_of_getElem? (i := 1) rfl)) ((hEV.1.2.2.2.2 "java/lang/IllegalStateException" (by decide +kernel)).use rfl) z1 z2 z4 ?_
      refine W.cs (cells' := 1) (slots' := 6) rfl rfl ?_
      refine lv_astore_n hx hb dL_undo_5 rfl hl (Nat.le_of_ble_eq_true rfl) rfl (fun ls hl => ?_)
      have hl : lv_has ls 2 [(1, .ref q9), (0, .ref z0)] := hl
      refine lv_iconst (v := (-1)) hx hb dL_undo_6 (by decide) ?_
      have h := Option.some.inj h
      subst h
      refine W.widen (k := 1) (n := 6) (Nat.le_of_ble_eq_true rfl) (Nat.le_of_ble_eq_true rfl) ?_
      exact hend (adr []) _ _ _ _ _ _ _ rfl rfl (rtn_i _) hP hD hS dL_undo_7
    · have h := ite_f c4 h
      exact nn h

noncomputable def SL_wringTowel (N : Nat) (f : Nat → Int32) (v1 : Int32) (v2 : Int32) (g : Nat → Int32) (x1 : Int32) : Option (Int32 × (Nat → Int32) × Int32 × Int32 × (Nat → Int32)) := bnd (SX5_wringTowel N f v1 v2 g x1) (fun o1 : Nat × Int32 × (Nat → Int32) × (Nat → Int32) × Int32 × Int32 => if o1.1 = 0 then (some ((o1.2.1, o1.2.2.1, o1.2.2.2.2.1, o1.2.2.2.2.2, o1.2.2.2.1))) else (if o1.1 = 3 then (some (((-1), o1.2.2.1, o1.2.2.2.2.1, o1.2.2.2.2.2, o1.2.2.2.1))) else (none)))
abbrev RM_L_wringTowel : Room := { frames := 8, cells := 1, slots := 6, locals := 124 }
set_option maxHeartbeats 4000000 in
theorem kL_wringTowel (l : Launch) (hst : l.stackTraces = false) (D : va_G) (cA : Nat → ClassId) (G : eG) (z0 a0 b0 h0 s0 l0 e0 k0 a1 a2 h1 h2 : Nat) (N : Nat) (u7 : Int32) (u8 : Int32) (u9 : Int32) (f : Nat → Int32) (v1 : Int32) (v2 : Int32) (g : Nat → Int32) (x1 : Int32) {r : Int32 × (Nat → Int32) × Int32 × Int32 × (Nat → Int32)} (hr : SL_wringTowel N f v1 v2 g x1 = some r) {sz : Nat} : Met l yL_wringTowel wsL_wringTowel RM_L_wringTowel (va_Pc [.ref z0, .int x1] (gqLB G D cA [(z0, .inr (9, [.ref a0, .ref b0, .ref h0, .ref s0, .ref l0, .ref e0, .ref k0, .int u7, .int u8, .int u9])), (a0, .inr (8, [.ref a1])), (a1, .inr (6, [.ref a2])), (a2, .inl (cA 0, 61, .inl f)), (h0, .inr (5, [.ref h1, .int v1, .int v2])), (h1, .inr (6, [.ref h2])), (h2, .inl (cA 0, 488, .inl g))] sz)) (gqQ D (fun as => (some (.int r.1))) (fun as => [(z0, .inr (9, [.ref a0, .ref b0, .ref h0, .ref s0, .ref l0, .ref e0, .ref k0, .int u7, .int u8, .int u9])), (a0, .inr (8, [.ref a1])), (a1, .inr (6, [.ref a2])), (a2, .inl (cA 0, 61, .inl r.2.1)), (h0, .inr (5, [.ref h1, .int r.2.2.1, .int r.2.2.2.1])), (h1, .inr (6, [.ref h2])), (h2, .inl (cA 0, 488, .inl r.2.2.2.2))]) (va_A [(z0, .inr (9, [.ref a0, .ref b0, .ref h0, .ref s0, .ref l0, .ref e0, .ref k0, .int u7, .int u8, .int u9])), (a0, .inr (8, [.ref a1])), (a1, .inr (6, [.ref a2])), (a2, .inl (cA 0, 61, .inl f)), (h0, .inr (5, [.ref h1, .int v1, .int v2])), (h1, .inr (6, [.ref h2])), (h2, .inl (cA 0, 488, .inl g))] sz)) 1 6 (va_A [(z0, .inr (9, [.ref a0, .ref b0, .ref h0, .ref s0, .ref l0, .ref e0, .ref k0, .int u7, .int u8, .int u9])), (a0, .inr (8, [.ref a1])), (a1, .inr (6, [.ref a2])), (a2, .inl (cA 0, 61, .inl f)), (h0, .inr (5, [.ref h1, .int v1, .int v2])), (h1, .inr (6, [.ref h2])), (h2, .inl (cA 0, 488, .inl g))] sz) := by
  refine gqL_ofW (hh := [(0, 5, 6, 28)]) (cc := cL_wringTowel) (maxL := 3) (ret := (some .int)) (by decide) rfl (Nat.le_of_ble_eq_true rfl) (fun p e s m args below meth c ls Q A hx hb hml hT9 hts hfc hK hP hD hS hA hEV hL9 hl hend => ?_)
  have hfc : s.vm.findClass RL = some m.cls := hfc
  have hl : lv_has ls 3 [(0, .ref z0), (1, .int x1)] := hl
  have h := hr
  clear hr
  unfold SL_wringTowel at h
  refine lv_aload_n hx hb dL_wringTowel_0 rfl (lv_at hl 0 rfl) ?_
  refine lv_iload_n hx hb dL_wringTowel_1 rfl (lv_at hl 1 rfl) ?_
  obtain ⟨o1, ho1, h⟩ := bnd_i h
  refine xq_V (G := G) (v := (fun as => (some (.int o1.2.1)))) (As := [.int x1]) (rest := []) (wc := [(z0, .inr (9, [.ref a0, .ref b0, .ref h0, .ref s0, .ref l0, .ref e0, .ref k0, .int u7, .int u8, .int u9])), (a0, .inr (8, [.ref a1])), (a1, .inr (6, [.ref a2])), (a2, .inl (cA 0, 61, .inl f)), (h0, .inr (5, [.ref h1, .int v1, .int v2])), (h1, .inr (6, [.ref h2])), (h2, .inl (cA 0, 488, .inl g))]) (wr := []) (w1 := (fun as => [(z0, .inr (9, [.ref a0, .ref b0, .ref h0, .ref s0, .ref l0, .ref e0, .ref k0, .int u7, .int u8, .int u9])), (a0, .inr (8, [.ref a1])), (a1, .inr (6, [.ref a2])), (a2, .inl (cA 0, 61, .inl o1.2.2.1)), (h0, .inr (5, [.ref h1, .int o1.2.2.2.2.1, .int o1.2.2.2.2.2])), (h1, .inr (6, [.ref h2])), (h2, .inl (cA 0, 488, .inl o1.2.2.2.1))])) (ws2 := (fun as => [(z0, .inr (9, [.ref a0, .ref b0, .ref h0, .ref s0, .ref l0, .ref e0, .ref k0, .int u7, .int u8, .int u9])), (a0, .inr (8, [.ref a1])), (a1, .inr (6, [.ref a2])), (a2, .inl (cA 0, 61, .inl o1.2.2.1)), (h0, .inr (5, [.ref h1, .int o1.2.2.2.2.1, .int o1.2.2.2.2.2])), (h1, .inr (6, [.ref h2])), (h2, .inl (cA 0, 488, .inl o1.2.2.2.1))])) (st1 := (fun as => [.int o1.2.1])) ⟨hx, hb, hml, hfc, hts⟩ hK hP hD hS hA hEV (kX5_wringTowel l hst D cA G z0 a0 b0 h0 s0 l0 e0 k0 a1 a2 h1 h2 N u7 u8 u9 f v1 v2 g x1 ho1) (cwV 1 hts gL_wringTowel_X5_wringTowel rfl rfl rfl (by decide +kernel) ⟨(Nat.le_of_ble_eq_true rfl), (Nat.le_of_ble_eq_true rfl)⟩) [0, 1, 2, 3, 4, 5, 6] [] [0, 1, 2, 3, 4, 5, 6] rfl rfl rfl rfl (by decide) (fun _ => rfl) rfl 0 9 rfl rfl rfl rfl (fun _ => rfl) rfl hl.1 (Nat.le_of_ble_eq_true rfl) dL_wringTowel_2 ⟨(Nat.le_of_ble_eq_true rfl), (Nat.le_of_ble_eq_true rfl)⟩ (fun c3 as2 H locs hP hD hS => ?_) (fun c3 as2 H locs q9 ce hP hD hS z1 z2 z3 => ?_)
  · have h := ite_t c3 h
    have hP : va_P D vwCl [(z0, .inr (9, [.ref a0, .ref b0, .ref h0, .ref s0, .ref l0, .ref e0, .ref k0, .int u7, .int u8, .int u9])), (a0, .inr (8, [.ref a1])), (a1, .inr (6, [.ref a2])), (a2, .inl (cA 0, 61, .inl o1.2.2.1)), (h0, .inr (5, [.ref h1, .int o1.2.2.2.2.1, .int o1.2.2.2.2.2])), (h1, .inr (6, [.ref h2])), (h2, .inl (cA 0, 488, .inl o1.2.2.2.1))] H := hP
    have hD : va_D A [(z0, .inr (9, [.ref a0, .ref b0, .ref h0, .ref s0, .ref l0, .ref e0, .ref k0, .int u7, .int u8, .int u9])), (a0, .inr (8, [.ref a1])), (a1, .inr (6, [.ref a2])), (a2, .inl (cA 0, 61, .inl o1.2.2.1)), (h0, .inr (5, [.ref h1, .int o1.2.2.2.2.1, .int o1.2.2.2.2.2])), (h1, .inr (6, [.ref h2])), (h2, .inl (cA 0, 488, .inl o1.2.2.2.1))] := hD
    refine W.cs (cells' := 1) (slots' := 6) rfl rfl ?_
    have h := Option.some.inj h
    subst h
    refine W.widen (k := 1) (n := 6) (Nat.le_of_ble_eq_true rfl) (Nat.le_of_ble_eq_true rfl) ?_
    exact hend (adr []) _ _ _ _ _ _ _ rfl rfl (rtn_i _) hP hD hS dL_wringTowel_5
  · have h := ite_f c3 h
    have hP : va_P D vwCl [(z0, .inr (9, [.ref a0, .ref b0, .ref h0, .ref s0, .ref l0, .ref e0, .ref k0, .int u7, .int u8, .int u9])), (a0, .inr (8, [.ref a1])), (a1, .inr (6, [.ref a2])), (a2, .inl (cA 0, 61, .inl o1.2.2.1)), (h0, .inr (5, [.ref h1, .int o1.2.2.2.2.1, .int o1.2.2.2.2.2])), (h1, .inr (6, [.ref h2])), (h2, .inl (cA 0, 488, .inl o1.2.2.2.1))] H := hP
    have hD : va_D A [(z0, .inr (9, [.ref a0, .ref b0, .ref h0, .ref s0, .ref l0, .ref e0, .ref k0, .int u7, .int u8, .int u9])), (a0, .inr (8, [.ref a1])), (a1, .inr (6, [.ref a2])), (a2, .inl (cA 0, 61, .inl o1.2.2.1)), (h0, .inr (5, [.ref h1, .int o1.2.2.2.2.1, .int o1.2.2.2.2.2])), (h1, .inr (6, [.ref h2])), (h2, .inl (cA 0, 488, .inl o1.2.2.2.1))] := hD
    by_cases c4 : o1.1 = 3
    · have h := ite_t c4 h
      have z4 : s.vm.findClass "java/lang/IndexOutOfBoundsException" = some ce.cls := by rw [c4] at z3; exact z3
      refine vx_catch (own := RL) (name := "java/lang/IndexOutOfBoundsException") (E := "java/lang/IndexOutOfBoundsException") hfc [] ⟨0, 5, 6, 28⟩ [] hT9 (fun z hz => absurd hz List.not_mem_nil) rfl (by decide) (hL9.link (List.mem_of_getElem? (i := 2) rfl)) ((hEV.1.2.2.2.2 "java/lang/IndexOutOfBoundsException" (by decide +kernel)).use rfl) z1 z2 z4 ?_
      refine W.cs (cells' := 1) (slots' := 6) rfl rfl ?_
      refine lv_astore_n hx hb dL_wringTowel_6 rfl hl (Nat.le_of_ble_eq_true rfl) rfl (fun ls hl => ?_)
      have hl : lv_has ls 3 [(2, .ref q9), (0, .ref z0), (1, .int x1)] := hl
      refine lv_iconst (v := (-1)) hx hb dL_wringTowel_7 (by decide) ?_
      have h := Option.some.inj h
      subst h
      refine W.widen (k := 1) (n := 6) (Nat.le_of_ble_eq_true rfl) (Nat.le_of_ble_eq_true rfl) ?_
      exact hend (adr []) _ _ _ _ _ _ _ rfl rfl (rtn_i _) hP hD hS dL_wringTowel_8
    · have h := ite_f c4 h
      exact nn h

noncomputable def SL_writeMoon (N : Nat) (f : Nat → Int32) (n : Nat) (lf : Nat → Int32) (ml : Int32) (c0 : Int32) (x1 : Int32) : Option (Int32 × Int32 × Int32 × (Nat → Int32) × Nat) := bnd (SX5_writeMoon N f n lf ml c0 x1) (fun o1 : Nat × Int32 × Int32 × Int32 × (Nat → Int32) × Nat => if o1.1 = 0 then (some ((o1.2.1, o1.2.2.1, o1.2.2.2.1, o1.2.2.2.2.1, o1.2.2.2.2.2))) else (if o1.1 = 3 then (some (((-11), o1.2.2.1, o1.2.2.2.1, o1.2.2.2.2.1, o1.2.2.2.2.2))) else (none)))
abbrev RM_L_writeMoon : Room := { frames := 8, cells := 7, slots := 1014, locals := 173 }
set_option maxHeartbeats 4000000 in
theorem kL_writeMoon (l : Launch) (hst : l.stackTraces = false) (D : va_G) (cA : Nat → ClassId) (G : eG) (z0 a0 b0 h0 s0 l0 e0 k0 a1 a2 l1 : Nat) (N : Nat) (u7 : Int32) (u8 : Int32) (u9 : Int32) (f : Nat → Int32) (n : Nat) (lf : Nat → Int32) (ml : Int32) (c0 : Int32) (x1 : Int32) {r : Int32 × Int32 × Int32 × (Nat → Int32) × Nat} (hr : SL_writeMoon N f n lf ml c0 x1 = some r) {sz : Nat} : Met l yL_writeMoon wsL_writeMoon RM_L_writeMoon (va_Pc [.ref z0, .int x1] (gqLB G D cA [(z0, .inr (9, [.ref a0, .ref b0, .ref h0, .ref s0, .ref l0, .ref e0, .ref k0, .int u7, .int u8, .int u9])), (a0, .inr (8, [.ref a1])), (a1, .inr (6, [.ref a2])), (a2, .inl (cA 0, 61, .inl f)), (l0, .inr (1, [.ref l1, .int 0, .int ml, .int c0])), (l1, .inl (cA 1, n, .inl lf))] sz)) (gqQ D (fun as => (some (.int r.1))) (fun as => [(z0, .inr (9, [.ref a0, .ref b0, .ref h0, .ref s0, .ref l0, .ref e0, .ref k0, .int u7, .int u8, .int u9])), (a0, .inr (8, [.ref a1])), (a1, .inr (6, [.ref a2])), (a2, .inl (cA 0, 61, .inl f)), (l0, .inr (1, [.ref (as 0), .int 0, .int r.2.1, .int r.2.2.1])), ((as 0), .inl (cA 1, r.2.2.2.2, .inl r.2.2.2.1))]) (va_A [(z0, .inr (9, [.ref a0, .ref b0, .ref h0, .ref s0, .ref l0, .ref e0, .ref k0, .int u7, .int u8, .int u9])), (a0, .inr (8, [.ref a1])), (a1, .inr (6, [.ref a2])), (a2, .inl (cA 0, 61, .inl f)), (l0, .inr (1, [.ref l1, .int 0, .int ml, .int c0])), (l1, .inl (cA 1, n, .inl lf))] sz)) 7 1014 (va_A [(z0, .inr (9, [.ref a0, .ref b0, .ref h0, .ref s0, .ref l0, .ref e0, .ref k0, .int u7, .int u8, .int u9])), (a0, .inr (8, [.ref a1])), (a1, .inr (6, [.ref a2])), (a2, .inl (cA 0, 61, .inl f)), (l0, .inr (1, [.ref l1, .int 0, .int ml, .int c0])), (l1, .inl (cA 1, n, .inl lf))] sz) := by
  refine gqL_ofW (hh := [(0, 5, 6, 28)]) (cc := cL_writeMoon) (maxL := 3) (ret := (some .int)) (by decide) rfl (Nat.le_of_ble_eq_true rfl) (fun p e s m args below meth c ls Q A hx hb hml hT9 hts hfc hK hP hD hS hA hEV hL9 hl hend => ?_)
  have hfc : s.vm.findClass RL = some m.cls := hfc
  have hl : lv_has ls 3 [(0, .ref z0), (1, .int x1)] := hl
  have h := hr
  clear hr
  unfold SL_writeMoon at h
  refine lv_aload_n hx hb dL_writeMoon_0 rfl (lv_at hl 0 rfl) ?_
  refine lv_iload_n hx hb dL_writeMoon_1 rfl (lv_at hl 1 rfl) ?_
  obtain ⟨o1, ho1, h⟩ := bnd_i h
  refine xq_V (G := G) (v := (fun as => (some (.int o1.2.1)))) (As := [.int x1]) (rest := []) (wc := [(z0, .inr (9, [.ref a0, .ref b0, .ref h0, .ref s0, .ref l0, .ref e0, .ref k0, .int u7, .int u8, .int u9])), (a0, .inr (8, [.ref a1])), (a1, .inr (6, [.ref a2])), (a2, .inl (cA 0, 61, .inl f)), (l0, .inr (1, [.ref l1, .int 0, .int ml, .int c0])), (l1, .inl (cA 1, n, .inl lf))]) (wr := []) (w1 := (fun as => [(z0, .inr (9, [.ref a0, .ref b0, .ref h0, .ref s0, .ref l0, .ref e0, .ref k0, .int u7, .int u8, .int u9])), (a0, .inr (8, [.ref a1])), (a1, .inr (6, [.ref a2])), (a2, .inl (cA 0, 61, .inl f)), (l0, .inr (1, [.ref (as 0), .int 0, .int o1.2.2.1, .int o1.2.2.2.1])), ((as 0), .inl (cA 1, o1.2.2.2.2.2, .inl o1.2.2.2.2.1))])) (ws2 := (fun as => [(z0, .inr (9, [.ref a0, .ref b0, .ref h0, .ref s0, .ref l0, .ref e0, .ref k0, .int u7, .int u8, .int u9])), (a0, .inr (8, [.ref a1])), (a1, .inr (6, [.ref a2])), (a2, .inl (cA 0, 61, .inl f)), (l0, .inr (1, [.ref (as 0), .int 0, .int o1.2.2.1, .int o1.2.2.2.1])), ((as 0), .inl (cA 1, o1.2.2.2.2.2, .inl o1.2.2.2.2.1))])) (st1 := (fun as => [.int o1.2.1])) ⟨hx, hb, hml, hfc, hts⟩ hK hP hD hS hA hEV (kX5_writeMoon l hst D cA G z0 a0 b0 h0 s0 l0 e0 k0 a1 a2 l1 N u7 u8 u9 f n lf ml c0 x1 ho1) (cwV 1 hts gL_writeMoon_X5_writeMoon rfl rfl rfl (by decide +kernel) ⟨(Nat.le_of_ble_eq_true rfl), (Nat.le_of_ble_eq_true rfl)⟩) [0, 1, 2, 3, 4, 5] [] [0, 1, 2, 3, 4, 5] rfl rfl rfl rfl (by decide) (fun _ => rfl) rfl 0 9 rfl rfl rfl rfl (fun _ => rfl) rfl hl.1 (Nat.le_of_ble_eq_true rfl) dL_writeMoon_2 ⟨(Nat.le_of_ble_eq_true rfl), (Nat.le_of_ble_eq_true rfl)⟩ (fun c3 as2 H locs hP hD hS => ?_) (fun c3 as2 H locs q9 ce hP hD hS z1 z2 z3 => ?_)
  · have h := ite_t c3 h
    have hP : va_P D vwCl [(z0, .inr (9, [.ref a0, .ref b0, .ref h0, .ref s0, .ref l0, .ref e0, .ref k0, .int u7, .int u8, .int u9])), (a0, .inr (8, [.ref a1])), (a1, .inr (6, [.ref a2])), (a2, .inl (cA 0, 61, .inl f)), (l0, .inr (1, [.ref (as2 0), .int 0, .int o1.2.2.1, .int o1.2.2.2.1])), ((as2 0), .inl (cA 1, o1.2.2.2.2.2, .inl o1.2.2.2.2.1))] H := hP
    have hD : va_D A [(z0, .inr (9, [.ref a0, .ref b0, .ref h0, .ref s0, .ref l0, .ref e0, .ref k0, .int u7, .int u8, .int u9])), (a0, .inr (8, [.ref a1])), (a1, .inr (6, [.ref a2])), (a2, .inl (cA 0, 61, .inl f)), (l0, .inr (1, [.ref (as2 0), .int 0, .int o1.2.2.1, .int o1.2.2.2.1])), ((as2 0), .inl (cA 1, o1.2.2.2.2.2, .inl o1.2.2.2.2.1))] := hD
    refine W.cs (cells' := 7) (slots' := 1014) rfl rfl ?_
    have h := Option.some.inj h
    subst h
    refine W.widen (k := 7) (n := 1014) (Nat.le_of_ble_eq_true rfl) (Nat.le_of_ble_eq_true rfl) ?_
    exact hend (adr [(as2 0)]) _ _ _ _ _ _ _ rfl rfl (rtn_i _) hP hD hS dL_writeMoon_5
  · have h := ite_f c3 h
    have hP : va_P D vwCl [(z0, .inr (9, [.ref a0, .ref b0, .ref h0, .ref s0, .ref l0, .ref e0, .ref k0, .int u7, .int u8, .int u9])), (a0, .inr (8, [.ref a1])), (a1, .inr (6, [.ref a2])), (a2, .inl (cA 0, 61, .inl f)), (l0, .inr (1, [.ref (as2 0), .int 0, .int o1.2.2.1, .int o1.2.2.2.1])), ((as2 0), .inl (cA 1, o1.2.2.2.2.2, .inl o1.2.2.2.2.1))] H := hP
    have hD : va_D A [(z0, .inr (9, [.ref a0, .ref b0, .ref h0, .ref s0, .ref l0, .ref e0, .ref k0, .int u7, .int u8, .int u9])), (a0, .inr (8, [.ref a1])), (a1, .inr (6, [.ref a2])), (a2, .inl (cA 0, 61, .inl f)), (l0, .inr (1, [.ref (as2 0), .int 0, .int o1.2.2.1, .int o1.2.2.2.1])), ((as2 0), .inl (cA 1, o1.2.2.2.2.2, .inl o1.2.2.2.2.1))] := hD
    by_cases c4 : o1.1 = 3
    · have h := ite_t c4 h
      have z4 : s.vm.findClass "java/lang/IndexOutOfBoundsException" = some ce.cls := by rw [c4] at z3; exact z3
      refine vx_catch (own := RL) (name := "java/lang/IndexOutOfBoundsException") (E := "java/lang/IndexOutOfBoundsException") hfc [] ⟨0, 5, 6, 28⟩ [] hT9 (fun z hz => absurd hz List.not_mem_nil) rfl (by decide) (hL9.link (List.mem_of_getElem? (i := 2) rfl)) ((hEV.1.2.2.2.2 "java/lang/IndexOutOfBoundsException" (by decide +kernel)).use rfl) z1 z2 z4 ?_
      refine W.cs (cells' := 7) (slots' := 1014) rfl rfl ?_
      refine lv_astore_n hx hb dL_writeMoon_6 rfl hl (Nat.le_of_ble_eq_true rfl) rfl (fun ls hl => ?_)
      have hl : lv_has ls 3 [(2, .ref q9), (0, .ref z0), (1, .int x1)] := hl
      refine lv_bipush (v := (-11)) hx hb dL_writeMoon_7 (by decide) ?_
      have h := Option.some.inj h
      subst h
      refine W.widen (k := 7) (n := 1014) (Nat.le_of_ble_eq_true rfl) (Nat.le_of_ble_eq_true rfl) ?_
      exact hend (adr [(as2 0)]) _ _ _ _ _ _ _ rfl rfl (rtn_i _) hP hD hS dL_writeMoon_9
    · have h := ite_f c4 h
      exact nn h
