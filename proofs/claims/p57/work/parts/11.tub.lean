noncomputable def SX2_at (n : Nat) (f : Nat → Int32) (x1 : Int32) : Int32 := if x1 < 0 then (0) else (if x1 < (nI n) then (f (Int32.toNatClampNeg x1)) else (0))
theorem iX2_at_X2 : ∀ w ∈ wsX20, w ∈ wsX2_at := fun _ h => List.mem_cons_of_mem _ (List.mem_append_left _ (List.mem_append_right _ h))
abbrev RM_X2_at : Room := { frames := 0, cells := 0, slots := 0, locals := 0 }
set_option maxHeartbeats 4000000 in
theorem kX2_at (l : Launch) (D : va_G) (cA : Nat → ClassId) (a0 a1 : Nat) (n : Nat) (f : Nat → Int32) (x1 : Int32) (hn : n < 2147483648) {r : Int32} (hr : SX2_at n f x1 = r) : Met l yX2_at wsX2_at RM_X2_at (va_Pc [.ref a0, .int x1] (rqB D cA [(a0, .inr (6, [.ref a1])), (a1, .inl (cA 0, n, .inl f))])) (rqQ (some (.int r))) 0 0 (fun _ => False) := by
  refine rq_ofW (cc := cX2_at) (maxL := 2) (ret := (some .int)) (by decide) rfl (Nat.le_of_ble_eq_true rfl) (fun p e s m args below meth c ls Q hx hb hml hts hfc hK hP hl hend => ?_)
  have hfc : s.vm.findClass RX2 = some m.cls := hfc
  have hl : lv_has ls 2 [(0, .ref a0), (1, .int x1)] := hl
  have h := hr
  clear hr
  unfold SX2_at at h
  refine lv_iload_n hx hb dX2_at_0 rfl (lv_at hl 1 rfl) ?_
  refine lv_if_lt (tgt := 13) hx hb dX2_at_1 (by decide) (fun c1 => ?_) (fun c1 => ?_)
  · have h := ite_t c1 h
    refine lv_iconst (v := 0) hx hb dX2_at_13 (by decide) ?_
    refine lv_goto (tgt := 23) hx hb dX2_at_14 (by decide) ?_
    subst h
    exact hend _ _ _ _ rfl (rtn_i _) dX2_at_23
  · have h := ite_f c1 h
    refine lv_iload_n hx hb dX2_at_4 rfl (lv_at hl 1 rfl) ?_
    refine lv_aload_n hx hb dX2_at_5 rfl (lv_at hl 0 rfl) ?_
    refine va_get (D := D) (ci := 6) (v := .ref a1) (C := RX2) (T := TX2) (N := 1) hx hb hts iX2_at_X2 hfc hK hP 0 rfl rfl 0 (by decide) (hts (.fieldLink RX2 7 "BathtubTides$Row" "numbers" "[I") (List.mem_of_getElem? (i := 1) rfl)) (fun _ h9 => h9) rfl dX2_at_6 ?_
    refine va_alen (v := nI n) hx hb hK hP 1 0 rfl rfl rfl dX2_at_9 ?_
    refine lv_icmp_lt (tgt := 17) hx hb dX2_at_10 (by decide) (fun c2 => ?_) (fun c2 => ?_)
    · have h := ite_t c2 h
      refine lv_aload_n hx hb dX2_at_17 rfl (lv_at hl 0 rfl) ?_
      refine va_get (D := D) (ci := 6) (v := .ref a1) (C := RX2) (T := TX2) (N := 1) hx hb hts iX2_at_X2 hfc hK hP 0 rfl rfl 0 (by decide) (hts (.fieldLink RX2 7 "BathtubTides$Row" "numbers" "[I") (List.mem_of_getElem? (i := 1) rfl)) (fun _ h9 => h9) rfl dX2_at_18 ?_
      refine lv_iload_n hx hb dX2_at_21 rfl (lv_at hl 1 rfl) ?_
      refine va_iald hx hb hK hP 1 0 rfl rfl (vin_a c1 c2 hn) dX2_at_22 ?_
      subst h
      exact hend _ _ _ _ rfl (rtn_i _) dX2_at_23
    · have h := ite_f c2 h
      refine lv_iconst (v := 0) hx hb dX2_at_13 (by decide) ?_
      refine lv_goto (tgt := 23) hx hb dX2_at_14 (by decide) ?_
      subst h
      exact hend _ _ _ _ rfl (rtn_i _) dX2_at_23
noncomputable def SX2_put (n : Nat) (f : Nat → Int32) (x1 : Int32) (x2 : Int32) : Nat → Int32 := if x1 < 0 then (f) else (if (nI n) ≤ x1 then (f) else (upd f (Int32.toNatClampNeg x1) x2))
theorem iX2_put_X2 : ∀ w ∈ wsX20, w ∈ wsX2_put := fun _ h => List.mem_cons_of_mem _ (List.mem_append_left _ (List.mem_append_right _ h))
abbrev RM_X2_put : Room := { frames := 0, cells := 0, slots := 0, locals := 0 }
set_option maxHeartbeats 4000000 in
theorem kX2_put (l : Launch) (D : va_G) (cA : Nat → ClassId) (a0 a1 : Nat) (n : Nat) (f : Nat → Int32) (x1 : Int32) (x2 : Int32) (hn : n < 2147483648) {r : Nat → Int32} (hr : SX2_put n f x1 x2 = r) {sz : Nat} : Met l yX2_put wsX2_put RM_X2_put (va_Pc [.ref a0, .int x1, .int x2] (gqB D cA [(a0, .inr (6, [.ref a1])), (a1, .inl (cA 0, n, .inl f))] sz)) (gqQ D (fun as => none) (fun as => [(a0, .inr (6, [.ref a1])), (a1, .inl (cA 0, n, .inl r))]) (va_A [(a0, .inr (6, [.ref a1])), (a1, .inl (cA 0, n, .inl f))] sz)) 0 0 (va_A [(a0, .inr (6, [.ref a1])), (a1, .inl (cA 0, n, .inl f))] sz) := by
  refine gq_ofW (cc := cX2_put) (maxL := 3) (ret := none) (by decide) rfl (Nat.le_of_ble_eq_true rfl) (fun p e s m args below meth c ls Q A hx hb hml hts hfc hmn hK hP hD hS hA hl hend => ?_)
  have hfc : s.vm.findClass RX2 = some m.cls := hfc
  have hl : lv_has ls 3 [(0, .ref a0), (1, .int x1), (2, .int x2)] := hl
  have h := hr
  clear hr
  unfold SX2_put at h
  refine lv_iload_n hx hb dX2_put_0 rfl (lv_at hl 1 rfl) ?_
  refine lv_if_lt (tgt := 20) hx hb dX2_put_1 (by decide) (fun c1 => ?_) (fun c1 => ?_)
  · have h := ite_t c1 h
    subst h
    exact hend (adr []) _ _ _ _ _ _ _ rfl rfl (rtn_v) hP hD hS dX2_put_20
  · have h := ite_f c1 h
    refine lv_iload_n hx hb dX2_put_4 rfl (lv_at hl 1 rfl) ?_
    refine lv_aload_n hx hb dX2_put_5 rfl (lv_at hl 0 rfl) ?_
    refine va_get (D := D) (ci := 6) (v := .ref a1) (C := RX2) (T := TX2) (N := 1) hx hb hts iX2_put_X2 hfc hK hP 0 rfl rfl 0 (by decide) (hts (.fieldLink RX2 7 "BathtubTides$Row" "numbers" "[I") (List.mem_of_getElem? (i := 1) rfl)) (fun _ h9 => h9) rfl dX2_put_6 ?_
    refine va_alen (v := nI n) hx hb hK hP 1 0 rfl rfl rfl dX2_put_9 ?_
    refine lv_icmp_ge (tgt := 20) hx hb dX2_put_10 (by decide) (fun c2 => ?_) (fun c2 => ?_)
    · have h := ite_t c2 h
      subst h
      exact hend (adr []) _ _ _ _ _ _ _ rfl rfl (rtn_v) hP hD hS dX2_put_20
    · have h := ite_f c2 h
      refine lv_aload_n hx hb dX2_put_13 rfl (lv_at hl 0 rfl) ?_
      refine va_get (D := D) (ci := 6) (v := .ref a1) (C := RX2) (T := TX2) (N := 1) hx hb hts iX2_put_X2 hfc hK hP 0 rfl rfl 0 (by decide) (hts (.fieldLink RX2 7 "BathtubTides$Row" "numbers" "[I") (List.mem_of_getElem? (i := 1) rfl)) (fun _ h9 => h9) rfl dX2_put_14 ?_
      refine lv_iload_n hx hb dX2_put_17 rfl (lv_at hl 1 rfl) ?_
      refine lv_iload_n hx hb dX2_put_18 rfl (lv_at hl 2 rfl) ?_
      refine va_iast hx hb hK hP hD hS 1 0 rfl rfl (vin_b c1 c2 hn) dX2_put_19 (fun H locs hP hD hS => ?_)
      have hP : va_P D vwCl [(a0, .inr (6, [.ref a1])), (a1, .inl (cA 0, n, .inl (upd f (Int32.toNatClampNeg x1) x2)))] H := hP
      have hD : va_D A [(a0, .inr (6, [.ref a1])), (a1, .inl (cA 0, n, .inl (upd f (Int32.toNatClampNeg x1) x2)))] := hD
      subst h
      exact hend (adr []) _ _ _ _ _ _ _ rfl rfl (rtn_v) hP hD hS dX2_put_20
noncomputable def SX2_add (n : Nat) (f : Nat → Int32) (x1 : Int32) (x2 : Int32) : Nat → Int32 := lt_ (SX2_put n f x1 ((SX2_at n f x1) + x2)) (fun o1 : Nat → Int32 => o1)
abbrev RM_X2_add : Room := { frames := 1, cells := 0, slots := 0, locals := 23 }
set_option maxHeartbeats 4000000 in
theorem kX2_add (l : Launch) (D : va_G) (cA : Nat → ClassId) (a0 a1 : Nat) (n : Nat) (f : Nat → Int32) (x1 : Int32) (x2 : Int32) (hn : n < 2147483648) {r : Nat → Int32} (hr : SX2_add n f x1 x2 = r) {sz : Nat} : Met l yX2_add wsX2_add RM_X2_add (va_Pc [.ref a0, .int x1, .int x2] (gqB D cA [(a0, .inr (6, [.ref a1])), (a1, .inl (cA 0, n, .inl f))] sz)) (gqQ D (fun as => none) (fun as => [(a0, .inr (6, [.ref a1])), (a1, .inl (cA 0, n, .inl r))]) (va_A [(a0, .inr (6, [.ref a1])), (a1, .inl (cA 0, n, .inl f))] sz)) 0 0 (va_A [(a0, .inr (6, [.ref a1])), (a1, .inl (cA 0, n, .inl f))] sz) := by
  refine gq_ofW (cc := cX2_add) (maxL := 3) (ret := none) (by decide) rfl (Nat.le_of_ble_eq_true rfl) (fun p e s m args below meth c ls Q A hx hb hml hts hfc hmn hK hP hD hS hA hl hend => ?_)
  have hfc : s.vm.findClass RX2 = some m.cls := hfc
  have hl : lv_has ls 3 [(0, .ref a0), (1, .int x1), (2, .int x2)] := hl
  have h := hr
  clear hr
  unfold SX2_add at h
  refine lv_aload_n hx hb dX2_add_0 rfl (lv_at hl 0 rfl) ?_
  refine lv_iload_n hx hb dX2_add_1 rfl (lv_at hl 1 rfl) ?_
  refine lv_aload_n hx hb dX2_add_2 rfl (lv_at hl 0 rfl) ?_
  refine lv_iload_n hx hb dX2_add_3 rfl (lv_at hl 1 rfl) ?_
  refine rq_V (v := (some (.int (SX2_at n f x1)))) (As := [.int x1]) (rest := [.int x1, .ref a0]) (wc := [(a0, .inr (6, [.ref a1])), (a1, .inl (cA 0, n, .inl f))]) ⟨hx, hb, hml, hfc, hts⟩ hK hP (kX2_at l D cA a0 a1 n f x1 hn rfl) (cwV 1 hts gX2_add_X2_at rfl rfl rfl (by decide +kernel) ⟨(Nat.le_of_ble_eq_true rfl), (Nat.le_of_ble_eq_true rfl)⟩) [0, 1] rfl 0 6 rfl rfl rfl rfl rfl rfl hl.1 (Nat.le_of_ble_eq_true rfl) dX2_add_4 ⟨(Nat.zero_le _), (Nat.zero_le _)⟩ ?_
  refine lv_iload_n hx hb dX2_add_7 rfl (lv_at hl 2 rfl) ?_
  refine lv_iadd hx hb dX2_add_8 ?_
  obtain ⟨o1, ho1, h⟩ := lt_i h
  refine gq_V (v := (fun as => none)) (As := [.int x1, .int ((SX2_at n f x1) + x2)]) (rest := []) (wc := [(a0, .inr (6, [.ref a1])), (a1, .inl (cA 0, n, .inl f))]) (wr := []) (w1 := (fun as => [(a0, .inr (6, [.ref a1])), (a1, .inl (cA 0, n, .inl o1))])) (ws2 := (fun as => [(a0, .inr (6, [.ref a1])), (a1, .inl (cA 0, n, .inl o1))])) (st1 := (fun as => [])) ⟨hx, hb, hml, hfc, hts⟩ hK hP hD hS hA (kX2_put l D cA a0 a1 n f x1 ((SX2_at n f x1) + x2) hn ho1) (cwV 2 hts gX2_add_X2_put rfl rfl rfl (by decide +kernel) ⟨(Nat.le_of_ble_eq_true rfl), (Nat.le_of_ble_eq_true rfl)⟩) [0, 1] [] [0, 1] rfl rfl rfl rfl (by decide) (fun _ => rfl) rfl 0 6 rfl rfl rfl rfl (fun _ => rfl) rfl hl.1 (Nat.le_of_ble_eq_true rfl) dX2_add_9 ⟨(Nat.zero_le _), (Nat.zero_le _)⟩ (fun as H locs hP hD hS => ?_)
  have hP : va_P D vwCl [(a0, .inr (6, [.ref a1])), (a1, .inl (cA 0, n, .inl o1))] H := hP
  have hD : va_D A [(a0, .inr (6, [.ref a1])), (a1, .inl (cA 0, n, .inl o1))] := hD
  subst h
  exact hend (adr []) _ _ _ _ _ _ _ rfl rfl (rtn_v) hP hD hS dX2_add_12
noncomputable def LX2_copy_3 (x4 : Int32) (n : Nat) (x3 : Int32) (k : Nat) (g : Nat → Int32) (x2 : Int32) : Nat → (Nat → Int32) → Int32 → Option (Nat → Int32)
  | 0, _, _ => none
  | fu + 1, f1_3, x5_3 => if x4 ≤ x5_3 then (some (f1_3)) else (lt_ (SX2_put n f1_3 (x3 + x5_3) (SX2_at k g (x2 + x5_3))) (fun o2 : Nat → Int32 => LX2_copy_3 x4 n x3 k g x2 fu o2 (x5_3 + 1)))
noncomputable def SX2_copy (N : Nat) (n : Nat) (f : Nat → Int32) (k : Nat) (g : Nat → Int32) (x2 : Int32) (x3 : Int32) (x4 : Int32) : Option (Nat → Int32) := LX2_copy_3 x4 n x3 k g x2 N f 0
abbrev RM_X2_copy : Room := { frames := 1, cells := 0, slots := 0, locals := 23 }
set_option maxHeartbeats 4000000 in
theorem kX2_copy (l : Launch) (D : va_G) (cA : Nat → ClassId) (a0 a1 a2 a3 : Nat) (N : Nat) (n : Nat) (f : Nat → Int32) (k : Nat) (g : Nat → Int32) (x2 : Int32) (x3 : Int32) (x4 : Int32) (hn : n < 2147483648) (hm : k < 2147483648) {r : Nat → Int32} (hr : SX2_copy N n f k g x2 x3 x4 = some r) {sz : Nat} : Met l yX2_copy wsX2_copy RM_X2_copy (va_Pc [.ref a0, .ref a2, .int x2, .int x3, .int x4] (gqB D cA [(a0, .inr (6, [.ref a1])), (a1, .inl (cA 0, n, .inl f)), (a2, .inr (6, [.ref a3])), (a3, .inl (cA 0, k, .inl g))] sz)) (gqQ D (fun as => none) (fun as => [(a0, .inr (6, [.ref a1])), (a1, .inl (cA 0, n, .inl r)), (a2, .inr (6, [.ref a3])), (a3, .inl (cA 0, k, .inl g))]) (va_A [(a0, .inr (6, [.ref a1])), (a1, .inl (cA 0, n, .inl f)), (a2, .inr (6, [.ref a3])), (a3, .inl (cA 0, k, .inl g))] sz)) 0 0 (va_A [(a0, .inr (6, [.ref a1])), (a1, .inl (cA 0, n, .inl f)), (a2, .inr (6, [.ref a3])), (a3, .inl (cA 0, k, .inl g))] sz) := by
  refine gq_ofW (cc := cX2_copy) (maxL := 6) (ret := none) (by decide) rfl (Nat.le_of_ble_eq_true rfl) (fun p e s m args below meth c ls Q A hx hb hml hts hfc hmn hK hP hD hS hA hl hend => ?_)
  have hfc : s.vm.findClass RX2 = some m.cls := hfc
  have hl : lv_has ls 6 [(0, .ref a0), (1, .ref a2), (2, .int x2), (3, .int x3), (4, .int x4)] := hl
  have h := hr
  clear hr
  unfold SX2_copy at h
  refine lv_iconst (v := 0) hx hb dX2_copy_0 (by decide) ?_
  refine lv_istore hx hb dX2_copy_1 hl (Nat.le_of_ble_eq_true rfl) rfl (fun ls hl => ?_)
  have hl : lv_has ls 6 [(5, .int 0), (0, .ref a0), (1, .ref a2), (2, .int x2), (3, .int x3), (4, .int x4)] := hl
  have hLX2_copy_3 : ∀ (fu : Nat) (f1_3 : Nat → Int32) (x5_3 : Int32) (ls : Array Slot) (H : Heap) (locs : List Loc), lv_has ls 6 [(0, .ref a0), (1, .ref a2), (2, .int x2), (3, .int x3), (4, .int x4), (5, .int x5_3)] → va_P D vwCl [(a0, .inr (6, [.ref a1])), (a1, .inl (cA 0, n, .inl f1_3)), (a2, .inr (6, [.ref a3])), (a3, .inl (cA 0, k, .inl g))] H → va_D A [(a0, .inr (6, [.ref a1])), (a1, .inl (cA 0, n, .inl f1_3)), (a2, .inr (6, [.ref a3])), (a3, .inl (cA 0, k, .inl g))] → va_S A s.heap H locs → LX2_copy_3 x4 n x3 k g x2 fu f1_3 x5_3 = some r → W p l e RM_X2_copy s m args below meth c H locs 0 0 Q (F0 m 3 ls []) := by
    intro fu
    induction fu with
    | zero =>
      intro f1_3 x5_3 ls H locs hl hP hD hS h
      rw [LX2_copy_3] at h
      exact nn h
    | succ fu ih =>
      intro f1_3 x5_3 ls H locs hl hP hD hS h
      rw [LX2_copy_3] at h
      refine lv_iload hx hb dX2_copy_3 (lv_at hl 5 rfl) ?_
      refine lv_iload hx hb dX2_copy_5 (lv_at hl 4 rfl) ?_
      refine lv_icmp_ge (tgt := 32) hx hb dX2_copy_7 (by decide) (fun c1 => ?_) (fun c1 => ?_)
      · have h := ite_t c1 h
        have h := Option.some.inj h
        subst h
        exact hend (adr []) _ _ _ _ _ _ _ rfl rfl (rtn_v) hP hD hS dX2_copy_32
      · have h := ite_f c1 h
        refine lv_aload_n hx hb dX2_copy_10 rfl (lv_at hl 0 rfl) ?_
        refine lv_iload_n hx hb dX2_copy_11 rfl (lv_at hl 3 rfl) ?_
        refine lv_iload hx hb dX2_copy_12 (lv_at hl 5 rfl) ?_
        refine lv_iadd hx hb dX2_copy_14 ?_
        refine lv_aload_n hx hb dX2_copy_15 rfl (lv_at hl 1 rfl) ?_
        refine lv_iload_n hx hb dX2_copy_16 rfl (lv_at hl 2 rfl) ?_
        refine lv_iload hx hb dX2_copy_17 (lv_at hl 5 rfl) ?_
        refine lv_iadd hx hb dX2_copy_19 ?_
        refine rq_V (v := (some (.int (SX2_at k g (x2 + x5_3))))) (As := [.int (x2 + x5_3)]) (rest := [.int (x3 + x5_3), .ref a0]) (wc := [(a2, .inr (6, [.ref a3])), (a3, .inl (cA 0, k, .inl g))]) ⟨hx, hb, hml, hfc, hts⟩ hK hP (kX2_at l D cA a2 a3 k g (x2 + x5_3) hm rfl) (cwV 1 hts gX2_copy_X2_at rfl rfl rfl (by decide +kernel) ⟨(Nat.le_of_ble_eq_true rfl), (Nat.le_of_ble_eq_true rfl)⟩) [2, 3] rfl 2 6 rfl rfl rfl rfl rfl rfl hl.1 (Nat.le_of_ble_eq_true rfl) dX2_copy_20 ⟨(Nat.zero_le _), (Nat.zero_le _)⟩ ?_
        obtain ⟨o2, ho2, h⟩ := lt_i h
        refine gq_V (v := (fun as => none)) (As := [.int (x3 + x5_3), .int (SX2_at k g (x2 + x5_3))]) (rest := []) (wc := [(a0, .inr (6, [.ref a1])), (a1, .inl (cA 0, n, .inl f1_3))]) (wr := [(a2, .inr (6, [.ref a3])), (a3, .inl (cA 0, k, .inl g))]) (w1 := (fun as => [(a0, .inr (6, [.ref a1])), (a1, .inl (cA 0, n, .inl o2))])) (ws2 := (fun as => [(a0, .inr (6, [.ref a1])), (a1, .inl (cA 0, n, .inl o2)), (a2, .inr (6, [.ref a3])), (a3, .inl (cA 0, k, .inl g))])) (st1 := (fun as => [])) ⟨hx, hb, hml, hfc, hts⟩ hK hP hD hS hA (kX2_put l D cA a0 a1 n f1_3 (x3 + x5_3) (SX2_at k g (x2 + x5_3)) hn ho2) (cwV 2 hts gX2_copy_X2_put rfl rfl rfl (by decide +kernel) ⟨(Nat.le_of_ble_eq_true rfl), (Nat.le_of_ble_eq_true rfl)⟩) [0, 1] [2, 3] [2, 3, 0, 1] rfl rfl rfl rfl (by decide) (fun _ => rfl) rfl 0 6 rfl rfl rfl rfl (fun _ => rfl) rfl hl.1 (Nat.le_of_ble_eq_true rfl) dX2_copy_23 ⟨(Nat.zero_le _), (Nat.zero_le _)⟩ (fun as H locs hP hD hS => ?_)
        have hP : va_P D vwCl [(a0, .inr (6, [.ref a1])), (a1, .inl (cA 0, n, .inl o2)), (a2, .inr (6, [.ref a3])), (a3, .inl (cA 0, k, .inl g))] H := hP
        have hD : va_D A [(a0, .inr (6, [.ref a1])), (a1, .inl (cA 0, n, .inl o2)), (a2, .inr (6, [.ref a3])), (a3, .inl (cA 0, k, .inl g))] := hD
        refine lv_iinc (k := 5) (v := x5_3 + 1) hx hb dX2_copy_26 hl rfl (congrArg (fun z => x5_3 + z) lit1) (Nat.le_of_ble_eq_true rfl) rfl (fun ls hl => ?_)
        have hl : lv_has ls 6 [(5, .int (x5_3 + 1)), (0, .ref a0), (1, .ref a2), (2, .int x2), (3, .int x3), (4, .int x4)] := hl
        refine lv_goto (tgt := 3) hx hb dX2_copy_29 (by decide) ?_
        exact ih o2 (x5_3 + 1) _ _ _ (lv_sub hl [1, 2, 3, 4, 5, 0] rfl) hP hD hS h
  exact hLX2_copy_3 N f 0 _ _ _ (lv_sub hl [1, 2, 3, 4, 5, 0] rfl) hP hD hS h
noncomputable def LX2_copy_own_3 (x4 : Int32) (n : Nat) (x3 : Int32) (x2 : Int32) : Nat → (Nat → Int32) → Int32 → Option (Nat → Int32)
  | 0, _, _ => none
  | fu + 1, f1_3, x5_3 => if x4 ≤ x5_3 then (some (f1_3)) else (lt_ (SX2_put n f1_3 (x3 + x5_3) (SX2_at n f1_3 (x2 + x5_3))) (fun o2 : Nat → Int32 => LX2_copy_own_3 x4 n x3 x2 fu o2 (x5_3 + 1)))
noncomputable def SX2_copy_own (N : Nat) (n : Nat) (f : Nat → Int32) (x2 : Int32) (x3 : Int32) (x4 : Int32) : Option (Nat → Int32) := LX2_copy_own_3 x4 n x3 x2 N f 0
abbrev RM_X2_copy_own : Room := { frames := 1, cells := 0, slots := 0, locals := 23 }
set_option maxHeartbeats 4000000 in
theorem kX2_copy_own (l : Launch) (D : va_G) (cA : Nat → ClassId) (a0 a1 : Nat) (N : Nat) (n : Nat) (f : Nat → Int32) (x2 : Int32) (x3 : Int32) (x4 : Int32) (hn : n < 2147483648) {r : Nat → Int32} (hr : SX2_copy_own N n f x2 x3 x4 = some r) {sz : Nat} : Met l yX2_copy wsX2_copy RM_X2_copy_own (va_Pc [.ref a0, .ref a0, .int x2, .int x3, .int x4] (gqB D cA [(a0, .inr (6, [.ref a1])), (a1, .inl (cA 0, n, .inl f))] sz)) (gqQ D (fun as => none) (fun as => [(a0, .inr (6, [.ref a1])), (a1, .inl (cA 0, n, .inl r))]) (va_A [(a0, .inr (6, [.ref a1])), (a1, .inl (cA 0, n, .inl f))] sz)) 0 0 (va_A [(a0, .inr (6, [.ref a1])), (a1, .inl (cA 0, n, .inl f))] sz) := by
  refine gq_ofW (cc := cX2_copy) (maxL := 6) (ret := none) (by decide) rfl (Nat.le_of_ble_eq_true rfl) (fun p e s m args below meth c ls Q A hx hb hml hts hfc hmn hK hP hD hS hA hl hend => ?_)
  have hfc : s.vm.findClass RX2 = some m.cls := hfc
  have hl : lv_has ls 6 [(0, .ref a0), (1, .ref a0), (2, .int x2), (3, .int x3), (4, .int x4)] := hl
  have h := hr
  clear hr
  unfold SX2_copy_own at h
  refine lv_iconst (v := 0) hx hb dX2_copy_0 (by decide) ?_
  refine lv_istore hx hb dX2_copy_1 hl (Nat.le_of_ble_eq_true rfl) rfl (fun ls hl => ?_)
  have hl : lv_has ls 6 [(5, .int 0), (0, .ref a0), (1, .ref a0), (2, .int x2), (3, .int x3), (4, .int x4)] := hl
  have hLX2_copy_own_3 : ∀ (fu : Nat) (f1_3 : Nat → Int32) (x5_3 : Int32) (ls : Array Slot) (H : Heap) (locs : List Loc), lv_has ls 6 [(0, .ref a0), (1, .ref a0), (2, .int x2), (3, .int x3), (4, .int x4), (5, .int x5_3)] → va_P D vwCl [(a0, .inr (6, [.ref a1])), (a1, .inl (cA 0, n, .inl f1_3))] H → va_D A [(a0, .inr (6, [.ref a1])), (a1, .inl (cA 0, n, .inl f1_3))] → va_S A s.heap H locs → LX2_copy_own_3 x4 n x3 x2 fu f1_3 x5_3 = some r → W p l e RM_X2_copy_own s m args below meth c H locs 0 0 Q (F0 m 3 ls []) := by
    intro fu
    induction fu with
    | zero =>
      intro f1_3 x5_3 ls H locs hl hP hD hS h
      rw [LX2_copy_own_3] at h
      exact nn h
    | succ fu ih =>
      intro f1_3 x5_3 ls H locs hl hP hD hS h
      rw [LX2_copy_own_3] at h
      refine lv_iload hx hb dX2_copy_3 (lv_at hl 5 rfl) ?_
      refine lv_iload hx hb dX2_copy_5 (lv_at hl 4 rfl) ?_
      refine lv_icmp_ge (tgt := 32) hx hb dX2_copy_7 (by decide) (fun c1 => ?_) (fun c1 => ?_)
      · have h := ite_t c1 h
        have h := Option.some.inj h
        subst h
        exact hend (adr []) _ _ _ _ _ _ _ rfl rfl (rtn_v) hP hD hS dX2_copy_32
      · have h := ite_f c1 h
        refine lv_aload_n hx hb dX2_copy_10 rfl (lv_at hl 0 rfl) ?_
        refine lv_iload_n hx hb dX2_copy_11 rfl (lv_at hl 3 rfl) ?_
        refine lv_iload hx hb dX2_copy_12 (lv_at hl 5 rfl) ?_
        refine lv_iadd hx hb dX2_copy_14 ?_
        refine lv_aload_n hx hb dX2_copy_15 rfl (lv_at hl 1 rfl) ?_
        refine lv_iload_n hx hb dX2_copy_16 rfl (lv_at hl 2 rfl) ?_
        refine lv_iload hx hb dX2_copy_17 (lv_at hl 5 rfl) ?_
        refine lv_iadd hx hb dX2_copy_19 ?_
        refine rq_V (v := (some (.int (SX2_at n f1_3 (x2 + x5_3))))) (As := [.int (x2 + x5_3)]) (rest := [.int (x3 + x5_3), .ref a0]) (wc := [(a0, .inr (6, [.ref a1])), (a1, .inl (cA 0, n, .inl f1_3))]) ⟨hx, hb, hml, hfc, hts⟩ hK hP (kX2_at l D cA a0 a1 n f1_3 (x2 + x5_3) hn rfl) (cwV 1 hts gX2_copy_X2_at rfl rfl rfl (by decide +kernel) ⟨(Nat.le_of_ble_eq_true rfl), (Nat.le_of_ble_eq_true rfl)⟩) [0, 1] rfl 0 6 rfl rfl rfl rfl rfl rfl hl.1 (Nat.le_of_ble_eq_true rfl) dX2_copy_20 ⟨(Nat.zero_le _), (Nat.zero_le _)⟩ ?_
        obtain ⟨o2, ho2, h⟩ := lt_i h
        refine gq_V (v := (fun as => none)) (As := [.int (x3 + x5_3), .int (SX2_at n f1_3 (x2 + x5_3))]) (rest := []) (wc := [(a0, .inr (6, [.ref a1])), (a1, .inl (cA 0, n, .inl f1_3))]) (wr := []) (w1 := (fun as => [(a0, .inr (6, [.ref a1])), (a1, .inl (cA 0, n, .inl o2))])) (ws2 := (fun as => [(a0, .inr (6, [.ref a1])), (a1, .inl (cA 0, n, .inl o2))])) (st1 := (fun as => [])) ⟨hx, hb, hml, hfc, hts⟩ hK hP hD hS hA (kX2_put l D cA a0 a1 n f1_3 (x3 + x5_3) (SX2_at n f1_3 (x2 + x5_3)) hn ho2) (cwV 2 hts gX2_copy_X2_put rfl rfl rfl (by decide +kernel) ⟨(Nat.le_of_ble_eq_true rfl), (Nat.le_of_ble_eq_true rfl)⟩) [0, 1] [] [0, 1] rfl rfl rfl rfl (by decide) (fun _ => rfl) rfl 0 6 rfl rfl rfl rfl (fun _ => rfl) rfl hl.1 (Nat.le_of_ble_eq_true rfl) dX2_copy_23 ⟨(Nat.zero_le _), (Nat.zero_le _)⟩ (fun as H locs hP hD hS => ?_)
        have hP : va_P D vwCl [(a0, .inr (6, [.ref a1])), (a1, .inl (cA 0, n, .inl o2))] H := hP
        have hD : va_D A [(a0, .inr (6, [.ref a1])), (a1, .inl (cA 0, n, .inl o2))] := hD
        refine lv_iinc (k := 5) (v := x5_3 + 1) hx hb dX2_copy_26 hl rfl (congrArg (fun z => x5_3 + z) lit1) (Nat.le_of_ble_eq_true rfl) rfl (fun ls hl => ?_)
        have hl : lv_has ls 6 [(5, .int (x5_3 + 1)), (0, .ref a0), (1, .ref a0), (2, .int x2), (3, .int x3), (4, .int x4)] := hl
        refine lv_goto (tgt := 3) hx hb dX2_copy_29 (by decide) ?_
        exact ih o2 (x5_3 + 1) _ _ _ (lv_sub hl [1, 2, 3, 4, 5, 0] rfl) hP hD hS h
  exact hLX2_copy_own_3 N f 0 _ _ _ (lv_sub hl [1, 2, 3, 4, 5, 0] rfl) hP hD hS h
noncomputable def SX4_moons (f : Nat → Int32) : Int32 := (SX2_at 61 f 6)
theorem iX4_moons_X4 : ∀ w ∈ wsX40, w ∈ wsX4_moons := fun _ h => List.mem_cons_of_mem _ (List.mem_append_left _ (List.mem_append_left _ (List.mem_append_right _ h)))
abbrev RM_X4_moons : Room := { frames := 1, cells := 0, slots := 0, locals := 21 }
set_option maxHeartbeats 4000000 in
theorem kX4_moons (l : Launch) (D : va_G) (cA : Nat → ClassId) (a0 a1 a2 : Nat) (f : Nat → Int32) {r : Int32} (hr : SX4_moons f = r) : Met l yX4_moons wsX4_moons RM_X4_moons (va_Pc [.ref a0] (rqB D cA [(a0, .inr (8, [.ref a1])), (a1, .inr (6, [.ref a2])), (a2, .inl (cA 0, 61, .inl f))])) (rqQ (some (.int r))) 0 0 (fun _ => False) := by
  refine rq_ofW (cc := cX4_moons) (maxL := 1) (ret := (some .int)) (by decide) rfl (Nat.le_of_ble_eq_true rfl) (fun p e s m args below meth c ls Q hx hb hml hts hfc hK hP hl hend => ?_)
  have hfc : s.vm.findClass RX4 = some m.cls := hfc
  have hl : lv_has ls 1 [(0, .ref a0)] := hl
  have h := hr
  clear hr
  unfold SX4_moons at h
  refine lv_aload_n hx hb dX4_moons_0 rfl (lv_at hl 0 rfl) ?_
  refine va_get (D := D) (ci := 8) (v := .ref a1) (C := RX4) (T := TX4) (N := 1) hx hb hts iX4_moons_X4 hfc hK hP 0 rfl rfl 0 (by decide) (hts (.fieldLink RX4 16 "BathtubTides$Tub" "cells" "LBathtubTides$Row;") (List.mem_of_getElem? (i := 1) rfl)) (fun _ h9 => h9) rfl dX4_moons_1 ?_
  refine lv_bipush (v := 6) hx hb dX4_moons_4 (by decide) ?_
  refine rq_V (v := (some (.int (SX2_at 61 f 6)))) (As := [.int 6]) (rest := []) (wc := [(a1, .inr (6, [.ref a2])), (a2, .inl (cA 0, 61, .inl f))]) ⟨hx, hb, hml, hfc, hts⟩ hK hP (kX2_at l D cA a1 a2 61 f 6 (Nat.le_of_ble_eq_true rfl) rfl) (cwV 1 hts gX4_moons_X2_at rfl rfl rfl (by decide +kernel) ⟨(Nat.le_of_ble_eq_true rfl), (Nat.le_of_ble_eq_true rfl)⟩) [1, 2] rfl 1 6 rfl rfl rfl rfl rfl rfl hl.1 (Nat.le_of_ble_eq_true rfl) dX4_moons_6 ⟨(Nat.zero_le _), (Nat.zero_le _)⟩ ?_
  subst h
  exact hend _ _ _ _ rfl (rtn_i _) dX4_moons_9
noncomputable def SX4_towels (f : Nat → Int32) : Int32 := (SX2_at 61 f 7)
theorem iX4_towels_X4 : ∀ w ∈ wsX40, w ∈ wsX4_towels := fun _ h => List.mem_cons_of_mem _ (List.mem_append_left _ (List.mem_append_left _ (List.mem_append_right _ h)))
abbrev RM_X4_towels : Room := { frames := 1, cells := 0, slots := 0, locals := 21 }
set_option maxHeartbeats 4000000 in
theorem kX4_towels (l : Launch) (D : va_G) (cA : Nat → ClassId) (a0 a1 a2 : Nat) (f : Nat → Int32) {r : Int32} (hr : SX4_towels f = r) : Met l yX4_towels wsX4_towels RM_X4_towels (va_Pc [.ref a0] (rqB D cA [(a0, .inr (8, [.ref a1])), (a1, .inr (6, [.ref a2])), (a2, .inl (cA 0, 61, .inl f))])) (rqQ (some (.int r))) 0 0 (fun _ => False) := by
  refine rq_ofW (cc := cX4_towels) (maxL := 1) (ret := (some .int)) (by decide) rfl (Nat.le_of_ble_eq_true rfl) (fun p e s m args below meth c ls Q hx hb hml hts hfc hK hP hl hend => ?_)
  have hfc : s.vm.findClass RX4 = some m.cls := hfc
  have hl : lv_has ls 1 [(0, .ref a0)] := hl
  have h := hr
  clear hr
  unfold SX4_towels at h
  refine lv_aload_n hx hb dX4_towels_0 rfl (lv_at hl 0 rfl) ?_
  refine va_get (D := D) (ci := 8) (v := .ref a1) (C := RX4) (T := TX4) (N := 1) hx hb hts iX4_towels_X4 hfc hK hP 0 rfl rfl 0 (by decide) (hts (.fieldLink RX4 16 "BathtubTides$Tub" "cells" "LBathtubTides$Row;") (List.mem_of_getElem? (i := 1) rfl)) (fun _ h9 => h9) rfl dX4_towels_1 ?_
  refine lv_bipush (v := 7) hx hb dX4_towels_4 (by decide) ?_
  refine rq_V (v := (some (.int (SX2_at 61 f 7)))) (As := [.int 7]) (rest := []) (wc := [(a1, .inr (6, [.ref a2])), (a2, .inl (cA 0, 61, .inl f))]) ⟨hx, hb, hml, hfc, hts⟩ hK hP (kX2_at l D cA a1 a2 61 f 7 (Nat.le_of_ble_eq_true rfl) rfl) (cwV 1 hts gX4_towels_X2_at rfl rfl rfl (by decide +kernel) ⟨(Nat.le_of_ble_eq_true rfl), (Nat.le_of_ble_eq_true rfl)⟩) [1, 2] rfl 1 6 rfl rfl rfl rfl rfl rfl hl.1 (Nat.le_of_ble_eq_true rfl) dX4_towels_6 ⟨(Nat.zero_le _), (Nat.zero_le _)⟩ ?_
  subst h
  exact hend _ _ _ _ rfl (rtn_i _) dX4_towels_9
noncomputable def SX4_plug (f : Nat → Int32) : Int32 := (SX2_at 61 f 5)
theorem iX4_plug_X4 : ∀ w ∈ wsX40, w ∈ wsX4_plug := fun _ h => List.mem_cons_of_mem _ (List.mem_append_left _ (List.mem_append_left _ (List.mem_append_right _ h)))
abbrev RM_X4_plug : Room := { frames := 1, cells := 0, slots := 0, locals := 21 }
set_option maxHeartbeats 4000000 in
theorem kX4_plug (l : Launch) (D : va_G) (cA : Nat → ClassId) (a0 a1 a2 : Nat) (f : Nat → Int32) {r : Int32} (hr : SX4_plug f = r) : Met l yX4_plug wsX4_plug RM_X4_plug (va_Pc [.ref a0] (rqB D cA [(a0, .inr (8, [.ref a1])), (a1, .inr (6, [.ref a2])), (a2, .inl (cA 0, 61, .inl f))])) (rqQ (some (.int r))) 0 0 (fun _ => False) := by
  refine rq_ofW (cc := cX4_plug) (maxL := 1) (ret := (some .int)) (by decide) rfl (Nat.le_of_ble_eq_true rfl) (fun p e s m args below meth c ls Q hx hb hml hts hfc hK hP hl hend => ?_)
  have hfc : s.vm.findClass RX4 = some m.cls := hfc
  have hl : lv_has ls 1 [(0, .ref a0)] := hl
  have h := hr
  clear hr
  unfold SX4_plug at h
  refine lv_aload_n hx hb dX4_plug_0 rfl (lv_at hl 0 rfl) ?_
  refine va_get (D := D) (ci := 8) (v := .ref a1) (C := RX4) (T := TX4) (N := 1) hx hb hts iX4_plug_X4 hfc hK hP 0 rfl rfl 0 (by decide) (hts (.fieldLink RX4 16 "BathtubTides$Tub" "cells" "LBathtubTides$Row;") (List.mem_of_getElem? (i := 1) rfl)) (fun _ h9 => h9) rfl dX4_plug_1 ?_
  refine lv_iconst (v := 5) hx hb dX4_plug_4 (by decide) ?_
  refine rq_V (v := (some (.int (SX2_at 61 f 5)))) (As := [.int 5]) (rest := []) (wc := [(a1, .inr (6, [.ref a2])), (a2, .inl (cA 0, 61, .inl f))]) ⟨hx, hb, hml, hfc, hts⟩ hK hP (kX2_at l D cA a1 a2 61 f 5 (Nat.le_of_ble_eq_true rfl) rfl) (cwV 1 hts gX4_plug_X2_at rfl rfl rfl (by decide +kernel) ⟨(Nat.le_of_ble_eq_true rfl), (Nat.le_of_ble_eq_true rfl)⟩) [1, 2] rfl 1 6 rfl rfl rfl rfl rfl rfl hl.1 (Nat.le_of_ble_eq_true rfl) dX4_plug_5 ⟨(Nat.zero_le _), (Nat.zero_le _)⟩ ?_
  subst h
  exact hend _ _ _ _ rfl (rtn_i _) dX4_plug_8
noncomputable def SX4_kindOf (f : Nat → Int32) (x1 : Int32) : Int32 := (SX2_at 61 f ((20 + (x1 * 5)) + 0))
theorem iX4_kindOf_X4 : ∀ w ∈ wsX40, w ∈ wsX4_kindOf := fun _ h => List.mem_cons_of_mem _ (List.mem_append_left _ (List.mem_append_left _ (List.mem_append_right _ h)))
abbrev RM_X4_kindOf : Room := { frames := 1, cells := 0, slots := 0, locals := 21 }
set_option maxHeartbeats 4000000 in
theorem kX4_kindOf (l : Launch) (D : va_G) (cA : Nat → ClassId) (a0 a1 a2 : Nat) (f : Nat → Int32) (x1 : Int32) {r : Int32} (hr : SX4_kindOf f x1 = r) : Met l yX4_kindOf wsX4_kindOf RM_X4_kindOf (va_Pc [.ref a0, .int x1] (rqB D cA [(a0, .inr (8, [.ref a1])), (a1, .inr (6, [.ref a2])), (a2, .inl (cA 0, 61, .inl f))])) (rqQ (some (.int r))) 0 0 (fun _ => False) := by
  refine rq_ofW (cc := cX4_kindOf) (maxL := 2) (ret := (some .int)) (by decide) rfl (Nat.le_of_ble_eq_true rfl) (fun p e s m args below meth c ls Q hx hb hml hts hfc hK hP hl hend => ?_)
  have hfc : s.vm.findClass RX4 = some m.cls := hfc
  have hl : lv_has ls 2 [(0, .ref a0), (1, .int x1)] := hl
  have h := hr
  clear hr
  unfold SX4_kindOf at h
  refine lv_aload_n hx hb dX4_kindOf_0 rfl (lv_at hl 0 rfl) ?_
  refine va_get (D := D) (ci := 8) (v := .ref a1) (C := RX4) (T := TX4) (N := 1) hx hb hts iX4_kindOf_X4 hfc hK hP 0 rfl rfl 0 (by decide) (hts (.fieldLink RX4 16 "BathtubTides$Tub" "cells" "LBathtubTides$Row;") (List.mem_of_getElem? (i := 1) rfl)) (fun _ h9 => h9) rfl dX4_kindOf_1 ?_
  refine lv_bipush (v := 20) hx hb dX4_kindOf_4 (by decide) ?_
  refine lv_iload_n hx hb dX4_kindOf_6 rfl (lv_at hl 1 rfl) ?_
  refine lv_iconst (v := 5) hx hb dX4_kindOf_7 (by decide) ?_
  refine lv_imul hx hb dX4_kindOf_8 ?_
  refine lv_iadd hx hb dX4_kindOf_9 ?_
  refine lv_iconst (v := 0) hx hb dX4_kindOf_10 (by decide) ?_
  refine lv_iadd hx hb dX4_kindOf_11 ?_
  refine rq_V (v := (some (.int (SX2_at 61 f ((20 + (x1 * 5)) + 0))))) (As := [.int ((20 + (x1 * 5)) + 0)]) (rest := []) (wc := [(a1, .inr (6, [.ref a2])), (a2, .inl (cA 0, 61, .inl f))]) ⟨hx, hb, hml, hfc, hts⟩ hK hP (kX2_at l D cA a1 a2 61 f ((20 + (x1 * 5)) + 0) (Nat.le_of_ble_eq_true rfl) rfl) (cwV 1 hts gX4_kindOf_X2_at rfl rfl rfl (by decide +kernel) ⟨(Nat.le_of_ble_eq_true rfl), (Nat.le_of_ble_eq_true rfl)⟩) [1, 2] rfl 1 6 rfl rfl rfl rfl rfl rfl hl.1 (Nat.le_of_ble_eq_true rfl) dX4_kindOf_12 ⟨(Nat.zero_le _), (Nat.zero_le _)⟩ ?_
  subst h
  exact hend _ _ _ _ rfl (rtn_i _) dX4_kindOf_15
noncomputable def SX4_periodOf (f : Nat → Int32) (x1 : Int32) : Int32 := (SX2_at 61 f ((20 + (x1 * 5)) + 3))
theorem iX4_periodOf_X4 : ∀ w ∈ wsX40, w ∈ wsX4_periodOf := fun _ h => List.mem_cons_of_mem _ (List.mem_append_left _ (List.mem_append_left _ (List.mem_append_right _ h)))
abbrev RM_X4_periodOf : Room := { frames := 1, cells := 0, slots := 0, locals := 21 }
set_option maxHeartbeats 4000000 in
theorem kX4_periodOf (l : Launch) (D : va_G) (cA : Nat → ClassId) (a0 a1 a2 : Nat) (f : Nat → Int32) (x1 : Int32) {r : Int32} (hr : SX4_periodOf f x1 = r) : Met l yX4_periodOf wsX4_periodOf RM_X4_periodOf (va_Pc [.ref a0, .int x1] (rqB D cA [(a0, .inr (8, [.ref a1])), (a1, .inr (6, [.ref a2])), (a2, .inl (cA 0, 61, .inl f))])) (rqQ (some (.int r))) 0 0 (fun _ => False) := by
  refine rq_ofW (cc := cX4_periodOf) (maxL := 2) (ret := (some .int)) (by decide) rfl (Nat.le_of_ble_eq_true rfl) (fun p e s m args below meth c ls Q hx hb hml hts hfc hK hP hl hend => ?_)
  have hfc : s.vm.findClass RX4 = some m.cls := hfc
  have hl : lv_has ls 2 [(0, .ref a0), (1, .int x1)] := hl
  have h := hr
  clear hr
  unfold SX4_periodOf at h
  refine lv_aload_n hx hb dX4_periodOf_0 rfl (lv_at hl 0 rfl) ?_
  refine va_get (D := D) (ci := 8) (v := .ref a1) (C := RX4) (T := TX4) (N := 1) hx hb hts iX4_periodOf_X4 hfc hK hP 0 rfl rfl 0 (by decide) (hts (.fieldLink RX4 16 "BathtubTides$Tub" "cells" "LBathtubTides$Row;") (List.mem_of_getElem? (i := 1) rfl)) (fun _ h9 => h9) rfl dX4_periodOf_1 ?_
  refine lv_bipush (v := 20) hx hb dX4_periodOf_4 (by decide) ?_
  refine lv_iload_n hx hb dX4_periodOf_6 rfl (lv_at hl 1 rfl) ?_
  refine lv_iconst (v := 5) hx hb dX4_periodOf_7 (by decide) ?_
  refine lv_imul hx hb dX4_periodOf_8 ?_
  refine lv_iadd hx hb dX4_periodOf_9 ?_
  refine lv_iconst (v := 3) hx hb dX4_periodOf_10 (by decide) ?_
  refine lv_iadd hx hb dX4_periodOf_11 ?_
  refine rq_V (v := (some (.int (SX2_at 61 f ((20 + (x1 * 5)) + 3))))) (As := [.int ((20 + (x1 * 5)) + 3)]) (rest := []) (wc := [(a1, .inr (6, [.ref a2])), (a2, .inl (cA 0, 61, .inl f))]) ⟨hx, hb, hml, hfc, hts⟩ hK hP (kX2_at l D cA a1 a2 61 f ((20 + (x1 * 5)) + 3) (Nat.le_of_ble_eq_true rfl) rfl) (cwV 1 hts gX4_periodOf_X2_at rfl rfl rfl (by decide +kernel) ⟨(Nat.le_of_ble_eq_true rfl), (Nat.le_of_ble_eq_true rfl)⟩) [1, 2] rfl 1 6 rfl rfl rfl rfl rfl rfl hl.1 (Nat.le_of_ble_eq_true rfl) dX4_periodOf_12 ⟨(Nat.zero_le _), (Nat.zero_le _)⟩ ?_
  subst h
  exact hend _ _ _ _ rfl (rtn_i _) dX4_periodOf_15
noncomputable def SX4_firstMassOf (f : Nat → Int32) (x1 : Int32) : Int32 := (SX2_at 61 f ((20 + (x1 * 5)) + 1))
theorem iX4_firstMassOf_X4 : ∀ w ∈ wsX40, w ∈ wsX4_firstMassOf := fun _ h => List.mem_cons_of_mem _ (List.mem_append_left _ (List.mem_append_left _ (List.mem_append_right _ h)))
abbrev RM_X4_firstMassOf : Room := { frames := 1, cells := 0, slots := 0, locals := 21 }
set_option maxHeartbeats 4000000 in
theorem kX4_firstMassOf (l : Launch) (D : va_G) (cA : Nat → ClassId) (a0 a1 a2 : Nat) (f : Nat → Int32) (x1 : Int32) {r : Int32} (hr : SX4_firstMassOf f x1 = r) : Met l yX4_firstMassOf wsX4_firstMassOf RM_X4_firstMassOf (va_Pc [.ref a0, .int x1] (rqB D cA [(a0, .inr (8, [.ref a1])), (a1, .inr (6, [.ref a2])), (a2, .inl (cA 0, 61, .inl f))])) (rqQ (some (.int r))) 0 0 (fun _ => False) := by
  refine rq_ofW (cc := cX4_firstMassOf) (maxL := 2) (ret := (some .int)) (by decide) rfl (Nat.le_of_ble_eq_true rfl) (fun p e s m args below meth c ls Q hx hb hml hts hfc hK hP hl hend => ?_)
  have hfc : s.vm.findClass RX4 = some m.cls := hfc
  have hl : lv_has ls 2 [(0, .ref a0), (1, .int x1)] := hl
  have h := hr
  clear hr
  unfold SX4_firstMassOf at h
  refine lv_aload_n hx hb dX4_firstMassOf_0 rfl (lv_at hl 0 rfl) ?_
  refine va_get (D := D) (ci := 8) (v := .ref a1) (C := RX4) (T := TX4) (N := 1) hx hb hts iX4_firstMassOf_X4 hfc hK hP 0 rfl rfl 0 (by decide) (hts (.fieldLink RX4 16 "BathtubTides$Tub" "cells" "LBathtubTides$Row;") (List.mem_of_getElem? (i := 1) rfl)) (fun _ h9 => h9) rfl dX4_firstMassOf_1 ?_
  refine lv_bipush (v := 20) hx hb dX4_firstMassOf_4 (by decide) ?_
  refine lv_iload_n hx hb dX4_firstMassOf_6 rfl (lv_at hl 1 rfl) ?_
  refine lv_iconst (v := 5) hx hb dX4_firstMassOf_7 (by decide) ?_
  refine lv_imul hx hb dX4_firstMassOf_8 ?_
  refine lv_iadd hx hb dX4_firstMassOf_9 ?_
  refine lv_iconst (v := 1) hx hb dX4_firstMassOf_10 (by decide) ?_
  refine lv_iadd hx hb dX4_firstMassOf_11 ?_
  refine rq_V (v := (some (.int (SX2_at 61 f ((20 + (x1 * 5)) + 1))))) (As := [.int ((20 + (x1 * 5)) + 1)]) (rest := []) (wc := [(a1, .inr (6, [.ref a2])), (a2, .inl (cA 0, 61, .inl f))]) ⟨hx, hb, hml, hfc, hts⟩ hK hP (kX2_at l D cA a1 a2 61 f ((20 + (x1 * 5)) + 1) (Nat.le_of_ble_eq_true rfl) rfl) (cwV 1 hts gX4_firstMassOf_X2_at rfl rfl rfl (by decide +kernel) ⟨(Nat.le_of_ble_eq_true rfl), (Nat.le_of_ble_eq_true rfl)⟩) [1, 2] rfl 1 6 rfl rfl rfl rfl rfl rfl hl.1 (Nat.le_of_ble_eq_true rfl) dX4_firstMassOf_12 ⟨(Nat.zero_le _), (Nat.zero_le _)⟩ ?_
  subst h
  exact hend _ _ _ _ rfl (rtn_i _) dX4_firstMassOf_15
noncomputable def SX4_ageNow (f : Nat → Int32) (x1 : Int32) : Int32 := (SX2_at 61 f 0) - (SX2_at 61 f ((20 + (x1 * 5)) + 4))
theorem iX4_ageNow_X4 : ∀ w ∈ wsX40, w ∈ wsX4_ageNow := fun _ h => List.mem_cons_of_mem _ (List.mem_append_left _ (List.mem_append_left _ (List.mem_append_right _ h)))
abbrev RM_X4_ageNow : Room := { frames := 1, cells := 0, slots := 0, locals := 22 }
set_option maxHeartbeats 4000000 in
theorem kX4_ageNow (l : Launch) (D : va_G) (cA : Nat → ClassId) (a0 a1 a2 : Nat) (f : Nat → Int32) (x1 : Int32) {r : Int32} (hr : SX4_ageNow f x1 = r) : Met l yX4_ageNow wsX4_ageNow RM_X4_ageNow (va_Pc [.ref a0, .int x1] (rqB D cA [(a0, .inr (8, [.ref a1])), (a1, .inr (6, [.ref a2])), (a2, .inl (cA 0, 61, .inl f))])) (rqQ (some (.int r))) 0 0 (fun _ => False) := by
  refine rq_ofW (cc := cX4_ageNow) (maxL := 2) (ret := (some .int)) (by decide) rfl (Nat.le_of_ble_eq_true rfl) (fun p e s m args below meth c ls Q hx hb hml hts hfc hK hP hl hend => ?_)
  have hfc : s.vm.findClass RX4 = some m.cls := hfc
  have hl : lv_has ls 2 [(0, .ref a0), (1, .int x1)] := hl
  have h := hr
  clear hr
  unfold SX4_ageNow at h
  refine lv_aload_n hx hb dX4_ageNow_0 rfl (lv_at hl 0 rfl) ?_
  refine va_get (D := D) (ci := 8) (v := .ref a1) (C := RX4) (T := TX4) (N := 1) hx hb hts iX4_ageNow_X4 hfc hK hP 0 rfl rfl 0 (by decide) (hts (.fieldLink RX4 16 "BathtubTides$Tub" "cells" "LBathtubTides$Row;") (List.mem_of_getElem? (i := 1) rfl)) (fun _ h9 => h9) rfl dX4_ageNow_1 ?_
  refine lv_iconst (v := 0) hx hb dX4_ageNow_4 (by decide) ?_
  refine rq_V (v := (some (.int (SX2_at 61 f 0)))) (As := [.int 0]) (rest := []) (wc := [(a1, .inr (6, [.ref a2])), (a2, .inl (cA 0, 61, .inl f))]) ⟨hx, hb, hml, hfc, hts⟩ hK hP (kX2_at l D cA a1 a2 61 f 0 (Nat.le_of_ble_eq_true rfl) rfl) (cwV 1 hts gX4_ageNow_X2_at rfl rfl rfl (by decide +kernel) ⟨(Nat.le_of_ble_eq_true rfl), (Nat.le_of_ble_eq_true rfl)⟩) [1, 2] rfl 1 6 rfl rfl rfl rfl rfl rfl hl.1 (Nat.le_of_ble_eq_true rfl) dX4_ageNow_5 ⟨(Nat.zero_le _), (Nat.zero_le _)⟩ ?_
  refine lv_aload_n hx hb dX4_ageNow_8 rfl (lv_at hl 0 rfl) ?_
  refine va_get (D := D) (ci := 8) (v := .ref a1) (C := RX4) (T := TX4) (N := 1) hx hb hts iX4_ageNow_X4 hfc hK hP 0 rfl rfl 0 (by decide) (hts (.fieldLink RX4 16 "BathtubTides$Tub" "cells" "LBathtubTides$Row;") (List.mem_of_getElem? (i := 1) rfl)) (fun _ h9 => h9) rfl dX4_ageNow_9 ?_
  refine lv_bipush (v := 20) hx hb dX4_ageNow_12 (by decide) ?_
  refine lv_iload_n hx hb dX4_ageNow_14 rfl (lv_at hl 1 rfl) ?_
  refine lv_iconst (v := 5) hx hb dX4_ageNow_15 (by decide) ?_
  refine lv_imul hx hb dX4_ageNow_16 ?_
  refine lv_iadd hx hb dX4_ageNow_17 ?_
  refine lv_iconst (v := 4) hx hb dX4_ageNow_18 (by decide) ?_
  refine lv_iadd hx hb dX4_ageNow_19 ?_
  refine rq_V (v := (some (.int (SX2_at 61 f ((20 + (x1 * 5)) + 4))))) (As := [.int ((20 + (x1 * 5)) + 4)]) (rest := [.int (SX2_at 61 f 0)]) (wc := [(a1, .inr (6, [.ref a2])), (a2, .inl (cA 0, 61, .inl f))]) ⟨hx, hb, hml, hfc, hts⟩ hK hP (kX2_at l D cA a1 a2 61 f ((20 + (x1 * 5)) + 4) (Nat.le_of_ble_eq_true rfl) rfl) (cwV 1 hts gX4_ageNow_X2_at rfl rfl rfl (by decide +kernel) ⟨(Nat.le_of_ble_eq_true rfl), (Nat.le_of_ble_eq_true rfl)⟩) [1, 2] rfl 1 6 rfl rfl rfl rfl rfl rfl hl.1 (Nat.le_of_ble_eq_true rfl) dX4_ageNow_20 ⟨(Nat.zero_le _), (Nat.zero_le _)⟩ ?_
  refine lv_isub hx hb dX4_ageNow_23 ?_
  subst h
  exact hend _ _ _ _ rfl (rtn_i _) dX4_ageNow_24
noncomputable def SX4_placeAfter (f : Nat → Int32) (x1 : Int32) (x2 : Int32) : Int32 := lt_ (if 1 ≤ (SX4_periodOf f x1) then (((SX4_ageNow f x1) + x2) / (SX4_periodOf f x1)) else (0)) (fun o2 : Int32 => irm ((SX2_at 61 f ((20 + (x1 * 5)) + 2)) + o2) 12)
theorem iX4_placeAfter_X4 : ∀ w ∈ wsX40, w ∈ wsX4_placeAfter := fun _ h => List.mem_cons_of_mem _ (List.mem_append_left _ (List.mem_append_left _ (List.mem_append_left _ (List.mem_append_right _ h))))
abbrev RM_X4_placeAfter : Room := { frames := 2, cells := 0, slots := 0, locals := 43 }
set_option maxHeartbeats 4000000 in
theorem kX4_placeAfter (l : Launch) (D : va_G) (cA : Nat → ClassId) (a0 a1 a2 : Nat) (f : Nat → Int32) (x1 : Int32) (x2 : Int32) {r : Int32} (hr : SX4_placeAfter f x1 x2 = r) : Met l yX4_placeAfter wsX4_placeAfter RM_X4_placeAfter (va_Pc [.ref a0, .int x1, .int x2] (rqB D cA [(a0, .inr (8, [.ref a1])), (a1, .inr (6, [.ref a2])), (a2, .inl (cA 0, 61, .inl f))])) (rqQ (some (.int r))) 0 0 (fun _ => False) := by
  refine rq_ofW (cc := cX4_placeAfter) (maxL := 6) (ret := (some .int)) (by decide) rfl (Nat.le_of_ble_eq_true rfl) (fun p e s m args below meth c ls Q hx hb hml hts hfc hK hP hl hend => ?_)
  have hfc : s.vm.findClass RX4 = some m.cls := hfc
  have hl : lv_has ls 6 [(0, .ref a0), (1, .int x1), (2, .int x2)] := hl
  have h := hr
  clear hr
  unfold SX4_placeAfter at h
  refine lv_aload_n hx hb dX4_placeAfter_0 rfl (lv_at hl 0 rfl) ?_
  refine lv_iload_n hx hb dX4_placeAfter_1 rfl (lv_at hl 1 rfl) ?_
  refine rq_V (v := (some (.int (SX4_ageNow f x1)))) (As := [.int x1]) (rest := []) (wc := [(a0, .inr (8, [.ref a1])), (a1, .inr (6, [.ref a2])), (a2, .inl (cA 0, 61, .inl f))]) ⟨hx, hb, hml, hfc, hts⟩ hK hP (kX4_ageNow l D cA a0 a1 a2 f x1 rfl) (cwV 1 hts gX4_placeAfter_X4_ageNow rfl rfl rfl (by decide +kernel) ⟨(Nat.le_of_ble_eq_true rfl), (Nat.le_of_ble_eq_true rfl)⟩) [0, 1, 2] rfl 0 8 rfl rfl rfl rfl rfl rfl hl.1 (Nat.le_of_ble_eq_true rfl) dX4_placeAfter_2 ⟨(Nat.zero_le _), (Nat.zero_le _)⟩ ?_
  refine lv_iload_n hx hb dX4_placeAfter_5 rfl (lv_at hl 2 rfl) ?_
  refine lv_iadd hx hb dX4_placeAfter_6 ?_
  refine lv_istore_n hx hb dX4_placeAfter_7 rfl hl (Nat.le_of_ble_eq_true rfl) rfl (fun ls hl => ?_)
  have hl : lv_has ls 6 [(3, .int ((SX4_ageNow f x1) + x2)), (0, .ref a0), (1, .int x1), (2, .int x2)] := hl
  refine lv_aload_n hx hb dX4_placeAfter_8 rfl (lv_at hl 1 rfl) ?_
  refine lv_iload_n hx hb dX4_placeAfter_9 rfl (lv_at hl 2 rfl) ?_
  refine rq_V (v := (some (.int (SX4_periodOf f x1)))) (As := [.int x1]) (rest := []) (wc := [(a0, .inr (8, [.ref a1])), (a1, .inr (6, [.ref a2])), (a2, .inl (cA 0, 61, .inl f))]) ⟨hx, hb, hml, hfc, hts⟩ hK hP (kX4_periodOf l D cA a0 a1 a2 f x1 rfl) (cwV 1 hts gX4_placeAfter_X4_periodOf rfl rfl rfl (by decide +kernel) ⟨(Nat.le_of_ble_eq_true rfl), (Nat.le_of_ble_eq_true rfl)⟩) [0, 1, 2] rfl 0 8 rfl rfl rfl rfl rfl rfl hl.1 (Nat.le_of_ble_eq_true rfl) dX4_placeAfter_10 ⟨(Nat.zero_le _), (Nat.zero_le _)⟩ ?_
  refine lv_istore hx hb dX4_placeAfter_13 hl (Nat.le_of_ble_eq_true rfl) rfl (fun ls hl => ?_)
  have hl : lv_has ls 6 [(4, .int (SX4_periodOf f x1)), (3, .int ((SX4_ageNow f x1) + x2)), (0, .ref a0), (1, .int x1), (2, .int x2)] := hl
  refine lv_iload hx hb dX4_placeAfter_15 (lv_at hl 0 rfl) ?_
  refine lv_iconst (v := 1) hx hb dX4_placeAfter_17 (by decide) ?_
  obtain ⟨o2, ho2, h⟩ := lt_i h
  have ko2 : ∀ (ls : Array Slot), lv_has ls 6 [(0, .ref a0), (1, .int x1), (2, .int x2), (3, .int ((SX4_ageNow f x1) + x2)), (4, .int (SX4_periodOf f x1))] → W p l e RM_X4_placeAfter s m args below meth c s.heap [] 0 0 Q (F0 m 29 ls [.int o2]) := by
    intro ls hl
    refine lv_istore hx hb dX4_placeAfter_29 hl (Nat.le_of_ble_eq_true rfl) rfl (fun ls hl => ?_)
    have hl : lv_has ls 6 [(5, .int o2), (0, .ref a0), (1, .int x1), (2, .int x2), (3, .int ((SX4_ageNow f x1) + x2)), (4, .int (SX4_periodOf f x1))] := hl
    refine lv_aload_n hx hb dX4_placeAfter_31 rfl (lv_at hl 1 rfl) ?_
    refine va_get (D := D) (ci := 8) (v := .ref a1) (C := RX4) (T := TX4) (N := 1) hx hb hts iX4_placeAfter_X4 hfc hK hP 0 rfl rfl 0 (by decide) (hts (.fieldLink RX4 16 "BathtubTides$Tub" "cells" "LBathtubTides$Row;") (List.mem_of_getElem? (i := 1) rfl)) (fun _ h9 => h9) rfl dX4_placeAfter_32 ?_
    refine lv_bipush (v := 20) hx hb dX4_placeAfter_35 (by decide) ?_
    refine lv_iload_n hx hb dX4_placeAfter_37 rfl (lv_at hl 2 rfl) ?_
    refine lv_iconst (v := 5) hx hb dX4_placeAfter_38 (by decide) ?_
    refine lv_imul hx hb dX4_placeAfter_39 ?_
    refine lv_iadd hx hb dX4_placeAfter_40 ?_
    refine lv_iconst (v := 2) hx hb dX4_placeAfter_41 (by decide) ?_
    refine lv_iadd hx hb dX4_placeAfter_42 ?_
    refine rq_V (v := (some (.int (SX2_at 61 f ((20 + (x1 * 5)) + 2))))) (As := [.int ((20 + (x1 * 5)) + 2)]) (rest := []) (wc := [(a1, .inr (6, [.ref a2])), (a2, .inl (cA 0, 61, .inl f))]) ⟨hx, hb, hml, hfc, hts⟩ hK hP (kX2_at l D cA a1 a2 61 f ((20 + (x1 * 5)) + 2) (Nat.le_of_ble_eq_true rfl) rfl) (cwV 1 hts gX4_placeAfter_X2_at rfl rfl rfl (by decide +kernel) ⟨(Nat.le_of_ble_eq_true rfl), (Nat.le_of_ble_eq_true rfl)⟩) [1, 2] rfl 1 6 rfl rfl rfl rfl rfl rfl hl.1 (Nat.le_of_ble_eq_true rfl) dX4_placeAfter_43 ⟨(Nat.zero_le _), (Nat.zero_le _)⟩ ?_
    refine lv_iload hx hb dX4_placeAfter_46 (lv_at hl 0 rfl) ?_
    refine lv_iadd hx hb dX4_placeAfter_48 ?_
    refine lv_bipush (v := 12) hx hb dX4_placeAfter_49 (by decide) ?_
    refine lv_irem hx hb dX4_placeAfter_51 (by decide) ?_
    subst h
    exact hend _ _ _ _ rfl (rtn_i _) dX4_placeAfter_52
  clear h
  have h := ho2
  clear ho2
  refine lv_icmp_ge (tgt := 25) hx hb dX4_placeAfter_18 (by decide) (fun c1 => ?_) (fun c1 => ?_)
  · have h := ite_t c1 h
    refine lv_iload_n hx hb dX4_placeAfter_25 rfl (lv_at hl 1 rfl) ?_
    refine lv_iload hx hb dX4_placeAfter_26 (lv_at hl 0 rfl) ?_
    refine lv_idiv hx hb dX4_placeAfter_28 (ne0_b c1) ?_
    subst h
    exact ko2 _ (lv_sub hl [2, 3, 4, 1, 0] rfl)
  · have h := ite_f c1 h
    refine lv_iconst (v := 0) hx hb dX4_placeAfter_21 (by decide) ?_
    refine lv_goto (tgt := 29) hx hb dX4_placeAfter_22 (by decide) ?_
    subst h
    exact ko2 _ (lv_sub hl [2, 3, 4, 1, 0] rfl)
noncomputable def SX4_massAfter (f : Nat → Int32) (x1 : Int32) (x2 : Int32) : Int32 := if (SX4_kindOf f x1) = 1 then (imax 0 ((SX4_firstMassOf f x1) - (((SX4_ageNow f x1) + x2) / 10))) else (if (SX4_kindOf f x1) = 2 then (if (irm ((SX4_ageNow f x1) + x2) 2) = 0 then ((SX4_firstMassOf f x1)) else ((SX4_firstMassOf f x1) / 2)) else ((SX4_firstMassOf f x1)))
abbrev RM_X4_massAfter : Room := { frames := 2, cells := 0, slots := 0, locals := 43 }
set_option maxHeartbeats 4000000 in
theorem kX4_massAfter (l : Launch) (D : va_G) (cA : Nat → ClassId) (a0 a1 a2 : Nat) (f : Nat → Int32) (x1 : Int32) (x2 : Int32) {r : Int32} (hr : SX4_massAfter f x1 x2 = r) : Met l yX4_massAfter wsX4_massAfter RM_X4_massAfter (va_Pc [.ref a0, .int x1, .int x2] (rqB D cA [(a0, .inr (8, [.ref a1])), (a1, .inr (6, [.ref a2])), (a2, .inl (cA 0, 61, .inl f))])) (rqQ (some (.int r))) 0 0 (fun _ => False) := by
  refine rq_ofW (cc := cX4_massAfter) (maxL := 6) (ret := (some .int)) (by decide) rfl (Nat.le_of_ble_eq_true rfl) (fun p e s m args below meth c ls Q hx hb hml hts hfc hK hP hl hend => ?_)
  have hfc : s.vm.findClass RX4 = some m.cls := hfc
  have hl : lv_has ls 6 [(0, .ref a0), (1, .int x1), (2, .int x2)] := hl
  have h := hr
  clear hr
  unfold SX4_massAfter at h
  refine lv_aload_n hx hb dX4_massAfter_0 rfl (lv_at hl 0 rfl) ?_
  refine lv_iload_n hx hb dX4_massAfter_1 rfl (lv_at hl 1 rfl) ?_
  refine rq_V (v := (some (.int (SX4_ageNow f x1)))) (As := [.int x1]) (rest := []) (wc := [(a0, .inr (8, [.ref a1])), (a1, .inr (6, [.ref a2])), (a2, .inl (cA 0, 61, .inl f))]) ⟨hx, hb, hml, hfc, hts⟩ hK hP (kX4_ageNow l D cA a0 a1 a2 f x1 rfl) (cwV 1 hts gX4_massAfter_X4_ageNow rfl rfl rfl (by decide +kernel) ⟨(Nat.le_of_ble_eq_true rfl), (Nat.le_of_ble_eq_true rfl)⟩) [0, 1, 2] rfl 0 8 rfl rfl rfl rfl rfl rfl hl.1 (Nat.le_of_ble_eq_true rfl) dX4_massAfter_2 ⟨(Nat.zero_le _), (Nat.zero_le _)⟩ ?_
  refine lv_iload_n hx hb dX4_massAfter_5 rfl (lv_at hl 2 rfl) ?_
  refine lv_iadd hx hb dX4_massAfter_6 ?_
  refine lv_istore_n hx hb dX4_massAfter_7 rfl hl (Nat.le_of_ble_eq_true rfl) rfl (fun ls hl => ?_)
  have hl : lv_has ls 6 [(3, .int ((SX4_ageNow f x1) + x2)), (0, .ref a0), (1, .int x1), (2, .int x2)] := hl
  refine lv_aload_n hx hb dX4_massAfter_8 rfl (lv_at hl 1 rfl) ?_
  refine lv_iload_n hx hb dX4_massAfter_9 rfl (lv_at hl 2 rfl) ?_
  refine rq_V (v := (some (.int (SX4_firstMassOf f x1)))) (As := [.int x1]) (rest := []) (wc := [(a0, .inr (8, [.ref a1])), (a1, .inr (6, [.ref a2])), (a2, .inl (cA 0, 61, .inl f))]) ⟨hx, hb, hml, hfc, hts⟩ hK hP (kX4_firstMassOf l D cA a0 a1 a2 f x1 rfl) (cwV 1 hts gX4_massAfter_X4_firstMassOf rfl rfl rfl (by decide +kernel) ⟨(Nat.le_of_ble_eq_true rfl), (Nat.le_of_ble_eq_true rfl)⟩) [0, 1, 2] rfl 0 8 rfl rfl rfl rfl rfl rfl hl.1 (Nat.le_of_ble_eq_true rfl) dX4_massAfter_10 ⟨(Nat.zero_le _), (Nat.zero_le _)⟩ ?_
  refine lv_istore hx hb dX4_massAfter_13 hl (Nat.le_of_ble_eq_true rfl) rfl (fun ls hl => ?_)
  have hl : lv_has ls 6 [(4, .int (SX4_firstMassOf f x1)), (3, .int ((SX4_ageNow f x1) + x2)), (0, .ref a0), (1, .int x1), (2, .int x2)] := hl
  refine lv_aload_n hx hb dX4_massAfter_15 rfl (lv_at hl 2 rfl) ?_
  refine lv_iload_n hx hb dX4_massAfter_16 rfl (lv_at hl 3 rfl) ?_
  refine rq_V (v := (some (.int (SX4_kindOf f x1)))) (As := [.int x1]) (rest := []) (wc := [(a0, .inr (8, [.ref a1])), (a1, .inr (6, [.ref a2])), (a2, .inl (cA 0, 61, .inl f))]) ⟨hx, hb, hml, hfc, hts⟩ hK hP (kX4_kindOf l D cA a0 a1 a2 f x1 rfl) (cwV 1 hts gX4_massAfter_X4_kindOf rfl rfl rfl (by decide +kernel) ⟨(Nat.le_of_ble_eq_true rfl), (Nat.le_of_ble_eq_true rfl)⟩) [0, 1, 2] rfl 0 8 rfl rfl rfl rfl rfl rfl hl.1 (Nat.le_of_ble_eq_true rfl) dX4_massAfter_17 ⟨(Nat.zero_le _), (Nat.zero_le _)⟩ ?_
  refine lv_istore hx hb dX4_massAfter_20 hl (Nat.le_of_ble_eq_true rfl) rfl (fun ls hl => ?_)
  have hl : lv_has ls 6 [(5, .int (SX4_kindOf f x1)), (4, .int (SX4_firstMassOf f x1)), (3, .int ((SX4_ageNow f x1) + x2)), (0, .ref a0), (1, .int x1), (2, .int x2)] := hl
  refine lv_iload hx hb dX4_massAfter_22 (lv_at hl 0 rfl) ?_
  refine lv_iconst (v := 1) hx hb dX4_massAfter_24 (by decide) ?_
  refine lv_icmp_ne (tgt := 40) hx hb dX4_massAfter_25 (by decide) (fun c1 => ?_) (fun c1 => ?_)
  · have h := ite_f c1 h
    refine lv_iload hx hb dX4_massAfter_40 (lv_at hl 0 rfl) ?_
    refine lv_iconst (v := 2) hx hb dX4_massAfter_42 (by decide) ?_
    refine lv_icmp_ne (tgt := 57) hx hb dX4_massAfter_43 (by decide) (fun c2 => ?_) (fun c2 => ?_)
    · have h := ite_f c2 h
      refine lv_iload hx hb dX4_massAfter_57 (lv_at hl 1 rfl) ?_
      subst h
      exact hend _ _ _ _ rfl (rtn_i _) dX4_massAfter_59
    · have h := ite_t c2 h
      refine lv_iload_n hx hb dX4_massAfter_46 rfl (lv_at hl 2 rfl) ?_
      refine lv_iconst (v := 2) hx hb dX4_massAfter_47 (by decide) ?_
      refine lv_irem hx hb dX4_massAfter_48 (by decide) ?_
      refine lv_if_eq (tgt := 57) hx hb dX4_massAfter_49 (by decide) (fun c3 => ?_) (fun c3 => ?_)
      · have h := ite_t c3 h
        refine lv_iload hx hb dX4_massAfter_57 (lv_at hl 1 rfl) ?_
        subst h
        exact hend _ _ _ _ rfl (rtn_i _) dX4_massAfter_59
      · have h := ite_f c3 h
        refine lv_iload hx hb dX4_massAfter_52 (lv_at hl 1 rfl) ?_
        refine lv_iconst (v := 2) hx hb dX4_massAfter_54 (by decide) ?_
        refine lv_idiv hx hb dX4_massAfter_55 (by decide) ?_
        subst h
        exact hend _ _ _ _ rfl (rtn_i _) dX4_massAfter_56
  · have h := ite_t c1 h
    refine lv_iconst (v := 0) hx hb dX4_massAfter_28 (by decide) ?_
    refine lv_iload hx hb dX4_massAfter_29 (lv_at hl 1 rfl) ?_
    refine lv_iload_n hx hb dX4_massAfter_31 rfl (lv_at hl 2 rfl) ?_
    refine lv_bipush (v := 10) hx hb dX4_massAfter_32 (by decide) ?_
    refine lv_idiv hx hb dX4_massAfter_34 (by decide) ?_
    refine lv_isub hx hb dX4_massAfter_35 ?_
    refine va_mmax hx hb (hml.trans hl.1.symm) hfc (hts (.methodLink RX4 125 Lib.Math.max.name) (List.mem_of_getElem? (i := 1) rfl)) (hts (.static Lib.Math.max.name) (List.mem_of_getElem? (i := 2) rfl)) (hts (.initialized "java/lang/Math") (List.mem_of_getElem? (i := 3) rfl)) (hts (.code Lib.Math.max.name Lib.Math.max.code 2 (some .int)) (List.mem_of_getElem? (i := 4) rfl)) (Nat.le_of_ble_eq_true rfl) (Nat.le_of_ble_eq_true rfl) (Nat.zero_le _) (Nat.zero_le _) dX4_massAfter_36 ?_
    subst h
    exact hend _ _ _ _ rfl (rtn_i _) dX4_massAfter_39
noncomputable def SX4_ofTowel (f : Nat → Int32) (x1 : Int32) (x2 : Int32) : Int32 := (SX2_at 61 f ((45 + (x1 * 4)) + x2))
theorem iX4_ofTowel_X4 : ∀ w ∈ wsX40, w ∈ wsX4_ofTowel := fun _ h => List.mem_cons_of_mem _ (List.mem_append_left _ (List.mem_append_left _ (List.mem_append_right _ h)))
abbrev RM_X4_ofTowel : Room := { frames := 1, cells := 0, slots := 0, locals := 21 }
set_option maxHeartbeats 4000000 in
theorem kX4_ofTowel (l : Launch) (D : va_G) (cA : Nat → ClassId) (a0 a1 a2 : Nat) (f : Nat → Int32) (x1 : Int32) (x2 : Int32) {r : Int32} (hr : SX4_ofTowel f x1 x2 = r) : Met l yX4_ofTowel wsX4_ofTowel RM_X4_ofTowel (va_Pc [.ref a0, .int x1, .int x2] (rqB D cA [(a0, .inr (8, [.ref a1])), (a1, .inr (6, [.ref a2])), (a2, .inl (cA 0, 61, .inl f))])) (rqQ (some (.int r))) 0 0 (fun _ => False) := by
  refine rq_ofW (cc := cX4_ofTowel) (maxL := 3) (ret := (some .int)) (by decide) rfl (Nat.le_of_ble_eq_true rfl) (fun p e s m args below meth c ls Q hx hb hml hts hfc hK hP hl hend => ?_)
  have hfc : s.vm.findClass RX4 = some m.cls := hfc
  have hl : lv_has ls 3 [(0, .ref a0), (1, .int x1), (2, .int x2)] := hl
  have h := hr
  clear hr
  unfold SX4_ofTowel at h
  refine lv_aload_n hx hb dX4_ofTowel_0 rfl (lv_at hl 0 rfl) ?_
  refine va_get (D := D) (ci := 8) (v := .ref a1) (C := RX4) (T := TX4) (N := 1) hx hb hts iX4_ofTowel_X4 hfc hK hP 0 rfl rfl 0 (by decide) (hts (.fieldLink RX4 16 "BathtubTides$Tub" "cells" "LBathtubTides$Row;") (List.mem_of_getElem? (i := 1) rfl)) (fun _ h9 => h9) rfl dX4_ofTowel_1 ?_
  refine lv_bipush (v := 45) hx hb dX4_ofTowel_4 (by decide) ?_
  refine lv_iload_n hx hb dX4_ofTowel_6 rfl (lv_at hl 1 rfl) ?_
  refine lv_iconst (v := 4) hx hb dX4_ofTowel_7 (by decide) ?_
  refine lv_imul hx hb dX4_ofTowel_8 ?_
  refine lv_iadd hx hb dX4_ofTowel_9 ?_
  refine lv_iload_n hx hb dX4_ofTowel_10 rfl (lv_at hl 2 rfl) ?_
  refine lv_iadd hx hb dX4_ofTowel_11 ?_
  refine rq_V (v := (some (.int (SX2_at 61 f ((45 + (x1 * 4)) + x2))))) (As := [.int ((45 + (x1 * 4)) + x2)]) (rest := []) (wc := [(a1, .inr (6, [.ref a2])), (a2, .inl (cA 0, 61, .inl f))]) ⟨hx, hb, hml, hfc, hts⟩ hK hP (kX2_at l D cA a1 a2 61 f ((45 + (x1 * 4)) + x2) (Nat.le_of_ble_eq_true rfl) rfl) (cwV 1 hts gX4_ofTowel_X2_at rfl rfl rfl (by decide +kernel) ⟨(Nat.le_of_ble_eq_true rfl), (Nat.le_of_ble_eq_true rfl)⟩) [1, 2] rfl 1 6 rfl rfl rfl rfl rfl rfl hl.1 (Nat.le_of_ble_eq_true rfl) dX4_ofTowel_12 ⟨(Nat.zero_le _), (Nat.zero_le _)⟩ ?_
  subst h
  exact hend _ _ _ _ rfl (rtn_i _) dX4_ofTowel_15
noncomputable def SX4_isPosition (x0 : Int32) : Int32 := if x0 < 0 then (0) else (if 12 ≤ x0 then (0) else (1))
abbrev RM_X4_isPosition : Room := { frames := 0, cells := 0, slots := 0, locals := 0 }
set_option maxHeartbeats 4000000 in
theorem kX4_isPosition (l : Launch) (D : va_G) (cA : Nat → ClassId) (x0 : Int32) {r : Int32} (hr : SX4_isPosition x0 = r) : Met l yX4_isPosition wsX4_isPosition RM_X4_isPosition (va_Pc [.int x0] (rqB D cA [])) (rqQ (some (.int r))) 0 0 (fun _ => False) := by
  refine rq_ofW (cc := cX4_isPosition) (maxL := 1) (ret := (some .boolean)) (by decide) rfl (Nat.le_of_ble_eq_true rfl) (fun p e s m args below meth c ls Q hx hb hml hts hfc hK hP hl hend => ?_)
  have hfc : s.vm.findClass RX4 = some m.cls := hfc
  have hl : lv_has ls 1 [(0, .int x0)] := hl
  have h := hr
  clear hr
  unfold SX4_isPosition at h
  refine lv_iload_n hx hb dX4_isPosition_0 rfl (lv_at hl 0 rfl) ?_
  refine lv_if_lt (tgt := 14) hx hb dX4_isPosition_1 (by decide) (fun c1 => ?_) (fun c1 => ?_)
  · have h := ite_t c1 h
    refine lv_iconst (v := 0) hx hb dX4_isPosition_14 (by decide) ?_
    subst h
    exact hend _ _ _ _ rfl (rtn_n (x := 0) rfl) dX4_isPosition_15
  · have h := ite_f c1 h
    refine lv_iload_n hx hb dX4_isPosition_4 rfl (lv_at hl 0 rfl) ?_
    refine lv_bipush (v := 12) hx hb dX4_isPosition_5 (by decide) ?_
    refine lv_icmp_ge (tgt := 14) hx hb dX4_isPosition_7 (by decide) (fun c2 => ?_) (fun c2 => ?_)
    · have h := ite_t c2 h
      refine lv_iconst (v := 0) hx hb dX4_isPosition_14 (by decide) ?_
      subst h
      exact hend _ _ _ _ rfl (rtn_n (x := 0) rfl) dX4_isPosition_15
    · have h := ite_f c2 h
      refine lv_iconst (v := 1) hx hb dX4_isPosition_10 (by decide) ?_
      refine lv_goto (tgt := 15) hx hb dX4_isPosition_11 (by decide) ?_
      subst h
      exact hend _ _ _ _ rfl (rtn_n (x := 1) rfl) dX4_isPosition_15
noncomputable def SX4_isMoonShape (x0 : Int32) (x1 : Int32) (x2 : Int32) : Int32 := if x0 < 1 then (0) else (if 6 < x0 then (0) else (if (SX4_isPosition x1) = 0 then (0) else (if x2 < 1 then (0) else (if 12 < x2 then (0) else (1)))))
abbrev RM_X4_isMoonShape : Room := { frames := 1, cells := 0, slots := 0, locals := 20 }
set_option maxHeartbeats 4000000 in
theorem kX4_isMoonShape (l : Launch) (D : va_G) (cA : Nat → ClassId) (x0 : Int32) (x1 : Int32) (x2 : Int32) {r : Int32} (hr : SX4_isMoonShape x0 x1 x2 = r) : Met l yX4_isMoonShape wsX4_isMoonShape RM_X4_isMoonShape (va_Pc [.int x0, .int x1, .int x2] (rqB D cA [])) (rqQ (some (.int r))) 0 0 (fun _ => False) := by
  refine rq_ofW (cc := cX4_isMoonShape) (maxL := 3) (ret := (some .boolean)) (by decide) rfl (Nat.le_of_ble_eq_true rfl) (fun p e s m args below meth c ls Q hx hb hml hts hfc hK hP hl hend => ?_)
  have hfc : s.vm.findClass RX4 = some m.cls := hfc
  have hl : lv_has ls 3 [(0, .int x0), (1, .int x1), (2, .int x2)] := hl
  have h := hr
  clear hr
  unfold SX4_isMoonShape at h
  refine lv_iload_n hx hb dX4_isMoonShape_0 rfl (lv_at hl 0 rfl) ?_
  refine lv_iconst (v := 1) hx hb dX4_isMoonShape_1 (by decide) ?_
  refine lv_icmp_lt (tgt := 33) hx hb dX4_isMoonShape_2 (by decide) (fun c1 => ?_) (fun c1 => ?_)
  · have h := ite_t c1 h
    refine lv_iconst (v := 0) hx hb dX4_isMoonShape_33 (by decide) ?_
    subst h
    exact hend _ _ _ _ rfl (rtn_n (x := 0) rfl) dX4_isMoonShape_34
  · have h := ite_f c1 h
    refine lv_iload_n hx hb dX4_isMoonShape_5 rfl (lv_at hl 0 rfl) ?_
    refine lv_bipush (v := 6) hx hb dX4_isMoonShape_6 (by decide) ?_
    refine lv_icmp_gt (tgt := 33) hx hb dX4_isMoonShape_8 (by decide) (fun c2 => ?_) (fun c2 => ?_)
    · have h := ite_t c2 h
      refine lv_iconst (v := 0) hx hb dX4_isMoonShape_33 (by decide) ?_
      subst h
      exact hend _ _ _ _ rfl (rtn_n (x := 0) rfl) dX4_isMoonShape_34
    · have h := ite_f c2 h
      refine lv_iload_n hx hb dX4_isMoonShape_11 rfl (lv_at hl 1 rfl) ?_
      refine rq_S (v := (some (.int (SX4_isPosition x1)))) (As := [.int x1]) (rest := []) (wc := []) ⟨hx, hb, hml, hfc, hts⟩ hK hP (kX4_isPosition l D cA x1 rfl) (va_cwS 1 hts gX4_isMoonShape_X4_isPosition rfl rfl rfl (by decide +kernel) ⟨(Nat.le_of_ble_eq_true rfl), (Nat.le_of_ble_eq_true rfl)⟩) [] rfl rfl rfl rfl hl.1 (Nat.le_of_ble_eq_true rfl) dX4_isMoonShape_12 ⟨(Nat.zero_le _), (Nat.zero_le _)⟩ ?_
      refine lv_if_eq (tgt := 33) hx hb dX4_isMoonShape_15 (by decide) (fun c3 => ?_) (fun c3 => ?_)
      · have h := ite_t c3 h
        refine lv_iconst (v := 0) hx hb dX4_isMoonShape_33 (by decide) ?_
        subst h
        exact hend _ _ _ _ rfl (rtn_n (x := 0) rfl) dX4_isMoonShape_34
      · have h := ite_f c3 h
        refine lv_iload_n hx hb dX4_isMoonShape_18 rfl (lv_at hl 2 rfl) ?_
        refine lv_iconst (v := 1) hx hb dX4_isMoonShape_19 (by decide) ?_
        refine lv_icmp_lt (tgt := 33) hx hb dX4_isMoonShape_20 (by decide) (fun c4 => ?_) (fun c4 => ?_)
        · have h := ite_t c4 h
          refine lv_iconst (v := 0) hx hb dX4_isMoonShape_33 (by decide) ?_
          subst h
          exact hend _ _ _ _ rfl (rtn_n (x := 0) rfl) dX4_isMoonShape_34
        · have h := ite_f c4 h
          refine lv_iload_n hx hb dX4_isMoonShape_23 rfl (lv_at hl 2 rfl) ?_
          refine lv_bipush (v := 12) hx hb dX4_isMoonShape_24 (by decide) ?_
          refine lv_icmp_gt (tgt := 33) hx hb dX4_isMoonShape_26 (by decide) (fun c5 => ?_) (fun c5 => ?_)
          · have h := ite_t c5 h
            refine lv_iconst (v := 0) hx hb dX4_isMoonShape_33 (by decide) ?_
            subst h
            exact hend _ _ _ _ rfl (rtn_n (x := 0) rfl) dX4_isMoonShape_34
          · have h := ite_f c5 h
            refine lv_iconst (v := 1) hx hb dX4_isMoonShape_29 (by decide) ?_
            refine lv_goto (tgt := 34) hx hb dX4_isMoonShape_30 (by decide) ?_
            subst h
            exact hend _ _ _ _ rfl (rtn_n (x := 1) rfl) dX4_isMoonShape_34
noncomputable def SX4_isHeight (x0 : Int32) : Int32 := if x0 < 0 then (0) else (if 60 < x0 then (0) else (1))
abbrev RM_X4_isHeight : Room := { frames := 0, cells := 0, slots := 0, locals := 0 }
set_option maxHeartbeats 4000000 in
theorem kX4_isHeight (l : Launch) (D : va_G) (cA : Nat → ClassId) (x0 : Int32) {r : Int32} (hr : SX4_isHeight x0 = r) : Met l yX4_isHeight wsX4_isHeight RM_X4_isHeight (va_Pc [.int x0] (rqB D cA [])) (rqQ (some (.int r))) 0 0 (fun _ => False) := by
  refine rq_ofW (cc := cX4_isHeight) (maxL := 1) (ret := (some .boolean)) (by decide) rfl (Nat.le_of_ble_eq_true rfl) (fun p e s m args below meth c ls Q hx hb hml hts hfc hK hP hl hend => ?_)
  have hfc : s.vm.findClass RX4 = some m.cls := hfc
  have hl : lv_has ls 1 [(0, .int x0)] := hl
  have h := hr
  clear hr
  unfold SX4_isHeight at h
  refine lv_iload_n hx hb dX4_isHeight_0 rfl (lv_at hl 0 rfl) ?_
  refine lv_if_lt (tgt := 14) hx hb dX4_isHeight_1 (by decide) (fun c1 => ?_) (fun c1 => ?_)
  · have h := ite_t c1 h
    refine lv_iconst (v := 0) hx hb dX4_isHeight_14 (by decide) ?_
    subst h
    exact hend _ _ _ _ rfl (rtn_n (x := 0) rfl) dX4_isHeight_15
  · have h := ite_f c1 h
    refine lv_iload_n hx hb dX4_isHeight_4 rfl (lv_at hl 0 rfl) ?_
    refine lv_bipush (v := 60) hx hb dX4_isHeight_5 (by decide) ?_
    refine lv_icmp_gt (tgt := 14) hx hb dX4_isHeight_7 (by decide) (fun c2 => ?_) (fun c2 => ?_)
    · have h := ite_t c2 h
      refine lv_iconst (v := 0) hx hb dX4_isHeight_14 (by decide) ?_
      subst h
      exact hend _ _ _ _ rfl (rtn_n (x := 0) rfl) dX4_isHeight_15
    · have h := ite_f c2 h
      refine lv_iconst (v := 1) hx hb dX4_isHeight_10 (by decide) ?_
      refine lv_goto (tgt := 15) hx hb dX4_isHeight_11 (by decide) ?_
      subst h
      exact hend _ _ _ _ rfl (rtn_n (x := 1) rfl) dX4_isHeight_15
noncomputable def SX4_isFlow (x0 : Int32) : Int32 := if x0 < (-3) then (0) else (if 3 < x0 then (0) else (1))
abbrev RM_X4_isFlow : Room := { frames := 0, cells := 0, slots := 0, locals := 0 }
set_option maxHeartbeats 4000000 in
theorem kX4_isFlow (l : Launch) (D : va_G) (cA : Nat → ClassId) (x0 : Int32) {r : Int32} (hr : SX4_isFlow x0 = r) : Met l yX4_isFlow wsX4_isFlow RM_X4_isFlow (va_Pc [.int x0] (rqB D cA [])) (rqQ (some (.int r))) 0 0 (fun _ => False) := by
  refine rq_ofW (cc := cX4_isFlow) (maxL := 1) (ret := (some .boolean)) (by decide) rfl (Nat.le_of_ble_eq_true rfl) (fun p e s m args below meth c ls Q hx hb hml hts hfc hK hP hl hend => ?_)
  have hfc : s.vm.findClass RX4 = some m.cls := hfc
  have hl : lv_has ls 1 [(0, .int x0)] := hl
  have h := hr
  clear hr
  unfold SX4_isFlow at h
  refine lv_iload_n hx hb dX4_isFlow_0 rfl (lv_at hl 0 rfl) ?_
  refine lv_bipush (v := (-3)) hx hb dX4_isFlow_1 (by decide) ?_
  refine lv_icmp_lt (tgt := 15) hx hb dX4_isFlow_3 (by decide) (fun c1 => ?_) (fun c1 => ?_)
  · have h := ite_t c1 h
    refine lv_iconst (v := 0) hx hb dX4_isFlow_15 (by decide) ?_
    subst h
    exact hend _ _ _ _ rfl (rtn_n (x := 0) rfl) dX4_isFlow_16
  · have h := ite_f c1 h
    refine lv_iload_n hx hb dX4_isFlow_6 rfl (lv_at hl 0 rfl) ?_
    refine lv_iconst (v := 3) hx hb dX4_isFlow_7 (by decide) ?_
    refine lv_icmp_gt (tgt := 15) hx hb dX4_isFlow_8 (by decide) (fun c2 => ?_) (fun c2 => ?_)
    · have h := ite_t c2 h
      refine lv_iconst (v := 0) hx hb dX4_isFlow_15 (by decide) ?_
      subst h
      exact hend _ _ _ _ rfl (rtn_n (x := 0) rfl) dX4_isFlow_16
    · have h := ite_f c2 h
      refine lv_iconst (v := 1) hx hb dX4_isFlow_11 (by decide) ?_
      refine lv_goto (tgt := 16) hx hb dX4_isFlow_12 (by decide) ?_
      subst h
      exact hend _ _ _ _ rfl (rtn_n (x := 1) rfl) dX4_isFlow_16
noncomputable def SX4_isWait (x0 : Int32) : Int32 := if x0 < 1 then (0) else (if 60 < x0 then (0) else (1))
abbrev RM_X4_isWait : Room := { frames := 0, cells := 0, slots := 0, locals := 0 }
set_option maxHeartbeats 4000000 in
theorem kX4_isWait (l : Launch) (D : va_G) (cA : Nat → ClassId) (x0 : Int32) {r : Int32} (hr : SX4_isWait x0 = r) : Met l yX4_isWait wsX4_isWait RM_X4_isWait (va_Pc [.int x0] (rqB D cA [])) (rqQ (some (.int r))) 0 0 (fun _ => False) := by
  refine rq_ofW (cc := cX4_isWait) (maxL := 1) (ret := (some .boolean)) (by decide) rfl (Nat.le_of_ble_eq_true rfl) (fun p e s m args below meth c ls Q hx hb hml hts hfc hK hP hl hend => ?_)
  have hfc : s.vm.findClass RX4 = some m.cls := hfc
  have hl : lv_has ls 1 [(0, .int x0)] := hl
  have h := hr
  clear hr
  unfold SX4_isWait at h
  refine lv_iload_n hx hb dX4_isWait_0 rfl (lv_at hl 0 rfl) ?_
  refine lv_iconst (v := 1) hx hb dX4_isWait_1 (by decide) ?_
  refine lv_icmp_lt (tgt := 15) hx hb dX4_isWait_2 (by decide) (fun c1 => ?_) (fun c1 => ?_)
  · have h := ite_t c1 h
    refine lv_iconst (v := 0) hx hb dX4_isWait_15 (by decide) ?_
    subst h
    exact hend _ _ _ _ rfl (rtn_n (x := 0) rfl) dX4_isWait_16
  · have h := ite_f c1 h
    refine lv_iload_n hx hb dX4_isWait_5 rfl (lv_at hl 0 rfl) ?_
    refine lv_bipush (v := 60) hx hb dX4_isWait_6 (by decide) ?_
    refine lv_icmp_gt (tgt := 15) hx hb dX4_isWait_8 (by decide) (fun c2 => ?_) (fun c2 => ?_)
    · have h := ite_t c2 h
      refine lv_iconst (v := 0) hx hb dX4_isWait_15 (by decide) ?_
      subst h
      exact hend _ _ _ _ rfl (rtn_n (x := 0) rfl) dX4_isWait_16
    · have h := ite_f c2 h
      refine lv_iconst (v := 1) hx hb dX4_isWait_11 (by decide) ?_
      refine lv_goto (tgt := 16) hx hb dX4_isWait_12 (by decide) ?_
      subst h
      exact hend _ _ _ _ rfl (rtn_n (x := 1) rfl) dX4_isWait_16
noncomputable def SX4_distance (x0 : Int32) (x1 : Int32) : Int32 := imin (iabs (x0 - x1)) (12 - (iabs (x0 - x1)))
abbrev RM_X4_distance : Room := { frames := 1, cells := 0, slots := 0, locals := 13 }
set_option maxHeartbeats 4000000 in
theorem kX4_distance (l : Launch) (D : va_G) (cA : Nat → ClassId) (x0 : Int32) (x1 : Int32) {r : Int32} (hr : SX4_distance x0 x1 = r) : Met l yX4_distance wsX4_distance RM_X4_distance (va_Pc [.int x0, .int x1] (rqB D cA [])) (rqQ (some (.int r))) 0 0 (fun _ => False) := by
  refine rq_ofW (cc := cX4_distance) (maxL := 3) (ret := (some .int)) (by decide) rfl (Nat.le_of_ble_eq_true rfl) (fun p e s m args below meth c ls Q hx hb hml hts hfc hK hP hl hend => ?_)
  have hfc : s.vm.findClass RX4 = some m.cls := hfc
  have hl : lv_has ls 3 [(0, .int x0), (1, .int x1)] := hl
  have h := hr
  clear hr
  unfold SX4_distance at h
  refine lv_iload_n hx hb dX4_distance_0 rfl (lv_at hl 0 rfl) ?_
  refine lv_iload_n hx hb dX4_distance_1 rfl (lv_at hl 1 rfl) ?_
  refine lv_isub hx hb dX4_distance_2 ?_
  refine va_mabs hx hb (hml.trans hl.1.symm) hfc (hts (.methodLink RX4 142 Lib.Math.abs.name) (List.mem_of_getElem? (i := 1) rfl)) (hts (.static Lib.Math.abs.name) (List.mem_of_getElem? (i := 2) rfl)) (hts (.initialized "java/lang/Math") (List.mem_of_getElem? (i := 3) rfl)) (hts (.code Lib.Math.abs.name Lib.Math.abs.code 1 (some .int)) (List.mem_of_getElem? (i := 4) rfl)) (Nat.le_of_ble_eq_true rfl) (Nat.le_of_ble_eq_true rfl) (Nat.zero_le _) (Nat.zero_le _) dX4_distance_3 ?_
  refine lv_istore_n hx hb dX4_distance_6 rfl hl (Nat.le_of_ble_eq_true rfl) rfl (fun ls hl => ?_)
  have hl : lv_has ls 3 [(2, .int (iabs (x0 - x1))), (0, .int x0), (1, .int x1)] := hl
  refine lv_iload_n hx hb dX4_distance_7 rfl (lv_at hl 0 rfl) ?_
  refine lv_bipush (v := 12) hx hb dX4_distance_8 (by decide) ?_
  refine lv_iload_n hx hb dX4_distance_10 rfl (lv_at hl 0 rfl) ?_
  refine lv_isub hx hb dX4_distance_11 ?_
  refine va_mmin hx hb (hml.trans hl.1.symm) hfc (hts (.methodLink RX4 136 Lib.Math.min.name) (List.mem_of_getElem? (i := 5) rfl)) (hts (.static Lib.Math.min.name) (List.mem_of_getElem? (i := 6) rfl)) (hts (.initialized "java/lang/Math") (List.mem_of_getElem? (i := 3) rfl)) (hts (.code Lib.Math.min.name Lib.Math.min.code 2 (some .int)) (List.mem_of_getElem? (i := 7) rfl)) (Nat.le_of_ble_eq_true rfl) (Nat.le_of_ble_eq_true rfl) (Nat.zero_le _) (Nat.zero_le _) dX4_distance_12 ?_
  subst h
  exact hend _ _ _ _ rfl (rtn_i _) dX4_distance_15
noncomputable def SX4_isToeAt (f : Nat → Int32) (x1 : Int32) : Int32 := if (SX4_isPosition x1) = 0 then (0) else (if (SX2_at 61 f (8 + x1)) = 1 then (1) else (0))
theorem iX4_isToeAt_X4 : ∀ w ∈ wsX40, w ∈ wsX4_isToeAt := fun _ h => List.mem_cons_of_mem _ (List.mem_append_left _ (List.mem_append_left _ (List.mem_append_right _ h)))
abbrev RM_X4_isToeAt : Room := { frames := 1, cells := 0, slots := 0, locals := 21 }
set_option maxHeartbeats 4000000 in
theorem kX4_isToeAt (l : Launch) (D : va_G) (cA : Nat → ClassId) (a0 a1 a2 : Nat) (f : Nat → Int32) (x1 : Int32) {r : Int32} (hr : SX4_isToeAt f x1 = r) : Met l yX4_isToeAt wsX4_isToeAt RM_X4_isToeAt (va_Pc [.ref a0, .int x1] (rqB D cA [(a0, .inr (8, [.ref a1])), (a1, .inr (6, [.ref a2])), (a2, .inl (cA 0, 61, .inl f))])) (rqQ (some (.int r))) 0 0 (fun _ => False) := by
  refine rq_ofW (cc := cX4_isToeAt) (maxL := 2) (ret := (some .boolean)) (by decide) rfl (Nat.le_of_ble_eq_true rfl) (fun p e s m args below meth c ls Q hx hb hml hts hfc hK hP hl hend => ?_)
  have hfc : s.vm.findClass RX4 = some m.cls := hfc
  have hl : lv_has ls 2 [(0, .ref a0), (1, .int x1)] := hl
  have h := hr
  clear hr
  unfold SX4_isToeAt at h
  refine lv_iload_n hx hb dX4_isToeAt_0 rfl (lv_at hl 1 rfl) ?_
  refine rq_S (v := (some (.int (SX4_isPosition x1)))) (As := [.int x1]) (rest := []) (wc := []) ⟨hx, hb, hml, hfc, hts⟩ hK hP (kX4_isPosition l D cA x1 rfl) (va_cwS 1 hts gX4_isToeAt_X4_isPosition rfl rfl rfl (by decide +kernel) ⟨(Nat.le_of_ble_eq_true rfl), (Nat.le_of_ble_eq_true rfl)⟩) [] rfl rfl rfl rfl hl.1 (Nat.le_of_ble_eq_true rfl) dX4_isToeAt_1 ⟨(Nat.zero_le _), (Nat.zero_le _)⟩ ?_
  refine lv_if_eq (tgt := 26) hx hb dX4_isToeAt_4 (by decide) (fun c1 => ?_) (fun c1 => ?_)
  · have h := ite_t c1 h
    refine lv_iconst (v := 0) hx hb dX4_isToeAt_26 (by decide) ?_
    subst h
    exact hend _ _ _ _ rfl (rtn_n (x := 0) rfl) dX4_isToeAt_27
  · have h := ite_f c1 h
    refine lv_aload_n hx hb dX4_isToeAt_7 rfl (lv_at hl 0 rfl) ?_
    refine va_get (D := D) (ci := 8) (v := .ref a1) (C := RX4) (T := TX4) (N := 1) hx hb hts iX4_isToeAt_X4 hfc hK hP 0 rfl rfl 0 (by decide) (hts (.fieldLink RX4 16 "BathtubTides$Tub" "cells" "LBathtubTides$Row;") (List.mem_of_getElem? (i := 1) rfl)) (fun _ h9 => h9) rfl dX4_isToeAt_8 ?_
    refine lv_bipush (v := 8) hx hb dX4_isToeAt_11 (by decide) ?_
    refine lv_iload_n hx hb dX4_isToeAt_13 rfl (lv_at hl 1 rfl) ?_
    refine lv_iadd hx hb dX4_isToeAt_14 ?_
    refine rq_V (v := (some (.int (SX2_at 61 f (8 + x1))))) (As := [.int (8 + x1)]) (rest := []) (wc := [(a1, .inr (6, [.ref a2])), (a2, .inl (cA 0, 61, .inl f))]) ⟨hx, hb, hml, hfc, hts⟩ hK hP (kX2_at l D cA a1 a2 61 f (8 + x1) (Nat.le_of_ble_eq_true rfl) rfl) (cwV 1 hts gX4_isToeAt_X2_at rfl rfl rfl (by decide +kernel) ⟨(Nat.le_of_ble_eq_true rfl), (Nat.le_of_ble_eq_true rfl)⟩) [1, 2] rfl 1 6 rfl rfl rfl rfl rfl rfl hl.1 (Nat.le_of_ble_eq_true rfl) dX4_isToeAt_15 ⟨(Nat.zero_le _), (Nat.zero_le _)⟩ ?_
    refine lv_iconst (v := 1) hx hb dX4_isToeAt_18 (by decide) ?_
    refine lv_icmp_ne (tgt := 26) hx hb dX4_isToeAt_19 (by decide) (fun c2 => ?_) (fun c2 => ?_)
    · have h := ite_f c2 h
      refine lv_iconst (v := 0) hx hb dX4_isToeAt_26 (by decide) ?_
      subst h
      exact hend _ _ _ _ rfl (rtn_n (x := 0) rfl) dX4_isToeAt_27
    · have h := ite_t c2 h
      refine lv_iconst (v := 1) hx hb dX4_isToeAt_22 (by decide) ?_
      refine lv_goto (tgt := 27) hx hb dX4_isToeAt_23 (by decide) ?_
      subst h
      exact hend _ _ _ _ rfl (rtn_n (x := 1) rfl) dX4_isToeAt_27
noncomputable def LX4_toes_4 (f : Nat → Int32) : Nat → Int32 → Int32 → Option (Int32)
  | 0, _, _ => none
  | fu + 1, x1_4, x2_4 => if 12 ≤ x2_4 then (some (x1_4)) else (lt_ (x1_4 + (SX2_at 61 f (8 + x2_4))) (fun t2 : Int32 => LX4_toes_4 f fu t2 (x2_4 + 1)))
noncomputable def SX4_toes (N : Nat) (f : Nat → Int32) : Option (Int32) := LX4_toes_4 f N 0 0
theorem iX4_toes_X4 : ∀ w ∈ wsX40, w ∈ wsX4_toes := fun _ h => List.mem_cons_of_mem _ (List.mem_append_left _ (List.mem_append_left _ (List.mem_append_right _ h)))
abbrev RM_X4_toes : Room := { frames := 1, cells := 0, slots := 0, locals := 22 }
set_option maxHeartbeats 4000000 in
theorem kX4_toes (l : Launch) (D : va_G) (cA : Nat → ClassId) (a0 a1 a2 : Nat) (N : Nat) (f : Nat → Int32) {r : Int32} (hr : SX4_toes N f = some r) : Met l yX4_toes wsX4_toes RM_X4_toes (va_Pc [.ref a0] (rqB D cA [(a0, .inr (8, [.ref a1])), (a1, .inr (6, [.ref a2])), (a2, .inl (cA 0, 61, .inl f))])) (rqQ (some (.int r))) 0 0 (fun _ => False) := by
  refine rq_ofW (cc := cX4_toes) (maxL := 3) (ret := (some .int)) (by decide) rfl (Nat.le_of_ble_eq_true rfl) (fun p e s m args below meth c ls Q hx hb hml hts hfc hK hP hl hend => ?_)
  have hfc : s.vm.findClass RX4 = some m.cls := hfc
  have hl : lv_has ls 3 [(0, .ref a0)] := hl
  have h := hr
  clear hr
  unfold SX4_toes at h
  refine lv_iconst (v := 0) hx hb dX4_toes_0 (by decide) ?_
  refine lv_istore_n hx hb dX4_toes_1 rfl hl (Nat.le_of_ble_eq_true rfl) rfl (fun ls hl => ?_)
  have hl : lv_has ls 3 [(1, .int 0), (0, .ref a0)] := hl
  refine lv_iconst (v := 0) hx hb dX4_toes_2 (by decide) ?_
  refine lv_istore_n hx hb dX4_toes_3 rfl hl (Nat.le_of_ble_eq_true rfl) rfl (fun ls hl => ?_)
  have hl : lv_has ls 3 [(2, .int 0), (1, .int 0), (0, .ref a0)] := hl
  have hLX4_toes_4 : ∀ (fu : Nat) (x1_4 : Int32) (x2_4 : Int32) (ls : Array Slot), lv_has ls 3 [(0, .ref a0), (1, .int x1_4), (2, .int x2_4)] → LX4_toes_4 f fu x1_4 x2_4 = some r → W p l e RM_X4_toes s m args below meth c s.heap [] 0 0 Q (F0 m 4 ls []) := by
    intro fu
    induction fu with
    | zero =>
      intro x1_4 x2_4 ls hl h
      rw [LX4_toes_4] at h
      exact nn h
    | succ fu ih =>
      intro x1_4 x2_4 ls hl h
      rw [LX4_toes_4] at h
      refine lv_iload_n hx hb dX4_toes_4 rfl (lv_at hl 2 rfl) ?_
      refine lv_bipush (v := 12) hx hb dX4_toes_5 (by decide) ?_
      refine lv_icmp_ge (tgt := 30) hx hb dX4_toes_7 (by decide) (fun c1 => ?_) (fun c1 => ?_)
      · have h := ite_t c1 h
        refine lv_iload_n hx hb dX4_toes_30 rfl (lv_at hl 1 rfl) ?_
        have h := Option.some.inj h
        subst h
        exact hend _ _ _ _ rfl (rtn_i _) dX4_toes_31
      · have h := ite_f c1 h
        refine lv_iload_n hx hb dX4_toes_10 rfl (lv_at hl 1 rfl) ?_
        refine lv_aload_n hx hb dX4_toes_11 rfl (lv_at hl 0 rfl) ?_
        refine va_get (D := D) (ci := 8) (v := .ref a1) (C := RX4) (T := TX4) (N := 1) hx hb hts iX4_toes_X4 hfc hK hP 0 rfl rfl 0 (by decide) (hts (.fieldLink RX4 16 "BathtubTides$Tub" "cells" "LBathtubTides$Row;") (List.mem_of_getElem? (i := 1) rfl)) (fun _ h9 => h9) rfl dX4_toes_12 ?_
        refine lv_bipush (v := 8) hx hb dX4_toes_15 (by decide) ?_
        refine lv_iload_n hx hb dX4_toes_17 rfl (lv_at hl 2 rfl) ?_
        refine lv_iadd hx hb dX4_toes_18 ?_
        refine rq_V (v := (some (.int (SX2_at 61 f (8 + x2_4))))) (As := [.int (8 + x2_4)]) (rest := [.int x1_4]) (wc := [(a1, .inr (6, [.ref a2])), (a2, .inl (cA 0, 61, .inl f))]) ⟨hx, hb, hml, hfc, hts⟩ hK hP (kX2_at l D cA a1 a2 61 f (8 + x2_4) (Nat.le_of_ble_eq_true rfl) rfl) (cwV 1 hts gX4_toes_X2_at rfl rfl rfl (by decide +kernel) ⟨(Nat.le_of_ble_eq_true rfl), (Nat.le_of_ble_eq_true rfl)⟩) [1, 2] rfl 1 6 rfl rfl rfl rfl rfl rfl hl.1 (Nat.le_of_ble_eq_true rfl) dX4_toes_19 ⟨(Nat.zero_le _), (Nat.zero_le _)⟩ ?_
        refine lv_iadd hx hb dX4_toes_22 ?_
        refine lv_topi (fun t2 et2 => ?_)
        have h := lt_e h _ et2
        refine lv_istore_n hx hb dX4_toes_23 rfl hl (Nat.le_of_ble_eq_true rfl) rfl (fun ls hl => ?_)
        have hl : lv_has ls 3 [(1, .int t2), (0, .ref a0), (2, .int x2_4)] := hl
        refine lv_iinc (k := 2) (v := x2_4 + 1) hx hb dX4_toes_24 hl rfl (congrArg (fun z => x2_4 + z) lit1) (Nat.le_of_ble_eq_true rfl) rfl (fun ls hl => ?_)
        have hl : lv_has ls 3 [(2, .int (x2_4 + 1)), (1, .int t2), (0, .ref a0)] := hl
        refine lv_goto (tgt := 4) hx hb dX4_toes_27 (by decide) ?_
        exact ih t2 (x2_4 + 1) _ (lv_sub hl [2, 1, 0] rfl) h
  exact hLX4_toes_4 N 0 0 _ (lv_sub hl [2, 1, 0] rfl) h
noncomputable def LX4_isTowelAt_2 (f : Nat → Int32) (x1 : Int32) : Nat → Int32 → Option (Int32)
  | 0, _ => none
  | fu + 1, x2_2 => if (SX4_towels f) ≤ x2_2 then (some (0)) else (if (SX4_ofTowel f x2_2 0) = x1 then (some (1)) else (LX4_isTowelAt_2 f x1 fu (x2_2 + 1)))
noncomputable def SX4_isTowelAt (N : Nat) (f : Nat → Int32) (x1 : Int32) : Option (Int32) := LX4_isTowelAt_2 f x1 N 0
abbrev RM_X4_isTowelAt : Room := { frames := 2, cells := 0, slots := 0, locals := 43 }
set_option maxHeartbeats 4000000 in
theorem kX4_isTowelAt (l : Launch) (D : va_G) (cA : Nat → ClassId) (a0 a1 a2 : Nat) (N : Nat) (f : Nat → Int32) (x1 : Int32) {r : Int32} (hr : SX4_isTowelAt N f x1 = some r) : Met l yX4_isTowelAt wsX4_isTowelAt RM_X4_isTowelAt (va_Pc [.ref a0, .int x1] (rqB D cA [(a0, .inr (8, [.ref a1])), (a1, .inr (6, [.ref a2])), (a2, .inl (cA 0, 61, .inl f))])) (rqQ (some (.int r))) 0 0 (fun _ => False) := by
  refine rq_ofW (cc := cX4_isTowelAt) (maxL := 3) (ret := (some .boolean)) (by decide) rfl (Nat.le_of_ble_eq_true rfl) (fun p e s m args below meth c ls Q hx hb hml hts hfc hK hP hl hend => ?_)
  have hfc : s.vm.findClass RX4 = some m.cls := hfc
  have hl : lv_has ls 3 [(0, .ref a0), (1, .int x1)] := hl
  have h := hr
  clear hr
  unfold SX4_isTowelAt at h
  refine lv_iconst (v := 0) hx hb dX4_isTowelAt_0 (by decide) ?_
  refine lv_istore_n hx hb dX4_isTowelAt_1 rfl hl (Nat.le_of_ble_eq_true rfl) rfl (fun ls hl => ?_)
  have hl : lv_has ls 3 [(2, .int 0), (0, .ref a0), (1, .int x1)] := hl
  have hLX4_isTowelAt_2 : ∀ (fu : Nat) (x2_2 : Int32) (ls : Array Slot), lv_has ls 3 [(0, .ref a0), (1, .int x1), (2, .int x2_2)] → LX4_isTowelAt_2 f x1 fu x2_2 = some r → W p l e RM_X4_isTowelAt s m args below meth c s.heap [] 0 0 Q (F0 m 2 ls []) := by
    intro fu
    induction fu with
    | zero =>
      intro x2_2 ls hl h
      rw [LX4_isTowelAt_2] at h
      exact nn h
    | succ fu ih =>
      intro x2_2 ls hl h
      rw [LX4_isTowelAt_2] at h
      refine lv_iload_n hx hb dX4_isTowelAt_2 rfl (lv_at hl 2 rfl) ?_
      refine lv_aload_n hx hb dX4_isTowelAt_3 rfl (lv_at hl 0 rfl) ?_
      refine rq_V (v := (some (.int (SX4_towels f)))) (As := []) (rest := [.int x2_2]) (wc := [(a0, .inr (8, [.ref a1])), (a1, .inr (6, [.ref a2])), (a2, .inl (cA 0, 61, .inl f))]) ⟨hx, hb, hml, hfc, hts⟩ hK hP (kX4_towels l D cA a0 a1 a2 f rfl) (cwV 0 hts gX4_isTowelAt_X4_towels rfl rfl rfl (by decide +kernel) ⟨(Nat.le_of_ble_eq_true rfl), (Nat.le_of_ble_eq_true rfl)⟩) [0, 1, 2] rfl 0 8 rfl rfl rfl rfl rfl rfl hl.1 (Nat.le_of_ble_eq_true rfl) dX4_isTowelAt_4 ⟨(Nat.zero_le _), (Nat.zero_le _)⟩ ?_
      refine lv_icmp_ge (tgt := 28) hx hb dX4_isTowelAt_7 (by decide) (fun c1 => ?_) (fun c1 => ?_)
      · have h := ite_t c1 h
        refine lv_iconst (v := 0) hx hb dX4_isTowelAt_28 (by decide) ?_
        have h := Option.some.inj h
        subst h
        exact hend _ _ _ _ rfl (rtn_n (x := 0) rfl) dX4_isTowelAt_29
      · have h := ite_f c1 h
        refine lv_aload_n hx hb dX4_isTowelAt_10 rfl (lv_at hl 0 rfl) ?_
        refine lv_iload_n hx hb dX4_isTowelAt_11 rfl (lv_at hl 2 rfl) ?_
        refine lv_iconst (v := 0) hx hb dX4_isTowelAt_12 (by decide) ?_
        refine rq_V (v := (some (.int (SX4_ofTowel f x2_2 0)))) (As := [.int x2_2, .int 0]) (rest := []) (wc := [(a0, .inr (8, [.ref a1])), (a1, .inr (6, [.ref a2])), (a2, .inl (cA 0, 61, .inl f))]) ⟨hx, hb, hml, hfc, hts⟩ hK hP (kX4_ofTowel l D cA a0 a1 a2 f x2_2 0 rfl) (cwV 2 hts gX4_isTowelAt_X4_ofTowel rfl rfl rfl (by decide +kernel) ⟨(Nat.le_of_ble_eq_true rfl), (Nat.le_of_ble_eq_true rfl)⟩) [0, 1, 2] rfl 0 8 rfl rfl rfl rfl rfl rfl hl.1 (Nat.le_of_ble_eq_true rfl) dX4_isTowelAt_13 ⟨(Nat.zero_le _), (Nat.zero_le _)⟩ ?_
        refine lv_iload_n hx hb dX4_isTowelAt_16 rfl (lv_at hl 1 rfl) ?_
        refine lv_icmp_ne (tgt := 22) hx hb dX4_isTowelAt_17 (by decide) (fun c2 => ?_) (fun c2 => ?_)
        · have h := ite_f c2 h
          refine lv_iinc (k := 2) (v := x2_2 + 1) hx hb dX4_isTowelAt_22 hl rfl (congrArg (fun z => x2_2 + z) lit1) (Nat.le_of_ble_eq_true rfl) rfl (fun ls hl => ?_)
          have hl : lv_has ls 3 [(2, .int (x2_2 + 1)), (0, .ref a0), (1, .int x1)] := hl
          refine lv_goto (tgt := 2) hx hb dX4_isTowelAt_25 (by decide) ?_
          exact ih (x2_2 + 1) _ (lv_sub hl [1, 2, 0] rfl) h
        · have h := ite_t c2 h
          refine lv_iconst (v := 1) hx hb dX4_isTowelAt_20 (by decide) ?_
          have h := Option.some.inj h
          subst h
          exact hend _ _ _ _ rfl (rtn_n (x := 1) rfl) dX4_isTowelAt_21
  exact hLX4_isTowelAt_2 N 0 _ (lv_sub hl [1, 2, 0] rfl) h
noncomputable def SX4_isMoon (f : Nat → Int32) (x1 : Int32) : Int32 := if x1 < 0 then (0) else (if (SX4_moons f) ≤ x1 then (0) else (1))
abbrev RM_X4_isMoon : Room := { frames := 2, cells := 0, slots := 0, locals := 42 }
set_option maxHeartbeats 4000000 in
theorem kX4_isMoon (l : Launch) (D : va_G) (cA : Nat → ClassId) (a0 a1 a2 : Nat) (f : Nat → Int32) (x1 : Int32) {r : Int32} (hr : SX4_isMoon f x1 = r) : Met l yX4_isMoon wsX4_isMoon RM_X4_isMoon (va_Pc [.ref a0, .int x1] (rqB D cA [(a0, .inr (8, [.ref a1])), (a1, .inr (6, [.ref a2])), (a2, .inl (cA 0, 61, .inl f))])) (rqQ (some (.int r))) 0 0 (fun _ => False) := by
  refine rq_ofW (cc := cX4_isMoon) (maxL := 2) (ret := (some .boolean)) (by decide) rfl (Nat.le_of_ble_eq_true rfl) (fun p e s m args below meth c ls Q hx hb hml hts hfc hK hP hl hend => ?_)
  have hfc : s.vm.findClass RX4 = some m.cls := hfc
  have hl : lv_has ls 2 [(0, .ref a0), (1, .int x1)] := hl
  have h := hr
  clear hr
  unfold SX4_isMoon at h
  refine lv_iload_n hx hb dX4_isMoon_0 rfl (lv_at hl 1 rfl) ?_
  refine lv_if_lt (tgt := 16) hx hb dX4_isMoon_1 (by decide) (fun c1 => ?_) (fun c1 => ?_)
  · have h := ite_t c1 h
    refine lv_iconst (v := 0) hx hb dX4_isMoon_16 (by decide) ?_
    subst h
    exact hend _ _ _ _ rfl (rtn_n (x := 0) rfl) dX4_isMoon_17
  · have h := ite_f c1 h
    refine lv_iload_n hx hb dX4_isMoon_4 rfl (lv_at hl 1 rfl) ?_
    refine lv_aload_n hx hb dX4_isMoon_5 rfl (lv_at hl 0 rfl) ?_
    refine rq_V (v := (some (.int (SX4_moons f)))) (As := []) (rest := [.int x1]) (wc := [(a0, .inr (8, [.ref a1])), (a1, .inr (6, [.ref a2])), (a2, .inl (cA 0, 61, .inl f))]) ⟨hx, hb, hml, hfc, hts⟩ hK hP (kX4_moons l D cA a0 a1 a2 f rfl) (cwV 0 hts gX4_isMoon_X4_moons rfl rfl rfl (by decide +kernel) ⟨(Nat.le_of_ble_eq_true rfl), (Nat.le_of_ble_eq_true rfl)⟩) [0, 1, 2] rfl 0 8 rfl rfl rfl rfl rfl rfl hl.1 (Nat.le_of_ble_eq_true rfl) dX4_isMoon_6 ⟨(Nat.zero_le _), (Nat.zero_le _)⟩ ?_
    refine lv_icmp_ge (tgt := 16) hx hb dX4_isMoon_9 (by decide) (fun c2 => ?_) (fun c2 => ?_)
    · have h := ite_t c2 h
      refine lv_iconst (v := 0) hx hb dX4_isMoon_16 (by decide) ?_
      subst h
      exact hend _ _ _ _ rfl (rtn_n (x := 0) rfl) dX4_isMoon_17
    · have h := ite_f c2 h
      refine lv_iconst (v := 1) hx hb dX4_isMoon_12 (by decide) ?_
      refine lv_goto (tgt := 17) hx hb dX4_isMoon_13 (by decide) ?_
      subst h
      exact hend _ _ _ _ rfl (rtn_n (x := 1) rfl) dX4_isMoon_17
noncomputable def SX4_hasMoonRoom (f : Nat → Int32) : Int32 := if 5 ≤ (SX4_moons f) then (0) else (1)
abbrev RM_X4_hasMoonRoom : Room := { frames := 2, cells := 0, slots := 0, locals := 41 }
set_option maxHeartbeats 4000000 in
theorem kX4_hasMoonRoom (l : Launch) (D : va_G) (cA : Nat → ClassId) (a0 a1 a2 : Nat) (f : Nat → Int32) {r : Int32} (hr : SX4_hasMoonRoom f = r) : Met l yX4_hasMoonRoom wsX4_hasMoonRoom RM_X4_hasMoonRoom (va_Pc [.ref a0] (rqB D cA [(a0, .inr (8, [.ref a1])), (a1, .inr (6, [.ref a2])), (a2, .inl (cA 0, 61, .inl f))])) (rqQ (some (.int r))) 0 0 (fun _ => False) := by
  refine rq_ofW (cc := cX4_hasMoonRoom) (maxL := 1) (ret := (some .boolean)) (by decide) rfl (Nat.le_of_ble_eq_true rfl) (fun p e s m args below meth c ls Q hx hb hml hts hfc hK hP hl hend => ?_)
  have hfc : s.vm.findClass RX4 = some m.cls := hfc
  have hl : lv_has ls 1 [(0, .ref a0)] := hl
  have h := hr
  clear hr
  unfold SX4_hasMoonRoom at h
  refine lv_aload_n hx hb dX4_hasMoonRoom_0 rfl (lv_at hl 0 rfl) ?_
  refine rq_V (v := (some (.int (SX4_moons f)))) (As := []) (rest := []) (wc := [(a0, .inr (8, [.ref a1])), (a1, .inr (6, [.ref a2])), (a2, .inl (cA 0, 61, .inl f))]) ⟨hx, hb, hml, hfc, hts⟩ hK hP (kX4_moons l D cA a0 a1 a2 f rfl) (cwV 0 hts gX4_hasMoonRoom_X4_moons rfl rfl rfl (by decide +kernel) ⟨(Nat.le_of_ble_eq_true rfl), (Nat.le_of_ble_eq_true rfl)⟩) [0, 1, 2] rfl 0 8 rfl rfl rfl rfl rfl rfl hl.1 (Nat.le_of_ble_eq_true rfl) dX4_hasMoonRoom_1 ⟨(Nat.zero_le _), (Nat.zero_le _)⟩ ?_
  refine lv_iconst (v := 5) hx hb dX4_hasMoonRoom_4 (by decide) ?_
  refine lv_icmp_ge (tgt := 12) hx hb dX4_hasMoonRoom_5 (by decide) (fun c1 => ?_) (fun c1 => ?_)
  · have h := ite_t c1 h
    refine lv_iconst (v := 0) hx hb dX4_hasMoonRoom_12 (by decide) ?_
    subst h
    exact hend _ _ _ _ rfl (rtn_n (x := 0) rfl) dX4_hasMoonRoom_13
  · have h := ite_f c1 h
    refine lv_iconst (v := 1) hx hb dX4_hasMoonRoom_8 (by decide) ?_
    refine lv_goto (tgt := 13) hx hb dX4_hasMoonRoom_9 (by decide) ?_
    subst h
    exact hend _ _ _ _ rfl (rtn_n (x := 1) rfl) dX4_hasMoonRoom_13
noncomputable def SX4_isTowel (f : Nat → Int32) (x1 : Int32) : Int32 := if x1 < 0 then (0) else (if (SX4_towels f) ≤ x1 then (0) else (1))
abbrev RM_X4_isTowel : Room := { frames := 2, cells := 0, slots := 0, locals := 42 }
set_option maxHeartbeats 4000000 in
theorem kX4_isTowel (l : Launch) (D : va_G) (cA : Nat → ClassId) (a0 a1 a2 : Nat) (f : Nat → Int32) (x1 : Int32) {r : Int32} (hr : SX4_isTowel f x1 = r) : Met l yX4_isTowel wsX4_isTowel RM_X4_isTowel (va_Pc [.ref a0, .int x1] (rqB D cA [(a0, .inr (8, [.ref a1])), (a1, .inr (6, [.ref a2])), (a2, .inl (cA 0, 61, .inl f))])) (rqQ (some (.int r))) 0 0 (fun _ => False) := by
  refine rq_ofW (cc := cX4_isTowel) (maxL := 2) (ret := (some .boolean)) (by decide) rfl (Nat.le_of_ble_eq_true rfl) (fun p e s m args below meth c ls Q hx hb hml hts hfc hK hP hl hend => ?_)
  have hfc : s.vm.findClass RX4 = some m.cls := hfc
  have hl : lv_has ls 2 [(0, .ref a0), (1, .int x1)] := hl
  have h := hr
  clear hr
  unfold SX4_isTowel at h
  refine lv_iload_n hx hb dX4_isTowel_0 rfl (lv_at hl 1 rfl) ?_
  refine lv_if_lt (tgt := 16) hx hb dX4_isTowel_1 (by decide) (fun c1 => ?_) (fun c1 => ?_)
  · have h := ite_t c1 h
    refine lv_iconst (v := 0) hx hb dX4_isTowel_16 (by decide) ?_
    subst h
    exact hend _ _ _ _ rfl (rtn_n (x := 0) rfl) dX4_isTowel_17
  · have h := ite_f c1 h
    refine lv_iload_n hx hb dX4_isTowel_4 rfl (lv_at hl 1 rfl) ?_
    refine lv_aload_n hx hb dX4_isTowel_5 rfl (lv_at hl 0 rfl) ?_
    refine rq_V (v := (some (.int (SX4_towels f)))) (As := []) (rest := [.int x1]) (wc := [(a0, .inr (8, [.ref a1])), (a1, .inr (6, [.ref a2])), (a2, .inl (cA 0, 61, .inl f))]) ⟨hx, hb, hml, hfc, hts⟩ hK hP (kX4_towels l D cA a0 a1 a2 f rfl) (cwV 0 hts gX4_isTowel_X4_towels rfl rfl rfl (by decide +kernel) ⟨(Nat.le_of_ble_eq_true rfl), (Nat.le_of_ble_eq_true rfl)⟩) [0, 1, 2] rfl 0 8 rfl rfl rfl rfl rfl rfl hl.1 (Nat.le_of_ble_eq_true rfl) dX4_isTowel_6 ⟨(Nat.zero_le _), (Nat.zero_le _)⟩ ?_
    refine lv_icmp_ge (tgt := 16) hx hb dX4_isTowel_9 (by decide) (fun c2 => ?_) (fun c2 => ?_)
    · have h := ite_t c2 h
      refine lv_iconst (v := 0) hx hb dX4_isTowel_16 (by decide) ?_
      subst h
      exact hend _ _ _ _ rfl (rtn_n (x := 0) rfl) dX4_isTowel_17
    · have h := ite_f c2 h
      refine lv_iconst (v := 1) hx hb dX4_isTowel_12 (by decide) ?_
      refine lv_goto (tgt := 17) hx hb dX4_isTowel_13 (by decide) ?_
      subst h
      exact hend _ _ _ _ rfl (rtn_n (x := 1) rfl) dX4_isTowel_17
noncomputable def SX4_canPutToe (N : Nat) (f : Nat → Int32) (x1 : Int32) : Option (Int32) := if (SX4_isToeAt f x1) = 0 then (bnd (SX4_toes N f) (fun o2 : Int32 => if 4 ≤ o2 then (some (0)) else (some (1)))) else (some (0))
abbrev RM_X4_canPutToe : Room := { frames := 2, cells := 0, slots := 0, locals := 44 }
set_option maxHeartbeats 4000000 in
theorem kX4_canPutToe (l : Launch) (D : va_G) (cA : Nat → ClassId) (a0 a1 a2 : Nat) (N : Nat) (f : Nat → Int32) (x1 : Int32) {r : Int32} (hr : SX4_canPutToe N f x1 = some r) : Met l yX4_canPutToe wsX4_canPutToe RM_X4_canPutToe (va_Pc [.ref a0, .int x1] (rqB D cA [(a0, .inr (8, [.ref a1])), (a1, .inr (6, [.ref a2])), (a2, .inl (cA 0, 61, .inl f))])) (rqQ (some (.int r))) 0 0 (fun _ => False) := by
  refine rq_ofW (cc := cX4_canPutToe) (maxL := 2) (ret := (some .boolean)) (by decide) rfl (Nat.le_of_ble_eq_true rfl) (fun p e s m args below meth c ls Q hx hb hml hts hfc hK hP hl hend => ?_)
  have hfc : s.vm.findClass RX4 = some m.cls := hfc
  have hl : lv_has ls 2 [(0, .ref a0), (1, .int x1)] := hl
  have h := hr
  clear hr
  unfold SX4_canPutToe at h
  refine lv_aload_n hx hb dX4_canPutToe_0 rfl (lv_at hl 0 rfl) ?_
  refine lv_iload_n hx hb dX4_canPutToe_1 rfl (lv_at hl 1 rfl) ?_
  refine rq_V (v := (some (.int (SX4_isToeAt f x1)))) (As := [.int x1]) (rest := []) (wc := [(a0, .inr (8, [.ref a1])), (a1, .inr (6, [.ref a2])), (a2, .inl (cA 0, 61, .inl f))]) ⟨hx, hb, hml, hfc, hts⟩ hK hP (kX4_isToeAt l D cA a0 a1 a2 f x1 rfl) (cwV 1 hts gX4_canPutToe_X4_isToeAt rfl rfl rfl (by decide +kernel) ⟨(Nat.le_of_ble_eq_true rfl), (Nat.le_of_ble_eq_true rfl)⟩) [0, 1, 2] rfl 0 8 rfl rfl rfl rfl rfl rfl hl.1 (Nat.le_of_ble_eq_true rfl) dX4_canPutToe_2 ⟨(Nat.zero_le _), (Nat.zero_le _)⟩ ?_
  refine lv_if_ne (tgt := 20) hx hb dX4_canPutToe_5 (by decide) (fun c1 => ?_) (fun c1 => ?_)
  · have h := ite_f c1 h
    refine lv_iconst (v := 0) hx hb dX4_canPutToe_20 (by decide) ?_
    have h := Option.some.inj h
    subst h
    exact hend _ _ _ _ rfl (rtn_n (x := 0) rfl) dX4_canPutToe_21
  · have h := ite_t c1 h
    refine lv_aload_n hx hb dX4_canPutToe_8 rfl (lv_at hl 0 rfl) ?_
    obtain ⟨o2, ho2, h⟩ := bnd_i h
    refine rq_V (v := (some (.int o2))) (As := []) (rest := []) (wc := [(a0, .inr (8, [.ref a1])), (a1, .inr (6, [.ref a2])), (a2, .inl (cA 0, 61, .inl f))]) ⟨hx, hb, hml, hfc, hts⟩ hK hP (kX4_toes l D cA a0 a1 a2 N f ho2) (cwV 0 hts gX4_canPutToe_X4_toes rfl rfl rfl (by decide +kernel) ⟨(Nat.le_of_ble_eq_true rfl), (Nat.le_of_ble_eq_true rfl)⟩) [0, 1, 2] rfl 0 8 rfl rfl rfl rfl rfl rfl hl.1 (Nat.le_of_ble_eq_true rfl) dX4_canPutToe_9 ⟨(Nat.zero_le _), (Nat.zero_le _)⟩ ?_
    refine lv_iconst (v := 4) hx hb dX4_canPutToe_12 (by decide) ?_
    refine lv_icmp_ge (tgt := 20) hx hb dX4_canPutToe_13 (by decide) (fun c3 => ?_) (fun c3 => ?_)
    · have h := ite_t c3 h
      refine lv_iconst (v := 0) hx hb dX4_canPutToe_20 (by decide) ?_
      have h := Option.some.inj h
      subst h
      exact hend _ _ _ _ rfl (rtn_n (x := 0) rfl) dX4_canPutToe_21
    · have h := ite_f c3 h
      refine lv_iconst (v := 1) hx hb dX4_canPutToe_16 (by decide) ?_
      refine lv_goto (tgt := 21) hx hb dX4_canPutToe_17 (by decide) ?_
      have h := Option.some.inj h
      subst h
      exact hend _ _ _ _ rfl (rtn_n (x := 1) rfl) dX4_canPutToe_21
noncomputable def SX4_canPutTowel (N : Nat) (f : Nat → Int32) (x1 : Int32) : Option (Int32) := bnd (SX4_isTowelAt N f x1) (fun o1 : Int32 => if o1 = 0 then (if 4 ≤ (SX4_towels f) then (some (0)) else (some (1))) else (some (0)))
abbrev RM_X4_canPutTowel : Room := { frames := 3, cells := 0, slots := 0, locals := 65 }
set_option maxHeartbeats 4000000 in
theorem kX4_canPutTowel (l : Launch) (D : va_G) (cA : Nat → ClassId) (a0 a1 a2 : Nat) (N : Nat) (f : Nat → Int32) (x1 : Int32) {r : Int32} (hr : SX4_canPutTowel N f x1 = some r) : Met l yX4_canPutTowel wsX4_canPutTowel RM_X4_canPutTowel (va_Pc [.ref a0, .int x1] (rqB D cA [(a0, .inr (8, [.ref a1])), (a1, .inr (6, [.ref a2])), (a2, .inl (cA 0, 61, .inl f))])) (rqQ (some (.int r))) 0 0 (fun _ => False) := by
  refine rq_ofW (cc := cX4_canPutTowel) (maxL := 2) (ret := (some .boolean)) (by decide) rfl (Nat.le_of_ble_eq_true rfl) (fun p e s m args below meth c ls Q hx hb hml hts hfc hK hP hl hend => ?_)
  have hfc : s.vm.findClass RX4 = some m.cls := hfc
  have hl : lv_has ls 2 [(0, .ref a0), (1, .int x1)] := hl
  have h := hr
  clear hr
  unfold SX4_canPutTowel at h
  refine lv_aload_n hx hb dX4_canPutTowel_0 rfl (lv_at hl 0 rfl) ?_
  refine lv_iload_n hx hb dX4_canPutTowel_1 rfl (lv_at hl 1 rfl) ?_
  obtain ⟨o1, ho1, h⟩ := bnd_i h
  refine rq_V (v := (some (.int o1))) (As := [.int x1]) (rest := []) (wc := [(a0, .inr (8, [.ref a1])), (a1, .inr (6, [.ref a2])), (a2, .inl (cA 0, 61, .inl f))]) ⟨hx, hb, hml, hfc, hts⟩ hK hP (kX4_isTowelAt l D cA a0 a1 a2 N f x1 ho1) (cwV 1 hts gX4_canPutTowel_X4_isTowelAt rfl rfl rfl (by decide +kernel) ⟨(Nat.le_of_ble_eq_true rfl), (Nat.le_of_ble_eq_true rfl)⟩) [0, 1, 2] rfl 0 8 rfl rfl rfl rfl rfl rfl hl.1 (Nat.le_of_ble_eq_true rfl) dX4_canPutTowel_2 ⟨(Nat.zero_le _), (Nat.zero_le _)⟩ ?_
  refine lv_if_ne (tgt := 20) hx hb dX4_canPutTowel_5 (by decide) (fun c2 => ?_) (fun c2 => ?_)
  · have h := ite_f c2 h
    refine lv_iconst (v := 0) hx hb dX4_canPutTowel_20 (by decide) ?_
    have h := Option.some.inj h
    subst h
    exact hend _ _ _ _ rfl (rtn_n (x := 0) rfl) dX4_canPutTowel_21
  · have h := ite_t c2 h
    refine lv_aload_n hx hb dX4_canPutTowel_8 rfl (lv_at hl 0 rfl) ?_
    refine rq_V (v := (some (.int (SX4_towels f)))) (As := []) (rest := []) (wc := [(a0, .inr (8, [.ref a1])), (a1, .inr (6, [.ref a2])), (a2, .inl (cA 0, 61, .inl f))]) ⟨hx, hb, hml, hfc, hts⟩ hK hP (kX4_towels l D cA a0 a1 a2 f rfl) (cwV 0 hts gX4_canPutTowel_X4_towels rfl rfl rfl (by decide +kernel) ⟨(Nat.le_of_ble_eq_true rfl), (Nat.le_of_ble_eq_true rfl)⟩) [0, 1, 2] rfl 0 8 rfl rfl rfl rfl rfl rfl hl.1 (Nat.le_of_ble_eq_true rfl) dX4_canPutTowel_9 ⟨(Nat.zero_le _), (Nat.zero_le _)⟩ ?_
    refine lv_iconst (v := 4) hx hb dX4_canPutTowel_12 (by decide) ?_
    refine lv_icmp_ge (tgt := 20) hx hb dX4_canPutTowel_13 (by decide) (fun c3 => ?_) (fun c3 => ?_)
    · have h := ite_t c3 h
      refine lv_iconst (v := 0) hx hb dX4_canPutTowel_20 (by decide) ?_
      have h := Option.some.inj h
      subst h
      exact hend _ _ _ _ rfl (rtn_n (x := 0) rfl) dX4_canPutTowel_21
    · have h := ite_f c3 h
      refine lv_iconst (v := 1) hx hb dX4_canPutTowel_16 (by decide) ?_
      refine lv_goto (tgt := 21) hx hb dX4_canPutTowel_17 (by decide) ?_
      have h := Option.some.inj h
      subst h
      exact hend _ _ _ _ rfl (rtn_n (x := 1) rfl) dX4_canPutTowel_21
noncomputable def SX4_isPlugged (f : Nat → Int32) : Int32 := if (SX4_plug f) = (-1) then (0) else (1)
abbrev RM_X4_isPlugged : Room := { frames := 2, cells := 0, slots := 0, locals := 41 }
set_option maxHeartbeats 4000000 in
theorem kX4_isPlugged (l : Launch) (D : va_G) (cA : Nat → ClassId) (a0 a1 a2 : Nat) (f : Nat → Int32) {r : Int32} (hr : SX4_isPlugged f = r) : Met l yX4_isPlugged wsX4_isPlugged RM_X4_isPlugged (va_Pc [.ref a0] (rqB D cA [(a0, .inr (8, [.ref a1])), (a1, .inr (6, [.ref a2])), (a2, .inl (cA 0, 61, .inl f))])) (rqQ (some (.int r))) 0 0 (fun _ => False) := by
  refine rq_ofW (cc := cX4_isPlugged) (maxL := 1) (ret := (some .boolean)) (by decide) rfl (Nat.le_of_ble_eq_true rfl) (fun p e s m args below meth c ls Q hx hb hml hts hfc hK hP hl hend => ?_)
  have hfc : s.vm.findClass RX4 = some m.cls := hfc
  have hl : lv_has ls 1 [(0, .ref a0)] := hl
  have h := hr
  clear hr
  unfold SX4_isPlugged at h
  refine lv_aload_n hx hb dX4_isPlugged_0 rfl (lv_at hl 0 rfl) ?_
  refine rq_V (v := (some (.int (SX4_plug f)))) (As := []) (rest := []) (wc := [(a0, .inr (8, [.ref a1])), (a1, .inr (6, [.ref a2])), (a2, .inl (cA 0, 61, .inl f))]) ⟨hx, hb, hml, hfc, hts⟩ hK hP (kX4_plug l D cA a0 a1 a2 f rfl) (cwV 0 hts gX4_isPlugged_X4_plug rfl rfl rfl (by decide +kernel) ⟨(Nat.le_of_ble_eq_true rfl), (Nat.le_of_ble_eq_true rfl)⟩) [0, 1, 2] rfl 0 8 rfl rfl rfl rfl rfl rfl hl.1 (Nat.le_of_ble_eq_true rfl) dX4_isPlugged_1 ⟨(Nat.zero_le _), (Nat.zero_le _)⟩ ?_
  refine lv_iconst (v := (-1)) hx hb dX4_isPlugged_4 (by decide) ?_
  refine lv_icmp_eq (tgt := 12) hx hb dX4_isPlugged_5 (by decide) (fun c1 => ?_) (fun c1 => ?_)
  · have h := ite_t c1 h
    refine lv_iconst (v := 0) hx hb dX4_isPlugged_12 (by decide) ?_
    subst h
    exact hend _ _ _ _ rfl (rtn_n (x := 0) rfl) dX4_isPlugged_13
  · have h := ite_f c1 h
    refine lv_iconst (v := 1) hx hb dX4_isPlugged_8 (by decide) ?_
    refine lv_goto (tgt := 13) hx hb dX4_isPlugged_9 (by decide) ?_
    subst h
    exact hend _ _ _ _ rfl (rtn_n (x := 1) rfl) dX4_isPlugged_13
noncomputable def SX4_putMoon (f : Nat → Int32) (x1 : Int32) (x2 : Int32) (x3 : Int32) (x4 : Int32) : Int32 × (Nat → Int32) := lt_ (SX2_put 61 f ((20 + ((SX4_moons f) * 5)) + 0) x1) (fun o1 : Nat → Int32 => lt_ (SX2_put 61 o1 ((20 + ((SX4_moons f) * 5)) + 1) x2) (fun o2 : Nat → Int32 => lt_ (SX2_put 61 o2 ((20 + ((SX4_moons f) * 5)) + 2) x3) (fun o3 : Nat → Int32 => lt_ (SX2_put 61 o3 ((20 + ((SX4_moons f) * 5)) + 3) x4) (fun o4 : Nat → Int32 => lt_ (SX2_put 61 o4 ((20 + ((SX4_moons f) * 5)) + 4) (SX2_at 61 o4 0)) (fun o5 : Nat → Int32 => lt_ (SX2_put 61 o5 6 ((SX4_moons f) + 1)) (fun o6 : Nat → Int32 => ((SX4_moons f), o6)))))))
theorem iX4_putMoon_X4 : ∀ w ∈ wsX40, w ∈ wsX4_putMoon := fun _ h => List.mem_cons_of_mem _ (List.mem_append_left _ (List.mem_append_left _ (List.mem_append_right _ h)))
abbrev RM_X4_putMoon : Room := { frames := 2, cells := 0, slots := 0, locals := 41 }
set_option maxHeartbeats 4000000 in
theorem kX4_putMoon (l : Launch) (D : va_G) (cA : Nat → ClassId) (a0 a1 a2 : Nat) (f : Nat → Int32) (x1 : Int32) (x2 : Int32) (x3 : Int32) (x4 : Int32) {r : Int32 × (Nat → Int32)} (hr : SX4_putMoon f x1 x2 x3 x4 = r) {sz : Nat} : Met l yX4_putMoon wsX4_putMoon RM_X4_putMoon (va_Pc [.ref a0, .int x1, .int x2, .int x3, .int x4] (gqB D cA [(a0, .inr (8, [.ref a1])), (a1, .inr (6, [.ref a2])), (a2, .inl (cA 0, 61, .inl f))] sz)) (gqQ D (fun as => (some (.int r.1))) (fun as => [(a0, .inr (8, [.ref a1])), (a1, .inr (6, [.ref a2])), (a2, .inl (cA 0, 61, .inl r.2))]) (va_A [(a0, .inr (8, [.ref a1])), (a1, .inr (6, [.ref a2])), (a2, .inl (cA 0, 61, .inl f))] sz)) 0 0 (va_A [(a0, .inr (8, [.ref a1])), (a1, .inr (6, [.ref a2])), (a2, .inl (cA 0, 61, .inl f))] sz) := by
  refine gq_ofW (cc := cX4_putMoon) (maxL := 7) (ret := (some .int)) (by decide) rfl (Nat.le_of_ble_eq_true rfl) (fun p e s m args below meth c ls Q A hx hb hml hts hfc hmn hK hP hD hS hA hl hend => ?_)
  have hfc : s.vm.findClass RX4 = some m.cls := hfc
  have hl : lv_has ls 7 [(0, .ref a0), (1, .int x1), (2, .int x2), (3, .int x3), (4, .int x4)] := hl
  have h := hr
  clear hr
  unfold SX4_putMoon at h
  refine lv_aload_n hx hb dX4_putMoon_0 rfl (lv_at hl 0 rfl) ?_
  refine rq_V (v := (some (.int (SX4_moons f)))) (As := []) (rest := []) (wc := [(a0, .inr (8, [.ref a1])), (a1, .inr (6, [.ref a2])), (a2, .inl (cA 0, 61, .inl f))]) ⟨hx, hb, hml, hfc, hts⟩ hK hP (kX4_moons l D cA a0 a1 a2 f rfl) (cwV 0 hts gX4_putMoon_X4_moons rfl rfl rfl (by decide +kernel) ⟨(Nat.le_of_ble_eq_true rfl), (Nat.le_of_ble_eq_true rfl)⟩) [0, 1, 2] rfl 0 8 rfl rfl rfl rfl rfl rfl hl.1 (Nat.le_of_ble_eq_true rfl) dX4_putMoon_1 ⟨(Nat.zero_le _), (Nat.zero_le _)⟩ ?_
  refine lv_istore hx hb dX4_putMoon_4 hl (Nat.le_of_ble_eq_true rfl) rfl (fun ls hl => ?_)
  have hl : lv_has ls 7 [(5, .int (SX4_moons f)), (0, .ref a0), (1, .int x1), (2, .int x2), (3, .int x3), (4, .int x4)] := hl
  refine lv_bipush (v := 20) hx hb dX4_putMoon_6 (by decide) ?_
  refine lv_iload hx hb dX4_putMoon_8 (lv_at hl 0 rfl) ?_
  refine lv_iconst (v := 5) hx hb dX4_putMoon_10 (by decide) ?_
  refine lv_imul hx hb dX4_putMoon_11 ?_
  refine lv_iadd hx hb dX4_putMoon_12 ?_
  refine lv_istore hx hb dX4_putMoon_13 hl (Nat.le_of_ble_eq_true rfl) rfl (fun ls hl => ?_)
  have hl : lv_has ls 7 [(6, .int (20 + ((SX4_moons f) * 5))), (5, .int (SX4_moons f)), (0, .ref a0), (1, .int x1), (2, .int x2), (3, .int x3), (4, .int x4)] := hl
  refine lv_aload_n hx hb dX4_putMoon_15 rfl (lv_at hl 2 rfl) ?_
  refine va_get (D := D) (ci := 8) (v := .ref a1) (C := RX4) (T := TX4) (N := 1) hx hb hts iX4_putMoon_X4 hfc hK hP 0 rfl rfl 0 (by decide) (hts (.fieldLink RX4 16 "BathtubTides$Tub" "cells" "LBathtubTides$Row;") (List.mem_of_getElem? (i := 1) rfl)) (fun _ h9 => h9) rfl dX4_putMoon_16 ?_
  refine lv_iload hx hb dX4_putMoon_19 (lv_at hl 0 rfl) ?_
  refine lv_iconst (v := 0) hx hb dX4_putMoon_21 (by decide) ?_
  refine lv_iadd hx hb dX4_putMoon_22 ?_
  refine lv_iload_n hx hb dX4_putMoon_23 rfl (lv_at hl 3 rfl) ?_
  obtain ⟨o1, ho1, h⟩ := lt_i h
  refine gq_V (v := (fun as => none)) (As := [.int ((20 + ((SX4_moons f) * 5)) + 0), .int x1]) (rest := []) (wc := [(a1, .inr (6, [.ref a2])), (a2, .inl (cA 0, 61, .inl f))]) (wr := [(a0, .inr (8, [.ref a1]))]) (w1 := (fun as => [(a1, .inr (6, [.ref a2])), (a2, .inl (cA 0, 61, .inl o1))])) (ws2 := (fun as => [(a0, .inr (8, [.ref a1])), (a1, .inr (6, [.ref a2])), (a2, .inl (cA 0, 61, .inl o1))])) (st1 := (fun as => [])) ⟨hx, hb, hml, hfc, hts⟩ hK hP hD hS hA (kX2_put l D cA a1 a2 61 f ((20 + ((SX4_moons f) * 5)) + 0) x1 (Nat.le_of_ble_eq_true rfl) ho1) (cwV 2 hts gX4_putMoon_X2_put rfl rfl rfl (by decide +kernel) ⟨(Nat.le_of_ble_eq_true rfl), (Nat.le_of_ble_eq_true rfl)⟩) [1, 2] [0] [0, 1, 2] rfl rfl rfl rfl (by decide) (fun _ => rfl) rfl 1 6 rfl rfl rfl rfl (fun _ => rfl) rfl hl.1 (Nat.le_of_ble_eq_true rfl) dX4_putMoon_24 ⟨(Nat.zero_le _), (Nat.zero_le _)⟩ (fun as H locs hP hD hS => ?_)
  have hP : va_P D vwCl [(a0, .inr (8, [.ref a1])), (a1, .inr (6, [.ref a2])), (a2, .inl (cA 0, 61, .inl o1))] H := hP
  have hD : va_D A [(a0, .inr (8, [.ref a1])), (a1, .inr (6, [.ref a2])), (a2, .inl (cA 0, 61, .inl o1))] := hD
  refine lv_aload_n hx hb dX4_putMoon_27 rfl (lv_at hl 2 rfl) ?_
  refine va_get (D := D) (ci := 8) (v := .ref a1) (C := RX4) (T := TX4) (N := 1) hx hb hts iX4_putMoon_X4 hfc hK hP 0 rfl rfl 0 (by decide) (hts (.fieldLink RX4 16 "BathtubTides$Tub" "cells" "LBathtubTides$Row;") (List.mem_of_getElem? (i := 1) rfl)) (fun _ h9 => h9) rfl dX4_putMoon_28 ?_
  refine lv_iload hx hb dX4_putMoon_31 (lv_at hl 0 rfl) ?_
  refine lv_iconst (v := 1) hx hb dX4_putMoon_33 (by decide) ?_
  refine lv_iadd hx hb dX4_putMoon_34 ?_
  refine lv_iload_n hx hb dX4_putMoon_35 rfl (lv_at hl 4 rfl) ?_
  obtain ⟨o2, ho2, h⟩ := lt_i h
  refine gq_V (v := (fun as => none)) (As := [.int ((20 + ((SX4_moons f) * 5)) + 1), .int x2]) (rest := []) (wc := [(a1, .inr (6, [.ref a2])), (a2, .inl (cA 0, 61, .inl o1))]) (wr := [(a0, .inr (8, [.ref a1]))]) (w1 := (fun as => [(a1, .inr (6, [.ref a2])), (a2, .inl (cA 0, 61, .inl o2))])) (ws2 := (fun as => [(a0, .inr (8, [.ref a1])), (a1, .inr (6, [.ref a2])), (a2, .inl (cA 0, 61, .inl o2))])) (st1 := (fun as => [])) ⟨hx, hb, hml, hfc, hts⟩ hK hP hD hS hA (kX2_put l D cA a1 a2 61 o1 ((20 + ((SX4_moons f) * 5)) + 1) x2 (Nat.le_of_ble_eq_true rfl) ho2) (cwV 2 hts gX4_putMoon_X2_put rfl rfl rfl (by decide +kernel) ⟨(Nat.le_of_ble_eq_true rfl), (Nat.le_of_ble_eq_true rfl)⟩) [1, 2] [0] [0, 1, 2] rfl rfl rfl rfl (by decide) (fun _ => rfl) rfl 1 6 rfl rfl rfl rfl (fun _ => rfl) rfl hl.1 (Nat.le_of_ble_eq_true rfl) dX4_putMoon_36 ⟨(Nat.zero_le _), (Nat.zero_le _)⟩ (fun as H locs hP hD hS => ?_)
  have hP : va_P D vwCl [(a0, .inr (8, [.ref a1])), (a1, .inr (6, [.ref a2])), (a2, .inl (cA 0, 61, .inl o2))] H := hP
  have hD : va_D A [(a0, .inr (8, [.ref a1])), (a1, .inr (6, [.ref a2])), (a2, .inl (cA 0, 61, .inl o2))] := hD
  refine lv_aload_n hx hb dX4_putMoon_39 rfl (lv_at hl 2 rfl) ?_
  refine va_get (D := D) (ci := 8) (v := .ref a1) (C := RX4) (T := TX4) (N := 1) hx hb hts iX4_putMoon_X4 hfc hK hP 0 rfl rfl 0 (by decide) (hts (.fieldLink RX4 16 "BathtubTides$Tub" "cells" "LBathtubTides$Row;") (List.mem_of_getElem? (i := 1) rfl)) (fun _ h9 => h9) rfl dX4_putMoon_40 ?_
  refine lv_iload hx hb dX4_putMoon_43 (lv_at hl 0 rfl) ?_
  refine lv_iconst (v := 2) hx hb dX4_putMoon_45 (by decide) ?_
  refine lv_iadd hx hb dX4_putMoon_46 ?_
  refine lv_iload_n hx hb dX4_putMoon_47 rfl (lv_at hl 5 rfl) ?_
  obtain ⟨o3, ho3, h⟩ := lt_i h
  refine gq_V (v := (fun as => none)) (As := [.int ((20 + ((SX4_moons f) * 5)) + 2), .int x3]) (rest := []) (wc := [(a1, .inr (6, [.ref a2])), (a2, .inl (cA 0, 61, .inl o2))]) (wr := [(a0, .inr (8, [.ref a1]))]) (w1 := (fun as => [(a1, .inr (6, [.ref a2])), (a2, .inl (cA 0, 61, .inl o3))])) (ws2 := (fun as => [(a0, .inr (8, [.ref a1])), (a1, .inr (6, [.ref a2])), (a2, .inl (cA 0, 61, .inl o3))])) (st1 := (fun as => [])) ⟨hx, hb, hml, hfc, hts⟩ hK hP hD hS hA (kX2_put l D cA a1 a2 61 o2 ((20 + ((SX4_moons f) * 5)) + 2) x3 (Nat.le_of_ble_eq_true rfl) ho3) (cwV 2 hts gX4_putMoon_X2_put rfl rfl rfl (by decide +kernel) ⟨(Nat.le_of_ble_eq_true rfl), (Nat.le_of_ble_eq_true rfl)⟩) [1, 2] [0] [0, 1, 2] rfl rfl rfl rfl (by decide) (fun _ => rfl) rfl 1 6 rfl rfl rfl rfl (fun _ => rfl) rfl hl.1 (Nat.le_of_ble_eq_true rfl) dX4_putMoon_48 ⟨(Nat.zero_le _), (Nat.zero_le _)⟩ (fun as H locs hP hD hS => ?_)
  have hP : va_P D vwCl [(a0, .inr (8, [.ref a1])), (a1, .inr (6, [.ref a2])), (a2, .inl (cA 0, 61, .inl o3))] H := hP
  have hD : va_D A [(a0, .inr (8, [.ref a1])), (a1, .inr (6, [.ref a2])), (a2, .inl (cA 0, 61, .inl o3))] := hD
  refine lv_aload_n hx hb dX4_putMoon_51 rfl (lv_at hl 2 rfl) ?_
  refine va_get (D := D) (ci := 8) (v := .ref a1) (C := RX4) (T := TX4) (N := 1) hx hb hts iX4_putMoon_X4 hfc hK hP 0 rfl rfl 0 (by decide) (hts (.fieldLink RX4 16 "BathtubTides$Tub" "cells" "LBathtubTides$Row;") (List.mem_of_getElem? (i := 1) rfl)) (fun _ h9 => h9) rfl dX4_putMoon_52 ?_
  refine lv_iload hx hb dX4_putMoon_55 (lv_at hl 0 rfl) ?_
  refine lv_iconst (v := 3) hx hb dX4_putMoon_57 (by decide) ?_
  refine lv_iadd hx hb dX4_putMoon_58 ?_
  refine lv_iload hx hb dX4_putMoon_59 (lv_at hl 6 rfl) ?_
  obtain ⟨o4, ho4, h⟩ := lt_i h
  refine gq_V (v := (fun as => none)) (As := [.int ((20 + ((SX4_moons f) * 5)) + 3), .int x4]) (rest := []) (wc := [(a1, .inr (6, [.ref a2])), (a2, .inl (cA 0, 61, .inl o3))]) (wr := [(a0, .inr (8, [.ref a1]))]) (w1 := (fun as => [(a1, .inr (6, [.ref a2])), (a2, .inl (cA 0, 61, .inl o4))])) (ws2 := (fun as => [(a0, .inr (8, [.ref a1])), (a1, .inr (6, [.ref a2])), (a2, .inl (cA 0, 61, .inl o4))])) (st1 := (fun as => [])) ⟨hx, hb, hml, hfc, hts⟩ hK hP hD hS hA (kX2_put l D cA a1 a2 61 o3 ((20 + ((SX4_moons f) * 5)) + 3) x4 (Nat.le_of_ble_eq_true rfl) ho4) (cwV 2 hts gX4_putMoon_X2_put rfl rfl rfl (by decide +kernel) ⟨(Nat.le_of_ble_eq_true rfl), (Nat.le_of_ble_eq_true rfl)⟩) [1, 2] [0] [0, 1, 2] rfl rfl rfl rfl (by decide) (fun _ => rfl) rfl 1 6 rfl rfl rfl rfl (fun _ => rfl) rfl hl.1 (Nat.le_of_ble_eq_true rfl) dX4_putMoon_61 ⟨(Nat.zero_le _), (Nat.zero_le _)⟩ (fun as H locs hP hD hS => ?_)
  have hP : va_P D vwCl [(a0, .inr (8, [.ref a1])), (a1, .inr (6, [.ref a2])), (a2, .inl (cA 0, 61, .inl o4))] H := hP
  have hD : va_D A [(a0, .inr (8, [.ref a1])), (a1, .inr (6, [.ref a2])), (a2, .inl (cA 0, 61, .inl o4))] := hD
  refine lv_aload_n hx hb dX4_putMoon_64 rfl (lv_at hl 2 rfl) ?_
  refine va_get (D := D) (ci := 8) (v := .ref a1) (C := RX4) (T := TX4) (N := 1) hx hb hts iX4_putMoon_X4 hfc hK hP 0 rfl rfl 0 (by decide) (hts (.fieldLink RX4 16 "BathtubTides$Tub" "cells" "LBathtubTides$Row;") (List.mem_of_getElem? (i := 1) rfl)) (fun _ h9 => h9) rfl dX4_putMoon_65 ?_
  refine lv_iload hx hb dX4_putMoon_68 (lv_at hl 0 rfl) ?_
  refine lv_iconst (v := 4) hx hb dX4_putMoon_70 (by decide) ?_
  refine lv_iadd hx hb dX4_putMoon_71 ?_
  refine lv_aload_n hx hb dX4_putMoon_72 rfl (lv_at hl 2 rfl) ?_
  refine va_get (D := D) (ci := 8) (v := .ref a1) (C := RX4) (T := TX4) (N := 1) hx hb hts iX4_putMoon_X4 hfc hK hP 0 rfl rfl 0 (by decide) (hts (.fieldLink RX4 16 "BathtubTides$Tub" "cells" "LBathtubTides$Row;") (List.mem_of_getElem? (i := 1) rfl)) (fun _ h9 => h9) rfl dX4_putMoon_73 ?_
  refine lv_iconst (v := 0) hx hb dX4_putMoon_76 (by decide) ?_
  refine rq_V (v := (some (.int (SX2_at 61 o4 0)))) (As := [.int 0]) (rest := [.int ((20 + ((SX4_moons f) * 5)) + 4), .ref a1]) (wc := [(a1, .inr (6, [.ref a2])), (a2, .inl (cA 0, 61, .inl o4))]) ⟨hx, hb, hml, hfc, hts⟩ hK hP (kX2_at l D cA a1 a2 61 o4 0 (Nat.le_of_ble_eq_true rfl) rfl) (cwV 1 hts gX4_putMoon_X2_at rfl rfl rfl (by decide +kernel) ⟨(Nat.le_of_ble_eq_true rfl), (Nat.le_of_ble_eq_true rfl)⟩) [1, 2] rfl 1 6 rfl rfl rfl rfl rfl rfl hl.1 (Nat.le_of_ble_eq_true rfl) dX4_putMoon_77 ⟨(Nat.zero_le _), (Nat.zero_le _)⟩ ?_
  obtain ⟨o5, ho5, h⟩ := lt_i h
  refine gq_V (v := (fun as => none)) (As := [.int ((20 + ((SX4_moons f) * 5)) + 4), .int (SX2_at 61 o4 0)]) (rest := []) (wc := [(a1, .inr (6, [.ref a2])), (a2, .inl (cA 0, 61, .inl o4))]) (wr := [(a0, .inr (8, [.ref a1]))]) (w1 := (fun as => [(a1, .inr (6, [.ref a2])), (a2, .inl (cA 0, 61, .inl o5))])) (ws2 := (fun as => [(a0, .inr (8, [.ref a1])), (a1, .inr (6, [.ref a2])), (a2, .inl (cA 0, 61, .inl o5))])) (st1 := (fun as => [])) ⟨hx, hb, hml, hfc, hts⟩ hK hP hD hS hA (kX2_put l D cA a1 a2 61 o4 ((20 + ((SX4_moons f) * 5)) + 4) (SX2_at 61 o4 0) (Nat.le_of_ble_eq_true rfl) ho5) (cwV 2 hts gX4_putMoon_X2_put rfl rfl rfl (by decide +kernel) ⟨(Nat.le_of_ble_eq_true rfl), (Nat.le_of_ble_eq_true rfl)⟩) [1, 2] [0] [0, 1, 2] rfl rfl rfl rfl (by decide) (fun _ => rfl) rfl 1 6 rfl rfl rfl rfl (fun _ => rfl) rfl hl.1 (Nat.le_of_ble_eq_true rfl) dX4_putMoon_80 ⟨(Nat.zero_le _), (Nat.zero_le _)⟩ (fun as H locs hP hD hS => ?_)
  have hP : va_P D vwCl [(a0, .inr (8, [.ref a1])), (a1, .inr (6, [.ref a2])), (a2, .inl (cA 0, 61, .inl o5))] H := hP
  have hD : va_D A [(a0, .inr (8, [.ref a1])), (a1, .inr (6, [.ref a2])), (a2, .inl (cA 0, 61, .inl o5))] := hD
  refine lv_aload_n hx hb dX4_putMoon_83 rfl (lv_at hl 2 rfl) ?_
  refine va_get (D := D) (ci := 8) (v := .ref a1) (C := RX4) (T := TX4) (N := 1) hx hb hts iX4_putMoon_X4 hfc hK hP 0 rfl rfl 0 (by decide) (hts (.fieldLink RX4 16 "BathtubTides$Tub" "cells" "LBathtubTides$Row;") (List.mem_of_getElem? (i := 1) rfl)) (fun _ h9 => h9) rfl dX4_putMoon_84 ?_
  refine lv_bipush (v := 6) hx hb dX4_putMoon_87 (by decide) ?_
  refine lv_iload hx hb dX4_putMoon_89 (lv_at hl 1 rfl) ?_
  refine lv_iconst (v := 1) hx hb dX4_putMoon_91 (by decide) ?_
  refine lv_iadd hx hb dX4_putMoon_92 ?_
  obtain ⟨o6, ho6, h⟩ := lt_i h
  refine gq_V (v := (fun as => none)) (As := [.int 6, .int ((SX4_moons f) + 1)]) (rest := []) (wc := [(a1, .inr (6, [.ref a2])), (a2, .inl (cA 0, 61, .inl o5))]) (wr := [(a0, .inr (8, [.ref a1]))]) (w1 := (fun as => [(a1, .inr (6, [.ref a2])), (a2, .inl (cA 0, 61, .inl o6))])) (ws2 := (fun as => [(a0, .inr (8, [.ref a1])), (a1, .inr (6, [.ref a2])), (a2, .inl (cA 0, 61, .inl o6))])) (st1 := (fun as => [])) ⟨hx, hb, hml, hfc, hts⟩ hK hP hD hS hA (kX2_put l D cA a1 a2 61 o5 6 ((SX4_moons f) + 1) (Nat.le_of_ble_eq_true rfl) ho6) (cwV 2 hts gX4_putMoon_X2_put rfl rfl rfl (by decide +kernel) ⟨(Nat.le_of_ble_eq_true rfl), (Nat.le_of_ble_eq_true rfl)⟩) [1, 2] [0] [0, 1, 2] rfl rfl rfl rfl (by decide) (fun _ => rfl) rfl 1 6 rfl rfl rfl rfl (fun _ => rfl) rfl hl.1 (Nat.le_of_ble_eq_true rfl) dX4_putMoon_93 ⟨(Nat.zero_le _), (Nat.zero_le _)⟩ (fun as H locs hP hD hS => ?_)
  have hP : va_P D vwCl [(a0, .inr (8, [.ref a1])), (a1, .inr (6, [.ref a2])), (a2, .inl (cA 0, 61, .inl o6))] H := hP
  have hD : va_D A [(a0, .inr (8, [.ref a1])), (a1, .inr (6, [.ref a2])), (a2, .inl (cA 0, 61, .inl o6))] := hD
  refine lv_iload hx hb dX4_putMoon_96 (lv_at hl 1 rfl) ?_
  subst h
  exact hend (adr []) _ _ _ _ _ _ _ rfl rfl (rtn_i _) hP hD hS dX4_putMoon_98
noncomputable def SX4_dropMoon (N : Nat) (f : Nat → Int32) (x1 : Int32) : Option (Int32 × (Nat → Int32)) := bnd (SX2_copy_own N 61 f ((20 + (x1 * 5)) + 5) (20 + (x1 * 5)) ((((SX4_moons f) - 1) - x1) * 5)) (fun o1 : Nat → Int32 => lt_ (SX2_put 61 o1 6 ((SX4_moons f) - 1)) (fun o2 : Nat → Int32 => some (((SX4_moons f) - 1, o2))))
theorem iX4_dropMoon_X4 : ∀ w ∈ wsX40, w ∈ wsX4_dropMoon := fun _ h => List.mem_cons_of_mem _ (List.mem_append_left _ (List.mem_append_left _ (List.mem_append_right _ h)))
abbrev RM_X4_dropMoon : Room := { frames := 2, cells := 0, slots := 0, locals := 48 }
set_option maxHeartbeats 4000000 in
theorem kX4_dropMoon (l : Launch) (D : va_G) (cA : Nat → ClassId) (a0 a1 a2 : Nat) (N : Nat) (f : Nat → Int32) (x1 : Int32) {r : Int32 × (Nat → Int32)} (hr : SX4_dropMoon N f x1 = some r) {sz : Nat} : Met l yX4_dropMoon wsX4_dropMoon RM_X4_dropMoon (va_Pc [.ref a0, .int x1] (gqB D cA [(a0, .inr (8, [.ref a1])), (a1, .inr (6, [.ref a2])), (a2, .inl (cA 0, 61, .inl f))] sz)) (gqQ D (fun as => (some (.int r.1))) (fun as => [(a0, .inr (8, [.ref a1])), (a1, .inr (6, [.ref a2])), (a2, .inl (cA 0, 61, .inl r.2))]) (va_A [(a0, .inr (8, [.ref a1])), (a1, .inr (6, [.ref a2])), (a2, .inl (cA 0, 61, .inl f))] sz)) 0 0 (va_A [(a0, .inr (8, [.ref a1])), (a1, .inr (6, [.ref a2])), (a2, .inl (cA 0, 61, .inl f))] sz) := by
  refine gq_ofW (cc := cX4_dropMoon) (maxL := 4) (ret := (some .int)) (by decide) rfl (Nat.le_of_ble_eq_true rfl) (fun p e s m args below meth c ls Q A hx hb hml hts hfc hmn hK hP hD hS hA hl hend => ?_)
  have hfc : s.vm.findClass RX4 = some m.cls := hfc
  have hl : lv_has ls 4 [(0, .ref a0), (1, .int x1)] := hl
  have h := hr
  clear hr
  unfold SX4_dropMoon at h
  refine lv_aload_n hx hb dX4_dropMoon_0 rfl (lv_at hl 0 rfl) ?_
  refine rq_V (v := (some (.int (SX4_moons f)))) (As := []) (rest := []) (wc := [(a0, .inr (8, [.ref a1])), (a1, .inr (6, [.ref a2])), (a2, .inl (cA 0, 61, .inl f))]) ⟨hx, hb, hml, hfc, hts⟩ hK hP (kX4_moons l D cA a0 a1 a2 f rfl) (cwV 0 hts gX4_dropMoon_X4_moons rfl rfl rfl (by decide +kernel) ⟨(Nat.le_of_ble_eq_true rfl), (Nat.le_of_ble_eq_true rfl)⟩) [0, 1, 2] rfl 0 8 rfl rfl rfl rfl rfl rfl hl.1 (Nat.le_of_ble_eq_true rfl) dX4_dropMoon_1 ⟨(Nat.zero_le _), (Nat.zero_le _)⟩ ?_
  refine lv_iconst (v := 1) hx hb dX4_dropMoon_4 (by decide) ?_
  refine lv_isub hx hb dX4_dropMoon_5 ?_
  refine lv_istore_n hx hb dX4_dropMoon_6 rfl hl (Nat.le_of_ble_eq_true rfl) rfl (fun ls hl => ?_)
  have hl : lv_has ls 4 [(2, .int ((SX4_moons f) - 1)), (0, .ref a0), (1, .int x1)] := hl
  refine lv_bipush (v := 20) hx hb dX4_dropMoon_7 (by decide) ?_
  refine lv_iload_n hx hb dX4_dropMoon_9 rfl (lv_at hl 2 rfl) ?_
  refine lv_iconst (v := 5) hx hb dX4_dropMoon_10 (by decide) ?_
  refine lv_imul hx hb dX4_dropMoon_11 ?_
  refine lv_iadd hx hb dX4_dropMoon_12 ?_
  refine lv_istore_n hx hb dX4_dropMoon_13 rfl hl (Nat.le_of_ble_eq_true rfl) rfl (fun ls hl => ?_)
  have hl : lv_has ls 4 [(3, .int (20 + (x1 * 5))), (2, .int ((SX4_moons f) - 1)), (0, .ref a0), (1, .int x1)] := hl
  refine lv_aload_n hx hb dX4_dropMoon_14 rfl (lv_at hl 2 rfl) ?_
  refine va_get (D := D) (ci := 8) (v := .ref a1) (C := RX4) (T := TX4) (N := 1) hx hb hts iX4_dropMoon_X4 hfc hK hP 0 rfl rfl 0 (by decide) (hts (.fieldLink RX4 16 "BathtubTides$Tub" "cells" "LBathtubTides$Row;") (List.mem_of_getElem? (i := 1) rfl)) (fun _ h9 => h9) rfl dX4_dropMoon_15 ?_
  refine lv_aload_n hx hb dX4_dropMoon_18 rfl (lv_at hl 2 rfl) ?_
  refine va_get (D := D) (ci := 8) (v := .ref a1) (C := RX4) (T := TX4) (N := 1) hx hb hts iX4_dropMoon_X4 hfc hK hP 0 rfl rfl 0 (by decide) (hts (.fieldLink RX4 16 "BathtubTides$Tub" "cells" "LBathtubTides$Row;") (List.mem_of_getElem? (i := 1) rfl)) (fun _ h9 => h9) rfl dX4_dropMoon_19 ?_
  refine lv_iload_n hx hb dX4_dropMoon_22 rfl (lv_at hl 0 rfl) ?_
  refine lv_iconst (v := 5) hx hb dX4_dropMoon_23 (by decide) ?_
  refine lv_iadd hx hb dX4_dropMoon_24 ?_
  refine lv_iload_n hx hb dX4_dropMoon_25 rfl (lv_at hl 0 rfl) ?_
  refine lv_iload_n hx hb dX4_dropMoon_26 rfl (lv_at hl 1 rfl) ?_
  refine lv_iload_n hx hb dX4_dropMoon_27 rfl (lv_at hl 3 rfl) ?_
  refine lv_isub hx hb dX4_dropMoon_28 ?_
  refine lv_iconst (v := 5) hx hb dX4_dropMoon_29 (by decide) ?_
  refine lv_imul hx hb dX4_dropMoon_30 ?_
  obtain ⟨o1, ho1, h⟩ := bnd_i h
  refine gq_V (v := (fun as => none)) (As := [.ref a1, .int ((20 + (x1 * 5)) + 5), .int (20 + (x1 * 5)), .int ((((SX4_moons f) - 1) - x1) * 5)]) (rest := []) (wc := [(a1, .inr (6, [.ref a2])), (a2, .inl (cA 0, 61, .inl f))]) (wr := [(a0, .inr (8, [.ref a1]))]) (w1 := (fun as => [(a1, .inr (6, [.ref a2])), (a2, .inl (cA 0, 61, .inl o1))])) (ws2 := (fun as => [(a0, .inr (8, [.ref a1])), (a1, .inr (6, [.ref a2])), (a2, .inl (cA 0, 61, .inl o1))])) (st1 := (fun as => [])) ⟨hx, hb, hml, hfc, hts⟩ hK hP hD hS hA (kX2_copy_own l D cA a1 a2 N 61 f ((20 + (x1 * 5)) + 5) (20 + (x1 * 5)) ((((SX4_moons f) - 1) - x1) * 5) (Nat.le_of_ble_eq_true rfl) ho1) (cwV 4 hts gX4_dropMoon_X2_copy rfl rfl rfl (by decide +kernel) ⟨(Nat.le_of_ble_eq_true rfl), (Nat.le_of_ble_eq_true rfl)⟩) [1, 2] [0] [0, 1, 2] rfl rfl rfl rfl (by decide) (fun _ => rfl) rfl 1 6 rfl rfl rfl rfl (fun _ => rfl) rfl hl.1 (Nat.le_of_ble_eq_true rfl) dX4_dropMoon_31 ⟨(Nat.zero_le _), (Nat.zero_le _)⟩ (fun as H locs hP hD hS => ?_)
  have hP : va_P D vwCl [(a0, .inr (8, [.ref a1])), (a1, .inr (6, [.ref a2])), (a2, .inl (cA 0, 61, .inl o1))] H := hP
  have hD : va_D A [(a0, .inr (8, [.ref a1])), (a1, .inr (6, [.ref a2])), (a2, .inl (cA 0, 61, .inl o1))] := hD
  refine lv_aload_n hx hb dX4_dropMoon_34 rfl (lv_at hl 2 rfl) ?_
  refine va_get (D := D) (ci := 8) (v := .ref a1) (C := RX4) (T := TX4) (N := 1) hx hb hts iX4_dropMoon_X4 hfc hK hP 0 rfl rfl 0 (by decide) (hts (.fieldLink RX4 16 "BathtubTides$Tub" "cells" "LBathtubTides$Row;") (List.mem_of_getElem? (i := 1) rfl)) (fun _ h9 => h9) rfl dX4_dropMoon_35 ?_
  refine lv_bipush (v := 6) hx hb dX4_dropMoon_38 (by decide) ?_
  refine lv_iload_n hx hb dX4_dropMoon_40 rfl (lv_at hl 1 rfl) ?_
  obtain ⟨o2, ho2, h⟩ := lt_i h
  refine gq_V (v := (fun as => none)) (As := [.int 6, .int ((SX4_moons f) - 1)]) (rest := []) (wc := [(a1, .inr (6, [.ref a2])), (a2, .inl (cA 0, 61, .inl o1))]) (wr := [(a0, .inr (8, [.ref a1]))]) (w1 := (fun as => [(a1, .inr (6, [.ref a2])), (a2, .inl (cA 0, 61, .inl o2))])) (ws2 := (fun as => [(a0, .inr (8, [.ref a1])), (a1, .inr (6, [.ref a2])), (a2, .inl (cA 0, 61, .inl o2))])) (st1 := (fun as => [])) ⟨hx, hb, hml, hfc, hts⟩ hK hP hD hS hA (kX2_put l D cA a1 a2 61 o1 6 ((SX4_moons f) - 1) (Nat.le_of_ble_eq_true rfl) ho2) (cwV 2 hts gX4_dropMoon_X2_put rfl rfl rfl (by decide +kernel) ⟨(Nat.le_of_ble_eq_true rfl), (Nat.le_of_ble_eq_true rfl)⟩) [1, 2] [0] [0, 1, 2] rfl rfl rfl rfl (by decide) (fun _ => rfl) rfl 1 6 rfl rfl rfl rfl (fun _ => rfl) rfl hl.1 (Nat.le_of_ble_eq_true rfl) dX4_dropMoon_41 ⟨(Nat.zero_le _), (Nat.zero_le _)⟩ (fun as H locs hP hD hS => ?_)
  have hP : va_P D vwCl [(a0, .inr (8, [.ref a1])), (a1, .inr (6, [.ref a2])), (a2, .inl (cA 0, 61, .inl o2))] H := hP
  have hD : va_D A [(a0, .inr (8, [.ref a1])), (a1, .inr (6, [.ref a2])), (a2, .inl (cA 0, 61, .inl o2))] := hD
  refine lv_iload_n hx hb dX4_dropMoon_44 rfl (lv_at hl 1 rfl) ?_
  have h := Option.some.inj h
  subst h
  exact hend (adr []) _ _ _ _ _ _ _ rfl rfl (rtn_i _) hP hD hS dX4_dropMoon_45
noncomputable def SX4_putToe (N : Nat) (f : Nat → Int32) (x1 : Int32) : Option (Int32 × (Nat → Int32)) := lt_ (SX2_put 61 f (8 + x1) 1) (fun o1 : Nat → Int32 => bnd (SX4_toes N o1) (fun o2 : Int32 => some ((o2, o1))))
theorem iX4_putToe_X4 : ∀ w ∈ wsX40, w ∈ wsX4_putToe := fun _ h => List.mem_cons_of_mem _ (List.mem_append_left _ (List.mem_append_left _ (List.mem_append_right _ h)))
abbrev RM_X4_putToe : Room := { frames := 2, cells := 0, slots := 0, locals := 44 }
set_option maxHeartbeats 4000000 in
theorem kX4_putToe (l : Launch) (D : va_G) (cA : Nat → ClassId) (a0 a1 a2 : Nat) (N : Nat) (f : Nat → Int32) (x1 : Int32) {r : Int32 × (Nat → Int32)} (hr : SX4_putToe N f x1 = some r) {sz : Nat} : Met l yX4_putToe wsX4_putToe RM_X4_putToe (va_Pc [.ref a0, .int x1] (gqB D cA [(a0, .inr (8, [.ref a1])), (a1, .inr (6, [.ref a2])), (a2, .inl (cA 0, 61, .inl f))] sz)) (gqQ D (fun as => (some (.int r.1))) (fun as => [(a0, .inr (8, [.ref a1])), (a1, .inr (6, [.ref a2])), (a2, .inl (cA 0, 61, .inl r.2))]) (va_A [(a0, .inr (8, [.ref a1])), (a1, .inr (6, [.ref a2])), (a2, .inl (cA 0, 61, .inl f))] sz)) 0 0 (va_A [(a0, .inr (8, [.ref a1])), (a1, .inr (6, [.ref a2])), (a2, .inl (cA 0, 61, .inl f))] sz) := by
  refine gq_ofW (cc := cX4_putToe) (maxL := 2) (ret := (some .int)) (by decide) rfl (Nat.le_of_ble_eq_true rfl) (fun p e s m args below meth c ls Q A hx hb hml hts hfc hmn hK hP hD hS hA hl hend => ?_)
  have hfc : s.vm.findClass RX4 = some m.cls := hfc
  have hl : lv_has ls 2 [(0, .ref a0), (1, .int x1)] := hl
  have h := hr
  clear hr
  unfold SX4_putToe at h
  refine lv_aload_n hx hb dX4_putToe_0 rfl (lv_at hl 0 rfl) ?_
  refine va_get (D := D) (ci := 8) (v := .ref a1) (C := RX4) (T := TX4) (N := 1) hx hb hts iX4_putToe_X4 hfc hK hP 0 rfl rfl 0 (by decide) (hts (.fieldLink RX4 16 "BathtubTides$Tub" "cells" "LBathtubTides$Row;") (List.mem_of_getElem? (i := 1) rfl)) (fun _ h9 => h9) rfl dX4_putToe_1 ?_
  refine lv_bipush (v := 8) hx hb dX4_putToe_4 (by decide) ?_
  refine lv_iload_n hx hb dX4_putToe_6 rfl (lv_at hl 1 rfl) ?_
  refine lv_iadd hx hb dX4_putToe_7 ?_
  refine lv_iconst (v := 1) hx hb dX4_putToe_8 (by decide) ?_
  obtain ⟨o1, ho1, h⟩ := lt_i h
  refine gq_V (v := (fun as => none)) (As := [.int (8 + x1), .int 1]) (rest := []) (wc := [(a1, .inr (6, [.ref a2])), (a2, .inl (cA 0, 61, .inl f))]) (wr := [(a0, .inr (8, [.ref a1]))]) (w1 := (fun as => [(a1, .inr (6, [.ref a2])), (a2, .inl (cA 0, 61, .inl o1))])) (ws2 := (fun as => [(a0, .inr (8, [.ref a1])), (a1, .inr (6, [.ref a2])), (a2, .inl (cA 0, 61, .inl o1))])) (st1 := (fun as => [])) ⟨hx, hb, hml, hfc, hts⟩ hK hP hD hS hA (kX2_put l D cA a1 a2 61 f (8 + x1) 1 (Nat.le_of_ble_eq_true rfl) ho1) (cwV 2 hts gX4_putToe_X2_put rfl rfl rfl (by decide +kernel) ⟨(Nat.le_of_ble_eq_true rfl), (Nat.le_of_ble_eq_true rfl)⟩) [1, 2] [0] [0, 1, 2] rfl rfl rfl rfl (by decide) (fun _ => rfl) rfl 1 6 rfl rfl rfl rfl (fun _ => rfl) rfl hl.1 (Nat.le_of_ble_eq_true rfl) dX4_putToe_9 ⟨(Nat.zero_le _), (Nat.zero_le _)⟩ (fun as H locs hP hD hS => ?_)
  have hP : va_P D vwCl [(a0, .inr (8, [.ref a1])), (a1, .inr (6, [.ref a2])), (a2, .inl (cA 0, 61, .inl o1))] H := hP
  have hD : va_D A [(a0, .inr (8, [.ref a1])), (a1, .inr (6, [.ref a2])), (a2, .inl (cA 0, 61, .inl o1))] := hD
  refine lv_aload_n hx hb dX4_putToe_12 rfl (lv_at hl 0 rfl) ?_
  obtain ⟨o2, ho2, h⟩ := bnd_i h
  refine rq_V (v := (some (.int o2))) (As := []) (rest := []) (wc := [(a0, .inr (8, [.ref a1])), (a1, .inr (6, [.ref a2])), (a2, .inl (cA 0, 61, .inl o1))]) ⟨hx, hb, hml, hfc, hts⟩ hK hP (kX4_toes l D cA a0 a1 a2 N o1 ho2) (cwV 0 hts gX4_putToe_X4_toes rfl rfl rfl (by decide +kernel) ⟨(Nat.le_of_ble_eq_true rfl), (Nat.le_of_ble_eq_true rfl)⟩) [0, 1, 2] rfl 0 8 rfl rfl rfl rfl rfl rfl hl.1 (Nat.le_of_ble_eq_true rfl) dX4_putToe_13 ⟨(Nat.zero_le _), (Nat.zero_le _)⟩ ?_
  have h := Option.some.inj h
  subst h
  exact hend (adr []) _ _ _ _ _ _ _ rfl rfl (rtn_i _) hP hD hS dX4_putToe_16
noncomputable def SX4_dropToe (N : Nat) (f : Nat → Int32) (x1 : Int32) : Option (Int32 × (Nat → Int32)) := lt_ (SX2_put 61 f (8 + x1) 0) (fun o1 : Nat → Int32 => bnd (SX4_toes N o1) (fun o2 : Int32 => some ((o2, o1))))
theorem iX4_dropToe_X4 : ∀ w ∈ wsX40, w ∈ wsX4_dropToe := fun _ h => List.mem_cons_of_mem _ (List.mem_append_left _ (List.mem_append_left _ (List.mem_append_right _ h)))
abbrev RM_X4_dropToe : Room := { frames := 2, cells := 0, slots := 0, locals := 44 }
set_option maxHeartbeats 4000000 in
theorem kX4_dropToe (l : Launch) (D : va_G) (cA : Nat → ClassId) (a0 a1 a2 : Nat) (N : Nat) (f : Nat → Int32) (x1 : Int32) {r : Int32 × (Nat → Int32)} (hr : SX4_dropToe N f x1 = some r) {sz : Nat} : Met l yX4_dropToe wsX4_dropToe RM_X4_dropToe (va_Pc [.ref a0, .int x1] (gqB D cA [(a0, .inr (8, [.ref a1])), (a1, .inr (6, [.ref a2])), (a2, .inl (cA 0, 61, .inl f))] sz)) (gqQ D (fun as => (some (.int r.1))) (fun as => [(a0, .inr (8, [.ref a1])), (a1, .inr (6, [.ref a2])), (a2, .inl (cA 0, 61, .inl r.2))]) (va_A [(a0, .inr (8, [.ref a1])), (a1, .inr (6, [.ref a2])), (a2, .inl (cA 0, 61, .inl f))] sz)) 0 0 (va_A [(a0, .inr (8, [.ref a1])), (a1, .inr (6, [.ref a2])), (a2, .inl (cA 0, 61, .inl f))] sz) := by
  refine gq_ofW (cc := cX4_dropToe) (maxL := 2) (ret := (some .int)) (by decide) rfl (Nat.le_of_ble_eq_true rfl) (fun p e s m args below meth c ls Q A hx hb hml hts hfc hmn hK hP hD hS hA hl hend => ?_)
  have hfc : s.vm.findClass RX4 = some m.cls := hfc
  have hl : lv_has ls 2 [(0, .ref a0), (1, .int x1)] := hl
  have h := hr
  clear hr
  unfold SX4_dropToe at h
  refine lv_aload_n hx hb dX4_dropToe_0 rfl (lv_at hl 0 rfl) ?_
  refine va_get (D := D) (ci := 8) (v := .ref a1) (C := RX4) (T := TX4) (N := 1) hx hb hts iX4_dropToe_X4 hfc hK hP 0 rfl rfl 0 (by decide) (hts (.fieldLink RX4 16 "BathtubTides$Tub" "cells" "LBathtubTides$Row;") (List.mem_of_getElem? (i := 1) rfl)) (fun _ h9 => h9) rfl dX4_dropToe_1 ?_
  refine lv_bipush (v := 8) hx hb dX4_dropToe_4 (by decide) ?_
  refine lv_iload_n hx hb dX4_dropToe_6 rfl (lv_at hl 1 rfl) ?_
  refine lv_iadd hx hb dX4_dropToe_7 ?_
  refine lv_iconst (v := 0) hx hb dX4_dropToe_8 (by decide) ?_
  obtain ⟨o1, ho1, h⟩ := lt_i h
  refine gq_V (v := (fun as => none)) (As := [.int (8 + x1), .int 0]) (rest := []) (wc := [(a1, .inr (6, [.ref a2])), (a2, .inl (cA 0, 61, .inl f))]) (wr := [(a0, .inr (8, [.ref a1]))]) (w1 := (fun as => [(a1, .inr (6, [.ref a2])), (a2, .inl (cA 0, 61, .inl o1))])) (ws2 := (fun as => [(a0, .inr (8, [.ref a1])), (a1, .inr (6, [.ref a2])), (a2, .inl (cA 0, 61, .inl o1))])) (st1 := (fun as => [])) ⟨hx, hb, hml, hfc, hts⟩ hK hP hD hS hA (kX2_put l D cA a1 a2 61 f (8 + x1) 0 (Nat.le_of_ble_eq_true rfl) ho1) (cwV 2 hts gX4_dropToe_X2_put rfl rfl rfl (by decide +kernel) ⟨(Nat.le_of_ble_eq_true rfl), (Nat.le_of_ble_eq_true rfl)⟩) [1, 2] [0] [0, 1, 2] rfl rfl rfl rfl (by decide) (fun _ => rfl) rfl 1 6 rfl rfl rfl rfl (fun _ => rfl) rfl hl.1 (Nat.le_of_ble_eq_true rfl) dX4_dropToe_9 ⟨(Nat.zero_le _), (Nat.zero_le _)⟩ (fun as H locs hP hD hS => ?_)
  have hP : va_P D vwCl [(a0, .inr (8, [.ref a1])), (a1, .inr (6, [.ref a2])), (a2, .inl (cA 0, 61, .inl o1))] H := hP
  have hD : va_D A [(a0, .inr (8, [.ref a1])), (a1, .inr (6, [.ref a2])), (a2, .inl (cA 0, 61, .inl o1))] := hD
  refine lv_aload_n hx hb dX4_dropToe_12 rfl (lv_at hl 0 rfl) ?_
  obtain ⟨o2, ho2, h⟩ := bnd_i h
  refine rq_V (v := (some (.int o2))) (As := []) (rest := []) (wc := [(a0, .inr (8, [.ref a1])), (a1, .inr (6, [.ref a2])), (a2, .inl (cA 0, 61, .inl o1))]) ⟨hx, hb, hml, hfc, hts⟩ hK hP (kX4_toes l D cA a0 a1 a2 N o1 ho2) (cwV 0 hts gX4_dropToe_X4_toes rfl rfl rfl (by decide +kernel) ⟨(Nat.le_of_ble_eq_true rfl), (Nat.le_of_ble_eq_true rfl)⟩) [0, 1, 2] rfl 0 8 rfl rfl rfl rfl rfl rfl hl.1 (Nat.le_of_ble_eq_true rfl) dX4_dropToe_13 ⟨(Nat.zero_le _), (Nat.zero_le _)⟩ ?_
  have h := Option.some.inj h
  subst h
  exact hend (adr []) _ _ _ _ _ _ _ rfl rfl (rtn_i _) hP hD hS dX4_dropToe_16
noncomputable def SX4_putPlug (f : Nat → Int32) (x1 : Int32) : Int32 × (Nat → Int32) := lt_ (SX2_put 61 f 5 x1) (fun o1 : Nat → Int32 => ((SX4_plug f), o1))
theorem iX4_putPlug_X4 : ∀ w ∈ wsX40, w ∈ wsX4_putPlug := fun _ h => List.mem_cons_of_mem _ (List.mem_append_left _ (List.mem_append_left _ (List.mem_append_right _ h)))
abbrev RM_X4_putPlug : Room := { frames := 2, cells := 0, slots := 0, locals := 41 }
set_option maxHeartbeats 4000000 in
theorem kX4_putPlug (l : Launch) (D : va_G) (cA : Nat → ClassId) (a0 a1 a2 : Nat) (f : Nat → Int32) (x1 : Int32) {r : Int32 × (Nat → Int32)} (hr : SX4_putPlug f x1 = r) {sz : Nat} : Met l yX4_putPlug wsX4_putPlug RM_X4_putPlug (va_Pc [.ref a0, .int x1] (gqB D cA [(a0, .inr (8, [.ref a1])), (a1, .inr (6, [.ref a2])), (a2, .inl (cA 0, 61, .inl f))] sz)) (gqQ D (fun as => (some (.int r.1))) (fun as => [(a0, .inr (8, [.ref a1])), (a1, .inr (6, [.ref a2])), (a2, .inl (cA 0, 61, .inl r.2))]) (va_A [(a0, .inr (8, [.ref a1])), (a1, .inr (6, [.ref a2])), (a2, .inl (cA 0, 61, .inl f))] sz)) 0 0 (va_A [(a0, .inr (8, [.ref a1])), (a1, .inr (6, [.ref a2])), (a2, .inl (cA 0, 61, .inl f))] sz) := by
  refine gq_ofW (cc := cX4_putPlug) (maxL := 3) (ret := (some .int)) (by decide) rfl (Nat.le_of_ble_eq_true rfl) (fun p e s m args below meth c ls Q A hx hb hml hts hfc hmn hK hP hD hS hA hl hend => ?_)
  have hfc : s.vm.findClass RX4 = some m.cls := hfc
  have hl : lv_has ls 3 [(0, .ref a0), (1, .int x1)] := hl
  have h := hr
  clear hr
  unfold SX4_putPlug at h
  refine lv_aload_n hx hb dX4_putPlug_0 rfl (lv_at hl 0 rfl) ?_
  refine rq_V (v := (some (.int (SX4_plug f)))) (As := []) (rest := []) (wc := [(a0, .inr (8, [.ref a1])), (a1, .inr (6, [.ref a2])), (a2, .inl (cA 0, 61, .inl f))]) ⟨hx, hb, hml, hfc, hts⟩ hK hP (kX4_plug l D cA a0 a1 a2 f rfl) (cwV 0 hts gX4_putPlug_X4_plug rfl rfl rfl (by decide +kernel) ⟨(Nat.le_of_ble_eq_true rfl), (Nat.le_of_ble_eq_true rfl)⟩) [0, 1, 2] rfl 0 8 rfl rfl rfl rfl rfl rfl hl.1 (Nat.le_of_ble_eq_true rfl) dX4_putPlug_1 ⟨(Nat.zero_le _), (Nat.zero_le _)⟩ ?_
  refine lv_istore_n hx hb dX4_putPlug_4 rfl hl (Nat.le_of_ble_eq_true rfl) rfl (fun ls hl => ?_)
  have hl : lv_has ls 3 [(2, .int (SX4_plug f)), (0, .ref a0), (1, .int x1)] := hl
  refine lv_aload_n hx hb dX4_putPlug_5 rfl (lv_at hl 1 rfl) ?_
  refine va_get (D := D) (ci := 8) (v := .ref a1) (C := RX4) (T := TX4) (N := 1) hx hb hts iX4_putPlug_X4 hfc hK hP 0 rfl rfl 0 (by decide) (hts (.fieldLink RX4 16 "BathtubTides$Tub" "cells" "LBathtubTides$Row;") (List.mem_of_getElem? (i := 1) rfl)) (fun _ h9 => h9) rfl dX4_putPlug_6 ?_
  refine lv_iconst (v := 5) hx hb dX4_putPlug_9 (by decide) ?_
  refine lv_iload_n hx hb dX4_putPlug_10 rfl (lv_at hl 2 rfl) ?_
  obtain ⟨o1, ho1, h⟩ := lt_i h
  refine gq_V (v := (fun as => none)) (As := [.int 5, .int x1]) (rest := []) (wc := [(a1, .inr (6, [.ref a2])), (a2, .inl (cA 0, 61, .inl f))]) (wr := [(a0, .inr (8, [.ref a1]))]) (w1 := (fun as => [(a1, .inr (6, [.ref a2])), (a2, .inl (cA 0, 61, .inl o1))])) (ws2 := (fun as => [(a0, .inr (8, [.ref a1])), (a1, .inr (6, [.ref a2])), (a2, .inl (cA 0, 61, .inl o1))])) (st1 := (fun as => [])) ⟨hx, hb, hml, hfc, hts⟩ hK hP hD hS hA (kX2_put l D cA a1 a2 61 f 5 x1 (Nat.le_of_ble_eq_true rfl) ho1) (cwV 2 hts gX4_putPlug_X2_put rfl rfl rfl (by decide +kernel) ⟨(Nat.le_of_ble_eq_true rfl), (Nat.le_of_ble_eq_true rfl)⟩) [1, 2] [0] [0, 1, 2] rfl rfl rfl rfl (by decide) (fun _ => rfl) rfl 1 6 rfl rfl rfl rfl (fun _ => rfl) rfl hl.1 (Nat.le_of_ble_eq_true rfl) dX4_putPlug_11 ⟨(Nat.zero_le _), (Nat.zero_le _)⟩ (fun as H locs hP hD hS => ?_)
  have hP : va_P D vwCl [(a0, .inr (8, [.ref a1])), (a1, .inr (6, [.ref a2])), (a2, .inl (cA 0, 61, .inl o1))] H := hP
  have hD : va_D A [(a0, .inr (8, [.ref a1])), (a1, .inr (6, [.ref a2])), (a2, .inl (cA 0, 61, .inl o1))] := hD
  refine lv_iload_n hx hb dX4_putPlug_14 rfl (lv_at hl 0 rfl) ?_
  subst h
  exact hend (adr []) _ _ _ _ _ _ _ rfl rfl (rtn_i _) hP hD hS dX4_putPlug_15
noncomputable def SX4_putTowel (f : Nat → Int32) (x1 : Int32) (x2 : Int32) : Int32 × (Nat → Int32) := lt_ (45 + ((SX4_towels f) * 4)) (fun t1 : Int32 => lt_ (SX2_put 61 f (t1 + 0) x1) (fun o2 : Nat → Int32 => lt_ (SX2_put 61 o2 (t1 + 1) x2) (fun o3 : Nat → Int32 => lt_ (SX2_put 61 o3 (t1 + 2) 0) (fun o4 : Nat → Int32 => lt_ (SX2_put 61 o4 (t1 + 3) 0) (fun o5 : Nat → Int32 => lt_ (SX2_put 61 o5 7 ((SX4_towels f) + 1)) (fun o6 : Nat → Int32 => ((SX4_towels f), o6)))))))
theorem iX4_putTowel_X4 : ∀ w ∈ wsX40, w ∈ wsX4_putTowel := fun _ h => List.mem_cons_of_mem _ (List.mem_append_left _ (List.mem_append_left _ (List.mem_append_right _ h)))
abbrev RM_X4_putTowel : Room := { frames := 2, cells := 0, slots := 0, locals := 41 }
set_option maxHeartbeats 4000000 in
theorem kX4_putTowel (l : Launch) (D : va_G) (cA : Nat → ClassId) (a0 a1 a2 : Nat) (f : Nat → Int32) (x1 : Int32) (x2 : Int32) {r : Int32 × (Nat → Int32)} (hr : SX4_putTowel f x1 x2 = r) {sz : Nat} : Met l yX4_putTowel wsX4_putTowel RM_X4_putTowel (va_Pc [.ref a0, .int x1, .int x2] (gqB D cA [(a0, .inr (8, [.ref a1])), (a1, .inr (6, [.ref a2])), (a2, .inl (cA 0, 61, .inl f))] sz)) (gqQ D (fun as => (some (.int r.1))) (fun as => [(a0, .inr (8, [.ref a1])), (a1, .inr (6, [.ref a2])), (a2, .inl (cA 0, 61, .inl r.2))]) (va_A [(a0, .inr (8, [.ref a1])), (a1, .inr (6, [.ref a2])), (a2, .inl (cA 0, 61, .inl f))] sz)) 0 0 (va_A [(a0, .inr (8, [.ref a1])), (a1, .inr (6, [.ref a2])), (a2, .inl (cA 0, 61, .inl f))] sz) := by
  refine gq_ofW (cc := cX4_putTowel) (maxL := 5) (ret := (some .int)) (by decide) rfl (Nat.le_of_ble_eq_true rfl) (fun p e s m args below meth c ls Q A hx hb hml hts hfc hmn hK hP hD hS hA hl hend => ?_)
  have hfc : s.vm.findClass RX4 = some m.cls := hfc
  have hl : lv_has ls 5 [(0, .ref a0), (1, .int x1), (2, .int x2)] := hl
  have h := hr
  clear hr
  unfold SX4_putTowel at h
  refine lv_aload_n hx hb dX4_putTowel_0 rfl (lv_at hl 0 rfl) ?_
  refine rq_V (v := (some (.int (SX4_towels f)))) (As := []) (rest := []) (wc := [(a0, .inr (8, [.ref a1])), (a1, .inr (6, [.ref a2])), (a2, .inl (cA 0, 61, .inl f))]) ⟨hx, hb, hml, hfc, hts⟩ hK hP (kX4_towels l D cA a0 a1 a2 f rfl) (cwV 0 hts gX4_putTowel_X4_towels rfl rfl rfl (by decide +kernel) ⟨(Nat.le_of_ble_eq_true rfl), (Nat.le_of_ble_eq_true rfl)⟩) [0, 1, 2] rfl 0 8 rfl rfl rfl rfl rfl rfl hl.1 (Nat.le_of_ble_eq_true rfl) dX4_putTowel_1 ⟨(Nat.zero_le _), (Nat.zero_le _)⟩ ?_
  refine lv_istore_n hx hb dX4_putTowel_4 rfl hl (Nat.le_of_ble_eq_true rfl) rfl (fun ls hl => ?_)
  have hl : lv_has ls 5 [(3, .int (SX4_towels f)), (0, .ref a0), (1, .int x1), (2, .int x2)] := hl
  refine lv_bipush (v := 45) hx hb dX4_putTowel_5 (by decide) ?_
  refine lv_iload_n hx hb dX4_putTowel_7 rfl (lv_at hl 0 rfl) ?_
  refine lv_iconst (v := 4) hx hb dX4_putTowel_8 (by decide) ?_
  refine lv_imul hx hb dX4_putTowel_9 ?_
  refine lv_iadd hx hb dX4_putTowel_10 ?_
  refine lv_topi (fun t1 et1 => ?_)
  have h := lt_e h _ et1
  refine lv_istore hx hb dX4_putTowel_11 hl (Nat.le_of_ble_eq_true rfl) rfl (fun ls hl => ?_)
  have hl : lv_has ls 5 [(4, .int t1), (3, .int (SX4_towels f)), (0, .ref a0), (1, .int x1), (2, .int x2)] := hl
  refine lv_aload_n hx hb dX4_putTowel_13 rfl (lv_at hl 2 rfl) ?_
  refine va_get (D := D) (ci := 8) (v := .ref a1) (C := RX4) (T := TX4) (N := 1) hx hb hts iX4_putTowel_X4 hfc hK hP 0 rfl rfl 0 (by decide) (hts (.fieldLink RX4 16 "BathtubTides$Tub" "cells" "LBathtubTides$Row;") (List.mem_of_getElem? (i := 1) rfl)) (fun _ h9 => h9) rfl dX4_putTowel_14 ?_
  refine lv_iload hx hb dX4_putTowel_17 (lv_at hl 0 rfl) ?_
  refine lv_iconst (v := 0) hx hb dX4_putTowel_19 (by decide) ?_
  refine lv_iadd hx hb dX4_putTowel_20 ?_
  refine lv_iload_n hx hb dX4_putTowel_21 rfl (lv_at hl 3 rfl) ?_
  obtain ⟨o2, ho2, h⟩ := lt_i h
  refine gq_V (v := (fun as => none)) (As := [.int (t1 + 0), .int x1]) (rest := []) (wc := [(a1, .inr (6, [.ref a2])), (a2, .inl (cA 0, 61, .inl f))]) (wr := [(a0, .inr (8, [.ref a1]))]) (w1 := (fun as => [(a1, .inr (6, [.ref a2])), (a2, .inl (cA 0, 61, .inl o2))])) (ws2 := (fun as => [(a0, .inr (8, [.ref a1])), (a1, .inr (6, [.ref a2])), (a2, .inl (cA 0, 61, .inl o2))])) (st1 := (fun as => [])) ⟨hx, hb, hml, hfc, hts⟩ hK hP hD hS hA (kX2_put l D cA a1 a2 61 f (t1 + 0) x1 (Nat.le_of_ble_eq_true rfl) ho2) (cwV 2 hts gX4_putTowel_X2_put rfl rfl rfl (by decide +kernel) ⟨(Nat.le_of_ble_eq_true rfl), (Nat.le_of_ble_eq_true rfl)⟩) [1, 2] [0] [0, 1, 2] rfl rfl rfl rfl (by decide) (fun _ => rfl) rfl 1 6 rfl rfl rfl rfl (fun _ => rfl) rfl hl.1 (Nat.le_of_ble_eq_true rfl) dX4_putTowel_22 ⟨(Nat.zero_le _), (Nat.zero_le _)⟩ (fun as H locs hP hD hS => ?_)
  have hP : va_P D vwCl [(a0, .inr (8, [.ref a1])), (a1, .inr (6, [.ref a2])), (a2, .inl (cA 0, 61, .inl o2))] H := hP
  have hD : va_D A [(a0, .inr (8, [.ref a1])), (a1, .inr (6, [.ref a2])), (a2, .inl (cA 0, 61, .inl o2))] := hD
  refine lv_aload_n hx hb dX4_putTowel_25 rfl (lv_at hl 2 rfl) ?_
  refine va_get (D := D) (ci := 8) (v := .ref a1) (C := RX4) (T := TX4) (N := 1) hx hb hts iX4_putTowel_X4 hfc hK hP 0 rfl rfl 0 (by decide) (hts (.fieldLink RX4 16 "BathtubTides$Tub" "cells" "LBathtubTides$Row;") (List.mem_of_getElem? (i := 1) rfl)) (fun _ h9 => h9) rfl dX4_putTowel_26 ?_
  refine lv_iload hx hb dX4_putTowel_29 (lv_at hl 0 rfl) ?_
  refine lv_iconst (v := 1) hx hb dX4_putTowel_31 (by decide) ?_
  refine lv_iadd hx hb dX4_putTowel_32 ?_
  refine lv_iload_n hx hb dX4_putTowel_33 rfl (lv_at hl 4 rfl) ?_
  obtain ⟨o3, ho3, h⟩ := lt_i h
  refine gq_V (v := (fun as => none)) (As := [.int (t1 + 1), .int x2]) (rest := []) (wc := [(a1, .inr (6, [.ref a2])), (a2, .inl (cA 0, 61, .inl o2))]) (wr := [(a0, .inr (8, [.ref a1]))]) (w1 := (fun as => [(a1, .inr (6, [.ref a2])), (a2, .inl (cA 0, 61, .inl o3))])) (ws2 := (fun as => [(a0, .inr (8, [.ref a1])), (a1, .inr (6, [.ref a2])), (a2, .inl (cA 0, 61, .inl o3))])) (st1 := (fun as => [])) ⟨hx, hb, hml, hfc, hts⟩ hK hP hD hS hA (kX2_put l D cA a1 a2 61 o2 (t1 + 1) x2 (Nat.le_of_ble_eq_true rfl) ho3) (cwV 2 hts gX4_putTowel_X2_put rfl rfl rfl (by decide +kernel) ⟨(Nat.le_of_ble_eq_true rfl), (Nat.le_of_ble_eq_true rfl)⟩) [1, 2] [0] [0, 1, 2] rfl rfl rfl rfl (by decide) (fun _ => rfl) rfl 1 6 rfl rfl rfl rfl (fun _ => rfl) rfl hl.1 (Nat.le_of_ble_eq_true rfl) dX4_putTowel_34 ⟨(Nat.zero_le _), (Nat.zero_le _)⟩ (fun as H locs hP hD hS => ?_)
  have hP : va_P D vwCl [(a0, .inr (8, [.ref a1])), (a1, .inr (6, [.ref a2])), (a2, .inl (cA 0, 61, .inl o3))] H := hP
  have hD : va_D A [(a0, .inr (8, [.ref a1])), (a1, .inr (6, [.ref a2])), (a2, .inl (cA 0, 61, .inl o3))] := hD
  refine lv_aload_n hx hb dX4_putTowel_37 rfl (lv_at hl 2 rfl) ?_
  refine va_get (D := D) (ci := 8) (v := .ref a1) (C := RX4) (T := TX4) (N := 1) hx hb hts iX4_putTowel_X4 hfc hK hP 0 rfl rfl 0 (by decide) (hts (.fieldLink RX4 16 "BathtubTides$Tub" "cells" "LBathtubTides$Row;") (List.mem_of_getElem? (i := 1) rfl)) (fun _ h9 => h9) rfl dX4_putTowel_38 ?_
  refine lv_iload hx hb dX4_putTowel_41 (lv_at hl 0 rfl) ?_
  refine lv_iconst (v := 2) hx hb dX4_putTowel_43 (by decide) ?_
  refine lv_iadd hx hb dX4_putTowel_44 ?_
  refine lv_iconst (v := 0) hx hb dX4_putTowel_45 (by decide) ?_
  obtain ⟨o4, ho4, h⟩ := lt_i h
  refine gq_V (v := (fun as => none)) (As := [.int (t1 + 2), .int 0]) (rest := []) (wc := [(a1, .inr (6, [.ref a2])), (a2, .inl (cA 0, 61, .inl o3))]) (wr := [(a0, .inr (8, [.ref a1]))]) (w1 := (fun as => [(a1, .inr (6, [.ref a2])), (a2, .inl (cA 0, 61, .inl o4))])) (ws2 := (fun as => [(a0, .inr (8, [.ref a1])), (a1, .inr (6, [.ref a2])), (a2, .inl (cA 0, 61, .inl o4))])) (st1 := (fun as => [])) ⟨hx, hb, hml, hfc, hts⟩ hK hP hD hS hA (kX2_put l D cA a1 a2 61 o3 (t1 + 2) 0 (Nat.le_of_ble_eq_true rfl) ho4) (cwV 2 hts gX4_putTowel_X2_put rfl rfl rfl (by decide +kernel) ⟨(Nat.le_of_ble_eq_true rfl), (Nat.le_of_ble_eq_true rfl)⟩) [1, 2] [0] [0, 1, 2] rfl rfl rfl rfl (by decide) (fun _ => rfl) rfl 1 6 rfl rfl rfl rfl (fun _ => rfl) rfl hl.1 (Nat.le_of_ble_eq_true rfl) dX4_putTowel_46 ⟨(Nat.zero_le _), (Nat.zero_le _)⟩ (fun as H locs hP hD hS => ?_)
  have hP : va_P D vwCl [(a0, .inr (8, [.ref a1])), (a1, .inr (6, [.ref a2])), (a2, .inl (cA 0, 61, .inl o4))] H := hP
  have hD : va_D A [(a0, .inr (8, [.ref a1])), (a1, .inr (6, [.ref a2])), (a2, .inl (cA 0, 61, .inl o4))] := hD
  refine lv_aload_n hx hb dX4_putTowel_49 rfl (lv_at hl 2 rfl) ?_
  refine va_get (D := D) (ci := 8) (v := .ref a1) (C := RX4) (T := TX4) (N := 1) hx hb hts iX4_putTowel_X4 hfc hK hP 0 rfl rfl 0 (by decide) (hts (.fieldLink RX4 16 "BathtubTides$Tub" "cells" "LBathtubTides$Row;") (List.mem_of_getElem? (i := 1) rfl)) (fun _ h9 => h9) rfl dX4_putTowel_50 ?_
  refine lv_iload hx hb dX4_putTowel_53 (lv_at hl 0 rfl) ?_
  refine lv_iconst (v := 3) hx hb dX4_putTowel_55 (by decide) ?_
  refine lv_iadd hx hb dX4_putTowel_56 ?_
  refine lv_iconst (v := 0) hx hb dX4_putTowel_57 (by decide) ?_
  obtain ⟨o5, ho5, h⟩ := lt_i h
  refine gq_V (v := (fun as => none)) (As := [.int (t1 + 3), .int 0]) (rest := []) (wc := [(a1, .inr (6, [.ref a2])), (a2, .inl (cA 0, 61, .inl o4))]) (wr := [(a0, .inr (8, [.ref a1]))]) (w1 := (fun as => [(a1, .inr (6, [.ref a2])), (a2, .inl (cA 0, 61, .inl o5))])) (ws2 := (fun as => [(a0, .inr (8, [.ref a1])), (a1, .inr (6, [.ref a2])), (a2, .inl (cA 0, 61, .inl o5))])) (st1 := (fun as => [])) ⟨hx, hb, hml, hfc, hts⟩ hK hP hD hS hA (kX2_put l D cA a1 a2 61 o4 (t1 + 3) 0 (Nat.le_of_ble_eq_true rfl) ho5) (cwV 2 hts gX4_putTowel_X2_put rfl rfl rfl (by decide +kernel) ⟨(Nat.le_of_ble_eq_true rfl), (Nat.le_of_ble_eq_true rfl)⟩) [1, 2] [0] [0, 1, 2] rfl rfl rfl rfl (by decide) (fun _ => rfl) rfl 1 6 rfl rfl rfl rfl (fun _ => rfl) rfl hl.1 (Nat.le_of_ble_eq_true rfl) dX4_putTowel_58 ⟨(Nat.zero_le _), (Nat.zero_le _)⟩ (fun as H locs hP hD hS => ?_)
  have hP : va_P D vwCl [(a0, .inr (8, [.ref a1])), (a1, .inr (6, [.ref a2])), (a2, .inl (cA 0, 61, .inl o5))] H := hP
  have hD : va_D A [(a0, .inr (8, [.ref a1])), (a1, .inr (6, [.ref a2])), (a2, .inl (cA 0, 61, .inl o5))] := hD
  refine lv_aload_n hx hb dX4_putTowel_61 rfl (lv_at hl 2 rfl) ?_
  refine va_get (D := D) (ci := 8) (v := .ref a1) (C := RX4) (T := TX4) (N := 1) hx hb hts iX4_putTowel_X4 hfc hK hP 0 rfl rfl 0 (by decide) (hts (.fieldLink RX4 16 "BathtubTides$Tub" "cells" "LBathtubTides$Row;") (List.mem_of_getElem? (i := 1) rfl)) (fun _ h9 => h9) rfl dX4_putTowel_62 ?_
  refine lv_bipush (v := 7) hx hb dX4_putTowel_65 (by decide) ?_
  refine lv_iload_n hx hb dX4_putTowel_67 rfl (lv_at hl 1 rfl) ?_
  refine lv_iconst (v := 1) hx hb dX4_putTowel_68 (by decide) ?_
  refine lv_iadd hx hb dX4_putTowel_69 ?_
  obtain ⟨o6, ho6, h⟩ := lt_i h
  refine gq_V (v := (fun as => none)) (As := [.int 7, .int ((SX4_towels f) + 1)]) (rest := []) (wc := [(a1, .inr (6, [.ref a2])), (a2, .inl (cA 0, 61, .inl o5))]) (wr := [(a0, .inr (8, [.ref a1]))]) (w1 := (fun as => [(a1, .inr (6, [.ref a2])), (a2, .inl (cA 0, 61, .inl o6))])) (ws2 := (fun as => [(a0, .inr (8, [.ref a1])), (a1, .inr (6, [.ref a2])), (a2, .inl (cA 0, 61, .inl o6))])) (st1 := (fun as => [])) ⟨hx, hb, hml, hfc, hts⟩ hK hP hD hS hA (kX2_put l D cA a1 a2 61 o5 7 ((SX4_towels f) + 1) (Nat.le_of_ble_eq_true rfl) ho6) (cwV 2 hts gX4_putTowel_X2_put rfl rfl rfl (by decide +kernel) ⟨(Nat.le_of_ble_eq_true rfl), (Nat.le_of_ble_eq_true rfl)⟩) [1, 2] [0] [0, 1, 2] rfl rfl rfl rfl (by decide) (fun _ => rfl) rfl 1 6 rfl rfl rfl rfl (fun _ => rfl) rfl hl.1 (Nat.le_of_ble_eq_true rfl) dX4_putTowel_70 ⟨(Nat.zero_le _), (Nat.zero_le _)⟩ (fun as H locs hP hD hS => ?_)
  have hP : va_P D vwCl [(a0, .inr (8, [.ref a1])), (a1, .inr (6, [.ref a2])), (a2, .inl (cA 0, 61, .inl o6))] H := hP
  have hD : va_D A [(a0, .inr (8, [.ref a1])), (a1, .inr (6, [.ref a2])), (a2, .inl (cA 0, 61, .inl o6))] := hD
  refine lv_iload_n hx hb dX4_putTowel_73 rfl (lv_at hl 1 rfl) ?_
  subst h
  exact hend (adr []) _ _ _ _ _ _ _ rfl rfl (rtn_i _) hP hD hS dX4_putTowel_74
noncomputable def SX4_wring (f : Nat → Int32) (x1 : Int32) : Int32 × (Nat → Int32) := lt_ (imin (SX4_ofTowel f x1 2) (40 - (SX2_at 61 f 1))) (fun t1 : Int32 => lt_ (SX2_put 61 f ((45 + (x1 * 4)) + 2) 0) (fun o2 : Nat → Int32 => lt_ (SX2_add 61 o2 1 t1) (fun o3 : Nat → Int32 => lt_ (SX2_add 61 o3 3 ((SX4_ofTowel f x1 2) - t1)) (fun o4 : Nat → Int32 => ((SX4_ofTowel f x1 2) - t1, o4)))))
theorem iX4_wring_X4 : ∀ w ∈ wsX40, w ∈ wsX4_wring := fun _ h => List.mem_cons_of_mem _ (List.mem_append_left _ (List.mem_append_left _ (List.mem_append_right _ h)))
abbrev RM_X4_wring : Room := { frames := 2, cells := 0, slots := 0, locals := 45 }
set_option maxHeartbeats 4000000 in
theorem kX4_wring (l : Launch) (D : va_G) (cA : Nat → ClassId) (a0 a1 a2 : Nat) (f : Nat → Int32) (x1 : Int32) {r : Int32 × (Nat → Int32)} (hr : SX4_wring f x1 = r) {sz : Nat} : Met l yX4_wring wsX4_wring RM_X4_wring (va_Pc [.ref a0, .int x1] (gqB D cA [(a0, .inr (8, [.ref a1])), (a1, .inr (6, [.ref a2])), (a2, .inl (cA 0, 61, .inl f))] sz)) (gqQ D (fun as => (some (.int r.1))) (fun as => [(a0, .inr (8, [.ref a1])), (a1, .inr (6, [.ref a2])), (a2, .inl (cA 0, 61, .inl r.2))]) (va_A [(a0, .inr (8, [.ref a1])), (a1, .inr (6, [.ref a2])), (a2, .inl (cA 0, 61, .inl f))] sz)) 0 0 (va_A [(a0, .inr (8, [.ref a1])), (a1, .inr (6, [.ref a2])), (a2, .inl (cA 0, 61, .inl f))] sz) := by
  refine gq_ofW (cc := cX4_wring) (maxL := 4) (ret := (some .int)) (by decide) rfl (Nat.le_of_ble_eq_true rfl) (fun p e s m args below meth c ls Q A hx hb hml hts hfc hmn hK hP hD hS hA hl hend => ?_)
  have hfc : s.vm.findClass RX4 = some m.cls := hfc
  have hl : lv_has ls 4 [(0, .ref a0), (1, .int x1)] := hl
  have h := hr
  clear hr
  unfold SX4_wring at h
  refine lv_aload_n hx hb dX4_wring_0 rfl (lv_at hl 0 rfl) ?_
  refine lv_iload_n hx hb dX4_wring_1 rfl (lv_at hl 1 rfl) ?_
  refine lv_iconst (v := 2) hx hb dX4_wring_2 (by decide) ?_
  refine rq_V (v := (some (.int (SX4_ofTowel f x1 2)))) (As := [.int x1, .int 2]) (rest := []) (wc := [(a0, .inr (8, [.ref a1])), (a1, .inr (6, [.ref a2])), (a2, .inl (cA 0, 61, .inl f))]) ⟨hx, hb, hml, hfc, hts⟩ hK hP (kX4_ofTowel l D cA a0 a1 a2 f x1 2 rfl) (cwV 2 hts gX4_wring_X4_ofTowel rfl rfl rfl (by decide +kernel) ⟨(Nat.le_of_ble_eq_true rfl), (Nat.le_of_ble_eq_true rfl)⟩) [0, 1, 2] rfl 0 8 rfl rfl rfl rfl rfl rfl hl.1 (Nat.le_of_ble_eq_true rfl) dX4_wring_3 ⟨(Nat.zero_le _), (Nat.zero_le _)⟩ ?_
  refine lv_istore_n hx hb dX4_wring_6 rfl hl (Nat.le_of_ble_eq_true rfl) rfl (fun ls hl => ?_)
  have hl : lv_has ls 4 [(2, .int (SX4_ofTowel f x1 2)), (0, .ref a0), (1, .int x1)] := hl
  refine lv_iload_n hx hb dX4_wring_7 rfl (lv_at hl 0 rfl) ?_
  refine lv_bipush (v := 40) hx hb dX4_wring_8 (by decide) ?_
  refine lv_aload_n hx hb dX4_wring_10 rfl (lv_at hl 1 rfl) ?_
  refine va_get (D := D) (ci := 8) (v := .ref a1) (C := RX4) (T := TX4) (N := 1) hx hb hts iX4_wring_X4 hfc hK hP 0 rfl rfl 0 (by decide) (hts (.fieldLink RX4 16 "BathtubTides$Tub" "cells" "LBathtubTides$Row;") (List.mem_of_getElem? (i := 1) rfl)) (fun _ h9 => h9) rfl dX4_wring_11 ?_
  refine lv_iconst (v := 1) hx hb dX4_wring_14 (by decide) ?_
  refine rq_V (v := (some (.int (SX2_at 61 f 1)))) (As := [.int 1]) (rest := [.int 40, .int (SX4_ofTowel f x1 2)]) (wc := [(a1, .inr (6, [.ref a2])), (a2, .inl (cA 0, 61, .inl f))]) ⟨hx, hb, hml, hfc, hts⟩ hK hP (kX2_at l D cA a1 a2 61 f 1 (Nat.le_of_ble_eq_true rfl) rfl) (cwV 1 hts gX4_wring_X2_at rfl rfl rfl (by decide +kernel) ⟨(Nat.le_of_ble_eq_true rfl), (Nat.le_of_ble_eq_true rfl)⟩) [1, 2] rfl 1 6 rfl rfl rfl rfl rfl rfl hl.1 (Nat.le_of_ble_eq_true rfl) dX4_wring_15 ⟨(Nat.zero_le _), (Nat.zero_le _)⟩ ?_
  refine lv_isub hx hb dX4_wring_18 ?_
  refine va_mmin hx hb (hml.trans hl.1.symm) hfc (hts (.methodLink RX4 136 Lib.Math.min.name) (List.mem_of_getElem? (i := 2) rfl)) (hts (.static Lib.Math.min.name) (List.mem_of_getElem? (i := 3) rfl)) (hts (.initialized "java/lang/Math") (List.mem_of_getElem? (i := 4) rfl)) (hts (.code Lib.Math.min.name Lib.Math.min.code 2 (some .int)) (List.mem_of_getElem? (i := 5) rfl)) (Nat.le_of_ble_eq_true rfl) (Nat.le_of_ble_eq_true rfl) (Nat.zero_le _) (Nat.zero_le _) dX4_wring_19 ?_
  refine lv_topi (fun t1 et1 => ?_)
  have h := lt_e h _ et1
  refine lv_istore_n hx hb dX4_wring_22 rfl hl (Nat.le_of_ble_eq_true rfl) rfl (fun ls hl => ?_)
  have hl : lv_has ls 4 [(3, .int t1), (2, .int (SX4_ofTowel f x1 2)), (0, .ref a0), (1, .int x1)] := hl
  refine lv_aload_n hx hb dX4_wring_23 rfl (lv_at hl 2 rfl) ?_
  refine va_get (D := D) (ci := 8) (v := .ref a1) (C := RX4) (T := TX4) (N := 1) hx hb hts iX4_wring_X4 hfc hK hP 0 rfl rfl 0 (by decide) (hts (.fieldLink RX4 16 "BathtubTides$Tub" "cells" "LBathtubTides$Row;") (List.mem_of_getElem? (i := 1) rfl)) (fun _ h9 => h9) rfl dX4_wring_24 ?_
  refine lv_bipush (v := 45) hx hb dX4_wring_27 (by decide) ?_
  refine lv_iload_n hx hb dX4_wring_29 rfl (lv_at hl 3 rfl) ?_
  refine lv_iconst (v := 4) hx hb dX4_wring_30 (by decide) ?_
  refine lv_imul hx hb dX4_wring_31 ?_
  refine lv_iadd hx hb dX4_wring_32 ?_
  refine lv_iconst (v := 2) hx hb dX4_wring_33 (by decide) ?_
  refine lv_iadd hx hb dX4_wring_34 ?_
  refine lv_iconst (v := 0) hx hb dX4_wring_35 (by decide) ?_
  obtain ⟨o2, ho2, h⟩ := lt_i h
  refine gq_V (v := (fun as => none)) (As := [.int ((45 + (x1 * 4)) + 2), .int 0]) (rest := []) (wc := [(a1, .inr (6, [.ref a2])), (a2, .inl (cA 0, 61, .inl f))]) (wr := [(a0, .inr (8, [.ref a1]))]) (w1 := (fun as => [(a1, .inr (6, [.ref a2])), (a2, .inl (cA 0, 61, .inl o2))])) (ws2 := (fun as => [(a0, .inr (8, [.ref a1])), (a1, .inr (6, [.ref a2])), (a2, .inl (cA 0, 61, .inl o2))])) (st1 := (fun as => [])) ⟨hx, hb, hml, hfc, hts⟩ hK hP hD hS hA (kX2_put l D cA a1 a2 61 f ((45 + (x1 * 4)) + 2) 0 (Nat.le_of_ble_eq_true rfl) ho2) (cwV 2 hts gX4_wring_X2_put rfl rfl rfl (by decide +kernel) ⟨(Nat.le_of_ble_eq_true rfl), (Nat.le_of_ble_eq_true rfl)⟩) [1, 2] [0] [0, 1, 2] rfl rfl rfl rfl (by decide) (fun _ => rfl) rfl 1 6 rfl rfl rfl rfl (fun _ => rfl) rfl hl.1 (Nat.le_of_ble_eq_true rfl) dX4_wring_36 ⟨(Nat.zero_le _), (Nat.zero_le _)⟩ (fun as H locs hP hD hS => ?_)
  have hP : va_P D vwCl [(a0, .inr (8, [.ref a1])), (a1, .inr (6, [.ref a2])), (a2, .inl (cA 0, 61, .inl o2))] H := hP
  have hD : va_D A [(a0, .inr (8, [.ref a1])), (a1, .inr (6, [.ref a2])), (a2, .inl (cA 0, 61, .inl o2))] := hD
  refine lv_aload_n hx hb dX4_wring_39 rfl (lv_at hl 2 rfl) ?_
  refine va_get (D := D) (ci := 8) (v := .ref a1) (C := RX4) (T := TX4) (N := 1) hx hb hts iX4_wring_X4 hfc hK hP 0 rfl rfl 0 (by decide) (hts (.fieldLink RX4 16 "BathtubTides$Tub" "cells" "LBathtubTides$Row;") (List.mem_of_getElem? (i := 1) rfl)) (fun _ h9 => h9) rfl dX4_wring_40 ?_
  refine lv_iconst (v := 1) hx hb dX4_wring_43 (by decide) ?_
  refine lv_iload_n hx hb dX4_wring_44 rfl (lv_at hl 0 rfl) ?_
  obtain ⟨o3, ho3, h⟩ := lt_i h
  refine gq_V (v := (fun as => none)) (As := [.int 1, .int t1]) (rest := []) (wc := [(a1, .inr (6, [.ref a2])), (a2, .inl (cA 0, 61, .inl o2))]) (wr := [(a0, .inr (8, [.ref a1]))]) (w1 := (fun as => [(a1, .inr (6, [.ref a2])), (a2, .inl (cA 0, 61, .inl o3))])) (ws2 := (fun as => [(a0, .inr (8, [.ref a1])), (a1, .inr (6, [.ref a2])), (a2, .inl (cA 0, 61, .inl o3))])) (st1 := (fun as => [])) ⟨hx, hb, hml, hfc, hts⟩ hK hP hD hS hA (kX2_add l D cA a1 a2 61 o2 1 t1 (Nat.le_of_ble_eq_true rfl) ho3) (cwV 2 hts gX4_wring_X2_add rfl rfl rfl (by decide +kernel) ⟨(Nat.le_of_ble_eq_true rfl), (Nat.le_of_ble_eq_true rfl)⟩) [1, 2] [0] [0, 1, 2] rfl rfl rfl rfl (by decide) (fun _ => rfl) rfl 1 6 rfl rfl rfl rfl (fun _ => rfl) rfl hl.1 (Nat.le_of_ble_eq_true rfl) dX4_wring_45 ⟨(Nat.zero_le _), (Nat.zero_le _)⟩ (fun as H locs hP hD hS => ?_)
  have hP : va_P D vwCl [(a0, .inr (8, [.ref a1])), (a1, .inr (6, [.ref a2])), (a2, .inl (cA 0, 61, .inl o3))] H := hP
  have hD : va_D A [(a0, .inr (8, [.ref a1])), (a1, .inr (6, [.ref a2])), (a2, .inl (cA 0, 61, .inl o3))] := hD
  refine lv_aload_n hx hb dX4_wring_48 rfl (lv_at hl 2 rfl) ?_
  refine va_get (D := D) (ci := 8) (v := .ref a1) (C := RX4) (T := TX4) (N := 1) hx hb hts iX4_wring_X4 hfc hK hP 0 rfl rfl 0 (by decide) (hts (.fieldLink RX4 16 "BathtubTides$Tub" "cells" "LBathtubTides$Row;") (List.mem_of_getElem? (i := 1) rfl)) (fun _ h9 => h9) rfl dX4_wring_49 ?_
  refine lv_iconst (v := 3) hx hb dX4_wring_52 (by decide) ?_
  refine lv_iload_n hx hb dX4_wring_53 rfl (lv_at hl 1 rfl) ?_
  refine lv_iload_n hx hb dX4_wring_54 rfl (lv_at hl 0 rfl) ?_
  refine lv_isub hx hb dX4_wring_55 ?_
  obtain ⟨o4, ho4, h⟩ := lt_i h
  refine gq_V (v := (fun as => none)) (As := [.int 3, .int ((SX4_ofTowel f x1 2) - t1)]) (rest := []) (wc := [(a1, .inr (6, [.ref a2])), (a2, .inl (cA 0, 61, .inl o3))]) (wr := [(a0, .inr (8, [.ref a1]))]) (w1 := (fun as => [(a1, .inr (6, [.ref a2])), (a2, .inl (cA 0, 61, .inl o4))])) (ws2 := (fun as => [(a0, .inr (8, [.ref a1])), (a1, .inr (6, [.ref a2])), (a2, .inl (cA 0, 61, .inl o4))])) (st1 := (fun as => [])) ⟨hx, hb, hml, hfc, hts⟩ hK hP hD hS hA (kX2_add l D cA a1 a2 61 o3 3 ((SX4_ofTowel f x1 2) - t1) (Nat.le_of_ble_eq_true rfl) ho4) (cwV 2 hts gX4_wring_X2_add rfl rfl rfl (by decide +kernel) ⟨(Nat.le_of_ble_eq_true rfl), (Nat.le_of_ble_eq_true rfl)⟩) [1, 2] [0] [0, 1, 2] rfl rfl rfl rfl (by decide) (fun _ => rfl) rfl 1 6 rfl rfl rfl rfl (fun _ => rfl) rfl hl.1 (Nat.le_of_ble_eq_true rfl) dX4_wring_56 ⟨(Nat.zero_le _), (Nat.zero_le _)⟩ (fun as H locs hP hD hS => ?_)
  have hP : va_P D vwCl [(a0, .inr (8, [.ref a1])), (a1, .inr (6, [.ref a2])), (a2, .inl (cA 0, 61, .inl o4))] H := hP
  have hD : va_D A [(a0, .inr (8, [.ref a1])), (a1, .inr (6, [.ref a2])), (a2, .inl (cA 0, 61, .inl o4))] := hD
  refine lv_iload_n hx hb dX4_wring_59 rfl (lv_at hl 1 rfl) ?_
  refine lv_iload_n hx hb dX4_wring_60 rfl (lv_at hl 0 rfl) ?_
  refine lv_isub hx hb dX4_wring_61 ?_
  subst h
  exact hend (adr []) _ _ _ _ _ _ _ rfl rfl (rtn_i _) hP hD hS dX4_wring_62
noncomputable def SX4_dropTowel (N : Nat) (f : Nat → Int32) (x1 : Int32) : Option (Int32 × (Nat → Int32)) := lt_ (SX4_wring f x1) (fun o1 : Int32 × (Nat → Int32) => bnd (SX2_copy_own N 61 o1.2 ((45 + (x1 * 4)) + 4) (45 + (x1 * 4)) ((((SX4_towels o1.2) - 1) - x1) * 4)) (fun o2 : Nat → Int32 => lt_ (SX2_put 61 o2 7 ((SX4_towels o1.2) - 1)) (fun o3 : Nat → Int32 => some (((SX4_towels o1.2) - 1, o3)))))
theorem iX4_dropTowel_X4 : ∀ w ∈ wsX40, w ∈ wsX4_dropTowel := fun _ h => List.mem_cons_of_mem _ (List.mem_append_left _ (List.mem_append_left _ (List.mem_append_right _ h)))
abbrev RM_X4_dropTowel : Room := { frames := 3, cells := 0, slots := 0, locals := 68 }
set_option maxHeartbeats 4000000 in
theorem kX4_dropTowel (l : Launch) (D : va_G) (cA : Nat → ClassId) (a0 a1 a2 : Nat) (N : Nat) (f : Nat → Int32) (x1 : Int32) {r : Int32 × (Nat → Int32)} (hr : SX4_dropTowel N f x1 = some r) {sz : Nat} : Met l yX4_dropTowel wsX4_dropTowel RM_X4_dropTowel (va_Pc [.ref a0, .int x1] (gqB D cA [(a0, .inr (8, [.ref a1])), (a1, .inr (6, [.ref a2])), (a2, .inl (cA 0, 61, .inl f))] sz)) (gqQ D (fun as => (some (.int r.1))) (fun as => [(a0, .inr (8, [.ref a1])), (a1, .inr (6, [.ref a2])), (a2, .inl (cA 0, 61, .inl r.2))]) (va_A [(a0, .inr (8, [.ref a1])), (a1, .inr (6, [.ref a2])), (a2, .inl (cA 0, 61, .inl f))] sz)) 0 0 (va_A [(a0, .inr (8, [.ref a1])), (a1, .inr (6, [.ref a2])), (a2, .inl (cA 0, 61, .inl f))] sz) := by
  refine gq_ofW (cc := cX4_dropTowel) (maxL := 4) (ret := (some .int)) (by decide) rfl (Nat.le_of_ble_eq_true rfl) (fun p e s m args below meth c ls Q A hx hb hml hts hfc hmn hK hP hD hS hA hl hend => ?_)
  have hfc : s.vm.findClass RX4 = some m.cls := hfc
  have hl : lv_has ls 4 [(0, .ref a0), (1, .int x1)] := hl
  have h := hr
  clear hr
  unfold SX4_dropTowel at h
  refine lv_aload_n hx hb dX4_dropTowel_0 rfl (lv_at hl 0 rfl) ?_
  refine lv_iload_n hx hb dX4_dropTowel_1 rfl (lv_at hl 1 rfl) ?_
  obtain ⟨o1, ho1, h⟩ := lt_i h
  refine gq_V (v := (fun as => (some (.int o1.1)))) (As := [.int x1]) (rest := []) (wc := [(a0, .inr (8, [.ref a1])), (a1, .inr (6, [.ref a2])), (a2, .inl (cA 0, 61, .inl f))]) (wr := []) (w1 := (fun as => [(a0, .inr (8, [.ref a1])), (a1, .inr (6, [.ref a2])), (a2, .inl (cA 0, 61, .inl o1.2))])) (ws2 := (fun as => [(a0, .inr (8, [.ref a1])), (a1, .inr (6, [.ref a2])), (a2, .inl (cA 0, 61, .inl o1.2))])) (st1 := (fun as => [.int o1.1])) ⟨hx, hb, hml, hfc, hts⟩ hK hP hD hS hA (kX4_wring l D cA a0 a1 a2 f x1 ho1) (cwV 1 hts gX4_dropTowel_X4_wring rfl rfl rfl (by decide +kernel) ⟨(Nat.le_of_ble_eq_true rfl), (Nat.le_of_ble_eq_true rfl)⟩) [0, 1, 2] [] [0, 1, 2] rfl rfl rfl rfl (by decide) (fun _ => rfl) rfl 0 8 rfl rfl rfl rfl (fun _ => rfl) rfl hl.1 (Nat.le_of_ble_eq_true rfl) dX4_dropTowel_2 ⟨(Nat.zero_le _), (Nat.zero_le _)⟩ (fun as H locs hP hD hS => ?_)
  have hP : va_P D vwCl [(a0, .inr (8, [.ref a1])), (a1, .inr (6, [.ref a2])), (a2, .inl (cA 0, 61, .inl o1.2))] H := hP
  have hD : va_D A [(a0, .inr (8, [.ref a1])), (a1, .inr (6, [.ref a2])), (a2, .inl (cA 0, 61, .inl o1.2))] := hD
  refine lv_pop hx hb dX4_dropTowel_5 rfl ?_
  refine lv_aload_n hx hb dX4_dropTowel_6 rfl (lv_at hl 0 rfl) ?_
  refine rq_V (v := (some (.int (SX4_towels o1.2)))) (As := []) (rest := []) (wc := [(a0, .inr (8, [.ref a1])), (a1, .inr (6, [.ref a2])), (a2, .inl (cA 0, 61, .inl o1.2))]) ⟨hx, hb, hml, hfc, hts⟩ hK hP (kX4_towels l D cA a0 a1 a2 o1.2 rfl) (cwV 0 hts gX4_dropTowel_X4_towels rfl rfl rfl (by decide +kernel) ⟨(Nat.le_of_ble_eq_true rfl), (Nat.le_of_ble_eq_true rfl)⟩) [0, 1, 2] rfl 0 8 rfl rfl rfl rfl rfl rfl hl.1 (Nat.le_of_ble_eq_true rfl) dX4_dropTowel_7 ⟨(Nat.zero_le _), (Nat.zero_le _)⟩ ?_
  refine lv_iconst (v := 1) hx hb dX4_dropTowel_10 (by decide) ?_
  refine lv_isub hx hb dX4_dropTowel_11 ?_
  refine lv_istore_n hx hb dX4_dropTowel_12 rfl hl (Nat.le_of_ble_eq_true rfl) rfl (fun ls hl => ?_)
  have hl : lv_has ls 4 [(2, .int ((SX4_towels o1.2) - 1)), (0, .ref a0), (1, .int x1)] := hl
  refine lv_bipush (v := 45) hx hb dX4_dropTowel_13 (by decide) ?_
  refine lv_iload_n hx hb dX4_dropTowel_15 rfl (lv_at hl 2 rfl) ?_
  refine lv_iconst (v := 4) hx hb dX4_dropTowel_16 (by decide) ?_
  refine lv_imul hx hb dX4_dropTowel_17 ?_
  refine lv_iadd hx hb dX4_dropTowel_18 ?_
  refine lv_istore_n hx hb dX4_dropTowel_19 rfl hl (Nat.le_of_ble_eq_true rfl) rfl (fun ls hl => ?_)
  have hl : lv_has ls 4 [(3, .int (45 + (x1 * 4))), (2, .int ((SX4_towels o1.2) - 1)), (0, .ref a0), (1, .int x1)] := hl
  refine lv_aload_n hx hb dX4_dropTowel_20 rfl (lv_at hl 2 rfl) ?_
  refine va_get (D := D) (ci := 8) (v := .ref a1) (C := RX4) (T := TX4) (N := 1) hx hb hts iX4_dropTowel_X4 hfc hK hP 0 rfl rfl 0 (by decide) (hts (.fieldLink RX4 16 "BathtubTides$Tub" "cells" "LBathtubTides$Row;") (List.mem_of_getElem? (i := 1) rfl)) (fun _ h9 => h9) rfl dX4_dropTowel_21 ?_
  refine lv_aload_n hx hb dX4_dropTowel_24 rfl (lv_at hl 2 rfl) ?_
  refine va_get (D := D) (ci := 8) (v := .ref a1) (C := RX4) (T := TX4) (N := 1) hx hb hts iX4_dropTowel_X4 hfc hK hP 0 rfl rfl 0 (by decide) (hts (.fieldLink RX4 16 "BathtubTides$Tub" "cells" "LBathtubTides$Row;") (List.mem_of_getElem? (i := 1) rfl)) (fun _ h9 => h9) rfl dX4_dropTowel_25 ?_
  refine lv_iload_n hx hb dX4_dropTowel_28 rfl (lv_at hl 0 rfl) ?_
  refine lv_iconst (v := 4) hx hb dX4_dropTowel_29 (by decide) ?_
  refine lv_iadd hx hb dX4_dropTowel_30 ?_
  refine lv_iload_n hx hb dX4_dropTowel_31 rfl (lv_at hl 0 rfl) ?_
  refine lv_iload_n hx hb dX4_dropTowel_32 rfl (lv_at hl 1 rfl) ?_
  refine lv_iload_n hx hb dX4_dropTowel_33 rfl (lv_at hl 3 rfl) ?_
  refine lv_isub hx hb dX4_dropTowel_34 ?_
  refine lv_iconst (v := 4) hx hb dX4_dropTowel_35 (by decide) ?_
  refine lv_imul hx hb dX4_dropTowel_36 ?_
  obtain ⟨o2, ho2, h⟩ := bnd_i h
  refine gq_V (v := (fun as => none)) (As := [.ref a1, .int ((45 + (x1 * 4)) + 4), .int (45 + (x1 * 4)), .int ((((SX4_towels o1.2) - 1) - x1) * 4)]) (rest := []) (wc := [(a1, .inr (6, [.ref a2])), (a2, .inl (cA 0, 61, .inl o1.2))]) (wr := [(a0, .inr (8, [.ref a1]))]) (w1 := (fun as => [(a1, .inr (6, [.ref a2])), (a2, .inl (cA 0, 61, .inl o2))])) (ws2 := (fun as => [(a0, .inr (8, [.ref a1])), (a1, .inr (6, [.ref a2])), (a2, .inl (cA 0, 61, .inl o2))])) (st1 := (fun as => [])) ⟨hx, hb, hml, hfc, hts⟩ hK hP hD hS hA (kX2_copy_own l D cA a1 a2 N 61 o1.2 ((45 + (x1 * 4)) + 4) (45 + (x1 * 4)) ((((SX4_towels o1.2) - 1) - x1) * 4) (Nat.le_of_ble_eq_true rfl) ho2) (cwV 4 hts gX4_dropTowel_X2_copy rfl rfl rfl (by decide +kernel) ⟨(Nat.le_of_ble_eq_true rfl), (Nat.le_of_ble_eq_true rfl)⟩) [1, 2] [0] [0, 1, 2] rfl rfl rfl rfl (by decide) (fun _ => rfl) rfl 1 6 rfl rfl rfl rfl (fun _ => rfl) rfl hl.1 (Nat.le_of_ble_eq_true rfl) dX4_dropTowel_37 ⟨(Nat.zero_le _), (Nat.zero_le _)⟩ (fun as H locs hP hD hS => ?_)
  have hP : va_P D vwCl [(a0, .inr (8, [.ref a1])), (a1, .inr (6, [.ref a2])), (a2, .inl (cA 0, 61, .inl o2))] H := hP
  have hD : va_D A [(a0, .inr (8, [.ref a1])), (a1, .inr (6, [.ref a2])), (a2, .inl (cA 0, 61, .inl o2))] := hD
  refine lv_aload_n hx hb dX4_dropTowel_40 rfl (lv_at hl 2 rfl) ?_
  refine va_get (D := D) (ci := 8) (v := .ref a1) (C := RX4) (T := TX4) (N := 1) hx hb hts iX4_dropTowel_X4 hfc hK hP 0 rfl rfl 0 (by decide) (hts (.fieldLink RX4 16 "BathtubTides$Tub" "cells" "LBathtubTides$Row;") (List.mem_of_getElem? (i := 1) rfl)) (fun _ h9 => h9) rfl dX4_dropTowel_41 ?_
  refine lv_bipush (v := 7) hx hb dX4_dropTowel_44 (by decide) ?_
  refine lv_iload_n hx hb dX4_dropTowel_46 rfl (lv_at hl 1 rfl) ?_
  obtain ⟨o3, ho3, h⟩ := lt_i h
  refine gq_V (v := (fun as => none)) (As := [.int 7, .int ((SX4_towels o1.2) - 1)]) (rest := []) (wc := [(a1, .inr (6, [.ref a2])), (a2, .inl (cA 0, 61, .inl o2))]) (wr := [(a0, .inr (8, [.ref a1]))]) (w1 := (fun as => [(a1, .inr (6, [.ref a2])), (a2, .inl (cA 0, 61, .inl o3))])) (ws2 := (fun as => [(a0, .inr (8, [.ref a1])), (a1, .inr (6, [.ref a2])), (a2, .inl (cA 0, 61, .inl o3))])) (st1 := (fun as => [])) ⟨hx, hb, hml, hfc, hts⟩ hK hP hD hS hA (kX2_put l D cA a1 a2 61 o2 7 ((SX4_towels o1.2) - 1) (Nat.le_of_ble_eq_true rfl) ho3) (cwV 2 hts gX4_dropTowel_X2_put rfl rfl rfl (by decide +kernel) ⟨(Nat.le_of_ble_eq_true rfl), (Nat.le_of_ble_eq_true rfl)⟩) [1, 2] [0] [0, 1, 2] rfl rfl rfl rfl (by decide) (fun _ => rfl) rfl 1 6 rfl rfl rfl rfl (fun _ => rfl) rfl hl.1 (Nat.le_of_ble_eq_true rfl) dX4_dropTowel_47 ⟨(Nat.zero_le _), (Nat.zero_le _)⟩ (fun as H locs hP hD hS => ?_)
  have hP : va_P D vwCl [(a0, .inr (8, [.ref a1])), (a1, .inr (6, [.ref a2])), (a2, .inl (cA 0, 61, .inl o3))] H := hP
  have hD : va_D A [(a0, .inr (8, [.ref a1])), (a1, .inr (6, [.ref a2])), (a2, .inl (cA 0, 61, .inl o3))] := hD
  refine lv_iload_n hx hb dX4_dropTowel_50 rfl (lv_at hl 1 rfl) ?_
  have h := Option.some.inj h
  subst h
  exact hend (adr []) _ _ _ _ _ _ _ rfl rfl (rtn_i _) hP hD hS dX4_dropTowel_51
noncomputable def SX4_turnTaps (f : Nat → Int32) (x1 : Int32) : Int32 × (Nat → Int32) := lt_ (SX2_put 61 f 2 x1) (fun o1 : Nat → Int32 => ((SX2_at 61 f 2), o1))
theorem iX4_turnTaps_X4 : ∀ w ∈ wsX40, w ∈ wsX4_turnTaps := fun _ h => List.mem_cons_of_mem _ (List.mem_append_left _ (List.mem_append_left _ (List.mem_append_right _ h)))
abbrev RM_X4_turnTaps : Room := { frames := 1, cells := 0, slots := 0, locals := 22 }
set_option maxHeartbeats 4000000 in
theorem kX4_turnTaps (l : Launch) (D : va_G) (cA : Nat → ClassId) (a0 a1 a2 : Nat) (f : Nat → Int32) (x1 : Int32) {r : Int32 × (Nat → Int32)} (hr : SX4_turnTaps f x1 = r) {sz : Nat} : Met l yX4_turnTaps wsX4_turnTaps RM_X4_turnTaps (va_Pc [.ref a0, .int x1] (gqB D cA [(a0, .inr (8, [.ref a1])), (a1, .inr (6, [.ref a2])), (a2, .inl (cA 0, 61, .inl f))] sz)) (gqQ D (fun as => (some (.int r.1))) (fun as => [(a0, .inr (8, [.ref a1])), (a1, .inr (6, [.ref a2])), (a2, .inl (cA 0, 61, .inl r.2))]) (va_A [(a0, .inr (8, [.ref a1])), (a1, .inr (6, [.ref a2])), (a2, .inl (cA 0, 61, .inl f))] sz)) 0 0 (va_A [(a0, .inr (8, [.ref a1])), (a1, .inr (6, [.ref a2])), (a2, .inl (cA 0, 61, .inl f))] sz) := by
  refine gq_ofW (cc := cX4_turnTaps) (maxL := 3) (ret := (some .int)) (by decide) rfl (Nat.le_of_ble_eq_true rfl) (fun p e s m args below meth c ls Q A hx hb hml hts hfc hmn hK hP hD hS hA hl hend => ?_)
  have hfc : s.vm.findClass RX4 = some m.cls := hfc
  have hl : lv_has ls 3 [(0, .ref a0), (1, .int x1)] := hl
  have h := hr
  clear hr
  unfold SX4_turnTaps at h
  refine lv_aload_n hx hb dX4_turnTaps_0 rfl (lv_at hl 0 rfl) ?_
  refine va_get (D := D) (ci := 8) (v := .ref a1) (C := RX4) (T := TX4) (N := 1) hx hb hts iX4_turnTaps_X4 hfc hK hP 0 rfl rfl 0 (by decide) (hts (.fieldLink RX4 16 "BathtubTides$Tub" "cells" "LBathtubTides$Row;") (List.mem_of_getElem? (i := 1) rfl)) (fun _ h9 => h9) rfl dX4_turnTaps_1 ?_
  refine lv_iconst (v := 2) hx hb dX4_turnTaps_4 (by decide) ?_
  refine rq_V (v := (some (.int (SX2_at 61 f 2)))) (As := [.int 2]) (rest := []) (wc := [(a1, .inr (6, [.ref a2])), (a2, .inl (cA 0, 61, .inl f))]) ⟨hx, hb, hml, hfc, hts⟩ hK hP (kX2_at l D cA a1 a2 61 f 2 (Nat.le_of_ble_eq_true rfl) rfl) (cwV 1 hts gX4_turnTaps_X2_at rfl rfl rfl (by decide +kernel) ⟨(Nat.le_of_ble_eq_true rfl), (Nat.le_of_ble_eq_true rfl)⟩) [1, 2] rfl 1 6 rfl rfl rfl rfl rfl rfl hl.1 (Nat.le_of_ble_eq_true rfl) dX4_turnTaps_5 ⟨(Nat.zero_le _), (Nat.zero_le _)⟩ ?_
  refine lv_istore_n hx hb dX4_turnTaps_8 rfl hl (Nat.le_of_ble_eq_true rfl) rfl (fun ls hl => ?_)
  have hl : lv_has ls 3 [(2, .int (SX2_at 61 f 2)), (0, .ref a0), (1, .int x1)] := hl
  refine lv_aload_n hx hb dX4_turnTaps_9 rfl (lv_at hl 1 rfl) ?_
  refine va_get (D := D) (ci := 8) (v := .ref a1) (C := RX4) (T := TX4) (N := 1) hx hb hts iX4_turnTaps_X4 hfc hK hP 0 rfl rfl 0 (by decide) (hts (.fieldLink RX4 16 "BathtubTides$Tub" "cells" "LBathtubTides$Row;") (List.mem_of_getElem? (i := 1) rfl)) (fun _ h9 => h9) rfl dX4_turnTaps_10 ?_
  refine lv_iconst (v := 2) hx hb dX4_turnTaps_13 (by decide) ?_
  refine lv_iload_n hx hb dX4_turnTaps_14 rfl (lv_at hl 2 rfl) ?_
  obtain ⟨o1, ho1, h⟩ := lt_i h
  refine gq_V (v := (fun as => none)) (As := [.int 2, .int x1]) (rest := []) (wc := [(a1, .inr (6, [.ref a2])), (a2, .inl (cA 0, 61, .inl f))]) (wr := [(a0, .inr (8, [.ref a1]))]) (w1 := (fun as => [(a1, .inr (6, [.ref a2])), (a2, .inl (cA 0, 61, .inl o1))])) (ws2 := (fun as => [(a0, .inr (8, [.ref a1])), (a1, .inr (6, [.ref a2])), (a2, .inl (cA 0, 61, .inl o1))])) (st1 := (fun as => [])) ⟨hx, hb, hml, hfc, hts⟩ hK hP hD hS hA (kX2_put l D cA a1 a2 61 f 2 x1 (Nat.le_of_ble_eq_true rfl) ho1) (cwV 2 hts gX4_turnTaps_X2_put rfl rfl rfl (by decide +kernel) ⟨(Nat.le_of_ble_eq_true rfl), (Nat.le_of_ble_eq_true rfl)⟩) [1, 2] [0] [0, 1, 2] rfl rfl rfl rfl (by decide) (fun _ => rfl) rfl 1 6 rfl rfl rfl rfl (fun _ => rfl) rfl hl.1 (Nat.le_of_ble_eq_true rfl) dX4_turnTaps_15 ⟨(Nat.zero_le _), (Nat.zero_le _)⟩ (fun as H locs hP hD hS => ?_)
  have hP : va_P D vwCl [(a0, .inr (8, [.ref a1])), (a1, .inr (6, [.ref a2])), (a2, .inl (cA 0, 61, .inl o1))] H := hP
  have hD : va_D A [(a0, .inr (8, [.ref a1])), (a1, .inr (6, [.ref a2])), (a2, .inl (cA 0, 61, .inl o1))] := hD
  refine lv_iload_n hx hb dX4_turnTaps_18 rfl (lv_at hl 0 rfl) ?_
  subst h
  exact hend (adr []) _ _ _ _ _ _ _ rfl rfl (rtn_i _) hP hD hS dX4_turnTaps_19
noncomputable def SX4_eclipsesAt (f : Nat → Int32) (x1 : Int32) : Int32 := if (SX2_at 61 f 5) = (-1) then (0) else (if (SX4_distance x1 (SX2_at 61 f 5)) = 6 then (1) else (0))
theorem iX4_eclipsesAt_X4 : ∀ w ∈ wsX40, w ∈ wsX4_eclipsesAt := fun _ h => List.mem_cons_of_mem _ (List.mem_append_left _ (List.mem_append_left _ (List.mem_append_right _ h)))
abbrev RM_X4_eclipsesAt : Room := { frames := 2, cells := 0, slots := 0, locals := 35 }
set_option maxHeartbeats 4000000 in
theorem kX4_eclipsesAt (l : Launch) (D : va_G) (cA : Nat → ClassId) (a0 a1 a2 : Nat) (f : Nat → Int32) (x1 : Int32) {r : Int32} (hr : SX4_eclipsesAt f x1 = r) : Met l yX4_eclipsesAt wsX4_eclipsesAt RM_X4_eclipsesAt (va_Pc [.ref a0, .int x1] (rqB D cA [(a0, .inr (8, [.ref a1])), (a1, .inr (6, [.ref a2])), (a2, .inl (cA 0, 61, .inl f))])) (rqQ (some (.int r))) 0 0 (fun _ => False) := by
  refine rq_ofW (cc := cX4_eclipsesAt) (maxL := 3) (ret := (some .boolean)) (by decide) rfl (Nat.le_of_ble_eq_true rfl) (fun p e s m args below meth c ls Q hx hb hml hts hfc hK hP hl hend => ?_)
  have hfc : s.vm.findClass RX4 = some m.cls := hfc
  have hl : lv_has ls 3 [(0, .ref a0), (1, .int x1)] := hl
  have h := hr
  clear hr
  unfold SX4_eclipsesAt at h
  refine lv_aload_n hx hb dX4_eclipsesAt_0 rfl (lv_at hl 0 rfl) ?_
  refine va_get (D := D) (ci := 8) (v := .ref a1) (C := RX4) (T := TX4) (N := 1) hx hb hts iX4_eclipsesAt_X4 hfc hK hP 0 rfl rfl 0 (by decide) (hts (.fieldLink RX4 16 "BathtubTides$Tub" "cells" "LBathtubTides$Row;") (List.mem_of_getElem? (i := 1) rfl)) (fun _ h9 => h9) rfl dX4_eclipsesAt_1 ?_
  refine lv_iconst (v := 5) hx hb dX4_eclipsesAt_4 (by decide) ?_
  refine rq_V (v := (some (.int (SX2_at 61 f 5)))) (As := [.int 5]) (rest := []) (wc := [(a1, .inr (6, [.ref a2])), (a2, .inl (cA 0, 61, .inl f))]) ⟨hx, hb, hml, hfc, hts⟩ hK hP (kX2_at l D cA a1 a2 61 f 5 (Nat.le_of_ble_eq_true rfl) rfl) (cwV 1 hts gX4_eclipsesAt_X2_at rfl rfl rfl (by decide +kernel) ⟨(Nat.le_of_ble_eq_true rfl), (Nat.le_of_ble_eq_true rfl)⟩) [1, 2] rfl 1 6 rfl rfl rfl rfl rfl rfl hl.1 (Nat.le_of_ble_eq_true rfl) dX4_eclipsesAt_5 ⟨(Nat.zero_le _), (Nat.zero_le _)⟩ ?_
  refine lv_istore_n hx hb dX4_eclipsesAt_8 rfl hl (Nat.le_of_ble_eq_true rfl) rfl (fun ls hl => ?_)
  have hl : lv_has ls 3 [(2, .int (SX2_at 61 f 5)), (0, .ref a0), (1, .int x1)] := hl
  refine lv_iload_n hx hb dX4_eclipsesAt_9 rfl (lv_at hl 0 rfl) ?_
  refine lv_iconst (v := (-1)) hx hb dX4_eclipsesAt_10 (by decide) ?_
  refine lv_icmp_eq (tgt := 28) hx hb dX4_eclipsesAt_11 (by decide) (fun c1 => ?_) (fun c1 => ?_)
  · have h := ite_t c1 h
    refine lv_iconst (v := 0) hx hb dX4_eclipsesAt_28 (by decide) ?_
    subst h
    exact hend _ _ _ _ rfl (rtn_n (x := 0) rfl) dX4_eclipsesAt_29
  · have h := ite_f c1 h
    refine lv_iload_n hx hb dX4_eclipsesAt_14 rfl (lv_at hl 2 rfl) ?_
    refine lv_iload_n hx hb dX4_eclipsesAt_15 rfl (lv_at hl 0 rfl) ?_
    refine rq_S (v := (some (.int (SX4_distance x1 (SX2_at 61 f 5))))) (As := [.int x1, .int (SX2_at 61 f 5)]) (rest := []) (wc := []) ⟨hx, hb, hml, hfc, hts⟩ hK hP (kX4_distance l D cA x1 (SX2_at 61 f 5) rfl) (va_cwS 2 hts gX4_eclipsesAt_X4_distance rfl rfl rfl (by decide +kernel) ⟨(Nat.le_of_ble_eq_true rfl), (Nat.le_of_ble_eq_true rfl)⟩) [] rfl rfl rfl rfl hl.1 (Nat.le_of_ble_eq_true rfl) dX4_eclipsesAt_16 ⟨(Nat.zero_le _), (Nat.zero_le _)⟩ ?_
    refine lv_bipush (v := 6) hx hb dX4_eclipsesAt_19 (by decide) ?_
    refine lv_icmp_ne (tgt := 28) hx hb dX4_eclipsesAt_21 (by decide) (fun c2 => ?_) (fun c2 => ?_)
    · have h := ite_f c2 h
      refine lv_iconst (v := 0) hx hb dX4_eclipsesAt_28 (by decide) ?_
      subst h
      exact hend _ _ _ _ rfl (rtn_n (x := 0) rfl) dX4_eclipsesAt_29
    · have h := ite_t c2 h
      refine lv_iconst (v := 1) hx hb dX4_eclipsesAt_24 (by decide) ?_
      refine lv_goto (tgt := 29) hx hb dX4_eclipsesAt_25 (by decide) ?_
      subst h
      exact hend _ _ _ _ rfl (rtn_n (x := 1) rfl) dX4_eclipsesAt_29
noncomputable def SX4_pull (f : Nat → Int32) (x1 : Int32) (x2 : Int32) (x3 : Int32) : Int32 := if (SX4_eclipsesAt f x2) = 0 then (x1 * (3 - (SX4_distance x2 x3))) else (0)
abbrev RM_X4_pull : Room := { frames := 3, cells := 0, slots := 0, locals := 57 }
set_option maxHeartbeats 4000000 in
theorem kX4_pull (l : Launch) (D : va_G) (cA : Nat → ClassId) (a0 a1 a2 : Nat) (f : Nat → Int32) (x1 : Int32) (x2 : Int32) (x3 : Int32) {r : Int32} (hr : SX4_pull f x1 x2 x3 = r) : Met l yX4_pull wsX4_pull RM_X4_pull (va_Pc [.ref a0, .int x1, .int x2, .int x3] (rqB D cA [(a0, .inr (8, [.ref a1])), (a1, .inr (6, [.ref a2])), (a2, .inl (cA 0, 61, .inl f))])) (rqQ (some (.int r))) 0 0 (fun _ => False) := by
  refine rq_ofW (cc := cX4_pull) (maxL := 4) (ret := (some .int)) (by decide) rfl (Nat.le_of_ble_eq_true rfl) (fun p e s m args below meth c ls Q hx hb hml hts hfc hK hP hl hend => ?_)
  have hfc : s.vm.findClass RX4 = some m.cls := hfc
  have hl : lv_has ls 4 [(0, .ref a0), (1, .int x1), (2, .int x2), (3, .int x3)] := hl
  have h := hr
  clear hr
  unfold SX4_pull at h
  refine lv_aload_n hx hb dX4_pull_0 rfl (lv_at hl 0 rfl) ?_
  refine lv_iload_n hx hb dX4_pull_1 rfl (lv_at hl 2 rfl) ?_
  refine rq_V (v := (some (.int (SX4_eclipsesAt f x2)))) (As := [.int x2]) (rest := []) (wc := [(a0, .inr (8, [.ref a1])), (a1, .inr (6, [.ref a2])), (a2, .inl (cA 0, 61, .inl f))]) ⟨hx, hb, hml, hfc, hts⟩ hK hP (kX4_eclipsesAt l D cA a0 a1 a2 f x2 rfl) (cwV 1 hts gX4_pull_X4_eclipsesAt rfl rfl rfl (by decide +kernel) ⟨(Nat.le_of_ble_eq_true rfl), (Nat.le_of_ble_eq_true rfl)⟩) [0, 1, 2] rfl 0 8 rfl rfl rfl rfl rfl rfl hl.1 (Nat.le_of_ble_eq_true rfl) dX4_pull_2 ⟨(Nat.zero_le _), (Nat.zero_le _)⟩ ?_
  refine lv_if_eq (tgt := 12) hx hb dX4_pull_5 (by decide) (fun c1 => ?_) (fun c1 => ?_)
  · have h := ite_t c1 h
    refine lv_iload_n hx hb dX4_pull_12 rfl (lv_at hl 1 rfl) ?_
    refine lv_iconst (v := 3) hx hb dX4_pull_13 (by decide) ?_
    refine lv_iload_n hx hb dX4_pull_14 rfl (lv_at hl 2 rfl) ?_
    refine lv_iload_n hx hb dX4_pull_15 rfl (lv_at hl 3 rfl) ?_
    refine rq_S (v := (some (.int (SX4_distance x2 x3)))) (As := [.int x2, .int x3]) (rest := [.int 3, .int x1]) (wc := []) ⟨hx, hb, hml, hfc, hts⟩ hK hP (kX4_distance l D cA x2 x3 rfl) (va_cwS 2 hts gX4_pull_X4_distance rfl rfl rfl (by decide +kernel) ⟨(Nat.le_of_ble_eq_true rfl), (Nat.le_of_ble_eq_true rfl)⟩) [] rfl rfl rfl rfl hl.1 (Nat.le_of_ble_eq_true rfl) dX4_pull_16 ⟨(Nat.zero_le _), (Nat.zero_le _)⟩ ?_
    refine lv_isub hx hb dX4_pull_19 ?_
    refine lv_imul hx hb dX4_pull_20 ?_
    subst h
    exact hend _ _ _ _ rfl (rtn_i _) dX4_pull_21
  · have h := ite_f c1 h
    refine lv_iconst (v := 0) hx hb dX4_pull_8 (by decide) ?_
    refine lv_goto (tgt := 21) hx hb dX4_pull_9 (by decide) ?_
    subst h
    exact hend _ _ _ _ rfl (rtn_i _) dX4_pull_21
noncomputable def SX4_damped (f : Nat → Int32) (x1 : Int32) (x2 : Int32) : Int32 := if (SX4_isToeAt f x2) = 0 then (x1) else (x1 / 2)
abbrev RM_X4_damped : Room := { frames := 2, cells := 0, slots := 0, locals := 42 }
set_option maxHeartbeats 4000000 in
theorem kX4_damped (l : Launch) (D : va_G) (cA : Nat → ClassId) (a0 a1 a2 : Nat) (f : Nat → Int32) (x1 : Int32) (x2 : Int32) {r : Int32} (hr : SX4_damped f x1 x2 = r) : Met l yX4_damped wsX4_damped RM_X4_damped (va_Pc [.ref a0, .int x1, .int x2] (rqB D cA [(a0, .inr (8, [.ref a1])), (a1, .inr (6, [.ref a2])), (a2, .inl (cA 0, 61, .inl f))])) (rqQ (some (.int r))) 0 0 (fun _ => False) := by
  refine rq_ofW (cc := cX4_damped) (maxL := 3) (ret := (some .int)) (by decide) rfl (Nat.le_of_ble_eq_true rfl) (fun p e s m args below meth c ls Q hx hb hml hts hfc hK hP hl hend => ?_)
  have hfc : s.vm.findClass RX4 = some m.cls := hfc
  have hl : lv_has ls 3 [(0, .ref a0), (1, .int x1), (2, .int x2)] := hl
  have h := hr
  clear hr
  unfold SX4_damped at h
  refine lv_aload_n hx hb dX4_damped_0 rfl (lv_at hl 0 rfl) ?_
  refine lv_iload_n hx hb dX4_damped_1 rfl (lv_at hl 2 rfl) ?_
  refine rq_V (v := (some (.int (SX4_isToeAt f x2)))) (As := [.int x2]) (rest := []) (wc := [(a0, .inr (8, [.ref a1])), (a1, .inr (6, [.ref a2])), (a2, .inl (cA 0, 61, .inl f))]) ⟨hx, hb, hml, hfc, hts⟩ hK hP (kX4_isToeAt l D cA a0 a1 a2 f x2 rfl) (cwV 1 hts gX4_damped_X4_isToeAt rfl rfl rfl (by decide +kernel) ⟨(Nat.le_of_ble_eq_true rfl), (Nat.le_of_ble_eq_true rfl)⟩) [0, 1, 2] rfl 0 8 rfl rfl rfl rfl rfl rfl hl.1 (Nat.le_of_ble_eq_true rfl) dX4_damped_2 ⟨(Nat.zero_le _), (Nat.zero_le _)⟩ ?_
  refine lv_if_eq (tgt := 14) hx hb dX4_damped_5 (by decide) (fun c1 => ?_) (fun c1 => ?_)
  · have h := ite_t c1 h
    refine lv_iload_n hx hb dX4_damped_14 rfl (lv_at hl 1 rfl) ?_
    subst h
    exact hend _ _ _ _ rfl (rtn_i _) dX4_damped_15
  · have h := ite_f c1 h
    refine lv_iload_n hx hb dX4_damped_8 rfl (lv_at hl 1 rfl) ?_
    refine lv_iconst (v := 2) hx hb dX4_damped_9 (by decide) ?_
    refine lv_idiv hx hb dX4_damped_10 (by decide) ?_
    refine lv_goto (tgt := 15) hx hb dX4_damped_11 (by decide) ?_
    subst h
    exact hend _ _ _ _ rfl (rtn_i _) dX4_damped_15
noncomputable def LX4_tideAfter_5 (f : Nat → Int32) (x1 : Int32) (x2 : Int32) : Nat → Int32 → Int32 → Option (Int32)
  | 0, _, _ => none
  | fu + 1, x3_5, x4_5 => if (SX4_moons f) ≤ x4_5 then (some ((SX4_damped f x3_5 x1))) else (lt_ (x3_5 + (SX4_pull f (SX4_massAfter f x4_5 x2) (SX4_placeAfter f x4_5 x2) x1)) (fun t2 : Int32 => LX4_tideAfter_5 f x1 x2 fu t2 (x4_5 + 1)))
noncomputable def SX4_tideAfter (N : Nat) (f : Nat → Int32) (x1 : Int32) (x2 : Int32) : Option (Int32) := LX4_tideAfter_5 f x1 x2 N 0 0
abbrev RM_X4_tideAfter : Room := { frames := 4, cells := 0, slots := 0, locals := 81 }
set_option maxHeartbeats 4000000 in
theorem kX4_tideAfter (l : Launch) (D : va_G) (cA : Nat → ClassId) (a0 a1 a2 : Nat) (N : Nat) (f : Nat → Int32) (x1 : Int32) (x2 : Int32) {r : Int32} (hr : SX4_tideAfter N f x1 x2 = some r) : Met l yX4_tideAfter wsX4_tideAfter RM_X4_tideAfter (va_Pc [.ref a0, .int x1, .int x2] (rqB D cA [(a0, .inr (8, [.ref a1])), (a1, .inr (6, [.ref a2])), (a2, .inl (cA 0, 61, .inl f))])) (rqQ (some (.int r))) 0 0 (fun _ => False) := by
  refine rq_ofW (cc := cX4_tideAfter) (maxL := 5) (ret := (some .int)) (by decide) rfl (Nat.le_of_ble_eq_true rfl) (fun p e s m args below meth c ls Q hx hb hml hts hfc hK hP hl hend => ?_)
  have hfc : s.vm.findClass RX4 = some m.cls := hfc
  have hl : lv_has ls 5 [(0, .ref a0), (1, .int x1), (2, .int x2)] := hl
  have h := hr
  clear hr
  unfold SX4_tideAfter at h
  refine lv_iconst (v := 0) hx hb dX4_tideAfter_0 (by decide) ?_
  refine lv_istore_n hx hb dX4_tideAfter_1 rfl hl (Nat.le_of_ble_eq_true rfl) rfl (fun ls hl => ?_)
  have hl : lv_has ls 5 [(3, .int 0), (0, .ref a0), (1, .int x1), (2, .int x2)] := hl
  refine lv_iconst (v := 0) hx hb dX4_tideAfter_2 (by decide) ?_
  refine lv_istore hx hb dX4_tideAfter_3 hl (Nat.le_of_ble_eq_true rfl) rfl (fun ls hl => ?_)
  have hl : lv_has ls 5 [(4, .int 0), (3, .int 0), (0, .ref a0), (1, .int x1), (2, .int x2)] := hl
  have hLX4_tideAfter_5 : ∀ (fu : Nat) (x3_5 : Int32) (x4_5 : Int32) (ls : Array Slot), lv_has ls 5 [(0, .ref a0), (1, .int x1), (2, .int x2), (3, .int x3_5), (4, .int x4_5)] → LX4_tideAfter_5 f x1 x2 fu x3_5 x4_5 = some r → W p l e RM_X4_tideAfter s m args below meth c s.heap [] 0 0 Q (F0 m 5 ls []) := by
    intro fu
    induction fu with
    | zero =>
      intro x3_5 x4_5 ls hl h
      rw [LX4_tideAfter_5] at h
      exact nn h
    | succ fu ih =>
      intro x3_5 x4_5 ls hl h
      rw [LX4_tideAfter_5] at h
      refine lv_iload hx hb dX4_tideAfter_5 (lv_at hl 4 rfl) ?_
      refine lv_aload_n hx hb dX4_tideAfter_7 rfl (lv_at hl 0 rfl) ?_
      refine rq_V (v := (some (.int (SX4_moons f)))) (As := []) (rest := [.int x4_5]) (wc := [(a0, .inr (8, [.ref a1])), (a1, .inr (6, [.ref a2])), (a2, .inl (cA 0, 61, .inl f))]) ⟨hx, hb, hml, hfc, hts⟩ hK hP (kX4_moons l D cA a0 a1 a2 f rfl) (cwV 0 hts gX4_tideAfter_X4_moons rfl rfl rfl (by decide +kernel) ⟨(Nat.le_of_ble_eq_true rfl), (Nat.le_of_ble_eq_true rfl)⟩) [0, 1, 2] rfl 0 8 rfl rfl rfl rfl rfl rfl hl.1 (Nat.le_of_ble_eq_true rfl) dX4_tideAfter_8 ⟨(Nat.zero_le _), (Nat.zero_le _)⟩ ?_
      refine lv_icmp_ge (tgt := 42) hx hb dX4_tideAfter_11 (by decide) (fun c1 => ?_) (fun c1 => ?_)
      · have h := ite_t c1 h
        refine lv_aload_n hx hb dX4_tideAfter_42 rfl (lv_at hl 0 rfl) ?_
        refine lv_iload_n hx hb dX4_tideAfter_43 rfl (lv_at hl 3 rfl) ?_
        refine lv_iload_n hx hb dX4_tideAfter_44 rfl (lv_at hl 1 rfl) ?_
        refine rq_V (v := (some (.int (SX4_damped f x3_5 x1)))) (As := [.int x3_5, .int x1]) (rest := []) (wc := [(a0, .inr (8, [.ref a1])), (a1, .inr (6, [.ref a2])), (a2, .inl (cA 0, 61, .inl f))]) ⟨hx, hb, hml, hfc, hts⟩ hK hP (kX4_damped l D cA a0 a1 a2 f x3_5 x1 rfl) (cwV 2 hts gX4_tideAfter_X4_damped rfl rfl rfl (by decide +kernel) ⟨(Nat.le_of_ble_eq_true rfl), (Nat.le_of_ble_eq_true rfl)⟩) [0, 1, 2] rfl 0 8 rfl rfl rfl rfl rfl rfl hl.1 (Nat.le_of_ble_eq_true rfl) dX4_tideAfter_45 ⟨(Nat.zero_le _), (Nat.zero_le _)⟩ ?_
        have h := Option.some.inj h
        subst h
        exact hend _ _ _ _ rfl (rtn_i _) dX4_tideAfter_48
      · have h := ite_f c1 h
        refine lv_iload_n hx hb dX4_tideAfter_14 rfl (lv_at hl 3 rfl) ?_
        refine lv_aload_n hx hb dX4_tideAfter_15 rfl (lv_at hl 0 rfl) ?_
        refine lv_aload_n hx hb dX4_tideAfter_16 rfl (lv_at hl 0 rfl) ?_
        refine lv_iload hx hb dX4_tideAfter_17 (lv_at hl 4 rfl) ?_
        refine lv_iload_n hx hb dX4_tideAfter_19 rfl (lv_at hl 2 rfl) ?_
        refine rq_V (v := (some (.int (SX4_massAfter f x4_5 x2)))) (As := [.int x4_5, .int x2]) (rest := [.ref a0, .int x3_5]) (wc := [(a0, .inr (8, [.ref a1])), (a1, .inr (6, [.ref a2])), (a2, .inl (cA 0, 61, .inl f))]) ⟨hx, hb, hml, hfc, hts⟩ hK hP (kX4_massAfter l D cA a0 a1 a2 f x4_5 x2 rfl) (cwV 2 hts gX4_tideAfter_X4_massAfter rfl rfl rfl (by decide +kernel) ⟨(Nat.le_of_ble_eq_true rfl), (Nat.le_of_ble_eq_true rfl)⟩) [0, 1, 2] rfl 0 8 rfl rfl rfl rfl rfl rfl hl.1 (Nat.le_of_ble_eq_true rfl) dX4_tideAfter_20 ⟨(Nat.zero_le _), (Nat.zero_le _)⟩ ?_
        refine lv_aload_n hx hb dX4_tideAfter_23 rfl (lv_at hl 0 rfl) ?_
        refine lv_iload hx hb dX4_tideAfter_24 (lv_at hl 4 rfl) ?_
        refine lv_iload_n hx hb dX4_tideAfter_26 rfl (lv_at hl 2 rfl) ?_
        refine rq_V (v := (some (.int (SX4_placeAfter f x4_5 x2)))) (As := [.int x4_5, .int x2]) (rest := [.int (SX4_massAfter f x4_5 x2), .ref a0, .int x3_5]) (wc := [(a0, .inr (8, [.ref a1])), (a1, .inr (6, [.ref a2])), (a2, .inl (cA 0, 61, .inl f))]) ⟨hx, hb, hml, hfc, hts⟩ hK hP (kX4_placeAfter l D cA a0 a1 a2 f x4_5 x2 rfl) (cwV 2 hts gX4_tideAfter_X4_placeAfter rfl rfl rfl (by decide +kernel) ⟨(Nat.le_of_ble_eq_true rfl), (Nat.le_of_ble_eq_true rfl)⟩) [0, 1, 2] rfl 0 8 rfl rfl rfl rfl rfl rfl hl.1 (Nat.le_of_ble_eq_true rfl) dX4_tideAfter_27 ⟨(Nat.zero_le _), (Nat.zero_le _)⟩ ?_
        refine lv_iload_n hx hb dX4_tideAfter_30 rfl (lv_at hl 1 rfl) ?_
        refine rq_V (v := (some (.int (SX4_pull f (SX4_massAfter f x4_5 x2) (SX4_placeAfter f x4_5 x2) x1)))) (As := [.int (SX4_massAfter f x4_5 x2), .int (SX4_placeAfter f x4_5 x2), .int x1]) (rest := [.int x3_5]) (wc := [(a0, .inr (8, [.ref a1])), (a1, .inr (6, [.ref a2])), (a2, .inl (cA 0, 61, .inl f))]) ⟨hx, hb, hml, hfc, hts⟩ hK hP (kX4_pull l D cA a0 a1 a2 f (SX4_massAfter f x4_5 x2) (SX4_placeAfter f x4_5 x2) x1 rfl) (cwV 3 hts gX4_tideAfter_X4_pull rfl rfl rfl (by decide +kernel) ⟨(Nat.le_of_ble_eq_true rfl), (Nat.le_of_ble_eq_true rfl)⟩) [0, 1, 2] rfl 0 8 rfl rfl rfl rfl rfl rfl hl.1 (Nat.le_of_ble_eq_true rfl) dX4_tideAfter_31 ⟨(Nat.zero_le _), (Nat.zero_le _)⟩ ?_
        refine lv_iadd hx hb dX4_tideAfter_34 ?_
        refine lv_topi (fun t2 et2 => ?_)
        have h := lt_e h _ et2
        refine lv_istore_n hx hb dX4_tideAfter_35 rfl hl (Nat.le_of_ble_eq_true rfl) rfl (fun ls hl => ?_)
        have hl : lv_has ls 5 [(3, .int t2), (0, .ref a0), (1, .int x1), (2, .int x2), (4, .int x4_5)] := hl
        refine lv_iinc (k := 4) (v := x4_5 + 1) hx hb dX4_tideAfter_36 hl rfl (congrArg (fun z => x4_5 + z) lit1) (Nat.le_of_ble_eq_true rfl) rfl (fun ls hl => ?_)
        have hl : lv_has ls 5 [(4, .int (x4_5 + 1)), (3, .int t2), (0, .ref a0), (1, .int x1), (2, .int x2)] := hl
        refine lv_goto (tgt := 5) hx hb dX4_tideAfter_39 (by decide) ?_
        exact ih t2 (x4_5 + 1) _ (lv_sub hl [2, 3, 4, 1, 0] rfl) h
  exact hLX4_tideAfter_5 N 0 0 _ (lv_sub hl [2, 3, 4, 1, 0] rfl) h
noncomputable def SX4_level (N : Nat) (f : Nat → Int32) (x1 : Int32) : Option (Int32) := bnd (SX4_tideAfter N f x1 0) (fun o1 : Int32 => some (imax 0 ((SX2_at 61 f 1) + o1)))
theorem iX4_level_X4 : ∀ w ∈ wsX40, w ∈ wsX4_level := fun _ h => List.mem_cons_of_mem _ (List.mem_append_left _ (List.mem_append_left _ (List.mem_append_left _ (List.mem_append_right _ h))))
abbrev RM_X4_level : Room := { frames := 5, cells := 0, slots := 0, locals := 107 }
set_option maxHeartbeats 4000000 in
theorem kX4_level (l : Launch) (D : va_G) (cA : Nat → ClassId) (a0 a1 a2 : Nat) (N : Nat) (f : Nat → Int32) (x1 : Int32) {r : Int32} (hr : SX4_level N f x1 = some r) : Met l yX4_level wsX4_level RM_X4_level (va_Pc [.ref a0, .int x1] (rqB D cA [(a0, .inr (8, [.ref a1])), (a1, .inr (6, [.ref a2])), (a2, .inl (cA 0, 61, .inl f))])) (rqQ (some (.int r))) 0 0 (fun _ => False) := by
  refine rq_ofW (cc := cX4_level) (maxL := 2) (ret := (some .int)) (by decide) rfl (Nat.le_of_ble_eq_true rfl) (fun p e s m args below meth c ls Q hx hb hml hts hfc hK hP hl hend => ?_)
  have hfc : s.vm.findClass RX4 = some m.cls := hfc
  have hl : lv_has ls 2 [(0, .ref a0), (1, .int x1)] := hl
  have h := hr
  clear hr
  unfold SX4_level at h
  refine lv_iconst (v := 0) hx hb dX4_level_0 (by decide) ?_
  refine lv_aload_n hx hb dX4_level_1 rfl (lv_at hl 0 rfl) ?_
  refine va_get (D := D) (ci := 8) (v := .ref a1) (C := RX4) (T := TX4) (N := 1) hx hb hts iX4_level_X4 hfc hK hP 0 rfl rfl 0 (by decide) (hts (.fieldLink RX4 16 "BathtubTides$Tub" "cells" "LBathtubTides$Row;") (List.mem_of_getElem? (i := 1) rfl)) (fun _ h9 => h9) rfl dX4_level_2 ?_
  refine lv_iconst (v := 1) hx hb dX4_level_5 (by decide) ?_
  refine rq_V (v := (some (.int (SX2_at 61 f 1)))) (As := [.int 1]) (rest := [.int 0]) (wc := [(a1, .inr (6, [.ref a2])), (a2, .inl (cA 0, 61, .inl f))]) ⟨hx, hb, hml, hfc, hts⟩ hK hP (kX2_at l D cA a1 a2 61 f 1 (Nat.le_of_ble_eq_true rfl) rfl) (cwV 1 hts gX4_level_X2_at rfl rfl rfl (by decide +kernel) ⟨(Nat.le_of_ble_eq_true rfl), (Nat.le_of_ble_eq_true rfl)⟩) [1, 2] rfl 1 6 rfl rfl rfl rfl rfl rfl hl.1 (Nat.le_of_ble_eq_true rfl) dX4_level_6 ⟨(Nat.zero_le _), (Nat.zero_le _)⟩ ?_
  refine lv_aload_n hx hb dX4_level_9 rfl (lv_at hl 0 rfl) ?_
  refine lv_iload_n hx hb dX4_level_10 rfl (lv_at hl 1 rfl) ?_
  refine lv_iconst (v := 0) hx hb dX4_level_11 (by decide) ?_
  obtain ⟨o1, ho1, h⟩ := bnd_i h
  refine rq_V (v := (some (.int o1))) (As := [.int x1, .int 0]) (rest := [.int (SX2_at 61 f 1), .int 0]) (wc := [(a0, .inr (8, [.ref a1])), (a1, .inr (6, [.ref a2])), (a2, .inl (cA 0, 61, .inl f))]) ⟨hx, hb, hml, hfc, hts⟩ hK hP (kX4_tideAfter l D cA a0 a1 a2 N f x1 0 ho1) (cwV 2 hts gX4_level_X4_tideAfter rfl rfl rfl (by decide +kernel) ⟨(Nat.le_of_ble_eq_true rfl), (Nat.le_of_ble_eq_true rfl)⟩) [0, 1, 2] rfl 0 8 rfl rfl rfl rfl rfl rfl hl.1 (Nat.le_of_ble_eq_true rfl) dX4_level_12 ⟨(Nat.zero_le _), (Nat.zero_le _)⟩ ?_
  refine lv_iadd hx hb dX4_level_15 ?_
  refine va_mmax hx hb (hml.trans hl.1.symm) hfc (hts (.methodLink RX4 125 Lib.Math.max.name) (List.mem_of_getElem? (i := 2) rfl)) (hts (.static Lib.Math.max.name) (List.mem_of_getElem? (i := 3) rfl)) (hts (.initialized "java/lang/Math") (List.mem_of_getElem? (i := 4) rfl)) (hts (.code Lib.Math.max.name Lib.Math.max.code 2 (some .int)) (List.mem_of_getElem? (i := 5) rfl)) (Nat.le_of_ble_eq_true rfl) (Nat.le_of_ble_eq_true rfl) (Nat.zero_le _) (Nat.zero_le _) dX4_level_16 ?_
  have h := Option.some.inj h
  subst h
  exact hend _ _ _ _ rfl (rtn_i _) dX4_level_19
noncomputable def LX4_keepsWater_20 (f : Nat → Int32) : Nat → Int32 → Int32 → Option (Int32)
  | 0, _, _ => none
  | fu + 1, x1_20, x2_20 => if (SX4_towels f) ≤ x2_20 then (if (20 + (SX2_at 61 f 4)) = x1_20 then (some (1)) else (some (0))) else (lt_ (x1_20 + (SX4_ofTowel f x2_20 2)) (fun t4 : Int32 => LX4_keepsWater_20 f fu t4 (x2_20 + 1)))
noncomputable def SX4_keepsWater (N : Nat) (f : Nat → Int32) : Option (Int32) := lt_ ((SX2_at 61 f 1) + (SX2_at 61 f 3)) (fun t1 : Int32 => LX4_keepsWater_20 f N t1 0)
theorem iX4_keepsWater_X4 : ∀ w ∈ wsX40, w ∈ wsX4_keepsWater := fun _ h => List.mem_cons_of_mem _ (List.mem_append_left _ (List.mem_append_left _ (List.mem_append_right _ h)))
abbrev RM_X4_keepsWater : Room := { frames := 2, cells := 0, slots := 0, locals := 44 }
set_option maxHeartbeats 4000000 in
theorem kX4_keepsWater (l : Launch) (D : va_G) (cA : Nat → ClassId) (a0 a1 a2 : Nat) (N : Nat) (f : Nat → Int32) {r : Int32} (hr : SX4_keepsWater N f = some r) : Met l yX4_keepsWater wsX4_keepsWater RM_X4_keepsWater (va_Pc [.ref a0] (rqB D cA [(a0, .inr (8, [.ref a1])), (a1, .inr (6, [.ref a2])), (a2, .inl (cA 0, 61, .inl f))])) (rqQ (some (.int r))) 0 0 (fun _ => False) := by
  refine rq_ofW (cc := cX4_keepsWater) (maxL := 3) (ret := (some .boolean)) (by decide) rfl (Nat.le_of_ble_eq_true rfl) (fun p e s m args below meth c ls Q hx hb hml hts hfc hK hP hl hend => ?_)
  have hfc : s.vm.findClass RX4 = some m.cls := hfc
  have hl : lv_has ls 3 [(0, .ref a0)] := hl
  have h := hr
  clear hr
  unfold SX4_keepsWater at h
  refine lv_aload_n hx hb dX4_keepsWater_0 rfl (lv_at hl 0 rfl) ?_
  refine va_get (D := D) (ci := 8) (v := .ref a1) (C := RX4) (T := TX4) (N := 1) hx hb hts iX4_keepsWater_X4 hfc hK hP 0 rfl rfl 0 (by decide) (hts (.fieldLink RX4 16 "BathtubTides$Tub" "cells" "LBathtubTides$Row;") (List.mem_of_getElem? (i := 1) rfl)) (fun _ h9 => h9) rfl dX4_keepsWater_1 ?_
  refine lv_iconst (v := 1) hx hb dX4_keepsWater_4 (by decide) ?_
  refine rq_V (v := (some (.int (SX2_at 61 f 1)))) (As := [.int 1]) (rest := []) (wc := [(a1, .inr (6, [.ref a2])), (a2, .inl (cA 0, 61, .inl f))]) ⟨hx, hb, hml, hfc, hts⟩ hK hP (kX2_at l D cA a1 a2 61 f 1 (Nat.le_of_ble_eq_true rfl) rfl) (cwV 1 hts gX4_keepsWater_X2_at rfl rfl rfl (by decide +kernel) ⟨(Nat.le_of_ble_eq_true rfl), (Nat.le_of_ble_eq_true rfl)⟩) [1, 2] rfl 1 6 rfl rfl rfl rfl rfl rfl hl.1 (Nat.le_of_ble_eq_true rfl) dX4_keepsWater_5 ⟨(Nat.zero_le _), (Nat.zero_le _)⟩ ?_
  refine lv_aload_n hx hb dX4_keepsWater_8 rfl (lv_at hl 0 rfl) ?_
  refine va_get (D := D) (ci := 8) (v := .ref a1) (C := RX4) (T := TX4) (N := 1) hx hb hts iX4_keepsWater_X4 hfc hK hP 0 rfl rfl 0 (by decide) (hts (.fieldLink RX4 16 "BathtubTides$Tub" "cells" "LBathtubTides$Row;") (List.mem_of_getElem? (i := 1) rfl)) (fun _ h9 => h9) rfl dX4_keepsWater_9 ?_
  refine lv_iconst (v := 3) hx hb dX4_keepsWater_12 (by decide) ?_
  refine rq_V (v := (some (.int (SX2_at 61 f 3)))) (As := [.int 3]) (rest := [.int (SX2_at 61 f 1)]) (wc := [(a1, .inr (6, [.ref a2])), (a2, .inl (cA 0, 61, .inl f))]) ⟨hx, hb, hml, hfc, hts⟩ hK hP (kX2_at l D cA a1 a2 61 f 3 (Nat.le_of_ble_eq_true rfl) rfl) (cwV 1 hts gX4_keepsWater_X2_at rfl rfl rfl (by decide +kernel) ⟨(Nat.le_of_ble_eq_true rfl), (Nat.le_of_ble_eq_true rfl)⟩) [1, 2] rfl 1 6 rfl rfl rfl rfl rfl rfl hl.1 (Nat.le_of_ble_eq_true rfl) dX4_keepsWater_13 ⟨(Nat.zero_le _), (Nat.zero_le _)⟩ ?_
  refine lv_iadd hx hb dX4_keepsWater_16 ?_
  refine lv_topi (fun t1 et1 => ?_)
  have h := lt_e h _ et1
  refine lv_istore_n hx hb dX4_keepsWater_17 rfl hl (Nat.le_of_ble_eq_true rfl) rfl (fun ls hl => ?_)
  have hl : lv_has ls 3 [(1, .int t1), (0, .ref a0)] := hl
  refine lv_iconst (v := 0) hx hb dX4_keepsWater_18 (by decide) ?_
  refine lv_istore_n hx hb dX4_keepsWater_19 rfl hl (Nat.le_of_ble_eq_true rfl) rfl (fun ls hl => ?_)
  have hl : lv_has ls 3 [(2, .int 0), (1, .int t1), (0, .ref a0)] := hl
  have hLX4_keepsWater_20 : ∀ (fu : Nat) (x1_20 : Int32) (x2_20 : Int32) (ls : Array Slot), lv_has ls 3 [(0, .ref a0), (1, .int x1_20), (2, .int x2_20)] → LX4_keepsWater_20 f fu x1_20 x2_20 = some r → W p l e RM_X4_keepsWater s m args below meth c s.heap [] 0 0 Q (F0 m 20 ls []) := by
    intro fu
    induction fu with
    | zero =>
      intro x1_20 x2_20 ls hl h
      rw [LX4_keepsWater_20] at h
      exact nn h
    | succ fu ih =>
      intro x1_20 x2_20 ls hl h
      rw [LX4_keepsWater_20] at h
      refine lv_iload_n hx hb dX4_keepsWater_20 rfl (lv_at hl 2 rfl) ?_
      refine lv_aload_n hx hb dX4_keepsWater_21 rfl (lv_at hl 0 rfl) ?_
      refine rq_V (v := (some (.int (SX4_towels f)))) (As := []) (rest := [.int x2_20]) (wc := [(a0, .inr (8, [.ref a1])), (a1, .inr (6, [.ref a2])), (a2, .inl (cA 0, 61, .inl f))]) ⟨hx, hb, hml, hfc, hts⟩ hK hP (kX4_towels l D cA a0 a1 a2 f rfl) (cwV 0 hts gX4_keepsWater_X4_towels rfl rfl rfl (by decide +kernel) ⟨(Nat.le_of_ble_eq_true rfl), (Nat.le_of_ble_eq_true rfl)⟩) [0, 1, 2] rfl 0 8 rfl rfl rfl rfl rfl rfl hl.1 (Nat.le_of_ble_eq_true rfl) dX4_keepsWater_22 ⟨(Nat.zero_le _), (Nat.zero_le _)⟩ ?_
      refine lv_icmp_ge (tgt := 43) hx hb dX4_keepsWater_25 (by decide) (fun c2 => ?_) (fun c2 => ?_)
      · have h := ite_t c2 h
        refine lv_bipush (v := 20) hx hb dX4_keepsWater_43 (by decide) ?_
        refine lv_aload_n hx hb dX4_keepsWater_45 rfl (lv_at hl 0 rfl) ?_
        refine va_get (D := D) (ci := 8) (v := .ref a1) (C := RX4) (T := TX4) (N := 1) hx hb hts iX4_keepsWater_X4 hfc hK hP 0 rfl rfl 0 (by decide) (hts (.fieldLink RX4 16 "BathtubTides$Tub" "cells" "LBathtubTides$Row;") (List.mem_of_getElem? (i := 1) rfl)) (fun _ h9 => h9) rfl dX4_keepsWater_46 ?_
        refine lv_iconst (v := 4) hx hb dX4_keepsWater_49 (by decide) ?_
        refine rq_V (v := (some (.int (SX2_at 61 f 4)))) (As := [.int 4]) (rest := [.int 20]) (wc := [(a1, .inr (6, [.ref a2])), (a2, .inl (cA 0, 61, .inl f))]) ⟨hx, hb, hml, hfc, hts⟩ hK hP (kX2_at l D cA a1 a2 61 f 4 (Nat.le_of_ble_eq_true rfl) rfl) (cwV 1 hts gX4_keepsWater_X2_at rfl rfl rfl (by decide +kernel) ⟨(Nat.le_of_ble_eq_true rfl), (Nat.le_of_ble_eq_true rfl)⟩) [1, 2] rfl 1 6 rfl rfl rfl rfl rfl rfl hl.1 (Nat.le_of_ble_eq_true rfl) dX4_keepsWater_50 ⟨(Nat.zero_le _), (Nat.zero_le _)⟩ ?_
        refine lv_iadd hx hb dX4_keepsWater_53 ?_
        refine lv_iload_n hx hb dX4_keepsWater_54 rfl (lv_at hl 1 rfl) ?_
        refine lv_icmp_ne (tgt := 62) hx hb dX4_keepsWater_55 (by decide) (fun c3 => ?_) (fun c3 => ?_)
        · have h := ite_f c3 h
          refine lv_iconst (v := 0) hx hb dX4_keepsWater_62 (by decide) ?_
          have h := Option.some.inj h
          subst h
          exact hend _ _ _ _ rfl (rtn_n (x := 0) rfl) dX4_keepsWater_63
        · have h := ite_t c3 h
          refine lv_iconst (v := 1) hx hb dX4_keepsWater_58 (by decide) ?_
          refine lv_goto (tgt := 63) hx hb dX4_keepsWater_59 (by decide) ?_
          have h := Option.some.inj h
          subst h
          exact hend _ _ _ _ rfl (rtn_n (x := 1) rfl) dX4_keepsWater_63
      · have h := ite_f c2 h
        refine lv_iload_n hx hb dX4_keepsWater_28 rfl (lv_at hl 1 rfl) ?_
        refine lv_aload_n hx hb dX4_keepsWater_29 rfl (lv_at hl 0 rfl) ?_
        refine lv_iload_n hx hb dX4_keepsWater_30 rfl (lv_at hl 2 rfl) ?_
        refine lv_iconst (v := 2) hx hb dX4_keepsWater_31 (by decide) ?_
        refine rq_V (v := (some (.int (SX4_ofTowel f x2_20 2)))) (As := [.int x2_20, .int 2]) (rest := [.int x1_20]) (wc := [(a0, .inr (8, [.ref a1])), (a1, .inr (6, [.ref a2])), (a2, .inl (cA 0, 61, .inl f))]) ⟨hx, hb, hml, hfc, hts⟩ hK hP (kX4_ofTowel l D cA a0 a1 a2 f x2_20 2 rfl) (cwV 2 hts gX4_keepsWater_X4_ofTowel rfl rfl rfl (by decide +kernel) ⟨(Nat.le_of_ble_eq_true rfl), (Nat.le_of_ble_eq_true rfl)⟩) [0, 1, 2] rfl 0 8 rfl rfl rfl rfl rfl rfl hl.1 (Nat.le_of_ble_eq_true rfl) dX4_keepsWater_32 ⟨(Nat.zero_le _), (Nat.zero_le _)⟩ ?_
        refine lv_iadd hx hb dX4_keepsWater_35 ?_
        refine lv_topi (fun t4 et4 => ?_)
        have h := lt_e h _ et4
        refine lv_istore_n hx hb dX4_keepsWater_36 rfl hl (Nat.le_of_ble_eq_true rfl) rfl (fun ls hl => ?_)
        have hl : lv_has ls 3 [(1, .int t4), (0, .ref a0), (2, .int x2_20)] := hl
        refine lv_iinc (k := 2) (v := x2_20 + 1) hx hb dX4_keepsWater_37 hl rfl (congrArg (fun z => x2_20 + z) lit1) (Nat.le_of_ble_eq_true rfl) rfl (fun ls hl => ?_)
        have hl : lv_has ls 3 [(2, .int (x2_20 + 1)), (1, .int t4), (0, .ref a0)] := hl
        refine lv_goto (tgt := 20) hx hb dX4_keepsWater_40 (by decide) ?_
        exact ih t4 (x2_20 + 1) _ (lv_sub hl [2, 1, 0] rfl) h
  exact hLX4_keepsWater_20 N t1 0 _ (lv_sub hl [2, 1, 0] rfl) h
noncomputable def SX4_runTaps (f : Nat → Int32) : Nat → Int32 := if (irm (SX2_at 61 f 0) 12) = 0 then (lt_ (imax 0 (imin 40 ((SX2_at 61 f 1) + (SX2_at 61 f 2)))) (fun t2 : Int32 => lt_ (SX2_put 61 f 1 t2) (fun o3 : Nat → Int32 => lt_ (SX2_add 61 o3 4 (t2 - (SX2_at 61 f 1))) (fun o4 : Nat → Int32 => o4)))) else (f)
theorem iX4_runTaps_X4 : ∀ w ∈ wsX40, w ∈ wsX4_runTaps := fun _ h => List.mem_cons_of_mem _ (List.mem_append_left _ (List.mem_append_left _ (List.mem_append_right _ h)))
abbrev RM_X4_runTaps : Room := { frames := 2, cells := 0, slots := 0, locals := 45 }
set_option maxHeartbeats 4000000 in
theorem kX4_runTaps (l : Launch) (D : va_G) (cA : Nat → ClassId) (a0 a1 a2 : Nat) (f : Nat → Int32) {r : Nat → Int32} (hr : SX4_runTaps f = r) {sz : Nat} : Met l yX4_runTaps wsX4_runTaps RM_X4_runTaps (va_Pc [.ref a0] (gqB D cA [(a0, .inr (8, [.ref a1])), (a1, .inr (6, [.ref a2])), (a2, .inl (cA 0, 61, .inl f))] sz)) (gqQ D (fun as => none) (fun as => [(a0, .inr (8, [.ref a1])), (a1, .inr (6, [.ref a2])), (a2, .inl (cA 0, 61, .inl r))]) (va_A [(a0, .inr (8, [.ref a1])), (a1, .inr (6, [.ref a2])), (a2, .inl (cA 0, 61, .inl f))] sz)) 0 0 (va_A [(a0, .inr (8, [.ref a1])), (a1, .inr (6, [.ref a2])), (a2, .inl (cA 0, 61, .inl f))] sz) := by
  refine gq_ofW (cc := cX4_runTaps) (maxL := 3) (ret := none) (by decide) rfl (Nat.le_of_ble_eq_true rfl) (fun p e s m args below meth c ls Q A hx hb hml hts hfc hmn hK hP hD hS hA hl hend => ?_)
  have hfc : s.vm.findClass RX4 = some m.cls := hfc
  have hl : lv_has ls 3 [(0, .ref a0)] := hl
  have h := hr
  clear hr
  unfold SX4_runTaps at h
  refine lv_aload_n hx hb dX4_runTaps_0 rfl (lv_at hl 0 rfl) ?_
  refine va_get (D := D) (ci := 8) (v := .ref a1) (C := RX4) (T := TX4) (N := 1) hx hb hts iX4_runTaps_X4 hfc hK hP 0 rfl rfl 0 (by decide) (hts (.fieldLink RX4 16 "BathtubTides$Tub" "cells" "LBathtubTides$Row;") (List.mem_of_getElem? (i := 1) rfl)) (fun _ h9 => h9) rfl dX4_runTaps_1 ?_
  refine lv_iconst (v := 0) hx hb dX4_runTaps_4 (by decide) ?_
  refine rq_V (v := (some (.int (SX2_at 61 f 0)))) (As := [.int 0]) (rest := []) (wc := [(a1, .inr (6, [.ref a2])), (a2, .inl (cA 0, 61, .inl f))]) ⟨hx, hb, hml, hfc, hts⟩ hK hP (kX2_at l D cA a1 a2 61 f 0 (Nat.le_of_ble_eq_true rfl) rfl) (cwV 1 hts gX4_runTaps_X2_at rfl rfl rfl (by decide +kernel) ⟨(Nat.le_of_ble_eq_true rfl), (Nat.le_of_ble_eq_true rfl)⟩) [1, 2] rfl 1 6 rfl rfl rfl rfl rfl rfl hl.1 (Nat.le_of_ble_eq_true rfl) dX4_runTaps_5 ⟨(Nat.zero_le _), (Nat.zero_le _)⟩ ?_
  refine lv_bipush (v := 12) hx hb dX4_runTaps_8 (by decide) ?_
  refine lv_irem hx hb dX4_runTaps_10 (by decide) ?_
  refine lv_if_eq (tgt := 15) hx hb dX4_runTaps_11 (by decide) (fun c1 => ?_) (fun c1 => ?_)
  · have h := ite_t c1 h
    refine lv_aload_n hx hb dX4_runTaps_15 rfl (lv_at hl 0 rfl) ?_
    refine va_get (D := D) (ci := 8) (v := .ref a1) (C := RX4) (T := TX4) (N := 1) hx hb hts iX4_runTaps_X4 hfc hK hP 0 rfl rfl 0 (by decide) (hts (.fieldLink RX4 16 "BathtubTides$Tub" "cells" "LBathtubTides$Row;") (List.mem_of_getElem? (i := 1) rfl)) (fun _ h9 => h9) rfl dX4_runTaps_16 ?_
    refine lv_iconst (v := 1) hx hb dX4_runTaps_19 (by decide) ?_
    refine rq_V (v := (some (.int (SX2_at 61 f 1)))) (As := [.int 1]) (rest := []) (wc := [(a1, .inr (6, [.ref a2])), (a2, .inl (cA 0, 61, .inl f))]) ⟨hx, hb, hml, hfc, hts⟩ hK hP (kX2_at l D cA a1 a2 61 f 1 (Nat.le_of_ble_eq_true rfl) rfl) (cwV 1 hts gX4_runTaps_X2_at rfl rfl rfl (by decide +kernel) ⟨(Nat.le_of_ble_eq_true rfl), (Nat.le_of_ble_eq_true rfl)⟩) [1, 2] rfl 1 6 rfl rfl rfl rfl rfl rfl hl.1 (Nat.le_of_ble_eq_true rfl) dX4_runTaps_20 ⟨(Nat.zero_le _), (Nat.zero_le _)⟩ ?_
    refine lv_istore_n hx hb dX4_runTaps_23 rfl hl (Nat.le_of_ble_eq_true rfl) rfl (fun ls hl => ?_)
    have hl : lv_has ls 3 [(1, .int (SX2_at 61 f 1)), (0, .ref a0)] := hl
    refine lv_iconst (v := 0) hx hb dX4_runTaps_24 (by decide) ?_
    refine lv_bipush (v := 40) hx hb dX4_runTaps_25 (by decide) ?_
    refine lv_iload_n hx hb dX4_runTaps_27 rfl (lv_at hl 0 rfl) ?_
    refine lv_aload_n hx hb dX4_runTaps_28 rfl (lv_at hl 1 rfl) ?_
    refine va_get (D := D) (ci := 8) (v := .ref a1) (C := RX4) (T := TX4) (N := 1) hx hb hts iX4_runTaps_X4 hfc hK hP 0 rfl rfl 0 (by decide) (hts (.fieldLink RX4 16 "BathtubTides$Tub" "cells" "LBathtubTides$Row;") (List.mem_of_getElem? (i := 1) rfl)) (fun _ h9 => h9) rfl dX4_runTaps_29 ?_
    refine lv_iconst (v := 2) hx hb dX4_runTaps_32 (by decide) ?_
    refine rq_V (v := (some (.int (SX2_at 61 f 2)))) (As := [.int 2]) (rest := [.int (SX2_at 61 f 1), .int 40, .int 0]) (wc := [(a1, .inr (6, [.ref a2])), (a2, .inl (cA 0, 61, .inl f))]) ⟨hx, hb, hml, hfc, hts⟩ hK hP (kX2_at l D cA a1 a2 61 f 2 (Nat.le_of_ble_eq_true rfl) rfl) (cwV 1 hts gX4_runTaps_X2_at rfl rfl rfl (by decide +kernel) ⟨(Nat.le_of_ble_eq_true rfl), (Nat.le_of_ble_eq_true rfl)⟩) [1, 2] rfl 1 6 rfl rfl rfl rfl rfl rfl hl.1 (Nat.le_of_ble_eq_true rfl) dX4_runTaps_33 ⟨(Nat.zero_le _), (Nat.zero_le _)⟩ ?_
    refine lv_iadd hx hb dX4_runTaps_36 ?_
    refine va_mmin hx hb (hml.trans hl.1.symm) hfc (hts (.methodLink RX4 136 Lib.Math.min.name) (List.mem_of_getElem? (i := 2) rfl)) (hts (.static Lib.Math.min.name) (List.mem_of_getElem? (i := 3) rfl)) (hts (.initialized "java/lang/Math") (List.mem_of_getElem? (i := 4) rfl)) (hts (.code Lib.Math.min.name Lib.Math.min.code 2 (some .int)) (List.mem_of_getElem? (i := 5) rfl)) (Nat.le_of_ble_eq_true rfl) (Nat.le_of_ble_eq_true rfl) (Nat.zero_le _) (Nat.zero_le _) dX4_runTaps_37 ?_
    refine va_mmax hx hb (hml.trans hl.1.symm) hfc (hts (.methodLink RX4 125 Lib.Math.max.name) (List.mem_of_getElem? (i := 6) rfl)) (hts (.static Lib.Math.max.name) (List.mem_of_getElem? (i := 7) rfl)) (hts (.initialized "java/lang/Math") (List.mem_of_getElem? (i := 4) rfl)) (hts (.code Lib.Math.max.name Lib.Math.max.code 2 (some .int)) (List.mem_of_getElem? (i := 8) rfl)) (Nat.le_of_ble_eq_true rfl) (Nat.le_of_ble_eq_true rfl) (Nat.zero_le _) (Nat.zero_le _) dX4_runTaps_40 ?_
    refine lv_topi (fun t2 et2 => ?_)
    have h := lt_e h _ et2
    refine lv_istore_n hx hb dX4_runTaps_43 rfl hl (Nat.le_of_ble_eq_true rfl) rfl (fun ls hl => ?_)
    have hl : lv_has ls 3 [(2, .int t2), (1, .int (SX2_at 61 f 1)), (0, .ref a0)] := hl
    refine lv_aload_n hx hb dX4_runTaps_44 rfl (lv_at hl 2 rfl) ?_
    refine va_get (D := D) (ci := 8) (v := .ref a1) (C := RX4) (T := TX4) (N := 1) hx hb hts iX4_runTaps_X4 hfc hK hP 0 rfl rfl 0 (by decide) (hts (.fieldLink RX4 16 "BathtubTides$Tub" "cells" "LBathtubTides$Row;") (List.mem_of_getElem? (i := 1) rfl)) (fun _ h9 => h9) rfl dX4_runTaps_45 ?_
    refine lv_iconst (v := 1) hx hb dX4_runTaps_48 (by decide) ?_
    refine lv_iload_n hx hb dX4_runTaps_49 rfl (lv_at hl 0 rfl) ?_
    obtain ⟨o3, ho3, h⟩ := lt_i h
    refine gq_V (v := (fun as => none)) (As := [.int 1, .int t2]) (rest := []) (wc := [(a1, .inr (6, [.ref a2])), (a2, .inl (cA 0, 61, .inl f))]) (wr := [(a0, .inr (8, [.ref a1]))]) (w1 := (fun as => [(a1, .inr (6, [.ref a2])), (a2, .inl (cA 0, 61, .inl o3))])) (ws2 := (fun as => [(a0, .inr (8, [.ref a1])), (a1, .inr (6, [.ref a2])), (a2, .inl (cA 0, 61, .inl o3))])) (st1 := (fun as => [])) ⟨hx, hb, hml, hfc, hts⟩ hK hP hD hS hA (kX2_put l D cA a1 a2 61 f 1 t2 (Nat.le_of_ble_eq_true rfl) ho3) (cwV 2 hts gX4_runTaps_X2_put rfl rfl rfl (by decide +kernel) ⟨(Nat.le_of_ble_eq_true rfl), (Nat.le_of_ble_eq_true rfl)⟩) [1, 2] [0] [0, 1, 2] rfl rfl rfl rfl (by decide) (fun _ => rfl) rfl 1 6 rfl rfl rfl rfl (fun _ => rfl) rfl hl.1 (Nat.le_of_ble_eq_true rfl) dX4_runTaps_50 ⟨(Nat.zero_le _), (Nat.zero_le _)⟩ (fun as H locs hP hD hS => ?_)
    have hP : va_P D vwCl [(a0, .inr (8, [.ref a1])), (a1, .inr (6, [.ref a2])), (a2, .inl (cA 0, 61, .inl o3))] H := hP
    have hD : va_D A [(a0, .inr (8, [.ref a1])), (a1, .inr (6, [.ref a2])), (a2, .inl (cA 0, 61, .inl o3))] := hD
    refine lv_aload_n hx hb dX4_runTaps_53 rfl (lv_at hl 2 rfl) ?_
    refine va_get (D := D) (ci := 8) (v := .ref a1) (C := RX4) (T := TX4) (N := 1) hx hb hts iX4_runTaps_X4 hfc hK hP 0 rfl rfl 0 (by decide) (hts (.fieldLink RX4 16 "BathtubTides$Tub" "cells" "LBathtubTides$Row;") (List.mem_of_getElem? (i := 1) rfl)) (fun _ h9 => h9) rfl dX4_runTaps_54 ?_
    refine lv_iconst (v := 4) hx hb dX4_runTaps_57 (by decide) ?_
    refine lv_iload_n hx hb dX4_runTaps_58 rfl (lv_at hl 0 rfl) ?_
    refine lv_iload_n hx hb dX4_runTaps_59 rfl (lv_at hl 1 rfl) ?_
    refine lv_isub hx hb dX4_runTaps_60 ?_
    obtain ⟨o4, ho4, h⟩ := lt_i h
    refine gq_V (v := (fun as => none)) (As := [.int 4, .int (t2 - (SX2_at 61 f 1))]) (rest := []) (wc := [(a1, .inr (6, [.ref a2])), (a2, .inl (cA 0, 61, .inl o3))]) (wr := [(a0, .inr (8, [.ref a1]))]) (w1 := (fun as => [(a1, .inr (6, [.ref a2])), (a2, .inl (cA 0, 61, .inl o4))])) (ws2 := (fun as => [(a0, .inr (8, [.ref a1])), (a1, .inr (6, [.ref a2])), (a2, .inl (cA 0, 61, .inl o4))])) (st1 := (fun as => [])) ⟨hx, hb, hml, hfc, hts⟩ hK hP hD hS hA (kX2_add l D cA a1 a2 61 o3 4 (t2 - (SX2_at 61 f 1)) (Nat.le_of_ble_eq_true rfl) ho4) (cwV 2 hts gX4_runTaps_X2_add rfl rfl rfl (by decide +kernel) ⟨(Nat.le_of_ble_eq_true rfl), (Nat.le_of_ble_eq_true rfl)⟩) [1, 2] [0] [0, 1, 2] rfl rfl rfl rfl (by decide) (fun _ => rfl) rfl 1 6 rfl rfl rfl rfl (fun _ => rfl) rfl hl.1 (Nat.le_of_ble_eq_true rfl) dX4_runTaps_61 ⟨(Nat.zero_le _), (Nat.zero_le _)⟩ (fun as H locs hP hD hS => ?_)
    have hP : va_P D vwCl [(a0, .inr (8, [.ref a1])), (a1, .inr (6, [.ref a2])), (a2, .inl (cA 0, 61, .inl o4))] H := hP
    have hD : va_D A [(a0, .inr (8, [.ref a1])), (a1, .inr (6, [.ref a2])), (a2, .inl (cA 0, 61, .inl o4))] := hD
    subst h
    exact hend (adr []) _ _ _ _ _ _ _ rfl rfl (rtn_v) hP hD hS dX4_runTaps_64
  · have h := ite_f c1 h
    subst h
    exact hend (adr []) _ _ _ _ _ _ _ rfl rfl (rtn_v) hP hD hS dX4_runTaps_14
noncomputable def SX4_isFlooded (f : Nat → Int32) (x1 : Int32) (x2 : Int32) : Int32 := if ((SX2_at 61 f 1) + x2) ≤ (SX4_ofTowel f x1 1) then (0) else (if 5 ≤ (SX4_ofTowel f x1 2) then (0) else (if (SX2_at 61 f 1) < 1 then (0) else (1)))
theorem iX4_isFlooded_X4 : ∀ w ∈ wsX40, w ∈ wsX4_isFlooded := fun _ h => List.mem_cons_of_mem _ (List.mem_append_left _ (List.mem_append_left _ (List.mem_append_right _ h)))
abbrev RM_X4_isFlooded : Room := { frames := 2, cells := 0, slots := 0, locals := 44 }
set_option maxHeartbeats 4000000 in
theorem kX4_isFlooded (l : Launch) (D : va_G) (cA : Nat → ClassId) (a0 a1 a2 : Nat) (f : Nat → Int32) (x1 : Int32) (x2 : Int32) {r : Int32} (hr : SX4_isFlooded f x1 x2 = r) : Met l yX4_isFlooded wsX4_isFlooded RM_X4_isFlooded (va_Pc [.ref a0, .int x1, .int x2] (rqB D cA [(a0, .inr (8, [.ref a1])), (a1, .inr (6, [.ref a2])), (a2, .inl (cA 0, 61, .inl f))])) (rqQ (some (.int r))) 0 0 (fun _ => False) := by
  refine rq_ofW (cc := cX4_isFlooded) (maxL := 4) (ret := (some .boolean)) (by decide) rfl (Nat.le_of_ble_eq_true rfl) (fun p e s m args below meth c ls Q hx hb hml hts hfc hK hP hl hend => ?_)
  have hfc : s.vm.findClass RX4 = some m.cls := hfc
  have hl : lv_has ls 4 [(0, .ref a0), (1, .int x1), (2, .int x2)] := hl
  have h := hr
  clear hr
  unfold SX4_isFlooded at h
  refine lv_aload_n hx hb dX4_isFlooded_0 rfl (lv_at hl 0 rfl) ?_
  refine va_get (D := D) (ci := 8) (v := .ref a1) (C := RX4) (T := TX4) (N := 1) hx hb hts iX4_isFlooded_X4 hfc hK hP 0 rfl rfl 0 (by decide) (hts (.fieldLink RX4 16 "BathtubTides$Tub" "cells" "LBathtubTides$Row;") (List.mem_of_getElem? (i := 1) rfl)) (fun _ h9 => h9) rfl dX4_isFlooded_1 ?_
  refine lv_iconst (v := 1) hx hb dX4_isFlooded_4 (by decide) ?_
  refine rq_V (v := (some (.int (SX2_at 61 f 1)))) (As := [.int 1]) (rest := []) (wc := [(a1, .inr (6, [.ref a2])), (a2, .inl (cA 0, 61, .inl f))]) ⟨hx, hb, hml, hfc, hts⟩ hK hP (kX2_at l D cA a1 a2 61 f 1 (Nat.le_of_ble_eq_true rfl) rfl) (cwV 1 hts gX4_isFlooded_X2_at rfl rfl rfl (by decide +kernel) ⟨(Nat.le_of_ble_eq_true rfl), (Nat.le_of_ble_eq_true rfl)⟩) [1, 2] rfl 1 6 rfl rfl rfl rfl rfl rfl hl.1 (Nat.le_of_ble_eq_true rfl) dX4_isFlooded_5 ⟨(Nat.zero_le _), (Nat.zero_le _)⟩ ?_
  refine lv_istore_n hx hb dX4_isFlooded_8 rfl hl (Nat.le_of_ble_eq_true rfl) rfl (fun ls hl => ?_)
  have hl : lv_has ls 4 [(3, .int (SX2_at 61 f 1)), (0, .ref a0), (1, .int x1), (2, .int x2)] := hl
  refine lv_iload_n hx hb dX4_isFlooded_9 rfl (lv_at hl 0 rfl) ?_
  refine lv_iload_n hx hb dX4_isFlooded_10 rfl (lv_at hl 3 rfl) ?_
  refine lv_iadd hx hb dX4_isFlooded_11 ?_
  refine lv_aload_n hx hb dX4_isFlooded_12 rfl (lv_at hl 1 rfl) ?_
  refine lv_iload_n hx hb dX4_isFlooded_13 rfl (lv_at hl 2 rfl) ?_
  refine lv_iconst (v := 1) hx hb dX4_isFlooded_14 (by decide) ?_
  refine rq_V (v := (some (.int (SX4_ofTowel f x1 1)))) (As := [.int x1, .int 1]) (rest := [.int ((SX2_at 61 f 1) + x2)]) (wc := [(a0, .inr (8, [.ref a1])), (a1, .inr (6, [.ref a2])), (a2, .inl (cA 0, 61, .inl f))]) ⟨hx, hb, hml, hfc, hts⟩ hK hP (kX4_ofTowel l D cA a0 a1 a2 f x1 1 rfl) (cwV 2 hts gX4_isFlooded_X4_ofTowel rfl rfl rfl (by decide +kernel) ⟨(Nat.le_of_ble_eq_true rfl), (Nat.le_of_ble_eq_true rfl)⟩) [0, 1, 2] rfl 0 8 rfl rfl rfl rfl rfl rfl hl.1 (Nat.le_of_ble_eq_true rfl) dX4_isFlooded_15 ⟨(Nat.zero_le _), (Nat.zero_le _)⟩ ?_
  refine lv_icmp_le (tgt := 40) hx hb dX4_isFlooded_18 (by decide) (fun c1 => ?_) (fun c1 => ?_)
  · have h := ite_t c1 h
    refine lv_iconst (v := 0) hx hb dX4_isFlooded_40 (by decide) ?_
    subst h
    exact hend _ _ _ _ rfl (rtn_n (x := 0) rfl) dX4_isFlooded_41
  · have h := ite_f c1 h
    refine lv_aload_n hx hb dX4_isFlooded_21 rfl (lv_at hl 1 rfl) ?_
    refine lv_iload_n hx hb dX4_isFlooded_22 rfl (lv_at hl 2 rfl) ?_
    refine lv_iconst (v := 2) hx hb dX4_isFlooded_23 (by decide) ?_
    refine rq_V (v := (some (.int (SX4_ofTowel f x1 2)))) (As := [.int x1, .int 2]) (rest := []) (wc := [(a0, .inr (8, [.ref a1])), (a1, .inr (6, [.ref a2])), (a2, .inl (cA 0, 61, .inl f))]) ⟨hx, hb, hml, hfc, hts⟩ hK hP (kX4_ofTowel l D cA a0 a1 a2 f x1 2 rfl) (cwV 2 hts gX4_isFlooded_X4_ofTowel rfl rfl rfl (by decide +kernel) ⟨(Nat.le_of_ble_eq_true rfl), (Nat.le_of_ble_eq_true rfl)⟩) [0, 1, 2] rfl 0 8 rfl rfl rfl rfl rfl rfl hl.1 (Nat.le_of_ble_eq_true rfl) dX4_isFlooded_24 ⟨(Nat.zero_le _), (Nat.zero_le _)⟩ ?_
    refine lv_iconst (v := 5) hx hb dX4_isFlooded_27 (by decide) ?_
    refine lv_icmp_ge (tgt := 40) hx hb dX4_isFlooded_28 (by decide) (fun c2 => ?_) (fun c2 => ?_)
    · have h := ite_t c2 h
      refine lv_iconst (v := 0) hx hb dX4_isFlooded_40 (by decide) ?_
      subst h
      exact hend _ _ _ _ rfl (rtn_n (x := 0) rfl) dX4_isFlooded_41
    · have h := ite_f c2 h
      refine lv_iload_n hx hb dX4_isFlooded_31 rfl (lv_at hl 0 rfl) ?_
      refine lv_iconst (v := 1) hx hb dX4_isFlooded_32 (by decide) ?_
      refine lv_icmp_lt (tgt := 40) hx hb dX4_isFlooded_33 (by decide) (fun c3 => ?_) (fun c3 => ?_)
      · have h := ite_t c3 h
        refine lv_iconst (v := 0) hx hb dX4_isFlooded_40 (by decide) ?_
        subst h
        exact hend _ _ _ _ rfl (rtn_n (x := 0) rfl) dX4_isFlooded_41
      · have h := ite_f c3 h
        refine lv_iconst (v := 1) hx hb dX4_isFlooded_36 (by decide) ?_
        refine lv_goto (tgt := 41) hx hb dX4_isFlooded_37 (by decide) ?_
        subst h
        exact hend _ _ _ _ rfl (rtn_n (x := 1) rfl) dX4_isFlooded_41
noncomputable def SX4_soak (f : Nat → Int32) (x1 : Int32) : Nat → Int32 := lt_ (SX2_add 61 f ((45 + (x1 * 4)) + 2) 1) (fun o1 : Nat → Int32 => lt_ (SX2_add 61 o1 ((45 + (x1 * 4)) + 3) 1) (fun o2 : Nat → Int32 => lt_ (SX2_add 61 o2 1 (-1)) (fun o3 : Nat → Int32 => o3)))
theorem iX4_soak_X4 : ∀ w ∈ wsX40, w ∈ wsX4_soak := fun _ h => List.mem_cons_of_mem _ (List.mem_append_left _ (List.mem_append_left _ (List.mem_append_right _ h)))
abbrev RM_X4_soak : Room := { frames := 2, cells := 0, slots := 0, locals := 45 }
set_option maxHeartbeats 4000000 in
theorem kX4_soak (l : Launch) (D : va_G) (cA : Nat → ClassId) (a0 a1 a2 : Nat) (f : Nat → Int32) (x1 : Int32) {r : Nat → Int32} (hr : SX4_soak f x1 = r) {sz : Nat} : Met l yX4_soak wsX4_soak RM_X4_soak (va_Pc [.ref a0, .int x1] (gqB D cA [(a0, .inr (8, [.ref a1])), (a1, .inr (6, [.ref a2])), (a2, .inl (cA 0, 61, .inl f))] sz)) (gqQ D (fun as => none) (fun as => [(a0, .inr (8, [.ref a1])), (a1, .inr (6, [.ref a2])), (a2, .inl (cA 0, 61, .inl r))]) (va_A [(a0, .inr (8, [.ref a1])), (a1, .inr (6, [.ref a2])), (a2, .inl (cA 0, 61, .inl f))] sz)) 0 0 (va_A [(a0, .inr (8, [.ref a1])), (a1, .inr (6, [.ref a2])), (a2, .inl (cA 0, 61, .inl f))] sz) := by
  refine gq_ofW (cc := cX4_soak) (maxL := 3) (ret := none) (by decide) rfl (Nat.le_of_ble_eq_true rfl) (fun p e s m args below meth c ls Q A hx hb hml hts hfc hmn hK hP hD hS hA hl hend => ?_)
  have hfc : s.vm.findClass RX4 = some m.cls := hfc
  have hl : lv_has ls 3 [(0, .ref a0), (1, .int x1)] := hl
  have h := hr
  clear hr
  unfold SX4_soak at h
  refine lv_bipush (v := 45) hx hb dX4_soak_0 (by decide) ?_
  refine lv_iload_n hx hb dX4_soak_2 rfl (lv_at hl 1 rfl) ?_
  refine lv_iconst (v := 4) hx hb dX4_soak_3 (by decide) ?_
  refine lv_imul hx hb dX4_soak_4 ?_
  refine lv_iadd hx hb dX4_soak_5 ?_
  refine lv_istore_n hx hb dX4_soak_6 rfl hl (Nat.le_of_ble_eq_true rfl) rfl (fun ls hl => ?_)
  have hl : lv_has ls 3 [(2, .int (45 + (x1 * 4))), (0, .ref a0), (1, .int x1)] := hl
  refine lv_aload_n hx hb dX4_soak_7 rfl (lv_at hl 1 rfl) ?_
  refine va_get (D := D) (ci := 8) (v := .ref a1) (C := RX4) (T := TX4) (N := 1) hx hb hts iX4_soak_X4 hfc hK hP 0 rfl rfl 0 (by decide) (hts (.fieldLink RX4 16 "BathtubTides$Tub" "cells" "LBathtubTides$Row;") (List.mem_of_getElem? (i := 1) rfl)) (fun _ h9 => h9) rfl dX4_soak_8 ?_
  refine lv_iload_n hx hb dX4_soak_11 rfl (lv_at hl 0 rfl) ?_
  refine lv_iconst (v := 2) hx hb dX4_soak_12 (by decide) ?_
  refine lv_iadd hx hb dX4_soak_13 ?_
  refine lv_iconst (v := 1) hx hb dX4_soak_14 (by decide) ?_
  obtain ⟨o1, ho1, h⟩ := lt_i h
  refine gq_V (v := (fun as => none)) (As := [.int ((45 + (x1 * 4)) + 2), .int 1]) (rest := []) (wc := [(a1, .inr (6, [.ref a2])), (a2, .inl (cA 0, 61, .inl f))]) (wr := [(a0, .inr (8, [.ref a1]))]) (w1 := (fun as => [(a1, .inr (6, [.ref a2])), (a2, .inl (cA 0, 61, .inl o1))])) (ws2 := (fun as => [(a0, .inr (8, [.ref a1])), (a1, .inr (6, [.ref a2])), (a2, .inl (cA 0, 61, .inl o1))])) (st1 := (fun as => [])) ⟨hx, hb, hml, hfc, hts⟩ hK hP hD hS hA (kX2_add l D cA a1 a2 61 f ((45 + (x1 * 4)) + 2) 1 (Nat.le_of_ble_eq_true rfl) ho1) (cwV 2 hts gX4_soak_X2_add rfl rfl rfl (by decide +kernel) ⟨(Nat.le_of_ble_eq_true rfl), (Nat.le_of_ble_eq_true rfl)⟩) [1, 2] [0] [0, 1, 2] rfl rfl rfl rfl (by decide) (fun _ => rfl) rfl 1 6 rfl rfl rfl rfl (fun _ => rfl) rfl hl.1 (Nat.le_of_ble_eq_true rfl) dX4_soak_15 ⟨(Nat.zero_le _), (Nat.zero_le _)⟩ (fun as H locs hP hD hS => ?_)
  have hP : va_P D vwCl [(a0, .inr (8, [.ref a1])), (a1, .inr (6, [.ref a2])), (a2, .inl (cA 0, 61, .inl o1))] H := hP
  have hD : va_D A [(a0, .inr (8, [.ref a1])), (a1, .inr (6, [.ref a2])), (a2, .inl (cA 0, 61, .inl o1))] := hD
  refine lv_aload_n hx hb dX4_soak_18 rfl (lv_at hl 1 rfl) ?_
  refine va_get (D := D) (ci := 8) (v := .ref a1) (C := RX4) (T := TX4) (N := 1) hx hb hts iX4_soak_X4 hfc hK hP 0 rfl rfl 0 (by decide) (hts (.fieldLink RX4 16 "BathtubTides$Tub" "cells" "LBathtubTides$Row;") (List.mem_of_getElem? (i := 1) rfl)) (fun _ h9 => h9) rfl dX4_soak_19 ?_
  refine lv_iload_n hx hb dX4_soak_22 rfl (lv_at hl 0 rfl) ?_
  refine lv_iconst (v := 3) hx hb dX4_soak_23 (by decide) ?_
  refine lv_iadd hx hb dX4_soak_24 ?_
  refine lv_iconst (v := 1) hx hb dX4_soak_25 (by decide) ?_
  obtain ⟨o2, ho2, h⟩ := lt_i h
  refine gq_V (v := (fun as => none)) (As := [.int ((45 + (x1 * 4)) + 3), .int 1]) (rest := []) (wc := [(a1, .inr (6, [.ref a2])), (a2, .inl (cA 0, 61, .inl o1))]) (wr := [(a0, .inr (8, [.ref a1]))]) (w1 := (fun as => [(a1, .inr (6, [.ref a2])), (a2, .inl (cA 0, 61, .inl o2))])) (ws2 := (fun as => [(a0, .inr (8, [.ref a1])), (a1, .inr (6, [.ref a2])), (a2, .inl (cA 0, 61, .inl o2))])) (st1 := (fun as => [])) ⟨hx, hb, hml, hfc, hts⟩ hK hP hD hS hA (kX2_add l D cA a1 a2 61 o1 ((45 + (x1 * 4)) + 3) 1 (Nat.le_of_ble_eq_true rfl) ho2) (cwV 2 hts gX4_soak_X2_add rfl rfl rfl (by decide +kernel) ⟨(Nat.le_of_ble_eq_true rfl), (Nat.le_of_ble_eq_true rfl)⟩) [1, 2] [0] [0, 1, 2] rfl rfl rfl rfl (by decide) (fun _ => rfl) rfl 1 6 rfl rfl rfl rfl (fun _ => rfl) rfl hl.1 (Nat.le_of_ble_eq_true rfl) dX4_soak_26 ⟨(Nat.zero_le _), (Nat.zero_le _)⟩ (fun as H locs hP hD hS => ?_)
  have hP : va_P D vwCl [(a0, .inr (8, [.ref a1])), (a1, .inr (6, [.ref a2])), (a2, .inl (cA 0, 61, .inl o2))] H := hP
  have hD : va_D A [(a0, .inr (8, [.ref a1])), (a1, .inr (6, [.ref a2])), (a2, .inl (cA 0, 61, .inl o2))] := hD
  refine lv_aload_n hx hb dX4_soak_29 rfl (lv_at hl 1 rfl) ?_
  refine va_get (D := D) (ci := 8) (v := .ref a1) (C := RX4) (T := TX4) (N := 1) hx hb hts iX4_soak_X4 hfc hK hP 0 rfl rfl 0 (by decide) (hts (.fieldLink RX4 16 "BathtubTides$Tub" "cells" "LBathtubTides$Row;") (List.mem_of_getElem? (i := 1) rfl)) (fun _ h9 => h9) rfl dX4_soak_30 ?_
  refine lv_iconst (v := 1) hx hb dX4_soak_33 (by decide) ?_
  refine lv_iconst (v := (-1)) hx hb dX4_soak_34 (by decide) ?_
  obtain ⟨o3, ho3, h⟩ := lt_i h
  refine gq_V (v := (fun as => none)) (As := [.int 1, .int (-1)]) (rest := []) (wc := [(a1, .inr (6, [.ref a2])), (a2, .inl (cA 0, 61, .inl o2))]) (wr := [(a0, .inr (8, [.ref a1]))]) (w1 := (fun as => [(a1, .inr (6, [.ref a2])), (a2, .inl (cA 0, 61, .inl o3))])) (ws2 := (fun as => [(a0, .inr (8, [.ref a1])), (a1, .inr (6, [.ref a2])), (a2, .inl (cA 0, 61, .inl o3))])) (st1 := (fun as => [])) ⟨hx, hb, hml, hfc, hts⟩ hK hP hD hS hA (kX2_add l D cA a1 a2 61 o2 1 (-1) (Nat.le_of_ble_eq_true rfl) ho3) (cwV 2 hts gX4_soak_X2_add rfl rfl rfl (by decide +kernel) ⟨(Nat.le_of_ble_eq_true rfl), (Nat.le_of_ble_eq_true rfl)⟩) [1, 2] [0] [0, 1, 2] rfl rfl rfl rfl (by decide) (fun _ => rfl) rfl 1 6 rfl rfl rfl rfl (fun _ => rfl) rfl hl.1 (Nat.le_of_ble_eq_true rfl) dX4_soak_35 ⟨(Nat.zero_le _), (Nat.zero_le _)⟩ (fun as H locs hP hD hS => ?_)
  have hP : va_P D vwCl [(a0, .inr (8, [.ref a1])), (a1, .inr (6, [.ref a2])), (a2, .inl (cA 0, 61, .inl o3))] H := hP
  have hD : va_D A [(a0, .inr (8, [.ref a1])), (a1, .inr (6, [.ref a2])), (a2, .inl (cA 0, 61, .inl o3))] := hD
  subst h
  exact hend (adr []) _ _ _ _ _ _ _ rfl rfl (rtn_v) hP hD hS dX4_soak_38
noncomputable def LX4_pass_25 (K : (Int32 × Int32 × (Nat → Int32)) → Option (Int32 × (Nat → Int32))) (N : Nat) : Nat → (Nat → Int32) → Int32 → Int32 → Option (Int32 × (Nat → Int32))
  | 0, _, _, _ => none
  | fu + 1, f2_25, x2_25, x4_25 => if (SX4_towels f2_25) ≤ x4_25 then (K (x2_25, x4_25, f2_25)) else (bnd (SX4_tideAfter N f2_25 (SX4_ofTowel f2_25 x4_25 0) 0) (fun o6 : Int32 => lt_ (if (SX4_isFlooded f2_25 x4_25 o6) = 0 then ((x2_25, f2_25)) else (lt_ (SX4_soak f2_25 x4_25) (fun o9 : Nat → Int32 => (x2_25 + 1, o9)))) (fun o8 : Int32 × (Nat → Int32) => LX4_pass_25 K N fu o8.2 o8.1 (x4_25 + 1))))
noncomputable def LX4_pass_4 (N : Nat) (x1 : Int32) : Nat → (Nat → Int32) → Int32 → Int32 → Option (Int32 × (Nat → Int32))
  | 0, _, _, _ => none
  | fu + 1, f2_4, x2_4, x3_4 => if x1 ≤ x3_4 then (some ((x2_4, f2_4))) else (lt_ (SX2_add 61 f2_4 0 1) (fun o2 : Nat → Int32 => lt_ (SX4_runTaps o2) (fun o3 : Nat → Int32 => LX4_pass_25 (fun o4 : Int32 × Int32 × (Nat → Int32) => LX4_pass_4 N x1 fu o4.2.2 o4.1 (x3_4 + 1)) N N o3 x2_4 0)))
noncomputable def SX4_pass (N : Nat) (f : Nat → Int32) (x1 : Int32) : Option (Int32 × (Nat → Int32)) := LX4_pass_4 N x1 N f 0 0
theorem iX4_pass_X4 : ∀ w ∈ wsX40, w ∈ wsX4_pass := fun _ h => List.mem_cons_of_mem _ (List.mem_append_left _ (List.mem_append_left _ (List.mem_append_left _ (List.mem_append_right _ h))))
abbrev RM_X4_pass : Room := { frames := 5, cells := 0, slots := 0, locals := 107 }
set_option maxHeartbeats 4000000 in
theorem kX4_pass (l : Launch) (D : va_G) (cA : Nat → ClassId) (a0 a1 a2 : Nat) (N : Nat) (f : Nat → Int32) (x1 : Int32) {r : Int32 × (Nat → Int32)} (hr : SX4_pass N f x1 = some r) {sz : Nat} : Met l yX4_pass wsX4_pass RM_X4_pass (va_Pc [.ref a0, .int x1] (gqB D cA [(a0, .inr (8, [.ref a1])), (a1, .inr (6, [.ref a2])), (a2, .inl (cA 0, 61, .inl f))] sz)) (gqQ D (fun as => (some (.int r.1))) (fun as => [(a0, .inr (8, [.ref a1])), (a1, .inr (6, [.ref a2])), (a2, .inl (cA 0, 61, .inl r.2))]) (va_A [(a0, .inr (8, [.ref a1])), (a1, .inr (6, [.ref a2])), (a2, .inl (cA 0, 61, .inl f))] sz)) 0 0 (va_A [(a0, .inr (8, [.ref a1])), (a1, .inr (6, [.ref a2])), (a2, .inl (cA 0, 61, .inl f))] sz) := by
  refine gq_ofW (cc := cX4_pass) (maxL := 5) (ret := (some .int)) (by decide) rfl (Nat.le_of_ble_eq_true rfl) (fun p e s m args below meth c ls Q A hx hb hml hts hfc hmn hK hP hD hS hA hl hend => ?_)
  have hfc : s.vm.findClass RX4 = some m.cls := hfc
  have hl : lv_has ls 5 [(0, .ref a0), (1, .int x1)] := hl
  have h := hr
  clear hr
  unfold SX4_pass at h
  refine lv_iconst (v := 0) hx hb dX4_pass_0 (by decide) ?_
  refine lv_istore_n hx hb dX4_pass_1 rfl hl (Nat.le_of_ble_eq_true rfl) rfl (fun ls hl => ?_)
  have hl : lv_has ls 5 [(2, .int 0), (0, .ref a0), (1, .int x1)] := hl
  refine lv_iconst (v := 0) hx hb dX4_pass_2 (by decide) ?_
  refine lv_istore_n hx hb dX4_pass_3 rfl hl (Nat.le_of_ble_eq_true rfl) rfl (fun ls hl => ?_)
  have hl : lv_has ls 5 [(3, .int 0), (2, .int 0), (0, .ref a0), (1, .int x1)] := hl
  have hLX4_pass_4 : ∀ (fu : Nat) (f2_4 : Nat → Int32) (x2_4 : Int32) (x3_4 : Int32) (ls : Array Slot) (H : Heap) (locs : List Loc), lv_has ls 5 [(0, .ref a0), (1, .int x1), (2, .int x2_4), (3, .int x3_4)] → va_P D vwCl [(a0, .inr (8, [.ref a1])), (a1, .inr (6, [.ref a2])), (a2, .inl (cA 0, 61, .inl f2_4))] H → va_D A [(a0, .inr (8, [.ref a1])), (a1, .inr (6, [.ref a2])), (a2, .inl (cA 0, 61, .inl f2_4))] → va_S A s.heap H locs → LX4_pass_4 N x1 fu f2_4 x2_4 x3_4 = some r → W p l e RM_X4_pass s m args below meth c H locs 0 0 Q (F0 m 4 ls []) := by
    intro fu
    induction fu with
    | zero =>
      intro f2_4 x2_4 x3_4 ls H locs hl hP hD hS h
      rw [LX4_pass_4] at h
      exact nn h
    | succ fu ih =>
      intro f2_4 x2_4 x3_4 ls H locs hl hP hD hS h
      rw [LX4_pass_4] at h
      refine lv_iload_n hx hb dX4_pass_4 rfl (lv_at hl 3 rfl) ?_
      refine lv_iload_n hx hb dX4_pass_5 rfl (lv_at hl 1 rfl) ?_
      refine lv_icmp_ge (tgt := 76) hx hb dX4_pass_6 (by decide) (fun c1 => ?_) (fun c1 => ?_)
      · have h := ite_t c1 h
        refine lv_iload_n hx hb dX4_pass_76 rfl (lv_at hl 2 rfl) ?_
        have h := Option.some.inj h
        subst h
        exact hend (adr []) _ _ _ _ _ _ _ rfl rfl (rtn_i _) hP hD hS dX4_pass_77
      · have h := ite_f c1 h
        refine lv_aload_n hx hb dX4_pass_9 rfl (lv_at hl 0 rfl) ?_
        refine va_get (D := D) (ci := 8) (v := .ref a1) (C := RX4) (T := TX4) (N := 1) hx hb hts iX4_pass_X4 hfc hK hP 0 rfl rfl 0 (by decide) (hts (.fieldLink RX4 16 "BathtubTides$Tub" "cells" "LBathtubTides$Row;") (List.mem_of_getElem? (i := 1) rfl)) (fun _ h9 => h9) rfl dX4_pass_10 ?_
        refine lv_iconst (v := 0) hx hb dX4_pass_13 (by decide) ?_
        refine lv_iconst (v := 1) hx hb dX4_pass_14 (by decide) ?_
        obtain ⟨o2, ho2, h⟩ := lt_i h
        refine gq_V (v := (fun as => none)) (As := [.int 0, .int 1]) (rest := []) (wc := [(a1, .inr (6, [.ref a2])), (a2, .inl (cA 0, 61, .inl f2_4))]) (wr := [(a0, .inr (8, [.ref a1]))]) (w1 := (fun as => [(a1, .inr (6, [.ref a2])), (a2, .inl (cA 0, 61, .inl o2))])) (ws2 := (fun as => [(a0, .inr (8, [.ref a1])), (a1, .inr (6, [.ref a2])), (a2, .inl (cA 0, 61, .inl o2))])) (st1 := (fun as => [])) ⟨hx, hb, hml, hfc, hts⟩ hK hP hD hS hA (kX2_add l D cA a1 a2 61 f2_4 0 1 (Nat.le_of_ble_eq_true rfl) ho2) (cwV 2 hts gX4_pass_X2_add rfl rfl rfl (by decide +kernel) ⟨(Nat.le_of_ble_eq_true rfl), (Nat.le_of_ble_eq_true rfl)⟩) [1, 2] [0] [0, 1, 2] rfl rfl rfl rfl (by decide) (fun _ => rfl) rfl 1 6 rfl rfl rfl rfl (fun _ => rfl) rfl hl.1 (Nat.le_of_ble_eq_true rfl) dX4_pass_15 ⟨(Nat.zero_le _), (Nat.zero_le _)⟩ (fun as H locs hP hD hS => ?_)
        have hP : va_P D vwCl [(a0, .inr (8, [.ref a1])), (a1, .inr (6, [.ref a2])), (a2, .inl (cA 0, 61, .inl o2))] H := hP
        have hD : va_D A [(a0, .inr (8, [.ref a1])), (a1, .inr (6, [.ref a2])), (a2, .inl (cA 0, 61, .inl o2))] := hD
        refine lv_aload_n hx hb dX4_pass_18 rfl (lv_at hl 0 rfl) ?_
        obtain ⟨o3, ho3, h⟩ := lt_i h
        refine gq_V (v := (fun as => none)) (As := []) (rest := []) (wc := [(a0, .inr (8, [.ref a1])), (a1, .inr (6, [.ref a2])), (a2, .inl (cA 0, 61, .inl o2))]) (wr := []) (w1 := (fun as => [(a0, .inr (8, [.ref a1])), (a1, .inr (6, [.ref a2])), (a2, .inl (cA 0, 61, .inl o3))])) (ws2 := (fun as => [(a0, .inr (8, [.ref a1])), (a1, .inr (6, [.ref a2])), (a2, .inl (cA 0, 61, .inl o3))])) (st1 := (fun as => [])) ⟨hx, hb, hml, hfc, hts⟩ hK hP hD hS hA (kX4_runTaps l D cA a0 a1 a2 o2 ho3) (cwV 0 hts gX4_pass_X4_runTaps rfl rfl rfl (by decide +kernel) ⟨(Nat.le_of_ble_eq_true rfl), (Nat.le_of_ble_eq_true rfl)⟩) [0, 1, 2] [] [0, 1, 2] rfl rfl rfl rfl (by decide) (fun _ => rfl) rfl 0 8 rfl rfl rfl rfl (fun _ => rfl) rfl hl.1 (Nat.le_of_ble_eq_true rfl) dX4_pass_19 ⟨(Nat.zero_le _), (Nat.zero_le _)⟩ (fun as H locs hP hD hS => ?_)
        have hP : va_P D vwCl [(a0, .inr (8, [.ref a1])), (a1, .inr (6, [.ref a2])), (a2, .inl (cA 0, 61, .inl o3))] H := hP
        have hD : va_D A [(a0, .inr (8, [.ref a1])), (a1, .inr (6, [.ref a2])), (a2, .inl (cA 0, 61, .inl o3))] := hD
        refine lv_iconst (v := 0) hx hb dX4_pass_22 (by decide) ?_
        refine lv_istore hx hb dX4_pass_23 hl (Nat.le_of_ble_eq_true rfl) rfl (fun ls hl => ?_)
        have hl : lv_has ls 5 [(4, .int 0), (0, .ref a0), (1, .int x1), (2, .int x2_4), (3, .int x3_4)] := hl
        have hLX4_pass_25 : ∀ (K : (Int32 × Int32 × (Nat → Int32)) → Option (Int32 × (Nat → Int32))), (∀ (o4 : Int32 × Int32 × (Nat → Int32)) (ls : Array Slot) (H : Heap) (locs : List Loc), lv_has ls 5 [(0, .ref a0), (1, .int x1), (2, .int o4.1), (3, .int x3_4), (4, .int o4.2.1)] → va_P D vwCl [(a0, .inr (8, [.ref a1])), (a1, .inr (6, [.ref a2])), (a2, .inl (cA 0, 61, .inl o4.2.2))] H → va_D A [(a0, .inr (8, [.ref a1])), (a1, .inr (6, [.ref a2])), (a2, .inl (cA 0, 61, .inl o4.2.2))] → va_S A s.heap H locs → K o4 = some r → W p l e RM_X4_pass s m args below meth c H locs 0 0 Q (F0 m 70 ls [])) → ∀ (fu : Nat) (f2_25 : Nat → Int32) (x2_25 : Int32) (x4_25 : Int32) (ls : Array Slot) (H : Heap) (locs : List Loc), lv_has ls 5 [(0, .ref a0), (1, .int x1), (2, .int x2_25), (3, .int x3_4), (4, .int x4_25)] → va_P D vwCl [(a0, .inr (8, [.ref a1])), (a1, .inr (6, [.ref a2])), (a2, .inl (cA 0, 61, .inl f2_25))] H → va_D A [(a0, .inr (8, [.ref a1])), (a1, .inr (6, [.ref a2])), (a2, .inl (cA 0, 61, .inl f2_25))] → va_S A s.heap H locs → LX4_pass_25 K N fu f2_25 x2_25 x4_25 = some r → W p l e RM_X4_pass s m args below meth c H locs 0 0 Q (F0 m 25 ls []) := by
          intro K hKk fu
          induction fu with
          | zero =>
            intro f2_25 x2_25 x4_25 ls H locs hl hP hD hS h
            rw [LX4_pass_25] at h
            exact nn h
          | succ fu ih =>
            intro f2_25 x2_25 x4_25 ls H locs hl hP hD hS h
            rw [LX4_pass_25] at h
            refine lv_iload hx hb dX4_pass_25 (lv_at hl 4 rfl) ?_
            refine lv_aload_n hx hb dX4_pass_27 rfl (lv_at hl 0 rfl) ?_
            refine rq_V (v := (some (.int (SX4_towels f2_25)))) (As := []) (rest := [.int x4_25]) (wc := [(a0, .inr (8, [.ref a1])), (a1, .inr (6, [.ref a2])), (a2, .inl (cA 0, 61, .inl f2_25))]) ⟨hx, hb, hml, hfc, hts⟩ hK hP (kX4_towels l D cA a0 a1 a2 f2_25 rfl) (cwV 0 hts gX4_pass_X4_towels rfl rfl rfl (by decide +kernel) ⟨(Nat.le_of_ble_eq_true rfl), (Nat.le_of_ble_eq_true rfl)⟩) [0, 1, 2] rfl 0 8 rfl rfl rfl rfl rfl rfl hl.1 (Nat.le_of_ble_eq_true rfl) dX4_pass_28 ⟨(Nat.zero_le _), (Nat.zero_le _)⟩ ?_
            refine lv_icmp_ge (tgt := 70) hx hb dX4_pass_31 (by decide) (fun c5 => ?_) (fun c5 => ?_)
            · have h := ite_t c5 h
              exact hKk (x2_25, x4_25, f2_25) _ _ _ (lv_sub hl [0, 1, 2, 3, 4] rfl) hP hD hS h
            · have h := ite_f c5 h
              refine lv_aload_n hx hb dX4_pass_34 rfl (lv_at hl 0 rfl) ?_
              refine lv_iload hx hb dX4_pass_35 (lv_at hl 4 rfl) ?_
              refine lv_aload_n hx hb dX4_pass_37 rfl (lv_at hl 0 rfl) ?_
              refine lv_aload_n hx hb dX4_pass_38 rfl (lv_at hl 0 rfl) ?_
              refine lv_iload hx hb dX4_pass_39 (lv_at hl 4 rfl) ?_
              refine lv_iconst (v := 0) hx hb dX4_pass_41 (by decide) ?_
              refine rq_V (v := (some (.int (SX4_ofTowel f2_25 x4_25 0)))) (As := [.int x4_25, .int 0]) (rest := [.ref a0, .int x4_25, .ref a0]) (wc := [(a0, .inr (8, [.ref a1])), (a1, .inr (6, [.ref a2])), (a2, .inl (cA 0, 61, .inl f2_25))]) ⟨hx, hb, hml, hfc, hts⟩ hK hP (kX4_ofTowel l D cA a0 a1 a2 f2_25 x4_25 0 rfl) (cwV 2 hts gX4_pass_X4_ofTowel rfl rfl rfl (by decide +kernel) ⟨(Nat.le_of_ble_eq_true rfl), (Nat.le_of_ble_eq_true rfl)⟩) [0, 1, 2] rfl 0 8 rfl rfl rfl rfl rfl rfl hl.1 (Nat.le_of_ble_eq_true rfl) dX4_pass_42 ⟨(Nat.zero_le _), (Nat.zero_le _)⟩ ?_
              refine lv_iconst (v := 0) hx hb dX4_pass_45 (by decide) ?_
              obtain ⟨o6, ho6, h⟩ := bnd_i h
              refine rq_V (v := (some (.int o6))) (As := [.int (SX4_ofTowel f2_25 x4_25 0), .int 0]) (rest := [.int x4_25, .ref a0]) (wc := [(a0, .inr (8, [.ref a1])), (a1, .inr (6, [.ref a2])), (a2, .inl (cA 0, 61, .inl f2_25))]) ⟨hx, hb, hml, hfc, hts⟩ hK hP (kX4_tideAfter l D cA a0 a1 a2 N f2_25 (SX4_ofTowel f2_25 x4_25 0) 0 ho6) (cwV 2 hts gX4_pass_X4_tideAfter rfl rfl rfl (by decide +kernel) ⟨(Nat.le_of_ble_eq_true rfl), (Nat.le_of_ble_eq_true rfl)⟩) [0, 1, 2] rfl 0 8 rfl rfl rfl rfl rfl rfl hl.1 (Nat.le_of_ble_eq_true rfl) dX4_pass_46 ⟨(Nat.zero_le _), (Nat.zero_le _)⟩ ?_
              refine rq_V (v := (some (.int (SX4_isFlooded f2_25 x4_25 o6)))) (As := [.int x4_25, .int o6]) (rest := []) (wc := [(a0, .inr (8, [.ref a1])), (a1, .inr (6, [.ref a2])), (a2, .inl (cA 0, 61, .inl f2_25))]) ⟨hx, hb, hml, hfc, hts⟩ hK hP (kX4_isFlooded l D cA a0 a1 a2 f2_25 x4_25 o6 rfl) (cwV 2 hts gX4_pass_X4_isFlooded rfl rfl rfl (by decide +kernel) ⟨(Nat.le_of_ble_eq_true rfl), (Nat.le_of_ble_eq_true rfl)⟩) [0, 1, 2] rfl 0 8 rfl rfl rfl rfl rfl rfl hl.1 (Nat.le_of_ble_eq_true rfl) dX4_pass_49 ⟨(Nat.zero_le _), (Nat.zero_le _)⟩ ?_
              obtain ⟨o8, ho8, h⟩ := lt_i h
              have ko8 : ∀ (ls : Array Slot) (H : Heap) (locs : List Loc), lv_has ls 5 [(0, .ref a0), (1, .int x1), (2, .int o8.1), (3, .int x3_4), (4, .int x4_25)] → va_P D vwCl [(a0, .inr (8, [.ref a1])), (a1, .inr (6, [.ref a2])), (a2, .inl (cA 0, 61, .inl o8.2))] H → va_D A [(a0, .inr (8, [.ref a1])), (a1, .inr (6, [.ref a2])), (a2, .inl (cA 0, 61, .inl o8.2))] → va_S A s.heap H locs → W p l e RM_X4_pass s m args below meth c H locs 0 0 Q (F0 m 64 ls []) := by
                intro ls H locs hl hP hD hS
                refine lv_iinc (k := 4) (v := x4_25 + 1) hx hb dX4_pass_64 hl rfl (congrArg (fun z => x4_25 + z) lit1) (Nat.le_of_ble_eq_true rfl) rfl (fun ls hl => ?_)
                have hl : lv_has ls 5 [(4, .int (x4_25 + 1)), (0, .ref a0), (1, .int x1), (2, .int o8.1), (3, .int x3_4)] := hl
                refine lv_goto (tgt := 25) hx hb dX4_pass_67 (by decide) ?_
                exact ih o8.2 o8.1 (x4_25 + 1) _ _ _ (lv_sub hl [1, 2, 3, 4, 0] rfl) hP hD hS h
              clear h
              have h := ho8
              clear ho8
              refine lv_if_eq (tgt := 64) hx hb dX4_pass_52 (by decide) (fun c7 => ?_) (fun c7 => ?_)
              · have h := ite_t c7 h
                subst h
                exact ko8 _ _ _ (lv_sub hl [0, 1, 2, 3, 4] rfl) hP hD hS
              · have h := ite_f c7 h
                refine lv_aload_n hx hb dX4_pass_55 rfl (lv_at hl 0 rfl) ?_
                refine lv_iload hx hb dX4_pass_56 (lv_at hl 4 rfl) ?_
                obtain ⟨o9, ho9, h⟩ := lt_i h
                refine gq_V (v := (fun as => none)) (As := [.int x4_25]) (rest := []) (wc := [(a0, .inr (8, [.ref a1])), (a1, .inr (6, [.ref a2])), (a2, .inl (cA 0, 61, .inl f2_25))]) (wr := []) (w1 := (fun as => [(a0, .inr (8, [.ref a1])), (a1, .inr (6, [.ref a2])), (a2, .inl (cA 0, 61, .inl o9))])) (ws2 := (fun as => [(a0, .inr (8, [.ref a1])), (a1, .inr (6, [.ref a2])), (a2, .inl (cA 0, 61, .inl o9))])) (st1 := (fun as => [])) ⟨hx, hb, hml, hfc, hts⟩ hK hP hD hS hA (kX4_soak l D cA a0 a1 a2 f2_25 x4_25 ho9) (cwV 1 hts gX4_pass_X4_soak rfl rfl rfl (by decide +kernel) ⟨(Nat.le_of_ble_eq_true rfl), (Nat.le_of_ble_eq_true rfl)⟩) [0, 1, 2] [] [0, 1, 2] rfl rfl rfl rfl (by decide) (fun _ => rfl) rfl 0 8 rfl rfl rfl rfl (fun _ => rfl) rfl hl.1 (Nat.le_of_ble_eq_true rfl) dX4_pass_58 ⟨(Nat.zero_le _), (Nat.zero_le _)⟩ (fun as H locs hP hD hS => ?_)
                have hP : va_P D vwCl [(a0, .inr (8, [.ref a1])), (a1, .inr (6, [.ref a2])), (a2, .inl (cA 0, 61, .inl o9))] H := hP
                have hD : va_D A [(a0, .inr (8, [.ref a1])), (a1, .inr (6, [.ref a2])), (a2, .inl (cA 0, 61, .inl o9))] := hD
                refine lv_iinc (k := 2) (v := x2_25 + 1) hx hb dX4_pass_61 hl rfl (congrArg (fun z => x2_25 + z) lit1) (Nat.le_of_ble_eq_true rfl) rfl (fun ls hl => ?_)
                have hl : lv_has ls 5 [(2, .int (x2_25 + 1)), (0, .ref a0), (1, .int x1), (3, .int x3_4), (4, .int x4_25)] := hl
                subst h
                exact ko8 _ _ _ (lv_sub hl [1, 2, 0, 3, 4] rfl) hP hD hS
        refine hLX4_pass_25 _ ?_ N o3 x2_4 0 _ _ _ (lv_sub hl [1, 2, 3, 4, 0] rfl) hP hD hS h
        intro o4 ls H locs hl hP hD hS h
        refine lv_iinc (k := 3) (v := x3_4 + 1) hx hb dX4_pass_70 hl rfl (congrArg (fun z => x3_4 + z) lit1) (Nat.le_of_ble_eq_true rfl) rfl (fun ls hl => ?_)
        have hl : lv_has ls 5 [(3, .int (x3_4 + 1)), (0, .ref a0), (1, .int x1), (2, .int o4.1), (4, .int o4.2.1)] := hl
        refine lv_goto (tgt := 4) hx hb dX4_pass_73 (by decide) ?_
        exact ih o4.2.2 o4.1 (x3_4 + 1) _ _ _ (lv_sub hl [1, 2, 3, 0] rfl) hP hD hS h
  exact hLX4_pass_4 N f 0 0 _ _ _ (lv_sub hl [2, 3, 1, 0] rfl) hP hD hS h
noncomputable def SX4_allows (N : Nat) (f : Nat → Int32) (x1 : Int32) (x2 : Int32) (x3 : Int32) (x4 : Int32) : Option (Int32) := if x1 = 0 then (if (SX4_isMoonShape x2 x3 x4) = 0 then (some (0)) else (if (SX4_hasMoonRoom f) = 0 then (some (0)) else (some (1)))) else (if x1 = 1 then (if (SX4_isMoonShape x2 x3 x4) = 0 then (some (0)) else (if (SX4_hasMoonRoom f) = 0 then (some (0)) else (some (1)))) else (if x1 = 2 then (if (SX4_isMoonShape x2 x3 x4) = 0 then (some (0)) else (if (SX4_hasMoonRoom f) = 0 then (some (0)) else (some (1)))) else (if x1 = 3 then (gd (narrow .boolean (.int (SX4_isMoon f x2)) = .int (SX4_isMoon f x2)) (some ((SX4_isMoon f x2)))) else (if x1 = 4 then (if (SX4_isPosition x2) = 0 then (some (0)) else (bnd (SX4_canPutToe N f x2) (fun o14 : Int32 => if o14 = 0 then (some (0)) else (some (1))))) else (if x1 = 5 then (if (SX4_isPosition x2) = 0 then (some (0)) else (if (SX4_isToeAt f x2) = 0 then (some (0)) else (some (1)))) else (if x1 = 6 then (gd (narrow .boolean (.int (SX4_isPosition x2)) = .int (SX4_isPosition x2)) (some ((SX4_isPosition x2)))) else (if x1 = 7 then (gd (narrow .boolean (.int (SX4_isPlugged f)) = .int (SX4_isPlugged f)) (some ((SX4_isPlugged f)))) else (if x1 = 8 then (if (SX4_isPosition x2) = 0 then (some (0)) else (if (SX4_isHeight x3) = 0 then (some (0)) else (bnd (SX4_canPutTowel N f x2) (fun o26 : Int32 => if o26 = 0 then (some (0)) else (some (1)))))) else (if x1 = 9 then (gd (narrow .boolean (.int (SX4_isTowel f x2)) = .int (SX4_isTowel f x2)) (some ((SX4_isTowel f x2)))) else (if x1 = 10 then (gd (narrow .boolean (.int (SX4_isFlow x2)) = .int (SX4_isFlow x2)) (some ((SX4_isFlow x2)))) else (if x1 = 11 then (gd (narrow .boolean (.int (SX4_isWait x2)) = .int (SX4_isWait x2)) (some ((SX4_isWait x2)))) else (some (0)))))))))))))
abbrev RM_X4_allows : Room := { frames := 4, cells := 0, slots := 0, locals := 86 }
set_option maxHeartbeats 4000000 in
theorem kX4_allows (l : Launch) (D : va_G) (cA : Nat → ClassId) (a0 a1 a2 : Nat) (N : Nat) (f : Nat → Int32) (x1 : Int32) (x2 : Int32) (x3 : Int32) (x4 : Int32) {r : Int32} (hr : SX4_allows N f x1 x2 x3 x4 = some r) : Met l yX4_allows wsX4_allows RM_X4_allows (va_Pc [.ref a0, .int x1, .int x2, .int x3, .int x4] (rqB D cA [(a0, .inr (8, [.ref a1])), (a1, .inr (6, [.ref a2])), (a2, .inl (cA 0, 61, .inl f))])) (rqQ (some (.int r))) 0 0 (fun _ => False) := by
  refine rq_ofW (cc := cX4_allows) (maxL := 5) (ret := (some .boolean)) (by decide) rfl (Nat.le_of_ble_eq_true rfl) (fun p e s m args below meth c ls Q hx hb hml hts hfc hK hP hl hend => ?_)
  have hfc : s.vm.findClass RX4 = some m.cls := hfc
  have hl : lv_has ls 5 [(0, .ref a0), (1, .int x1), (2, .int x2), (3, .int x3), (4, .int x4)] := hl
  have h := hr
  clear hr
  unfold SX4_allows at h
  refine lv_iload_n hx hb dX4_allows_0 rfl (lv_at hl 1 rfl) ?_
  by_cases c1 : x1 = 0
  · have h := ite_t c1 h
    refine lv_tableIn (off := 63) (tgt := 64) hx hb dX4_allows_1 (by rw [c1]; decide) (by rw [c1]; decide) (by rw [c1]; decide) (by decide) ?_
    refine lv_iload_n hx hb dX4_allows_64 rfl (lv_at hl 2 rfl) ?_
    refine lv_iload_n hx hb dX4_allows_65 rfl (lv_at hl 3 rfl) ?_
    refine lv_iload hx hb dX4_allows_66 (lv_at hl 4 rfl) ?_
    refine rq_S (v := (some (.int (SX4_isMoonShape x2 x3 x4)))) (As := [.int x2, .int x3, .int x4]) (rest := []) (wc := []) ⟨hx, hb, hml, hfc, hts⟩ hK hP (kX4_isMoonShape l D cA x2 x3 x4 rfl) (va_cwS 3 hts gX4_allows_X4_isMoonShape rfl rfl rfl (by decide +kernel) ⟨(Nat.le_of_ble_eq_true rfl), (Nat.le_of_ble_eq_true rfl)⟩) [] rfl rfl rfl rfl hl.1 (Nat.le_of_ble_eq_true rfl) dX4_allows_68 ⟨(Nat.zero_le _), (Nat.zero_le _)⟩ ?_
    refine lv_if_eq (tgt := 85) hx hb dX4_allows_71 (by decide) (fun c2 => ?_) (fun c2 => ?_)
    · have h := ite_t c2 h
      refine lv_iconst (v := 0) hx hb dX4_allows_85 (by decide) ?_
      have h := Option.some.inj h
      subst h
      exact hend _ _ _ _ rfl (rtn_n (x := 0) rfl) dX4_allows_86
    · have h := ite_f c2 h
      refine lv_aload_n hx hb dX4_allows_74 rfl (lv_at hl 0 rfl) ?_
      refine rq_V (v := (some (.int (SX4_hasMoonRoom f)))) (As := []) (rest := []) (wc := [(a0, .inr (8, [.ref a1])), (a1, .inr (6, [.ref a2])), (a2, .inl (cA 0, 61, .inl f))]) ⟨hx, hb, hml, hfc, hts⟩ hK hP (kX4_hasMoonRoom l D cA a0 a1 a2 f rfl) (cwV 0 hts gX4_allows_X4_hasMoonRoom rfl rfl rfl (by decide +kernel) ⟨(Nat.le_of_ble_eq_true rfl), (Nat.le_of_ble_eq_true rfl)⟩) [0, 1, 2] rfl 0 8 rfl rfl rfl rfl rfl rfl hl.1 (Nat.le_of_ble_eq_true rfl) dX4_allows_75 ⟨(Nat.zero_le _), (Nat.zero_le _)⟩ ?_
      refine lv_if_eq (tgt := 85) hx hb dX4_allows_78 (by decide) (fun c3 => ?_) (fun c3 => ?_)
      · have h := ite_t c3 h
        refine lv_iconst (v := 0) hx hb dX4_allows_85 (by decide) ?_
        have h := Option.some.inj h
        subst h
        exact hend _ _ _ _ rfl (rtn_n (x := 0) rfl) dX4_allows_86
      · have h := ite_f c3 h
        refine lv_iconst (v := 1) hx hb dX4_allows_81 (by decide) ?_
        refine lv_goto (tgt := 86) hx hb dX4_allows_82 (by decide) ?_
        have h := Option.some.inj h
        subst h
        exact hend _ _ _ _ rfl (rtn_n (x := 1) rfl) dX4_allows_86
  · have h := ite_f c1 h
    by_cases c4 : x1 = 1
    · have h := ite_t c4 h
      refine lv_tableIn (off := 63) (tgt := 64) hx hb dX4_allows_1 (by rw [c4]; decide) (by rw [c4]; decide) (by rw [c4]; decide) (by decide) ?_
      refine lv_iload_n hx hb dX4_allows_64 rfl (lv_at hl 2 rfl) ?_
      refine lv_iload_n hx hb dX4_allows_65 rfl (lv_at hl 3 rfl) ?_
      refine lv_iload hx hb dX4_allows_66 (lv_at hl 4 rfl) ?_
      refine rq_S (v := (some (.int (SX4_isMoonShape x2 x3 x4)))) (As := [.int x2, .int x3, .int x4]) (rest := []) (wc := []) ⟨hx, hb, hml, hfc, hts⟩ hK hP (kX4_isMoonShape l D cA x2 x3 x4 rfl) (va_cwS 3 hts gX4_allows_X4_isMoonShape rfl rfl rfl (by decide +kernel) ⟨(Nat.le_of_ble_eq_true rfl), (Nat.le_of_ble_eq_true rfl)⟩) [] rfl rfl rfl rfl hl.1 (Nat.le_of_ble_eq_true rfl) dX4_allows_68 ⟨(Nat.zero_le _), (Nat.zero_le _)⟩ ?_
      refine lv_if_eq (tgt := 85) hx hb dX4_allows_71 (by decide) (fun c5 => ?_) (fun c5 => ?_)
      · have h := ite_t c5 h
        refine lv_iconst (v := 0) hx hb dX4_allows_85 (by decide) ?_
        have h := Option.some.inj h
        subst h
        exact hend _ _ _ _ rfl (rtn_n (x := 0) rfl) dX4_allows_86
      · have h := ite_f c5 h
        refine lv_aload_n hx hb dX4_allows_74 rfl (lv_at hl 0 rfl) ?_
        refine rq_V (v := (some (.int (SX4_hasMoonRoom f)))) (As := []) (rest := []) (wc := [(a0, .inr (8, [.ref a1])), (a1, .inr (6, [.ref a2])), (a2, .inl (cA 0, 61, .inl f))]) ⟨hx, hb, hml, hfc, hts⟩ hK hP (kX4_hasMoonRoom l D cA a0 a1 a2 f rfl) (cwV 0 hts gX4_allows_X4_hasMoonRoom rfl rfl rfl (by decide +kernel) ⟨(Nat.le_of_ble_eq_true rfl), (Nat.le_of_ble_eq_true rfl)⟩) [0, 1, 2] rfl 0 8 rfl rfl rfl rfl rfl rfl hl.1 (Nat.le_of_ble_eq_true rfl) dX4_allows_75 ⟨(Nat.zero_le _), (Nat.zero_le _)⟩ ?_
        refine lv_if_eq (tgt := 85) hx hb dX4_allows_78 (by decide) (fun c6 => ?_) (fun c6 => ?_)
        · have h := ite_t c6 h
          refine lv_iconst (v := 0) hx hb dX4_allows_85 (by decide) ?_
          have h := Option.some.inj h
          subst h
          exact hend _ _ _ _ rfl (rtn_n (x := 0) rfl) dX4_allows_86
        · have h := ite_f c6 h
          refine lv_iconst (v := 1) hx hb dX4_allows_81 (by decide) ?_
          refine lv_goto (tgt := 86) hx hb dX4_allows_82 (by decide) ?_
          have h := Option.some.inj h
          subst h
          exact hend _ _ _ _ rfl (rtn_n (x := 1) rfl) dX4_allows_86
    · have h := ite_f c4 h
      by_cases c7 : x1 = 2
      · have h := ite_t c7 h
        refine lv_tableIn (off := 63) (tgt := 64) hx hb dX4_allows_1 (by rw [c7]; decide) (by rw [c7]; decide) (by rw [c7]; decide) (by decide) ?_
        refine lv_iload_n hx hb dX4_allows_64 rfl (lv_at hl 2 rfl) ?_
        refine lv_iload_n hx hb dX4_allows_65 rfl (lv_at hl 3 rfl) ?_
        refine lv_iload hx hb dX4_allows_66 (lv_at hl 4 rfl) ?_
        refine rq_S (v := (some (.int (SX4_isMoonShape x2 x3 x4)))) (As := [.int x2, .int x3, .int x4]) (rest := []) (wc := []) ⟨hx, hb, hml, hfc, hts⟩ hK hP (kX4_isMoonShape l D cA x2 x3 x4 rfl) (va_cwS 3 hts gX4_allows_X4_isMoonShape rfl rfl rfl (by decide +kernel) ⟨(Nat.le_of_ble_eq_true rfl), (Nat.le_of_ble_eq_true rfl)⟩) [] rfl rfl rfl rfl hl.1 (Nat.le_of_ble_eq_true rfl) dX4_allows_68 ⟨(Nat.zero_le _), (Nat.zero_le _)⟩ ?_
        refine lv_if_eq (tgt := 85) hx hb dX4_allows_71 (by decide) (fun c8 => ?_) (fun c8 => ?_)
        · have h := ite_t c8 h
          refine lv_iconst (v := 0) hx hb dX4_allows_85 (by decide) ?_
          have h := Option.some.inj h
          subst h
          exact hend _ _ _ _ rfl (rtn_n (x := 0) rfl) dX4_allows_86
        · have h := ite_f c8 h
          refine lv_aload_n hx hb dX4_allows_74 rfl (lv_at hl 0 rfl) ?_
          refine rq_V (v := (some (.int (SX4_hasMoonRoom f)))) (As := []) (rest := []) (wc := [(a0, .inr (8, [.ref a1])), (a1, .inr (6, [.ref a2])), (a2, .inl (cA 0, 61, .inl f))]) ⟨hx, hb, hml, hfc, hts⟩ hK hP (kX4_hasMoonRoom l D cA a0 a1 a2 f rfl) (cwV 0 hts gX4_allows_X4_hasMoonRoom rfl rfl rfl (by decide +kernel) ⟨(Nat.le_of_ble_eq_true rfl), (Nat.le_of_ble_eq_true rfl)⟩) [0, 1, 2] rfl 0 8 rfl rfl rfl rfl rfl rfl hl.1 (Nat.le_of_ble_eq_true rfl) dX4_allows_75 ⟨(Nat.zero_le _), (Nat.zero_le _)⟩ ?_
          refine lv_if_eq (tgt := 85) hx hb dX4_allows_78 (by decide) (fun c9 => ?_) (fun c9 => ?_)
          · have h := ite_t c9 h
            refine lv_iconst (v := 0) hx hb dX4_allows_85 (by decide) ?_
            have h := Option.some.inj h
            subst h
            exact hend _ _ _ _ rfl (rtn_n (x := 0) rfl) dX4_allows_86
          · have h := ite_f c9 h
            refine lv_iconst (v := 1) hx hb dX4_allows_81 (by decide) ?_
            refine lv_goto (tgt := 86) hx hb dX4_allows_82 (by decide) ?_
            have h := Option.some.inj h
            subst h
            exact hend _ _ _ _ rfl (rtn_n (x := 1) rfl) dX4_allows_86
      · have h := ite_f c7 h
        by_cases c10 : x1 = 3
        · have h := ite_t c10 h
          refine lv_tableIn (off := 86) (tgt := 87) hx hb dX4_allows_1 (by rw [c10]; decide) (by rw [c10]; decide) (by rw [c10]; decide) (by decide) ?_
          refine lv_aload_n hx hb dX4_allows_87 rfl (lv_at hl 0 rfl) ?_
          refine lv_iload_n hx hb dX4_allows_88 rfl (lv_at hl 2 rfl) ?_
          refine rq_V (v := (some (.int (SX4_isMoon f x2)))) (As := [.int x2]) (rest := []) (wc := [(a0, .inr (8, [.ref a1])), (a1, .inr (6, [.ref a2])), (a2, .inl (cA 0, 61, .inl f))]) ⟨hx, hb, hml, hfc, hts⟩ hK hP (kX4_isMoon l D cA a0 a1 a2 f x2 rfl) (cwV 1 hts gX4_allows_X4_isMoon rfl rfl rfl (by decide +kernel) ⟨(Nat.le_of_ble_eq_true rfl), (Nat.le_of_ble_eq_true rfl)⟩) [0, 1, 2] rfl 0 8 rfl rfl rfl rfl rfl rfl hl.1 (Nat.le_of_ble_eq_true rfl) dX4_allows_89 ⟨(Nat.zero_le _), (Nat.zero_le _)⟩ ?_
          obtain ⟨g11, h⟩ := gd_i h
          have h := Option.some.inj h
          subst h
          exact hend _ _ _ _ rfl (rtn_n g11) dX4_allows_92
        · have h := ite_f c10 h
          by_cases c12 : x1 = 4
          · have h := ite_t c12 h
            refine lv_tableIn (off := 92) (tgt := 93) hx hb dX4_allows_1 (by rw [c12]; decide) (by rw [c12]; decide) (by rw [c12]; decide) (by decide) ?_
            refine lv_iload_n hx hb dX4_allows_93 rfl (lv_at hl 2 rfl) ?_
            refine rq_S (v := (some (.int (SX4_isPosition x2)))) (As := [.int x2]) (rest := []) (wc := []) ⟨hx, hb, hml, hfc, hts⟩ hK hP (kX4_isPosition l D cA x2 rfl) (va_cwS 1 hts gX4_allows_X4_isPosition rfl rfl rfl (by decide +kernel) ⟨(Nat.le_of_ble_eq_true rfl), (Nat.le_of_ble_eq_true rfl)⟩) [] rfl rfl rfl rfl hl.1 (Nat.le_of_ble_eq_true rfl) dX4_allows_94 ⟨(Nat.zero_le _), (Nat.zero_le _)⟩ ?_
            refine lv_if_eq (tgt := 112) hx hb dX4_allows_97 (by decide) (fun c13 => ?_) (fun c13 => ?_)
            · have h := ite_t c13 h
              refine lv_iconst (v := 0) hx hb dX4_allows_112 (by decide) ?_
              have h := Option.some.inj h
              subst h
              exact hend _ _ _ _ rfl (rtn_n (x := 0) rfl) dX4_allows_113
            · have h := ite_f c13 h
              refine lv_aload_n hx hb dX4_allows_100 rfl (lv_at hl 0 rfl) ?_
              refine lv_iload_n hx hb dX4_allows_101 rfl (lv_at hl 2 rfl) ?_
              obtain ⟨o14, ho14, h⟩ := bnd_i h
              refine rq_V (v := (some (.int o14))) (As := [.int x2]) (rest := []) (wc := [(a0, .inr (8, [.ref a1])), (a1, .inr (6, [.ref a2])), (a2, .inl (cA 0, 61, .inl f))]) ⟨hx, hb, hml, hfc, hts⟩ hK hP (kX4_canPutToe l D cA a0 a1 a2 N f x2 ho14) (cwV 1 hts gX4_allows_X4_canPutToe rfl rfl rfl (by decide +kernel) ⟨(Nat.le_of_ble_eq_true rfl), (Nat.le_of_ble_eq_true rfl)⟩) [0, 1, 2] rfl 0 8 rfl rfl rfl rfl rfl rfl hl.1 (Nat.le_of_ble_eq_true rfl) dX4_allows_102 ⟨(Nat.zero_le _), (Nat.zero_le _)⟩ ?_
              refine lv_if_eq (tgt := 112) hx hb dX4_allows_105 (by decide) (fun c15 => ?_) (fun c15 => ?_)
              · have h := ite_t c15 h
                refine lv_iconst (v := 0) hx hb dX4_allows_112 (by decide) ?_
                have h := Option.some.inj h
                subst h
                exact hend _ _ _ _ rfl (rtn_n (x := 0) rfl) dX4_allows_113
              · have h := ite_f c15 h
                refine lv_iconst (v := 1) hx hb dX4_allows_108 (by decide) ?_
                refine lv_goto (tgt := 113) hx hb dX4_allows_109 (by decide) ?_
                have h := Option.some.inj h
                subst h
                exact hend _ _ _ _ rfl (rtn_n (x := 1) rfl) dX4_allows_113
          · have h := ite_f c12 h
            by_cases c16 : x1 = 5
            · have h := ite_t c16 h
              refine lv_tableIn (off := 113) (tgt := 114) hx hb dX4_allows_1 (by rw [c16]; decide) (by rw [c16]; decide) (by rw [c16]; decide) (by decide) ?_
              refine lv_iload_n hx hb dX4_allows_114 rfl (lv_at hl 2 rfl) ?_
              refine rq_S (v := (some (.int (SX4_isPosition x2)))) (As := [.int x2]) (rest := []) (wc := []) ⟨hx, hb, hml, hfc, hts⟩ hK hP (kX4_isPosition l D cA x2 rfl) (va_cwS 1 hts gX4_allows_X4_isPosition rfl rfl rfl (by decide +kernel) ⟨(Nat.le_of_ble_eq_true rfl), (Nat.le_of_ble_eq_true rfl)⟩) [] rfl rfl rfl rfl hl.1 (Nat.le_of_ble_eq_true rfl) dX4_allows_115 ⟨(Nat.zero_le _), (Nat.zero_le _)⟩ ?_
              refine lv_if_eq (tgt := 133) hx hb dX4_allows_118 (by decide) (fun c17 => ?_) (fun c17 => ?_)
              · have h := ite_t c17 h
                refine lv_iconst (v := 0) hx hb dX4_allows_133 (by decide) ?_
                have h := Option.some.inj h
                subst h
                exact hend _ _ _ _ rfl (rtn_n (x := 0) rfl) dX4_allows_134
              · have h := ite_f c17 h
                refine lv_aload_n hx hb dX4_allows_121 rfl (lv_at hl 0 rfl) ?_
                refine lv_iload_n hx hb dX4_allows_122 rfl (lv_at hl 2 rfl) ?_
                refine rq_V (v := (some (.int (SX4_isToeAt f x2)))) (As := [.int x2]) (rest := []) (wc := [(a0, .inr (8, [.ref a1])), (a1, .inr (6, [.ref a2])), (a2, .inl (cA 0, 61, .inl f))]) ⟨hx, hb, hml, hfc, hts⟩ hK hP (kX4_isToeAt l D cA a0 a1 a2 f x2 rfl) (cwV 1 hts gX4_allows_X4_isToeAt rfl rfl rfl (by decide +kernel) ⟨(Nat.le_of_ble_eq_true rfl), (Nat.le_of_ble_eq_true rfl)⟩) [0, 1, 2] rfl 0 8 rfl rfl rfl rfl rfl rfl hl.1 (Nat.le_of_ble_eq_true rfl) dX4_allows_123 ⟨(Nat.zero_le _), (Nat.zero_le _)⟩ ?_
                refine lv_if_eq (tgt := 133) hx hb dX4_allows_126 (by decide) (fun c18 => ?_) (fun c18 => ?_)
                · have h := ite_t c18 h
                  refine lv_iconst (v := 0) hx hb dX4_allows_133 (by decide) ?_
                  have h := Option.some.inj h
                  subst h
                  exact hend _ _ _ _ rfl (rtn_n (x := 0) rfl) dX4_allows_134
                · have h := ite_f c18 h
                  refine lv_iconst (v := 1) hx hb dX4_allows_129 (by decide) ?_
                  refine lv_goto (tgt := 134) hx hb dX4_allows_130 (by decide) ?_
                  have h := Option.some.inj h
                  subst h
                  exact hend _ _ _ _ rfl (rtn_n (x := 1) rfl) dX4_allows_134
            · have h := ite_f c16 h
              by_cases c19 : x1 = 6
              · have h := ite_t c19 h
                refine lv_tableIn (off := 134) (tgt := 135) hx hb dX4_allows_1 (by rw [c19]; decide) (by rw [c19]; decide) (by rw [c19]; decide) (by decide) ?_
                refine lv_iload_n hx hb dX4_allows_135 rfl (lv_at hl 2 rfl) ?_
                refine rq_S (v := (some (.int (SX4_isPosition x2)))) (As := [.int x2]) (rest := []) (wc := []) ⟨hx, hb, hml, hfc, hts⟩ hK hP (kX4_isPosition l D cA x2 rfl) (va_cwS 1 hts gX4_allows_X4_isPosition rfl rfl rfl (by decide +kernel) ⟨(Nat.le_of_ble_eq_true rfl), (Nat.le_of_ble_eq_true rfl)⟩) [] rfl rfl rfl rfl hl.1 (Nat.le_of_ble_eq_true rfl) dX4_allows_136 ⟨(Nat.zero_le _), (Nat.zero_le _)⟩ ?_
                obtain ⟨g20, h⟩ := gd_i h
                have h := Option.some.inj h
                subst h
                exact hend _ _ _ _ rfl (rtn_n g20) dX4_allows_139
              · have h := ite_f c19 h
                by_cases c21 : x1 = 7
                · have h := ite_t c21 h
                  refine lv_tableIn (off := 139) (tgt := 140) hx hb dX4_allows_1 (by rw [c21]; decide) (by rw [c21]; decide) (by rw [c21]; decide) (by decide) ?_
                  refine lv_aload_n hx hb dX4_allows_140 rfl (lv_at hl 0 rfl) ?_
                  refine rq_V (v := (some (.int (SX4_isPlugged f)))) (As := []) (rest := []) (wc := [(a0, .inr (8, [.ref a1])), (a1, .inr (6, [.ref a2])), (a2, .inl (cA 0, 61, .inl f))]) ⟨hx, hb, hml, hfc, hts⟩ hK hP (kX4_isPlugged l D cA a0 a1 a2 f rfl) (cwV 0 hts gX4_allows_X4_isPlugged rfl rfl rfl (by decide +kernel) ⟨(Nat.le_of_ble_eq_true rfl), (Nat.le_of_ble_eq_true rfl)⟩) [0, 1, 2] rfl 0 8 rfl rfl rfl rfl rfl rfl hl.1 (Nat.le_of_ble_eq_true rfl) dX4_allows_141 ⟨(Nat.zero_le _), (Nat.zero_le _)⟩ ?_
                  obtain ⟨g22, h⟩ := gd_i h
                  have h := Option.some.inj h
                  subst h
                  exact hend _ _ _ _ rfl (rtn_n g22) dX4_allows_144
                · have h := ite_f c21 h
                  by_cases c23 : x1 = 8
                  · have h := ite_t c23 h
                    refine lv_tableIn (off := 144) (tgt := 145) hx hb dX4_allows_1 (by rw [c23]; decide) (by rw [c23]; decide) (by rw [c23]; decide) (by decide) ?_
                    refine lv_iload_n hx hb dX4_allows_145 rfl (lv_at hl 2 rfl) ?_
                    refine rq_S (v := (some (.int (SX4_isPosition x2)))) (As := [.int x2]) (rest := []) (wc := []) ⟨hx, hb, hml, hfc, hts⟩ hK hP (kX4_isPosition l D cA x2 rfl) (va_cwS 1 hts gX4_allows_X4_isPosition rfl rfl rfl (by decide +kernel) ⟨(Nat.le_of_ble_eq_true rfl), (Nat.le_of_ble_eq_true rfl)⟩) [] rfl rfl rfl rfl hl.1 (Nat.le_of_ble_eq_true rfl) dX4_allows_146 ⟨(Nat.zero_le _), (Nat.zero_le _)⟩ ?_
                    refine lv_if_eq (tgt := 171) hx hb dX4_allows_149 (by decide) (fun c24 => ?_) (fun c24 => ?_)
                    · have h := ite_t c24 h
                      refine lv_iconst (v := 0) hx hb dX4_allows_171 (by decide) ?_
                      have h := Option.some.inj h
                      subst h
                      exact hend _ _ _ _ rfl (rtn_n (x := 0) rfl) dX4_allows_172
                    · have h := ite_f c24 h
                      refine lv_iload_n hx hb dX4_allows_152 rfl (lv_at hl 3 rfl) ?_
                      refine rq_S (v := (some (.int (SX4_isHeight x3)))) (As := [.int x3]) (rest := []) (wc := []) ⟨hx, hb, hml, hfc, hts⟩ hK hP (kX4_isHeight l D cA x3 rfl) (va_cwS 1 hts gX4_allows_X4_isHeight rfl rfl rfl (by decide +kernel) ⟨(Nat.le_of_ble_eq_true rfl), (Nat.le_of_ble_eq_true rfl)⟩) [] rfl rfl rfl rfl hl.1 (Nat.le_of_ble_eq_true rfl) dX4_allows_153 ⟨(Nat.zero_le _), (Nat.zero_le _)⟩ ?_
                      refine lv_if_eq (tgt := 171) hx hb dX4_allows_156 (by decide) (fun c25 => ?_) (fun c25 => ?_)
                      · have h := ite_t c25 h
                        refine lv_iconst (v := 0) hx hb dX4_allows_171 (by decide) ?_
                        have h := Option.some.inj h
                        subst h
                        exact hend _ _ _ _ rfl (rtn_n (x := 0) rfl) dX4_allows_172
                      · have h := ite_f c25 h
                        refine lv_aload_n hx hb dX4_allows_159 rfl (lv_at hl 0 rfl) ?_
                        refine lv_iload_n hx hb dX4_allows_160 rfl (lv_at hl 2 rfl) ?_
                        obtain ⟨o26, ho26, h⟩ := bnd_i h
                        refine rq_V (v := (some (.int o26))) (As := [.int x2]) (rest := []) (wc := [(a0, .inr (8, [.ref a1])), (a1, .inr (6, [.ref a2])), (a2, .inl (cA 0, 61, .inl f))]) ⟨hx, hb, hml, hfc, hts⟩ hK hP (kX4_canPutTowel l D cA a0 a1 a2 N f x2 ho26) (cwV 1 hts gX4_allows_X4_canPutTowel rfl rfl rfl (by decide +kernel) ⟨(Nat.le_of_ble_eq_true rfl), (Nat.le_of_ble_eq_true rfl)⟩) [0, 1, 2] rfl 0 8 rfl rfl rfl rfl rfl rfl hl.1 (Nat.le_of_ble_eq_true rfl) dX4_allows_161 ⟨(Nat.zero_le _), (Nat.zero_le _)⟩ ?_
                        refine lv_if_eq (tgt := 171) hx hb dX4_allows_164 (by decide) (fun c27 => ?_) (fun c27 => ?_)
                        · have h := ite_t c27 h
                          refine lv_iconst (v := 0) hx hb dX4_allows_171 (by decide) ?_
                          have h := Option.some.inj h
                          subst h
                          exact hend _ _ _ _ rfl (rtn_n (x := 0) rfl) dX4_allows_172
                        · have h := ite_f c27 h
                          refine lv_iconst (v := 1) hx hb dX4_allows_167 (by decide) ?_
                          refine lv_goto (tgt := 172) hx hb dX4_allows_168 (by decide) ?_
                          have h := Option.some.inj h
                          subst h
                          exact hend _ _ _ _ rfl (rtn_n (x := 1) rfl) dX4_allows_172
                  · have h := ite_f c23 h
                    by_cases c28 : x1 = 9
                    · have h := ite_t c28 h
                      refine lv_tableIn (off := 172) (tgt := 173) hx hb dX4_allows_1 (by rw [c28]; decide) (by rw [c28]; decide) (by rw [c28]; decide) (by decide) ?_
                      refine lv_aload_n hx hb dX4_allows_173 rfl (lv_at hl 0 rfl) ?_
                      refine lv_iload_n hx hb dX4_allows_174 rfl (lv_at hl 2 rfl) ?_
                      refine rq_V (v := (some (.int (SX4_isTowel f x2)))) (As := [.int x2]) (rest := []) (wc := [(a0, .inr (8, [.ref a1])), (a1, .inr (6, [.ref a2])), (a2, .inl (cA 0, 61, .inl f))]) ⟨hx, hb, hml, hfc, hts⟩ hK hP (kX4_isTowel l D cA a0 a1 a2 f x2 rfl) (cwV 1 hts gX4_allows_X4_isTowel rfl rfl rfl (by decide +kernel) ⟨(Nat.le_of_ble_eq_true rfl), (Nat.le_of_ble_eq_true rfl)⟩) [0, 1, 2] rfl 0 8 rfl rfl rfl rfl rfl rfl hl.1 (Nat.le_of_ble_eq_true rfl) dX4_allows_175 ⟨(Nat.zero_le _), (Nat.zero_le _)⟩ ?_
                      obtain ⟨g29, h⟩ := gd_i h
                      have h := Option.some.inj h
                      subst h
                      exact hend _ _ _ _ rfl (rtn_n g29) dX4_allows_178
                    · have h := ite_f c28 h
                      by_cases c30 : x1 = 10
                      · have h := ite_t c30 h
                        refine lv_tableIn (off := 178) (tgt := 179) hx hb dX4_allows_1 (by rw [c30]; decide) (by rw [c30]; decide) (by rw [c30]; decide) (by decide) ?_
                        refine lv_iload_n hx hb dX4_allows_179 rfl (lv_at hl 2 rfl) ?_
                        refine rq_S (v := (some (.int (SX4_isFlow x2)))) (As := [.int x2]) (rest := []) (wc := []) ⟨hx, hb, hml, hfc, hts⟩ hK hP (kX4_isFlow l D cA x2 rfl) (va_cwS 1 hts gX4_allows_X4_isFlow rfl rfl rfl (by decide +kernel) ⟨(Nat.le_of_ble_eq_true rfl), (Nat.le_of_ble_eq_true rfl)⟩) [] rfl rfl rfl rfl hl.1 (Nat.le_of_ble_eq_true rfl) dX4_allows_180 ⟨(Nat.zero_le _), (Nat.zero_le _)⟩ ?_
                        obtain ⟨g31, h⟩ := gd_i h
                        have h := Option.some.inj h
                        subst h
                        exact hend _ _ _ _ rfl (rtn_n g31) dX4_allows_183
                      · have h := ite_f c30 h
                        by_cases c32 : x1 = 11
                        · have h := ite_t c32 h
                          refine lv_tableIn (off := 183) (tgt := 184) hx hb dX4_allows_1 (by rw [c32]; decide) (by rw [c32]; decide) (by rw [c32]; decide) (by decide) ?_
                          refine lv_iload_n hx hb dX4_allows_184 rfl (lv_at hl 2 rfl) ?_
                          refine rq_S (v := (some (.int (SX4_isWait x2)))) (As := [.int x2]) (rest := []) (wc := []) ⟨hx, hb, hml, hfc, hts⟩ hK hP (kX4_isWait l D cA x2 rfl) (va_cwS 1 hts gX4_allows_X4_isWait rfl rfl rfl (by decide +kernel) ⟨(Nat.le_of_ble_eq_true rfl), (Nat.le_of_ble_eq_true rfl)⟩) [] rfl rfl rfl rfl hl.1 (Nat.le_of_ble_eq_true rfl) dX4_allows_185 ⟨(Nat.zero_le _), (Nat.zero_le _)⟩ ?_
                          obtain ⟨g33, h⟩ := gd_i h
                          have h := Option.some.inj h
                          subst h
                          exact hend _ _ _ _ rfl (rtn_n g33) dX4_allows_188
                        · have h := ite_f c32 h
                          have n0 := lv_neT (a := 0) c1 (by decide)
                          have n1 := lv_neT (a := 1) c4 (by decide)
                          have n2 := lv_neT (a := 2) c7 (by decide)
                          have n3 := lv_neT (a := 3) c10 (by decide)
                          have n4 := lv_neT (a := 4) c12 (by decide)
                          have n5 := lv_neT (a := 5) c16 (by decide)
                          have n6 := lv_neT (a := 6) c19 (by decide)
                          have n7 := lv_neT (a := 7) c21 (by decide)
                          have n8 := lv_neT (a := 8) c23 (by decide)
                          have n9 := lv_neT (a := 9) c28 (by decide)
                          have n10 := lv_neT (a := 10) c30 (by decide)
                          have n11 := lv_neT (a := 11) c32 (by decide)
                          refine lv_tableOut (tgt := 189) hx hb dX4_allows_1 (by omega) (by decide) ?_
                          refine lv_iconst (v := 0) hx hb dX4_allows_189 (by decide) ?_
                          have h := Option.some.inj h
                          subst h
                          exact hend _ _ _ _ rfl (rtn_n (x := 0) rfl) dX4_allows_190
noncomputable def SX4_obey (N : Nat) (f : Nat → Int32) (x1 : Int32) (x2 : Int32) (x3 : Int32) (x4 : Int32) : Option (Nat → Int32) := if x1 = 0 then (lt_ (SX4_putMoon f 0 x2 x3 x4) (fun o2 : Int32 × (Nat → Int32) => some (o2.2))) else (if x1 = 1 then (lt_ (SX4_putMoon f 1 x2 x3 x4) (fun o4 : Int32 × (Nat → Int32) => some (o4.2))) else (if x1 = 2 then (lt_ (SX4_putMoon f 2 x2 x3 x4) (fun o6 : Int32 × (Nat → Int32) => some (o6.2))) else (if x1 = 3 then (bnd (SX4_dropMoon N f x2) (fun o8 : Int32 × (Nat → Int32) => some (o8.2))) else (if x1 = 4 then (bnd (SX4_putToe N f x2) (fun o10 : Int32 × (Nat → Int32) => some (o10.2))) else (if x1 = 5 then (bnd (SX4_dropToe N f x2) (fun o12 : Int32 × (Nat → Int32) => some (o12.2))) else (if x1 = 6 then (lt_ (SX4_putPlug f x2) (fun o14 : Int32 × (Nat → Int32) => some (o14.2))) else (if x1 = 7 then (lt_ (SX4_putPlug f (-1)) (fun o16 : Int32 × (Nat → Int32) => some (o16.2))) else (if x1 = 8 then (lt_ (SX4_putTowel f x2 x3) (fun o18 : Int32 × (Nat → Int32) => some (o18.2))) else (if x1 = 9 then (lt_ (SX4_wring f x2) (fun o20 : Int32 × (Nat → Int32) => some (o20.2))) else (if x1 = 10 then (lt_ (SX4_turnTaps f x2) (fun o22 : Int32 × (Nat → Int32) => some (o22.2))) else (if x1 = 11 then (bnd (SX4_pass N f x2) (fun o24 : Int32 × (Nat → Int32) => some (o24.2))) else (some (f)))))))))))))
abbrev RM_X4_obey : Room := { frames := 6, cells := 0, slots := 0, locals := 131 }
set_option maxHeartbeats 4000000 in
theorem kX4_obey (l : Launch) (D : va_G) (cA : Nat → ClassId) (a0 a1 a2 : Nat) (N : Nat) (f : Nat → Int32) (x1 : Int32) (x2 : Int32) (x3 : Int32) (x4 : Int32) {r : Nat → Int32} (hr : SX4_obey N f x1 x2 x3 x4 = some r) {sz : Nat} : Met l yX4_obey wsX4_obey RM_X4_obey (va_Pc [.ref a0, .int x1, .int x2, .int x3, .int x4] (gqB D cA [(a0, .inr (8, [.ref a1])), (a1, .inr (6, [.ref a2])), (a2, .inl (cA 0, 61, .inl f))] sz)) (gqQ D (fun as => none) (fun as => [(a0, .inr (8, [.ref a1])), (a1, .inr (6, [.ref a2])), (a2, .inl (cA 0, 61, .inl r))]) (va_A [(a0, .inr (8, [.ref a1])), (a1, .inr (6, [.ref a2])), (a2, .inl (cA 0, 61, .inl f))] sz)) 0 0 (va_A [(a0, .inr (8, [.ref a1])), (a1, .inr (6, [.ref a2])), (a2, .inl (cA 0, 61, .inl f))] sz) := by
  refine gq_ofW (cc := cX4_obey) (maxL := 5) (ret := none) (by decide) rfl (Nat.le_of_ble_eq_true rfl) (fun p e s m args below meth c ls Q A hx hb hml hts hfc hmn hK hP hD hS hA hl hend => ?_)
  have hfc : s.vm.findClass RX4 = some m.cls := hfc
  have hl : lv_has ls 5 [(0, .ref a0), (1, .int x1), (2, .int x2), (3, .int x3), (4, .int x4)] := hl
  have h := hr
  clear hr
  unfold SX4_obey at h
  refine lv_iload_n hx hb dX4_obey_0 rfl (lv_at hl 1 rfl) ?_
  by_cases c1 : x1 = 0
  · have h := ite_t c1 h
    refine lv_tableIn (off := 63) (tgt := 64) hx hb dX4_obey_1 (by rw [c1]; decide) (by rw [c1]; decide) (by rw [c1]; decide) (by decide) ?_
    refine lv_aload_n hx hb dX4_obey_64 rfl (lv_at hl 0 rfl) ?_
    refine lv_iconst (v := 0) hx hb dX4_obey_65 (by decide) ?_
    refine lv_iload_n hx hb dX4_obey_66 rfl (lv_at hl 2 rfl) ?_
    refine lv_iload_n hx hb dX4_obey_67 rfl (lv_at hl 3 rfl) ?_
    refine lv_iload hx hb dX4_obey_68 (lv_at hl 4 rfl) ?_
    obtain ⟨o2, ho2, h⟩ := lt_i h
    refine gq_V (v := (fun as => (some (.int o2.1)))) (As := [.int 0, .int x2, .int x3, .int x4]) (rest := []) (wc := [(a0, .inr (8, [.ref a1])), (a1, .inr (6, [.ref a2])), (a2, .inl (cA 0, 61, .inl f))]) (wr := []) (w1 := (fun as => [(a0, .inr (8, [.ref a1])), (a1, .inr (6, [.ref a2])), (a2, .inl (cA 0, 61, .inl o2.2))])) (ws2 := (fun as => [(a0, .inr (8, [.ref a1])), (a1, .inr (6, [.ref a2])), (a2, .inl (cA 0, 61, .inl o2.2))])) (st1 := (fun as => [.int o2.1])) ⟨hx, hb, hml, hfc, hts⟩ hK hP hD hS hA (kX4_putMoon l D cA a0 a1 a2 f 0 x2 x3 x4 ho2) (cwV 4 hts gX4_obey_X4_putMoon rfl rfl rfl (by decide +kernel) ⟨(Nat.le_of_ble_eq_true rfl), (Nat.le_of_ble_eq_true rfl)⟩) [0, 1, 2] [] [0, 1, 2] rfl rfl rfl rfl (by decide) (fun _ => rfl) rfl 0 8 rfl rfl rfl rfl (fun _ => rfl) rfl hl.1 (Nat.le_of_ble_eq_true rfl) dX4_obey_70 ⟨(Nat.zero_le _), (Nat.zero_le _)⟩ (fun as H locs hP hD hS => ?_)
    have hP : va_P D vwCl [(a0, .inr (8, [.ref a1])), (a1, .inr (6, [.ref a2])), (a2, .inl (cA 0, 61, .inl o2.2))] H := hP
    have hD : va_D A [(a0, .inr (8, [.ref a1])), (a1, .inr (6, [.ref a2])), (a2, .inl (cA 0, 61, .inl o2.2))] := hD
    refine lv_pop hx hb dX4_obey_73 rfl ?_
    refine lv_goto (tgt := 185) hx hb dX4_obey_74 (by decide) ?_
    have h := Option.some.inj h
    subst h
    exact hend (adr []) _ _ _ _ _ _ _ rfl rfl (rtn_v) hP hD hS dX4_obey_185
  · have h := ite_f c1 h
    by_cases c3 : x1 = 1
    · have h := ite_t c3 h
      refine lv_tableIn (off := 76) (tgt := 77) hx hb dX4_obey_1 (by rw [c3]; decide) (by rw [c3]; decide) (by rw [c3]; decide) (by decide) ?_
      refine lv_aload_n hx hb dX4_obey_77 rfl (lv_at hl 0 rfl) ?_
      refine lv_iconst (v := 1) hx hb dX4_obey_78 (by decide) ?_
      refine lv_iload_n hx hb dX4_obey_79 rfl (lv_at hl 2 rfl) ?_
      refine lv_iload_n hx hb dX4_obey_80 rfl (lv_at hl 3 rfl) ?_
      refine lv_iload hx hb dX4_obey_81 (lv_at hl 4 rfl) ?_
      obtain ⟨o4, ho4, h⟩ := lt_i h
      refine gq_V (v := (fun as => (some (.int o4.1)))) (As := [.int 1, .int x2, .int x3, .int x4]) (rest := []) (wc := [(a0, .inr (8, [.ref a1])), (a1, .inr (6, [.ref a2])), (a2, .inl (cA 0, 61, .inl f))]) (wr := []) (w1 := (fun as => [(a0, .inr (8, [.ref a1])), (a1, .inr (6, [.ref a2])), (a2, .inl (cA 0, 61, .inl o4.2))])) (ws2 := (fun as => [(a0, .inr (8, [.ref a1])), (a1, .inr (6, [.ref a2])), (a2, .inl (cA 0, 61, .inl o4.2))])) (st1 := (fun as => [.int o4.1])) ⟨hx, hb, hml, hfc, hts⟩ hK hP hD hS hA (kX4_putMoon l D cA a0 a1 a2 f 1 x2 x3 x4 ho4) (cwV 4 hts gX4_obey_X4_putMoon rfl rfl rfl (by decide +kernel) ⟨(Nat.le_of_ble_eq_true rfl), (Nat.le_of_ble_eq_true rfl)⟩) [0, 1, 2] [] [0, 1, 2] rfl rfl rfl rfl (by decide) (fun _ => rfl) rfl 0 8 rfl rfl rfl rfl (fun _ => rfl) rfl hl.1 (Nat.le_of_ble_eq_true rfl) dX4_obey_83 ⟨(Nat.zero_le _), (Nat.zero_le _)⟩ (fun as H locs hP hD hS => ?_)
      have hP : va_P D vwCl [(a0, .inr (8, [.ref a1])), (a1, .inr (6, [.ref a2])), (a2, .inl (cA 0, 61, .inl o4.2))] H := hP
      have hD : va_D A [(a0, .inr (8, [.ref a1])), (a1, .inr (6, [.ref a2])), (a2, .inl (cA 0, 61, .inl o4.2))] := hD
      refine lv_pop hx hb dX4_obey_86 rfl ?_
      refine lv_goto (tgt := 185) hx hb dX4_obey_87 (by decide) ?_
      have h := Option.some.inj h
      subst h
      exact hend (adr []) _ _ _ _ _ _ _ rfl rfl (rtn_v) hP hD hS dX4_obey_185
    · have h := ite_f c3 h
      by_cases c5 : x1 = 2
      · have h := ite_t c5 h
        refine lv_tableIn (off := 89) (tgt := 90) hx hb dX4_obey_1 (by rw [c5]; decide) (by rw [c5]; decide) (by rw [c5]; decide) (by decide) ?_
        refine lv_aload_n hx hb dX4_obey_90 rfl (lv_at hl 0 rfl) ?_
        refine lv_iconst (v := 2) hx hb dX4_obey_91 (by decide) ?_
        refine lv_iload_n hx hb dX4_obey_92 rfl (lv_at hl 2 rfl) ?_
        refine lv_iload_n hx hb dX4_obey_93 rfl (lv_at hl 3 rfl) ?_
        refine lv_iload hx hb dX4_obey_94 (lv_at hl 4 rfl) ?_
        obtain ⟨o6, ho6, h⟩ := lt_i h
        refine gq_V (v := (fun as => (some (.int o6.1)))) (As := [.int 2, .int x2, .int x3, .int x4]) (rest := []) (wc := [(a0, .inr (8, [.ref a1])), (a1, .inr (6, [.ref a2])), (a2, .inl (cA 0, 61, .inl f))]) (wr := []) (w1 := (fun as => [(a0, .inr (8, [.ref a1])), (a1, .inr (6, [.ref a2])), (a2, .inl (cA 0, 61, .inl o6.2))])) (ws2 := (fun as => [(a0, .inr (8, [.ref a1])), (a1, .inr (6, [.ref a2])), (a2, .inl (cA 0, 61, .inl o6.2))])) (st1 := (fun as => [.int o6.1])) ⟨hx, hb, hml, hfc, hts⟩ hK hP hD hS hA (kX4_putMoon l D cA a0 a1 a2 f 2 x2 x3 x4 ho6) (cwV 4 hts gX4_obey_X4_putMoon rfl rfl rfl (by decide +kernel) ⟨(Nat.le_of_ble_eq_true rfl), (Nat.le_of_ble_eq_true rfl)⟩) [0, 1, 2] [] [0, 1, 2] rfl rfl rfl rfl (by decide) (fun _ => rfl) rfl 0 8 rfl rfl rfl rfl (fun _ => rfl) rfl hl.1 (Nat.le_of_ble_eq_true rfl) dX4_obey_96 ⟨(Nat.zero_le _), (Nat.zero_le _)⟩ (fun as H locs hP hD hS => ?_)
        have hP : va_P D vwCl [(a0, .inr (8, [.ref a1])), (a1, .inr (6, [.ref a2])), (a2, .inl (cA 0, 61, .inl o6.2))] H := hP
        have hD : va_D A [(a0, .inr (8, [.ref a1])), (a1, .inr (6, [.ref a2])), (a2, .inl (cA 0, 61, .inl o6.2))] := hD
        refine lv_pop hx hb dX4_obey_99 rfl ?_
        refine lv_goto (tgt := 185) hx hb dX4_obey_100 (by decide) ?_
        have h := Option.some.inj h
        subst h
        exact hend (adr []) _ _ _ _ _ _ _ rfl rfl (rtn_v) hP hD hS dX4_obey_185
      · have h := ite_f c5 h
        by_cases c7 : x1 = 3
        · have h := ite_t c7 h
          refine lv_tableIn (off := 102) (tgt := 103) hx hb dX4_obey_1 (by rw [c7]; decide) (by rw [c7]; decide) (by rw [c7]; decide) (by decide) ?_
          refine lv_aload_n hx hb dX4_obey_103 rfl (lv_at hl 0 rfl) ?_
          refine lv_iload_n hx hb dX4_obey_104 rfl (lv_at hl 2 rfl) ?_
          obtain ⟨o8, ho8, h⟩ := bnd_i h
          refine gq_V (v := (fun as => (some (.int o8.1)))) (As := [.int x2]) (rest := []) (wc := [(a0, .inr (8, [.ref a1])), (a1, .inr (6, [.ref a2])), (a2, .inl (cA 0, 61, .inl f))]) (wr := []) (w1 := (fun as => [(a0, .inr (8, [.ref a1])), (a1, .inr (6, [.ref a2])), (a2, .inl (cA 0, 61, .inl o8.2))])) (ws2 := (fun as => [(a0, .inr (8, [.ref a1])), (a1, .inr (6, [.ref a2])), (a2, .inl (cA 0, 61, .inl o8.2))])) (st1 := (fun as => [.int o8.1])) ⟨hx, hb, hml, hfc, hts⟩ hK hP hD hS hA (kX4_dropMoon l D cA a0 a1 a2 N f x2 ho8) (cwV 1 hts gX4_obey_X4_dropMoon rfl rfl rfl (by decide +kernel) ⟨(Nat.le_of_ble_eq_true rfl), (Nat.le_of_ble_eq_true rfl)⟩) [0, 1, 2] [] [0, 1, 2] rfl rfl rfl rfl (by decide) (fun _ => rfl) rfl 0 8 rfl rfl rfl rfl (fun _ => rfl) rfl hl.1 (Nat.le_of_ble_eq_true rfl) dX4_obey_105 ⟨(Nat.zero_le _), (Nat.zero_le _)⟩ (fun as H locs hP hD hS => ?_)
          have hP : va_P D vwCl [(a0, .inr (8, [.ref a1])), (a1, .inr (6, [.ref a2])), (a2, .inl (cA 0, 61, .inl o8.2))] H := hP
          have hD : va_D A [(a0, .inr (8, [.ref a1])), (a1, .inr (6, [.ref a2])), (a2, .inl (cA 0, 61, .inl o8.2))] := hD
          refine lv_pop hx hb dX4_obey_108 rfl ?_
          refine lv_goto (tgt := 185) hx hb dX4_obey_109 (by decide) ?_
          have h := Option.some.inj h
          subst h
          exact hend (adr []) _ _ _ _ _ _ _ rfl rfl (rtn_v) hP hD hS dX4_obey_185
        · have h := ite_f c7 h
          by_cases c9 : x1 = 4
          · have h := ite_t c9 h
            refine lv_tableIn (off := 111) (tgt := 112) hx hb dX4_obey_1 (by rw [c9]; decide) (by rw [c9]; decide) (by rw [c9]; decide) (by decide) ?_
            refine lv_aload_n hx hb dX4_obey_112 rfl (lv_at hl 0 rfl) ?_
            refine lv_iload_n hx hb dX4_obey_113 rfl (lv_at hl 2 rfl) ?_
            obtain ⟨o10, ho10, h⟩ := bnd_i h
            refine gq_V (v := (fun as => (some (.int o10.1)))) (As := [.int x2]) (rest := []) (wc := [(a0, .inr (8, [.ref a1])), (a1, .inr (6, [.ref a2])), (a2, .inl (cA 0, 61, .inl f))]) (wr := []) (w1 := (fun as => [(a0, .inr (8, [.ref a1])), (a1, .inr (6, [.ref a2])), (a2, .inl (cA 0, 61, .inl o10.2))])) (ws2 := (fun as => [(a0, .inr (8, [.ref a1])), (a1, .inr (6, [.ref a2])), (a2, .inl (cA 0, 61, .inl o10.2))])) (st1 := (fun as => [.int o10.1])) ⟨hx, hb, hml, hfc, hts⟩ hK hP hD hS hA (kX4_putToe l D cA a0 a1 a2 N f x2 ho10) (cwV 1 hts gX4_obey_X4_putToe rfl rfl rfl (by decide +kernel) ⟨(Nat.le_of_ble_eq_true rfl), (Nat.le_of_ble_eq_true rfl)⟩) [0, 1, 2] [] [0, 1, 2] rfl rfl rfl rfl (by decide) (fun _ => rfl) rfl 0 8 rfl rfl rfl rfl (fun _ => rfl) rfl hl.1 (Nat.le_of_ble_eq_true rfl) dX4_obey_114 ⟨(Nat.zero_le _), (Nat.zero_le _)⟩ (fun as H locs hP hD hS => ?_)
            have hP : va_P D vwCl [(a0, .inr (8, [.ref a1])), (a1, .inr (6, [.ref a2])), (a2, .inl (cA 0, 61, .inl o10.2))] H := hP
            have hD : va_D A [(a0, .inr (8, [.ref a1])), (a1, .inr (6, [.ref a2])), (a2, .inl (cA 0, 61, .inl o10.2))] := hD
            refine lv_pop hx hb dX4_obey_117 rfl ?_
            refine lv_goto (tgt := 185) hx hb dX4_obey_118 (by decide) ?_
            have h := Option.some.inj h
            subst h
            exact hend (adr []) _ _ _ _ _ _ _ rfl rfl (rtn_v) hP hD hS dX4_obey_185
          · have h := ite_f c9 h
            by_cases c11 : x1 = 5
            · have h := ite_t c11 h
              refine lv_tableIn (off := 120) (tgt := 121) hx hb dX4_obey_1 (by rw [c11]; decide) (by rw [c11]; decide) (by rw [c11]; decide) (by decide) ?_
              refine lv_aload_n hx hb dX4_obey_121 rfl (lv_at hl 0 rfl) ?_
              refine lv_iload_n hx hb dX4_obey_122 rfl (lv_at hl 2 rfl) ?_
              obtain ⟨o12, ho12, h⟩ := bnd_i h
              refine gq_V (v := (fun as => (some (.int o12.1)))) (As := [.int x2]) (rest := []) (wc := [(a0, .inr (8, [.ref a1])), (a1, .inr (6, [.ref a2])), (a2, .inl (cA 0, 61, .inl f))]) (wr := []) (w1 := (fun as => [(a0, .inr (8, [.ref a1])), (a1, .inr (6, [.ref a2])), (a2, .inl (cA 0, 61, .inl o12.2))])) (ws2 := (fun as => [(a0, .inr (8, [.ref a1])), (a1, .inr (6, [.ref a2])), (a2, .inl (cA 0, 61, .inl o12.2))])) (st1 := (fun as => [.int o12.1])) ⟨hx, hb, hml, hfc, hts⟩ hK hP hD hS hA (kX4_dropToe l D cA a0 a1 a2 N f x2 ho12) (cwV 1 hts gX4_obey_X4_dropToe rfl rfl rfl (by decide +kernel) ⟨(Nat.le_of_ble_eq_true rfl), (Nat.le_of_ble_eq_true rfl)⟩) [0, 1, 2] [] [0, 1, 2] rfl rfl rfl rfl (by decide) (fun _ => rfl) rfl 0 8 rfl rfl rfl rfl (fun _ => rfl) rfl hl.1 (Nat.le_of_ble_eq_true rfl) dX4_obey_123 ⟨(Nat.zero_le _), (Nat.zero_le _)⟩ (fun as H locs hP hD hS => ?_)
              have hP : va_P D vwCl [(a0, .inr (8, [.ref a1])), (a1, .inr (6, [.ref a2])), (a2, .inl (cA 0, 61, .inl o12.2))] H := hP
              have hD : va_D A [(a0, .inr (8, [.ref a1])), (a1, .inr (6, [.ref a2])), (a2, .inl (cA 0, 61, .inl o12.2))] := hD
              refine lv_pop hx hb dX4_obey_126 rfl ?_
              refine lv_goto (tgt := 185) hx hb dX4_obey_127 (by decide) ?_
              have h := Option.some.inj h
              subst h
              exact hend (adr []) _ _ _ _ _ _ _ rfl rfl (rtn_v) hP hD hS dX4_obey_185
            · have h := ite_f c11 h
              by_cases c13 : x1 = 6
              · have h := ite_t c13 h
                refine lv_tableIn (off := 129) (tgt := 130) hx hb dX4_obey_1 (by rw [c13]; decide) (by rw [c13]; decide) (by rw [c13]; decide) (by decide) ?_
                refine lv_aload_n hx hb dX4_obey_130 rfl (lv_at hl 0 rfl) ?_
                refine lv_iload_n hx hb dX4_obey_131 rfl (lv_at hl 2 rfl) ?_
                obtain ⟨o14, ho14, h⟩ := lt_i h
                refine gq_V (v := (fun as => (some (.int o14.1)))) (As := [.int x2]) (rest := []) (wc := [(a0, .inr (8, [.ref a1])), (a1, .inr (6, [.ref a2])), (a2, .inl (cA 0, 61, .inl f))]) (wr := []) (w1 := (fun as => [(a0, .inr (8, [.ref a1])), (a1, .inr (6, [.ref a2])), (a2, .inl (cA 0, 61, .inl o14.2))])) (ws2 := (fun as => [(a0, .inr (8, [.ref a1])), (a1, .inr (6, [.ref a2])), (a2, .inl (cA 0, 61, .inl o14.2))])) (st1 := (fun as => [.int o14.1])) ⟨hx, hb, hml, hfc, hts⟩ hK hP hD hS hA (kX4_putPlug l D cA a0 a1 a2 f x2 ho14) (cwV 1 hts gX4_obey_X4_putPlug rfl rfl rfl (by decide +kernel) ⟨(Nat.le_of_ble_eq_true rfl), (Nat.le_of_ble_eq_true rfl)⟩) [0, 1, 2] [] [0, 1, 2] rfl rfl rfl rfl (by decide) (fun _ => rfl) rfl 0 8 rfl rfl rfl rfl (fun _ => rfl) rfl hl.1 (Nat.le_of_ble_eq_true rfl) dX4_obey_132 ⟨(Nat.zero_le _), (Nat.zero_le _)⟩ (fun as H locs hP hD hS => ?_)
                have hP : va_P D vwCl [(a0, .inr (8, [.ref a1])), (a1, .inr (6, [.ref a2])), (a2, .inl (cA 0, 61, .inl o14.2))] H := hP
                have hD : va_D A [(a0, .inr (8, [.ref a1])), (a1, .inr (6, [.ref a2])), (a2, .inl (cA 0, 61, .inl o14.2))] := hD
                refine lv_pop hx hb dX4_obey_135 rfl ?_
                refine lv_goto (tgt := 185) hx hb dX4_obey_136 (by decide) ?_
                have h := Option.some.inj h
                subst h
                exact hend (adr []) _ _ _ _ _ _ _ rfl rfl (rtn_v) hP hD hS dX4_obey_185
              · have h := ite_f c13 h
                by_cases c15 : x1 = 7
                · have h := ite_t c15 h
                  refine lv_tableIn (off := 138) (tgt := 139) hx hb dX4_obey_1 (by rw [c15]; decide) (by rw [c15]; decide) (by rw [c15]; decide) (by decide) ?_
                  refine lv_aload_n hx hb dX4_obey_139 rfl (lv_at hl 0 rfl) ?_
                  refine lv_iconst (v := (-1)) hx hb dX4_obey_140 (by decide) ?_
                  obtain ⟨o16, ho16, h⟩ := lt_i h
                  refine gq_V (v := (fun as => (some (.int o16.1)))) (As := [.int (-1)]) (rest := []) (wc := [(a0, .inr (8, [.ref a1])), (a1, .inr (6, [.ref a2])), (a2, .inl (cA 0, 61, .inl f))]) (wr := []) (w1 := (fun as => [(a0, .inr (8, [.ref a1])), (a1, .inr (6, [.ref a2])), (a2, .inl (cA 0, 61, .inl o16.2))])) (ws2 := (fun as => [(a0, .inr (8, [.ref a1])), (a1, .inr (6, [.ref a2])), (a2, .inl (cA 0, 61, .inl o16.2))])) (st1 := (fun as => [.int o16.1])) ⟨hx, hb, hml, hfc, hts⟩ hK hP hD hS hA (kX4_putPlug l D cA a0 a1 a2 f (-1) ho16) (cwV 1 hts gX4_obey_X4_putPlug rfl rfl rfl (by decide +kernel) ⟨(Nat.le_of_ble_eq_true rfl), (Nat.le_of_ble_eq_true rfl)⟩) [0, 1, 2] [] [0, 1, 2] rfl rfl rfl rfl (by decide) (fun _ => rfl) rfl 0 8 rfl rfl rfl rfl (fun _ => rfl) rfl hl.1 (Nat.le_of_ble_eq_true rfl) dX4_obey_141 ⟨(Nat.zero_le _), (Nat.zero_le _)⟩ (fun as H locs hP hD hS => ?_)
                  have hP : va_P D vwCl [(a0, .inr (8, [.ref a1])), (a1, .inr (6, [.ref a2])), (a2, .inl (cA 0, 61, .inl o16.2))] H := hP
                  have hD : va_D A [(a0, .inr (8, [.ref a1])), (a1, .inr (6, [.ref a2])), (a2, .inl (cA 0, 61, .inl o16.2))] := hD
                  refine lv_pop hx hb dX4_obey_144 rfl ?_
                  refine lv_goto (tgt := 185) hx hb dX4_obey_145 (by decide) ?_
                  have h := Option.some.inj h
                  subst h
                  exact hend (adr []) _ _ _ _ _ _ _ rfl rfl (rtn_v) hP hD hS dX4_obey_185
                · have h := ite_f c15 h
                  by_cases c17 : x1 = 8
                  · have h := ite_t c17 h
                    refine lv_tableIn (off := 147) (tgt := 148) hx hb dX4_obey_1 (by rw [c17]; decide) (by rw [c17]; decide) (by rw [c17]; decide) (by decide) ?_
                    refine lv_aload_n hx hb dX4_obey_148 rfl (lv_at hl 0 rfl) ?_
                    refine lv_iload_n hx hb dX4_obey_149 rfl (lv_at hl 2 rfl) ?_
                    refine lv_iload_n hx hb dX4_obey_150 rfl (lv_at hl 3 rfl) ?_
                    obtain ⟨o18, ho18, h⟩ := lt_i h
                    refine gq_V (v := (fun as => (some (.int o18.1)))) (As := [.int x2, .int x3]) (rest := []) (wc := [(a0, .inr (8, [.ref a1])), (a1, .inr (6, [.ref a2])), (a2, .inl (cA 0, 61, .inl f))]) (wr := []) (w1 := (fun as => [(a0, .inr (8, [.ref a1])), (a1, .inr (6, [.ref a2])), (a2, .inl (cA 0, 61, .inl o18.2))])) (ws2 := (fun as => [(a0, .inr (8, [.ref a1])), (a1, .inr (6, [.ref a2])), (a2, .inl (cA 0, 61, .inl o18.2))])) (st1 := (fun as => [.int o18.1])) ⟨hx, hb, hml, hfc, hts⟩ hK hP hD hS hA (kX4_putTowel l D cA a0 a1 a2 f x2 x3 ho18) (cwV 2 hts gX4_obey_X4_putTowel rfl rfl rfl (by decide +kernel) ⟨(Nat.le_of_ble_eq_true rfl), (Nat.le_of_ble_eq_true rfl)⟩) [0, 1, 2] [] [0, 1, 2] rfl rfl rfl rfl (by decide) (fun _ => rfl) rfl 0 8 rfl rfl rfl rfl (fun _ => rfl) rfl hl.1 (Nat.le_of_ble_eq_true rfl) dX4_obey_151 ⟨(Nat.zero_le _), (Nat.zero_le _)⟩ (fun as H locs hP hD hS => ?_)
                    have hP : va_P D vwCl [(a0, .inr (8, [.ref a1])), (a1, .inr (6, [.ref a2])), (a2, .inl (cA 0, 61, .inl o18.2))] H := hP
                    have hD : va_D A [(a0, .inr (8, [.ref a1])), (a1, .inr (6, [.ref a2])), (a2, .inl (cA 0, 61, .inl o18.2))] := hD
                    refine lv_pop hx hb dX4_obey_154 rfl ?_
                    refine lv_goto (tgt := 185) hx hb dX4_obey_155 (by decide) ?_
                    have h := Option.some.inj h
                    subst h
                    exact hend (adr []) _ _ _ _ _ _ _ rfl rfl (rtn_v) hP hD hS dX4_obey_185
                  · have h := ite_f c17 h
                    by_cases c19 : x1 = 9
                    · have h := ite_t c19 h
                      refine lv_tableIn (off := 157) (tgt := 158) hx hb dX4_obey_1 (by rw [c19]; decide) (by rw [c19]; decide) (by rw [c19]; decide) (by decide) ?_
                      refine lv_aload_n hx hb dX4_obey_158 rfl (lv_at hl 0 rfl) ?_
                      refine lv_iload_n hx hb dX4_obey_159 rfl (lv_at hl 2 rfl) ?_
                      obtain ⟨o20, ho20, h⟩ := lt_i h
                      refine gq_V (v := (fun as => (some (.int o20.1)))) (As := [.int x2]) (rest := []) (wc := [(a0, .inr (8, [.ref a1])), (a1, .inr (6, [.ref a2])), (a2, .inl (cA 0, 61, .inl f))]) (wr := []) (w1 := (fun as => [(a0, .inr (8, [.ref a1])), (a1, .inr (6, [.ref a2])), (a2, .inl (cA 0, 61, .inl o20.2))])) (ws2 := (fun as => [(a0, .inr (8, [.ref a1])), (a1, .inr (6, [.ref a2])), (a2, .inl (cA 0, 61, .inl o20.2))])) (st1 := (fun as => [.int o20.1])) ⟨hx, hb, hml, hfc, hts⟩ hK hP hD hS hA (kX4_wring l D cA a0 a1 a2 f x2 ho20) (cwV 1 hts gX4_obey_X4_wring rfl rfl rfl (by decide +kernel) ⟨(Nat.le_of_ble_eq_true rfl), (Nat.le_of_ble_eq_true rfl)⟩) [0, 1, 2] [] [0, 1, 2] rfl rfl rfl rfl (by decide) (fun _ => rfl) rfl 0 8 rfl rfl rfl rfl (fun _ => rfl) rfl hl.1 (Nat.le_of_ble_eq_true rfl) dX4_obey_160 ⟨(Nat.zero_le _), (Nat.zero_le _)⟩ (fun as H locs hP hD hS => ?_)
                      have hP : va_P D vwCl [(a0, .inr (8, [.ref a1])), (a1, .inr (6, [.ref a2])), (a2, .inl (cA 0, 61, .inl o20.2))] H := hP
                      have hD : va_D A [(a0, .inr (8, [.ref a1])), (a1, .inr (6, [.ref a2])), (a2, .inl (cA 0, 61, .inl o20.2))] := hD
                      refine lv_pop hx hb dX4_obey_163 rfl ?_
                      refine lv_goto (tgt := 185) hx hb dX4_obey_164 (by decide) ?_
                      have h := Option.some.inj h
                      subst h
                      exact hend (adr []) _ _ _ _ _ _ _ rfl rfl (rtn_v) hP hD hS dX4_obey_185
                    · have h := ite_f c19 h
                      by_cases c21 : x1 = 10
                      · have h := ite_t c21 h
                        refine lv_tableIn (off := 166) (tgt := 167) hx hb dX4_obey_1 (by rw [c21]; decide) (by rw [c21]; decide) (by rw [c21]; decide) (by decide) ?_
                        refine lv_aload_n hx hb dX4_obey_167 rfl (lv_at hl 0 rfl) ?_
                        refine lv_iload_n hx hb dX4_obey_168 rfl (lv_at hl 2 rfl) ?_
                        obtain ⟨o22, ho22, h⟩ := lt_i h
                        refine gq_V (v := (fun as => (some (.int o22.1)))) (As := [.int x2]) (rest := []) (wc := [(a0, .inr (8, [.ref a1])), (a1, .inr (6, [.ref a2])), (a2, .inl (cA 0, 61, .inl f))]) (wr := []) (w1 := (fun as => [(a0, .inr (8, [.ref a1])), (a1, .inr (6, [.ref a2])), (a2, .inl (cA 0, 61, .inl o22.2))])) (ws2 := (fun as => [(a0, .inr (8, [.ref a1])), (a1, .inr (6, [.ref a2])), (a2, .inl (cA 0, 61, .inl o22.2))])) (st1 := (fun as => [.int o22.1])) ⟨hx, hb, hml, hfc, hts⟩ hK hP hD hS hA (kX4_turnTaps l D cA a0 a1 a2 f x2 ho22) (cwV 1 hts gX4_obey_X4_turnTaps rfl rfl rfl (by decide +kernel) ⟨(Nat.le_of_ble_eq_true rfl), (Nat.le_of_ble_eq_true rfl)⟩) [0, 1, 2] [] [0, 1, 2] rfl rfl rfl rfl (by decide) (fun _ => rfl) rfl 0 8 rfl rfl rfl rfl (fun _ => rfl) rfl hl.1 (Nat.le_of_ble_eq_true rfl) dX4_obey_169 ⟨(Nat.zero_le _), (Nat.zero_le _)⟩ (fun as H locs hP hD hS => ?_)
                        have hP : va_P D vwCl [(a0, .inr (8, [.ref a1])), (a1, .inr (6, [.ref a2])), (a2, .inl (cA 0, 61, .inl o22.2))] H := hP
                        have hD : va_D A [(a0, .inr (8, [.ref a1])), (a1, .inr (6, [.ref a2])), (a2, .inl (cA 0, 61, .inl o22.2))] := hD
                        refine lv_pop hx hb dX4_obey_172 rfl ?_
                        refine lv_goto (tgt := 185) hx hb dX4_obey_173 (by decide) ?_
                        have h := Option.some.inj h
                        subst h
                        exact hend (adr []) _ _ _ _ _ _ _ rfl rfl (rtn_v) hP hD hS dX4_obey_185
                      · have h := ite_f c21 h
                        by_cases c23 : x1 = 11
                        · have h := ite_t c23 h
                          refine lv_tableIn (off := 175) (tgt := 176) hx hb dX4_obey_1 (by rw [c23]; decide) (by rw [c23]; decide) (by rw [c23]; decide) (by decide) ?_
                          refine lv_aload_n hx hb dX4_obey_176 rfl (lv_at hl 0 rfl) ?_
                          refine lv_iload_n hx hb dX4_obey_177 rfl (lv_at hl 2 rfl) ?_
                          obtain ⟨o24, ho24, h⟩ := bnd_i h
                          refine gq_V (v := (fun as => (some (.int o24.1)))) (As := [.int x2]) (rest := []) (wc := [(a0, .inr (8, [.ref a1])), (a1, .inr (6, [.ref a2])), (a2, .inl (cA 0, 61, .inl f))]) (wr := []) (w1 := (fun as => [(a0, .inr (8, [.ref a1])), (a1, .inr (6, [.ref a2])), (a2, .inl (cA 0, 61, .inl o24.2))])) (ws2 := (fun as => [(a0, .inr (8, [.ref a1])), (a1, .inr (6, [.ref a2])), (a2, .inl (cA 0, 61, .inl o24.2))])) (st1 := (fun as => [.int o24.1])) ⟨hx, hb, hml, hfc, hts⟩ hK hP hD hS hA (kX4_pass l D cA a0 a1 a2 N f x2 ho24) (cwV 1 hts gX4_obey_X4_pass rfl rfl rfl (by decide +kernel) ⟨(Nat.le_of_ble_eq_true rfl), (Nat.le_of_ble_eq_true rfl)⟩) [0, 1, 2] [] [0, 1, 2] rfl rfl rfl rfl (by decide) (fun _ => rfl) rfl 0 8 rfl rfl rfl rfl (fun _ => rfl) rfl hl.1 (Nat.le_of_ble_eq_true rfl) dX4_obey_178 ⟨(Nat.zero_le _), (Nat.zero_le _)⟩ (fun as H locs hP hD hS => ?_)
                          have hP : va_P D vwCl [(a0, .inr (8, [.ref a1])), (a1, .inr (6, [.ref a2])), (a2, .inl (cA 0, 61, .inl o24.2))] H := hP
                          have hD : va_D A [(a0, .inr (8, [.ref a1])), (a1, .inr (6, [.ref a2])), (a2, .inl (cA 0, 61, .inl o24.2))] := hD
                          refine lv_pop hx hb dX4_obey_181 rfl ?_
                          refine lv_goto (tgt := 185) hx hb dX4_obey_182 (by decide) ?_
                          have h := Option.some.inj h
                          subst h
                          exact hend (adr []) _ _ _ _ _ _ _ rfl rfl (rtn_v) hP hD hS dX4_obey_185
                        · have h := ite_f c23 h
                          have n0 := lv_neT (a := 0) c1 (by decide)
                          have n1 := lv_neT (a := 1) c3 (by decide)
                          have n2 := lv_neT (a := 2) c5 (by decide)
                          have n3 := lv_neT (a := 3) c7 (by decide)
                          have n4 := lv_neT (a := 4) c9 (by decide)
                          have n5 := lv_neT (a := 5) c11 (by decide)
                          have n6 := lv_neT (a := 6) c13 (by decide)
                          have n7 := lv_neT (a := 7) c15 (by decide)
                          have n8 := lv_neT (a := 8) c17 (by decide)
                          have n9 := lv_neT (a := 9) c19 (by decide)
                          have n10 := lv_neT (a := 10) c21 (by decide)
                          have n11 := lv_neT (a := 11) c23 (by decide)
                          refine lv_tableOut (tgt := 185) hx hb dX4_obey_1 (by omega) (by decide) ?_
                          have h := Option.some.inj h
                          subst h
                          exact hend (adr []) _ _ _ _ _ _ _ rfl rfl (rtn_v) hP hD hS dX4_obey_185
noncomputable def SX0_step (f1 : Nat → Int32) (f2 : Nat → Int32) (f3 : Nat → Int32) (f : Nat → Int32) (x2 : Int32) : (Nat → Int32) × (Nat → Int32) × (Nat → Int32) := lt_ (SX2_add 5 f1 x2 1) (fun o1 : Nat → Int32 => lt_ (if (SX4_periodOf f x2) < 1 then (f2) else (if (irm (SX2_at 5 o1 x2) (SX4_periodOf f x2)) = 0 then (lt_ (SX2_put 5 f2 x2 (irm ((SX2_at 5 f2 x2) + 1) 12)) (fun o5 : Nat → Int32 => o5)) else (f2))) (fun o3 : Nat → Int32 => lt_ (if (SX4_kindOf f x2) = 1 then (if (irm (SX2_at 5 o1 x2) 10) = 0 then (if (SX2_at 5 f3 x2) ≤ 0 then (f3) else (lt_ (SX2_add 5 f3 x2 (-1)) (fun o10 : Nat → Int32 => o10))) else (f3)) else (f3)) (fun o7 : Nat → Int32 => if (SX4_kindOf f x2) = 2 then (lt_ (if (irm (SX2_at 5 o1 x2) 2) = 0 then ((SX4_firstMassOf f x2)) else ((SX4_firstMassOf f x2) / 2)) (fun o13 : Int32 => lt_ (SX2_put 5 o7 x2 o13) (fun o14 : Nat → Int32 => (o1, o3, o14)))) else ((o1, o3, o7)))))
theorem iX0_step_X0 : ∀ w ∈ wsX00, w ∈ wsX0_step := fun _ h => List.mem_cons_of_mem _ (List.mem_append_left _ (List.mem_append_left _ (List.mem_append_left _ (List.mem_append_left _ (List.mem_append_right _ h)))))
abbrev RM_X0_step : Room := { frames := 2, cells := 0, slots := 0, locals := 45 }
set_option maxHeartbeats 4000000 in
theorem kX0_step (l : Launch) (D : va_G) (cA : Nat → ClassId) (b0 b1 b2 b3 b4 b5 b6 a0 a1 a2 : Nat) (f1 : Nat → Int32) (f2 : Nat → Int32) (f3 : Nat → Int32) (f : Nat → Int32) (x2 : Int32) {r : (Nat → Int32) × (Nat → Int32) × (Nat → Int32)} (hr : SX0_step f1 f2 f3 f x2 = r) {sz : Nat} : Met l yX0_step wsX0_step RM_X0_step (va_Pc [.ref b0, .ref a0, .int x2] (gqB D cA [(b0, .inr (4, [.ref b1, .ref b2, .ref b3])), (b1, .inr (6, [.ref b4])), (b4, .inl (cA 0, 5, .inl f1)), (b2, .inr (6, [.ref b5])), (b5, .inl (cA 0, 5, .inl f2)), (b3, .inr (6, [.ref b6])), (b6, .inl (cA 0, 5, .inl f3)), (a0, .inr (8, [.ref a1])), (a1, .inr (6, [.ref a2])), (a2, .inl (cA 0, 61, .inl f))] sz)) (gqQ D (fun as => none) (fun as => [(b0, .inr (4, [.ref b1, .ref b2, .ref b3])), (b1, .inr (6, [.ref b4])), (b4, .inl (cA 0, 5, .inl r.1)), (b2, .inr (6, [.ref b5])), (b5, .inl (cA 0, 5, .inl r.2.1)), (b3, .inr (6, [.ref b6])), (b6, .inl (cA 0, 5, .inl r.2.2)), (a0, .inr (8, [.ref a1])), (a1, .inr (6, [.ref a2])), (a2, .inl (cA 0, 61, .inl f))]) (va_A [(b0, .inr (4, [.ref b1, .ref b2, .ref b3])), (b1, .inr (6, [.ref b4])), (b4, .inl (cA 0, 5, .inl f1)), (b2, .inr (6, [.ref b5])), (b5, .inl (cA 0, 5, .inl f2)), (b3, .inr (6, [.ref b6])), (b6, .inl (cA 0, 5, .inl f3)), (a0, .inr (8, [.ref a1])), (a1, .inr (6, [.ref a2])), (a2, .inl (cA 0, 61, .inl f))] sz)) 0 0 (va_A [(b0, .inr (4, [.ref b1, .ref b2, .ref b3])), (b1, .inr (6, [.ref b4])), (b4, .inl (cA 0, 5, .inl f1)), (b2, .inr (6, [.ref b5])), (b5, .inl (cA 0, 5, .inl f2)), (b3, .inr (6, [.ref b6])), (b6, .inl (cA 0, 5, .inl f3)), (a0, .inr (8, [.ref a1])), (a1, .inr (6, [.ref a2])), (a2, .inl (cA 0, 61, .inl f))] sz) := by
  refine gq_ofW (cc := cX0_step) (maxL := 7) (ret := none) (by decide) rfl (Nat.le_of_ble_eq_true rfl) (fun p e s m args below meth c ls Q A hx hb hml hts hfc hmn hK hP hD hS hA hl hend => ?_)
  have hfc : s.vm.findClass RX0 = some m.cls := hfc
  have hl : lv_has ls 7 [(0, .ref b0), (1, .ref a0), (2, .int x2)] := hl
  have h := hr
  clear hr
  unfold SX0_step at h
  refine lv_aload_n hx hb dX0_step_0 rfl (lv_at hl 0 rfl) ?_
  refine va_get (D := D) (ci := 4) (v := .ref b1) (C := RX0) (T := TX0) (N := 3) hx hb hts iX0_step_X0 hfc hK hP 0 rfl rfl 0 (by decide) (hts (.fieldLink RX0 14 "BathtubTides$Forecast" "ages" "LBathtubTides$Row;") (List.mem_of_getElem? (i := 1) rfl)) (fun _ h9 => h9) rfl dX0_step_1 ?_
  refine lv_iload_n hx hb dX0_step_4 rfl (lv_at hl 2 rfl) ?_
  refine lv_iconst (v := 1) hx hb dX0_step_5 (by decide) ?_
  obtain ⟨o1, ho1, h⟩ := lt_i h
  refine gq_V (v := (fun as => none)) (As := [.int x2, .int 1]) (rest := []) (wc := [(b1, .inr (6, [.ref b4])), (b4, .inl (cA 0, 5, .inl f1))]) (wr := [(b0, .inr (4, [.ref b1, .ref b2, .ref b3])), (b2, .inr (6, [.ref b5])), (b5, .inl (cA 0, 5, .inl f2)), (b3, .inr (6, [.ref b6])), (b6, .inl (cA 0, 5, .inl f3)), (a0, .inr (8, [.ref a1])), (a1, .inr (6, [.ref a2])), (a2, .inl (cA 0, 61, .inl f))]) (w1 := (fun as => [(b1, .inr (6, [.ref b4])), (b4, .inl (cA 0, 5, .inl o1))])) (ws2 := (fun as => [(b0, .inr (4, [.ref b1, .ref b2, .ref b3])), (b1, .inr (6, [.ref b4])), (b4, .inl (cA 0, 5, .inl o1)), (b2, .inr (6, [.ref b5])), (b5, .inl (cA 0, 5, .inl f2)), (b3, .inr (6, [.ref b6])), (b6, .inl (cA 0, 5, .inl f3)), (a0, .inr (8, [.ref a1])), (a1, .inr (6, [.ref a2])), (a2, .inl (cA 0, 61, .inl f))])) (st1 := (fun as => [])) ⟨hx, hb, hml, hfc, hts⟩ hK hP hD hS hA (kX2_add l D cA b1 b4 5 f1 x2 1 (Nat.le_of_ble_eq_true rfl) ho1) (cwV 2 hts gX0_step_X2_add rfl rfl rfl (by decide +kernel) ⟨(Nat.le_of_ble_eq_true rfl), (Nat.le_of_ble_eq_true rfl)⟩) [1, 2] [0, 3, 4, 5, 6, 7, 8, 9] [0, 8, 9, 1, 2, 3, 4, 5, 6, 7] rfl rfl rfl rfl (by decide) (fun _ => rfl) rfl 1 6 rfl rfl rfl rfl (fun _ => rfl) rfl hl.1 (Nat.le_of_ble_eq_true rfl) dX0_step_6 ⟨(Nat.zero_le _), (Nat.zero_le _)⟩ (fun as H locs hP hD hS => ?_)
  have hP : va_P D vwCl [(b0, .inr (4, [.ref b1, .ref b2, .ref b3])), (b1, .inr (6, [.ref b4])), (b4, .inl (cA 0, 5, .inl o1)), (b2, .inr (6, [.ref b5])), (b5, .inl (cA 0, 5, .inl f2)), (b3, .inr (6, [.ref b6])), (b6, .inl (cA 0, 5, .inl f3)), (a0, .inr (8, [.ref a1])), (a1, .inr (6, [.ref a2])), (a2, .inl (cA 0, 61, .inl f))] H := hP
  have hD : va_D A [(b0, .inr (4, [.ref b1, .ref b2, .ref b3])), (b1, .inr (6, [.ref b4])), (b4, .inl (cA 0, 5, .inl o1)), (b2, .inr (6, [.ref b5])), (b5, .inl (cA 0, 5, .inl f2)), (b3, .inr (6, [.ref b6])), (b6, .inl (cA 0, 5, .inl f3)), (a0, .inr (8, [.ref a1])), (a1, .inr (6, [.ref a2])), (a2, .inl (cA 0, 61, .inl f))] := hD
  refine lv_aload_n hx hb dX0_step_9 rfl (lv_at hl 0 rfl) ?_
  refine va_get (D := D) (ci := 4) (v := .ref b1) (C := RX0) (T := TX0) (N := 3) hx hb hts iX0_step_X0 hfc hK hP 0 rfl rfl 0 (by decide) (hts (.fieldLink RX0 14 "BathtubTides$Forecast" "ages" "LBathtubTides$Row;") (List.mem_of_getElem? (i := 1) rfl)) (fun _ h9 => h9) rfl dX0_step_10 ?_
  refine lv_iload_n hx hb dX0_step_13 rfl (lv_at hl 2 rfl) ?_
  refine rq_V (v := (some (.int (SX2_at 5 o1 x2)))) (As := [.int x2]) (rest := []) (wc := [(b1, .inr (6, [.ref b4])), (b4, .inl (cA 0, 5, .inl o1))]) ⟨hx, hb, hml, hfc, hts⟩ hK hP (kX2_at l D cA b1 b4 5 o1 x2 (Nat.le_of_ble_eq_true rfl) rfl) (cwV 1 hts gX0_step_X2_at rfl rfl rfl (by decide +kernel) ⟨(Nat.le_of_ble_eq_true rfl), (Nat.le_of_ble_eq_true rfl)⟩) [1, 2] rfl 1 6 rfl rfl rfl rfl rfl rfl hl.1 (Nat.le_of_ble_eq_true rfl) dX0_step_14 ⟨(Nat.zero_le _), (Nat.zero_le _)⟩ ?_
  refine lv_istore_n hx hb dX0_step_17 rfl hl (Nat.le_of_ble_eq_true rfl) rfl (fun ls hl => ?_)
  have hl : lv_has ls 7 [(3, .int (SX2_at 5 o1 x2)), (0, .ref b0), (1, .ref a0), (2, .int x2)] := hl
  refine lv_aload_n hx hb dX0_step_18 rfl (lv_at hl 2 rfl) ?_
  refine lv_iload_n hx hb dX0_step_19 rfl (lv_at hl 3 rfl) ?_
  refine rq_V (v := (some (.int (SX4_periodOf f x2)))) (As := [.int x2]) (rest := []) (wc := [(a0, .inr (8, [.ref a1])), (a1, .inr (6, [.ref a2])), (a2, .inl (cA 0, 61, .inl f))]) ⟨hx, hb, hml, hfc, hts⟩ hK hP (kX4_periodOf l D cA a0 a1 a2 f x2 rfl) (cwV 1 hts gX0_step_X4_periodOf rfl rfl rfl (by decide +kernel) ⟨(Nat.le_of_ble_eq_true rfl), (Nat.le_of_ble_eq_true rfl)⟩) [7, 8, 9] rfl 7 8 rfl rfl rfl rfl rfl rfl hl.1 (Nat.le_of_ble_eq_true rfl) dX0_step_20 ⟨(Nat.zero_le _), (Nat.zero_le _)⟩ ?_
  refine lv_istore hx hb dX0_step_23 hl (Nat.le_of_ble_eq_true rfl) rfl (fun ls hl => ?_)
  have hl : lv_has ls 7 [(4, .int (SX4_periodOf f x2)), (3, .int (SX2_at 5 o1 x2)), (0, .ref b0), (1, .ref a0), (2, .int x2)] := hl
  refine lv_iload hx hb dX0_step_25 (lv_at hl 0 rfl) ?_
  refine lv_iconst (v := 1) hx hb dX0_step_27 (by decide) ?_
  obtain ⟨o3, ho3, h⟩ := lt_i h
  have ko3 : ∀ (ls : Array Slot) (H : Heap) (locs : List Loc), lv_has ls 7 [(0, .ref b0), (1, .ref a0), (2, .int x2), (3, .int (SX2_at 5 o1 x2)), (4, .int (SX4_periodOf f x2))] → va_P D vwCl [(b0, .inr (4, [.ref b1, .ref b2, .ref b3])), (b1, .inr (6, [.ref b4])), (b4, .inl (cA 0, 5, .inl o1)), (b2, .inr (6, [.ref b5])), (b5, .inl (cA 0, 5, .inl o3)), (b3, .inr (6, [.ref b6])), (b6, .inl (cA 0, 5, .inl f3)), (a0, .inr (8, [.ref a1])), (a1, .inr (6, [.ref a2])), (a2, .inl (cA 0, 61, .inl f))] H → va_D A [(b0, .inr (4, [.ref b1, .ref b2, .ref b3])), (b1, .inr (6, [.ref b4])), (b4, .inl (cA 0, 5, .inl o1)), (b2, .inr (6, [.ref b5])), (b5, .inl (cA 0, 5, .inl o3)), (b3, .inr (6, [.ref b6])), (b6, .inl (cA 0, 5, .inl f3)), (a0, .inr (8, [.ref a1])), (a1, .inr (6, [.ref a2])), (a2, .inl (cA 0, 61, .inl f))] → va_S A s.heap H locs → W p l e RM_X0_step s m args below meth c H locs 0 0 Q (F0 m 59 ls []) := by
    intro ls H locs hl hP hD hS
    refine lv_aload_n hx hb dX0_step_59 rfl (lv_at hl 1 rfl) ?_
    refine lv_iload_n hx hb dX0_step_60 rfl (lv_at hl 2 rfl) ?_
    refine rq_V (v := (some (.int (SX4_kindOf f x2)))) (As := [.int x2]) (rest := []) (wc := [(a0, .inr (8, [.ref a1])), (a1, .inr (6, [.ref a2])), (a2, .inl (cA 0, 61, .inl f))]) ⟨hx, hb, hml, hfc, hts⟩ hK hP (kX4_kindOf l D cA a0 a1 a2 f x2 rfl) (cwV 1 hts gX0_step_X4_kindOf rfl rfl rfl (by decide +kernel) ⟨(Nat.le_of_ble_eq_true rfl), (Nat.le_of_ble_eq_true rfl)⟩) [7, 8, 9] rfl 7 8 rfl rfl rfl rfl rfl rfl hl.1 (Nat.le_of_ble_eq_true rfl) dX0_step_61 ⟨(Nat.zero_le _), (Nat.zero_le _)⟩ ?_
    refine lv_istore hx hb dX0_step_64 hl (Nat.le_of_ble_eq_true rfl) rfl (fun ls hl => ?_)
    have hl : lv_has ls 7 [(5, .int (SX4_kindOf f x2)), (0, .ref b0), (1, .ref a0), (2, .int x2), (3, .int (SX2_at 5 o1 x2)), (4, .int (SX4_periodOf f x2))] := hl
    refine lv_iload hx hb dX0_step_66 (lv_at hl 0 rfl) ?_
    refine lv_iconst (v := 1) hx hb dX0_step_68 (by decide) ?_
    obtain ⟨o7, ho7, h⟩ := lt_i h
    have ko7 : ∀ (ls : Array Slot) (H : Heap) (locs : List Loc), lv_has ls 7 [(0, .ref b0), (1, .ref a0), (2, .int x2), (3, .int (SX2_at 5 o1 x2)), (4, .int (SX4_periodOf f x2)), (5, .int (SX4_kindOf f x2))] → va_P D vwCl [(b0, .inr (4, [.ref b1, .ref b2, .ref b3])), (b1, .inr (6, [.ref b4])), (b4, .inl (cA 0, 5, .inl o1)), (b2, .inr (6, [.ref b5])), (b5, .inl (cA 0, 5, .inl o3)), (b3, .inr (6, [.ref b6])), (b6, .inl (cA 0, 5, .inl o7)), (a0, .inr (8, [.ref a1])), (a1, .inr (6, [.ref a2])), (a2, .inl (cA 0, 61, .inl f))] H → va_D A [(b0, .inr (4, [.ref b1, .ref b2, .ref b3])), (b1, .inr (6, [.ref b4])), (b4, .inl (cA 0, 5, .inl o1)), (b2, .inr (6, [.ref b5])), (b5, .inl (cA 0, 5, .inl o3)), (b3, .inr (6, [.ref b6])), (b6, .inl (cA 0, 5, .inl o7)), (a0, .inr (8, [.ref a1])), (a1, .inr (6, [.ref a2])), (a2, .inl (cA 0, 61, .inl f))] → va_S A s.heap H locs → W p l e RM_X0_step s m args below meth c H locs 0 0 Q (F0 m 99 ls []) := by
      intro ls H locs hl hP hD hS
      refine lv_iload hx hb dX0_step_99 (lv_at hl 5 rfl) ?_
      refine lv_iconst (v := 2) hx hb dX0_step_101 (by decide) ?_
      refine lv_icmp_ne (tgt := 135) hx hb dX0_step_102 (by decide) (fun c11 => ?_) (fun c11 => ?_)
      · have h := ite_f c11 h
        subst h
        exact hend (adr []) _ _ _ _ _ _ _ rfl rfl (rtn_v) hP hD hS dX0_step_135
      · have h := ite_t c11 h
        refine lv_aload_n hx hb dX0_step_105 rfl (lv_at hl 1 rfl) ?_
        refine lv_iload_n hx hb dX0_step_106 rfl (lv_at hl 2 rfl) ?_
        refine rq_V (v := (some (.int (SX4_firstMassOf f x2)))) (As := [.int x2]) (rest := []) (wc := [(a0, .inr (8, [.ref a1])), (a1, .inr (6, [.ref a2])), (a2, .inl (cA 0, 61, .inl f))]) ⟨hx, hb, hml, hfc, hts⟩ hK hP (kX4_firstMassOf l D cA a0 a1 a2 f x2 rfl) (cwV 1 hts gX0_step_X4_firstMassOf rfl rfl rfl (by decide +kernel) ⟨(Nat.le_of_ble_eq_true rfl), (Nat.le_of_ble_eq_true rfl)⟩) [7, 8, 9] rfl 7 8 rfl rfl rfl rfl rfl rfl hl.1 (Nat.le_of_ble_eq_true rfl) dX0_step_107 ⟨(Nat.zero_le _), (Nat.zero_le _)⟩ ?_
        refine lv_istore hx hb dX0_step_110 hl (Nat.le_of_ble_eq_true rfl) rfl (fun ls hl => ?_)
        have hl : lv_has ls 7 [(6, .int (SX4_firstMassOf f x2)), (0, .ref b0), (1, .ref a0), (2, .int x2), (3, .int (SX2_at 5 o1 x2)), (4, .int (SX4_periodOf f x2)), (5, .int (SX4_kindOf f x2))] := hl
        refine lv_aload_n hx hb dX0_step_112 rfl (lv_at hl 1 rfl) ?_
        refine va_get (D := D) (ci := 4) (v := .ref b3) (C := RX0) (T := TX0) (N := 3) hx hb hts iX0_step_X0 hfc hK hP 0 rfl rfl 2 (by decide) (hts (.fieldLink RX0 23 "BathtubTides$Forecast" "masses" "LBathtubTides$Row;") (List.mem_of_getElem? (i := 3) rfl)) (fun _ h9 => h9) rfl dX0_step_113 ?_
        refine lv_iload_n hx hb dX0_step_116 rfl (lv_at hl 3 rfl) ?_
        refine lv_iload_n hx hb dX0_step_117 rfl (lv_at hl 4 rfl) ?_
        refine lv_iconst (v := 2) hx hb dX0_step_118 (by decide) ?_
        refine lv_irem hx hb dX0_step_119 (by decide) ?_
        obtain ⟨o13, ho13, h⟩ := lt_i h
        have ko13 : ∀ (ls : Array Slot) (H : Heap) (locs : List Loc), lv_has ls 7 [(0, .ref b0), (1, .ref a0), (2, .int x2), (3, .int (SX2_at 5 o1 x2)), (4, .int (SX4_periodOf f x2)), (5, .int (SX4_kindOf f x2)), (6, .int (SX4_firstMassOf f x2))] → va_P D vwCl [(b0, .inr (4, [.ref b1, .ref b2, .ref b3])), (b1, .inr (6, [.ref b4])), (b4, .inl (cA 0, 5, .inl o1)), (b2, .inr (6, [.ref b5])), (b5, .inl (cA 0, 5, .inl o3)), (b3, .inr (6, [.ref b6])), (b6, .inl (cA 0, 5, .inl o7)), (a0, .inr (8, [.ref a1])), (a1, .inr (6, [.ref a2])), (a2, .inl (cA 0, 61, .inl f))] H → va_D A [(b0, .inr (4, [.ref b1, .ref b2, .ref b3])), (b1, .inr (6, [.ref b4])), (b4, .inl (cA 0, 5, .inl o1)), (b2, .inr (6, [.ref b5])), (b5, .inl (cA 0, 5, .inl o3)), (b3, .inr (6, [.ref b6])), (b6, .inl (cA 0, 5, .inl o7)), (a0, .inr (8, [.ref a1])), (a1, .inr (6, [.ref a2])), (a2, .inl (cA 0, 61, .inl f))] → va_S A s.heap H locs → W p l e RM_X0_step s m args below meth c H locs 0 0 Q (F0 m 132 ls [.int o13, .int x2, .ref b3]) := by
          intro ls H locs hl hP hD hS
          obtain ⟨o14, ho14, h⟩ := lt_i h
          refine gq_V (v := (fun as => none)) (As := [.int x2, .int o13]) (rest := []) (wc := [(b3, .inr (6, [.ref b6])), (b6, .inl (cA 0, 5, .inl o7))]) (wr := [(b0, .inr (4, [.ref b1, .ref b2, .ref b3])), (b1, .inr (6, [.ref b4])), (b4, .inl (cA 0, 5, .inl o1)), (b2, .inr (6, [.ref b5])), (b5, .inl (cA 0, 5, .inl o3)), (a0, .inr (8, [.ref a1])), (a1, .inr (6, [.ref a2])), (a2, .inl (cA 0, 61, .inl f))]) (w1 := (fun as => [(b3, .inr (6, [.ref b6])), (b6, .inl (cA 0, 5, .inl o14))])) (ws2 := (fun as => [(b0, .inr (4, [.ref b1, .ref b2, .ref b3])), (b1, .inr (6, [.ref b4])), (b4, .inl (cA 0, 5, .inl o1)), (b2, .inr (6, [.ref b5])), (b5, .inl (cA 0, 5, .inl o3)), (b3, .inr (6, [.ref b6])), (b6, .inl (cA 0, 5, .inl o14)), (a0, .inr (8, [.ref a1])), (a1, .inr (6, [.ref a2])), (a2, .inl (cA 0, 61, .inl f))])) (st1 := (fun as => [])) ⟨hx, hb, hml, hfc, hts⟩ hK hP hD hS hA (kX2_put l D cA b3 b6 5 o7 x2 o13 (Nat.le_of_ble_eq_true rfl) ho14) (cwV 2 hts gX0_step_X2_put rfl rfl rfl (by decide +kernel) ⟨(Nat.le_of_ble_eq_true rfl), (Nat.le_of_ble_eq_true rfl)⟩) [5, 6] [0, 1, 2, 3, 4, 7, 8, 9] [0, 1, 2, 3, 4, 8, 9, 5, 6, 7] rfl rfl rfl rfl (by decide) (fun _ => rfl) rfl 5 6 rfl rfl rfl rfl (fun _ => rfl) rfl hl.1 (Nat.le_of_ble_eq_true rfl) dX0_step_132 ⟨(Nat.zero_le _), (Nat.zero_le _)⟩ (fun as H locs hP hD hS => ?_)
          have hP : va_P D vwCl [(b0, .inr (4, [.ref b1, .ref b2, .ref b3])), (b1, .inr (6, [.ref b4])), (b4, .inl (cA 0, 5, .inl o1)), (b2, .inr (6, [.ref b5])), (b5, .inl (cA 0, 5, .inl o3)), (b3, .inr (6, [.ref b6])), (b6, .inl (cA 0, 5, .inl o14)), (a0, .inr (8, [.ref a1])), (a1, .inr (6, [.ref a2])), (a2, .inl (cA 0, 61, .inl f))] H := hP
          have hD : va_D A [(b0, .inr (4, [.ref b1, .ref b2, .ref b3])), (b1, .inr (6, [.ref b4])), (b4, .inl (cA 0, 5, .inl o1)), (b2, .inr (6, [.ref b5])), (b5, .inl (cA 0, 5, .inl o3)), (b3, .inr (6, [.ref b6])), (b6, .inl (cA 0, 5, .inl o14)), (a0, .inr (8, [.ref a1])), (a1, .inr (6, [.ref a2])), (a2, .inl (cA 0, 61, .inl f))] := hD
          subst h
          exact hend (adr []) _ _ _ _ _ _ _ rfl rfl (rtn_v) hP hD hS dX0_step_135
        clear h
        have h := ho13
        clear ho13
        refine lv_if_ne (tgt := 128) hx hb dX0_step_120 (by decide) (fun c12 => ?_) (fun c12 => ?_)
        · have h := ite_f c12 h
          refine lv_iload hx hb dX0_step_128 (lv_at hl 0 rfl) ?_
          refine lv_iconst (v := 2) hx hb dX0_step_130 (by decide) ?_
          refine lv_idiv hx hb dX0_step_131 (by decide) ?_
          subst h
          exact ko13 _ _ _ (lv_sub hl [1, 2, 3, 4, 5, 6, 0] rfl) hP hD hS
        · have h := ite_t c12 h
          refine lv_iload hx hb dX0_step_123 (lv_at hl 0 rfl) ?_
          refine lv_goto (tgt := 132) hx hb dX0_step_125 (by decide) ?_
          subst h
          exact ko13 _ _ _ (lv_sub hl [1, 2, 3, 4, 5, 6, 0] rfl) hP hD hS
    clear h
    have h := ho7
    clear ho7
    refine lv_icmp_ne (tgt := 99) hx hb dX0_step_69 (by decide) (fun c6 => ?_) (fun c6 => ?_)
    · have h := ite_f c6 h
      subst h
      exact ko7 _ _ _ (lv_sub hl [1, 2, 3, 4, 5, 0] rfl) hP hD hS
    · have h := ite_t c6 h
      refine lv_iload_n hx hb dX0_step_72 rfl (lv_at hl 4 rfl) ?_
      refine lv_bipush (v := 10) hx hb dX0_step_73 (by decide) ?_
      refine lv_irem hx hb dX0_step_75 (by decide) ?_
      refine lv_if_ne (tgt := 99) hx hb dX0_step_76 (by decide) (fun c8 => ?_) (fun c8 => ?_)
      · have h := ite_f c8 h
        subst h
        exact ko7 _ _ _ (lv_sub hl [1, 2, 3, 4, 5, 0] rfl) hP hD hS
      · have h := ite_t c8 h
        refine lv_aload_n hx hb dX0_step_79 rfl (lv_at hl 1 rfl) ?_
        refine va_get (D := D) (ci := 4) (v := .ref b3) (C := RX0) (T := TX0) (N := 3) hx hb hts iX0_step_X0 hfc hK hP 0 rfl rfl 2 (by decide) (hts (.fieldLink RX0 23 "BathtubTides$Forecast" "masses" "LBathtubTides$Row;") (List.mem_of_getElem? (i := 3) rfl)) (fun _ h9 => h9) rfl dX0_step_80 ?_
        refine lv_iload_n hx hb dX0_step_83 rfl (lv_at hl 3 rfl) ?_
        refine rq_V (v := (some (.int (SX2_at 5 f3 x2)))) (As := [.int x2]) (rest := []) (wc := [(b3, .inr (6, [.ref b6])), (b6, .inl (cA 0, 5, .inl f3))]) ⟨hx, hb, hml, hfc, hts⟩ hK hP (kX2_at l D cA b3 b6 5 f3 x2 (Nat.le_of_ble_eq_true rfl) rfl) (cwV 1 hts gX0_step_X2_at rfl rfl rfl (by decide +kernel) ⟨(Nat.le_of_ble_eq_true rfl), (Nat.le_of_ble_eq_true rfl)⟩) [5, 6] rfl 5 6 rfl rfl rfl rfl rfl rfl hl.1 (Nat.le_of_ble_eq_true rfl) dX0_step_84 ⟨(Nat.zero_le _), (Nat.zero_le _)⟩ ?_
        refine lv_if_le (tgt := 99) hx hb dX0_step_87 (by decide) (fun c9 => ?_) (fun c9 => ?_)
        · have h := ite_t c9 h
          subst h
          exact ko7 _ _ _ (lv_sub hl [1, 2, 3, 4, 5, 0] rfl) hP hD hS
        · have h := ite_f c9 h
          refine lv_aload_n hx hb dX0_step_90 rfl (lv_at hl 1 rfl) ?_
          refine va_get (D := D) (ci := 4) (v := .ref b3) (C := RX0) (T := TX0) (N := 3) hx hb hts iX0_step_X0 hfc hK hP 0 rfl rfl 2 (by decide) (hts (.fieldLink RX0 23 "BathtubTides$Forecast" "masses" "LBathtubTides$Row;") (List.mem_of_getElem? (i := 3) rfl)) (fun _ h9 => h9) rfl dX0_step_91 ?_
          refine lv_iload_n hx hb dX0_step_94 rfl (lv_at hl 3 rfl) ?_
          refine lv_iconst (v := (-1)) hx hb dX0_step_95 (by decide) ?_
          obtain ⟨o10, ho10, h⟩ := lt_i h
          refine gq_V (v := (fun as => none)) (As := [.int x2, .int (-1)]) (rest := []) (wc := [(b3, .inr (6, [.ref b6])), (b6, .inl (cA 0, 5, .inl f3))]) (wr := [(b0, .inr (4, [.ref b1, .ref b2, .ref b3])), (b1, .inr (6, [.ref b4])), (b4, .inl (cA 0, 5, .inl o1)), (b2, .inr (6, [.ref b5])), (b5, .inl (cA 0, 5, .inl o3)), (a0, .inr (8, [.ref a1])), (a1, .inr (6, [.ref a2])), (a2, .inl (cA 0, 61, .inl f))]) (w1 := (fun as => [(b3, .inr (6, [.ref b6])), (b6, .inl (cA 0, 5, .inl o10))])) (ws2 := (fun as => [(b0, .inr (4, [.ref b1, .ref b2, .ref b3])), (b1, .inr (6, [.ref b4])), (b4, .inl (cA 0, 5, .inl o1)), (b2, .inr (6, [.ref b5])), (b5, .inl (cA 0, 5, .inl o3)), (b3, .inr (6, [.ref b6])), (b6, .inl (cA 0, 5, .inl o10)), (a0, .inr (8, [.ref a1])), (a1, .inr (6, [.ref a2])), (a2, .inl (cA 0, 61, .inl f))])) (st1 := (fun as => [])) ⟨hx, hb, hml, hfc, hts⟩ hK hP hD hS hA (kX2_add l D cA b3 b6 5 f3 x2 (-1) (Nat.le_of_ble_eq_true rfl) ho10) (cwV 2 hts gX0_step_X2_add rfl rfl rfl (by decide +kernel) ⟨(Nat.le_of_ble_eq_true rfl), (Nat.le_of_ble_eq_true rfl)⟩) [5, 6] [0, 1, 2, 3, 4, 7, 8, 9] [0, 1, 2, 3, 4, 8, 9, 5, 6, 7] rfl rfl rfl rfl (by decide) (fun _ => rfl) rfl 5 6 rfl rfl rfl rfl (fun _ => rfl) rfl hl.1 (Nat.le_of_ble_eq_true rfl) dX0_step_96 ⟨(Nat.zero_le _), (Nat.zero_le _)⟩ (fun as H locs hP hD hS => ?_)
          have hP : va_P D vwCl [(b0, .inr (4, [.ref b1, .ref b2, .ref b3])), (b1, .inr (6, [.ref b4])), (b4, .inl (cA 0, 5, .inl o1)), (b2, .inr (6, [.ref b5])), (b5, .inl (cA 0, 5, .inl o3)), (b3, .inr (6, [.ref b6])), (b6, .inl (cA 0, 5, .inl o10)), (a0, .inr (8, [.ref a1])), (a1, .inr (6, [.ref a2])), (a2, .inl (cA 0, 61, .inl f))] H := hP
          have hD : va_D A [(b0, .inr (4, [.ref b1, .ref b2, .ref b3])), (b1, .inr (6, [.ref b4])), (b4, .inl (cA 0, 5, .inl o1)), (b2, .inr (6, [.ref b5])), (b5, .inl (cA 0, 5, .inl o3)), (b3, .inr (6, [.ref b6])), (b6, .inl (cA 0, 5, .inl o10)), (a0, .inr (8, [.ref a1])), (a1, .inr (6, [.ref a2])), (a2, .inl (cA 0, 61, .inl f))] := hD
          subst h
          exact ko7 _ _ _ (lv_sub hl [1, 2, 3, 4, 5, 0] rfl) hP hD hS
  clear h
  have h := ho3
  clear ho3
  refine lv_icmp_lt (tgt := 59) hx hb dX0_step_28 (by decide) (fun c2 => ?_) (fun c2 => ?_)
  · have h := ite_t c2 h
    subst h
    exact ko3 _ _ _ (lv_sub hl [2, 3, 4, 1, 0] rfl) hP hD hS
  · have h := ite_f c2 h
    refine lv_iload_n hx hb dX0_step_31 rfl (lv_at hl 1 rfl) ?_
    refine lv_iload hx hb dX0_step_32 (lv_at hl 0 rfl) ?_
    refine lv_irem hx hb dX0_step_34 (ne0_a c2) ?_
    refine lv_if_ne (tgt := 59) hx hb dX0_step_35 (by decide) (fun c4 => ?_) (fun c4 => ?_)
    · have h := ite_f c4 h
      subst h
      exact ko3 _ _ _ (lv_sub hl [2, 3, 4, 1, 0] rfl) hP hD hS
    · have h := ite_t c4 h
      refine lv_aload_n hx hb dX0_step_38 rfl (lv_at hl 2 rfl) ?_
      refine va_get (D := D) (ci := 4) (v := .ref b2) (C := RX0) (T := TX0) (N := 3) hx hb hts iX0_step_X0 hfc hK hP 0 rfl rfl 1 (by decide) (hts (.fieldLink RX0 20 "BathtubTides$Forecast" "places" "LBathtubTides$Row;") (List.mem_of_getElem? (i := 2) rfl)) (fun _ h9 => h9) rfl dX0_step_39 ?_
      refine lv_iload_n hx hb dX0_step_42 rfl (lv_at hl 4 rfl) ?_
      refine lv_aload_n hx hb dX0_step_43 rfl (lv_at hl 2 rfl) ?_
      refine va_get (D := D) (ci := 4) (v := .ref b2) (C := RX0) (T := TX0) (N := 3) hx hb hts iX0_step_X0 hfc hK hP 0 rfl rfl 1 (by decide) (hts (.fieldLink RX0 20 "BathtubTides$Forecast" "places" "LBathtubTides$Row;") (List.mem_of_getElem? (i := 2) rfl)) (fun _ h9 => h9) rfl dX0_step_44 ?_
      refine lv_iload_n hx hb dX0_step_47 rfl (lv_at hl 4 rfl) ?_
      refine rq_V (v := (some (.int (SX2_at 5 f2 x2)))) (As := [.int x2]) (rest := [.int x2, .ref b2]) (wc := [(b2, .inr (6, [.ref b5])), (b5, .inl (cA 0, 5, .inl f2))]) ⟨hx, hb, hml, hfc, hts⟩ hK hP (kX2_at l D cA b2 b5 5 f2 x2 (Nat.le_of_ble_eq_true rfl) rfl) (cwV 1 hts gX0_step_X2_at rfl rfl rfl (by decide +kernel) ⟨(Nat.le_of_ble_eq_true rfl), (Nat.le_of_ble_eq_true rfl)⟩) [3, 4] rfl 3 6 rfl rfl rfl rfl rfl rfl hl.1 (Nat.le_of_ble_eq_true rfl) dX0_step_48 ⟨(Nat.zero_le _), (Nat.zero_le _)⟩ ?_
      refine lv_iconst (v := 1) hx hb dX0_step_51 (by decide) ?_
      refine lv_iadd hx hb dX0_step_52 ?_
      refine lv_bipush (v := 12) hx hb dX0_step_53 (by decide) ?_
      refine lv_irem hx hb dX0_step_55 (by decide) ?_
      obtain ⟨o5, ho5, h⟩ := lt_i h
      refine gq_V (v := (fun as => none)) (As := [.int x2, .int (irm ((SX2_at 5 f2 x2) + 1) 12)]) (rest := []) (wc := [(b2, .inr (6, [.ref b5])), (b5, .inl (cA 0, 5, .inl f2))]) (wr := [(b0, .inr (4, [.ref b1, .ref b2, .ref b3])), (b1, .inr (6, [.ref b4])), (b4, .inl (cA 0, 5, .inl o1)), (b3, .inr (6, [.ref b6])), (b6, .inl (cA 0, 5, .inl f3)), (a0, .inr (8, [.ref a1])), (a1, .inr (6, [.ref a2])), (a2, .inl (cA 0, 61, .inl f))]) (w1 := (fun as => [(b2, .inr (6, [.ref b5])), (b5, .inl (cA 0, 5, .inl o5))])) (ws2 := (fun as => [(b0, .inr (4, [.ref b1, .ref b2, .ref b3])), (b1, .inr (6, [.ref b4])), (b4, .inl (cA 0, 5, .inl o1)), (b2, .inr (6, [.ref b5])), (b5, .inl (cA 0, 5, .inl o5)), (b3, .inr (6, [.ref b6])), (b6, .inl (cA 0, 5, .inl f3)), (a0, .inr (8, [.ref a1])), (a1, .inr (6, [.ref a2])), (a2, .inl (cA 0, 61, .inl f))])) (st1 := (fun as => [])) ⟨hx, hb, hml, hfc, hts⟩ hK hP hD hS hA (kX2_put l D cA b2 b5 5 f2 x2 (irm ((SX2_at 5 f2 x2) + 1) 12) (Nat.le_of_ble_eq_true rfl) ho5) (cwV 2 hts gX0_step_X2_put rfl rfl rfl (by decide +kernel) ⟨(Nat.le_of_ble_eq_true rfl), (Nat.le_of_ble_eq_true rfl)⟩) [3, 4] [0, 1, 2, 5, 6, 7, 8, 9] [0, 1, 2, 8, 9, 3, 4, 5, 6, 7] rfl rfl rfl rfl (by decide) (fun _ => rfl) rfl 3 6 rfl rfl rfl rfl (fun _ => rfl) rfl hl.1 (Nat.le_of_ble_eq_true rfl) dX0_step_56 ⟨(Nat.zero_le _), (Nat.zero_le _)⟩ (fun as H locs hP hD hS => ?_)
      have hP : va_P D vwCl [(b0, .inr (4, [.ref b1, .ref b2, .ref b3])), (b1, .inr (6, [.ref b4])), (b4, .inl (cA 0, 5, .inl o1)), (b2, .inr (6, [.ref b5])), (b5, .inl (cA 0, 5, .inl o5)), (b3, .inr (6, [.ref b6])), (b6, .inl (cA 0, 5, .inl f3)), (a0, .inr (8, [.ref a1])), (a1, .inr (6, [.ref a2])), (a2, .inl (cA 0, 61, .inl f))] H := hP
      have hD : va_D A [(b0, .inr (4, [.ref b1, .ref b2, .ref b3])), (b1, .inr (6, [.ref b4])), (b4, .inl (cA 0, 5, .inl o1)), (b2, .inr (6, [.ref b5])), (b5, .inl (cA 0, 5, .inl o5)), (b3, .inr (6, [.ref b6])), (b6, .inl (cA 0, 5, .inl f3)), (a0, .inr (8, [.ref a1])), (a1, .inr (6, [.ref a2])), (a2, .inl (cA 0, 61, .inl f))] := hD
      subst h
      exact ko3 _ _ _ (lv_sub hl [2, 3, 4, 1, 0] rfl) hP hD hS
noncomputable def LX0_steppedTide_111 (f : Nat → Int32) (x2 : Int32) (f2_68 : Nat → Int32) (f4_68 : Nat → Int32) (f6_68 : Nat → Int32) : Nat → Int32 → Int32 → Option (Int32 × (Nat → Int32) × (Nat → Int32) × (Nat → Int32))
  | 0, _, _ => none
  | fu + 1, x4_111, x5_111 => if (SX4_moons f) ≤ x5_111 then (some (((SX4_damped f x4_111 x2), f2_68, f4_68, f6_68))) else (lt_ (x4_111 + (SX4_pull f (SX2_at 5 f6_68 x5_111) (SX2_at 5 f4_68 x5_111) x2)) (fun t4 : Int32 => LX0_steppedTide_111 f x2 f2_68 f4_68 f6_68 fu t4 (x5_111 + 1)))
noncomputable def LX0_steppedTide_77 (K : (Int32 × (Nat → Int32) × (Nat → Int32) × (Nat → Int32)) → Option (Int32 × (Nat → Int32) × (Nat → Int32) × (Nat → Int32))) (f : Nat → Int32) : Nat → (Nat → Int32) → (Nat → Int32) → (Nat → Int32) → Int32 → Option (Int32 × (Nat → Int32) × (Nat → Int32) × (Nat → Int32))
  | 0, _, _, _, _ => none
  | fu + 1, f2_77, f4_77, f6_77, x5_77 => if (SX4_moons f) ≤ x5_77 then (K (x5_77, f2_77, f4_77, f6_77)) else (lt_ (SX0_step f2_77 f4_77 f6_77 f x5_77) (fun o7 : (Nat → Int32) × (Nat → Int32) × (Nat → Int32) => LX0_steppedTide_77 K f fu o7.1 o7.2.1 o7.2.2 (x5_77 + 1)))
noncomputable def LX0_steppedTide_68 (N : Nat) (x3 : Int32) (f : Nat → Int32) (x2 : Int32) : Nat → (Nat → Int32) → (Nat → Int32) → (Nat → Int32) → Int32 → Option (Int32 × (Nat → Int32) × (Nat → Int32) × (Nat → Int32))
  | 0, _, _, _, _ => none
  | fu + 1, f2_68, f4_68, f6_68, x4_68 => if x3 ≤ x4_68 then (LX0_steppedTide_111 f x2 f2_68 f4_68 f6_68 N 0 0) else (LX0_steppedTide_77 (fun o5 : Int32 × (Nat → Int32) × (Nat → Int32) × (Nat → Int32) => LX0_steppedTide_68 N x3 f x2 fu o5.2.1 o5.2.2.1 o5.2.2.2 (x4_68 + 1)) f N f2_68 f4_68 f6_68 0)
noncomputable def LX0_steppedTide_3 (N : Nat) (f : Nat → Int32) (x3 : Int32) (x2 : Int32) : Nat → (Nat → Int32) → (Nat → Int32) → (Nat → Int32) → Int32 → Option (Int32 × (Nat → Int32) × (Nat → Int32) × (Nat → Int32))
  | 0, _, _, _, _ => none
  | fu + 1, f2_3, f4_3, f6_3, x4_3 => if (SX4_moons f) ≤ x4_3 then (LX0_steppedTide_68 N x3 f x2 N f2_3 f4_3 f6_3 0) else (lt_ (SX2_put 5 f2_3 x4_3 (SX4_ageNow f x4_3)) (fun o8 : Nat → Int32 => lt_ (SX2_put 5 f4_3 x4_3 (SX4_placeAfter f x4_3 0)) (fun o9 : Nat → Int32 => lt_ (SX2_put 5 f6_3 x4_3 (SX4_massAfter f x4_3 0)) (fun o10 : Nat → Int32 => LX0_steppedTide_3 N f x3 x2 fu o8 o9 o10 (x4_3 + 1)))))
noncomputable def SX0_steppedTide (N : Nat) (f1 : Nat → Int32) (f2 : Nat → Int32) (f3 : Nat → Int32) (f : Nat → Int32) (x2 : Int32) (x3 : Int32) : Option (Int32 × (Nat → Int32) × (Nat → Int32) × (Nat → Int32)) := LX0_steppedTide_3 N f x3 x2 N f1 f2 f3 0
theorem iX0_steppedTide_X0 : ∀ w ∈ wsX00, w ∈ wsX0_steppedTide := fun _ h => List.mem_cons_of_mem _ (List.mem_append_left _ (List.mem_append_left _ (List.mem_append_left _ (List.mem_append_left _ (List.mem_append_right _ h)))))
abbrev RM_X0_steppedTide : Room := { frames := 4, cells := 0, slots := 0, locals := 81 }
set_option maxHeartbeats 4000000 in
theorem kX0_steppedTide (l : Launch) (D : va_G) (cA : Nat → ClassId) (b0 b1 b2 b3 b4 b5 b6 a0 a1 a2 : Nat) (N : Nat) (f1 : Nat → Int32) (f2 : Nat → Int32) (f3 : Nat → Int32) (f : Nat → Int32) (x2 : Int32) (x3 : Int32) {r : Int32 × (Nat → Int32) × (Nat → Int32) × (Nat → Int32)} (hr : SX0_steppedTide N f1 f2 f3 f x2 x3 = some r) {sz : Nat} : Met l yX0_steppedTide wsX0_steppedTide RM_X0_steppedTide (va_Pc [.ref b0, .ref a0, .int x2, .int x3] (gqB D cA [(b0, .inr (4, [.ref b1, .ref b2, .ref b3])), (b1, .inr (6, [.ref b4])), (b4, .inl (cA 0, 5, .inl f1)), (b2, .inr (6, [.ref b5])), (b5, .inl (cA 0, 5, .inl f2)), (b3, .inr (6, [.ref b6])), (b6, .inl (cA 0, 5, .inl f3)), (a0, .inr (8, [.ref a1])), (a1, .inr (6, [.ref a2])), (a2, .inl (cA 0, 61, .inl f))] sz)) (gqQ D (fun as => (some (.int r.1))) (fun as => [(b0, .inr (4, [.ref b1, .ref b2, .ref b3])), (b1, .inr (6, [.ref b4])), (b4, .inl (cA 0, 5, .inl r.2.1)), (b2, .inr (6, [.ref b5])), (b5, .inl (cA 0, 5, .inl r.2.2.1)), (b3, .inr (6, [.ref b6])), (b6, .inl (cA 0, 5, .inl r.2.2.2)), (a0, .inr (8, [.ref a1])), (a1, .inr (6, [.ref a2])), (a2, .inl (cA 0, 61, .inl f))]) (va_A [(b0, .inr (4, [.ref b1, .ref b2, .ref b3])), (b1, .inr (6, [.ref b4])), (b4, .inl (cA 0, 5, .inl f1)), (b2, .inr (6, [.ref b5])), (b5, .inl (cA 0, 5, .inl f2)), (b3, .inr (6, [.ref b6])), (b6, .inl (cA 0, 5, .inl f3)), (a0, .inr (8, [.ref a1])), (a1, .inr (6, [.ref a2])), (a2, .inl (cA 0, 61, .inl f))] sz)) 0 0 (va_A [(b0, .inr (4, [.ref b1, .ref b2, .ref b3])), (b1, .inr (6, [.ref b4])), (b4, .inl (cA 0, 5, .inl f1)), (b2, .inr (6, [.ref b5])), (b5, .inl (cA 0, 5, .inl f2)), (b3, .inr (6, [.ref b6])), (b6, .inl (cA 0, 5, .inl f3)), (a0, .inr (8, [.ref a1])), (a1, .inr (6, [.ref a2])), (a2, .inl (cA 0, 61, .inl f))] sz) := by
  refine gq_ofW (cc := cX0_steppedTide) (maxL := 6) (ret := (some .int)) (by decide) rfl (Nat.le_of_ble_eq_true rfl) (fun p e s m args below meth c ls Q A hx hb hml hts hfc hmn hK hP hD hS hA hl hend => ?_)
  have hfc : s.vm.findClass RX0 = some m.cls := hfc
  have hl : lv_has ls 6 [(0, .ref b0), (1, .ref a0), (2, .int x2), (3, .int x3)] := hl
  have h := hr
  clear hr
  unfold SX0_steppedTide at h
  refine lv_iconst (v := 0) hx hb dX0_steppedTide_0 (by decide) ?_
  refine lv_istore hx hb dX0_steppedTide_1 hl (Nat.le_of_ble_eq_true rfl) rfl (fun ls hl => ?_)
  have hl : lv_has ls 6 [(4, .int 0), (0, .ref b0), (1, .ref a0), (2, .int x2), (3, .int x3)] := hl
  have hLX0_steppedTide_3 : ∀ (fu : Nat) (f2_3 : Nat → Int32) (f4_3 : Nat → Int32) (f6_3 : Nat → Int32) (x4_3 : Int32) (ls : Array Slot) (H : Heap) (locs : List Loc), lv_has ls 6 [(0, .ref b0), (1, .ref a0), (2, .int x2), (3, .int x3), (4, .int x4_3)] → va_P D vwCl [(b0, .inr (4, [.ref b1, .ref b2, .ref b3])), (b1, .inr (6, [.ref b4])), (b4, .inl (cA 0, 5, .inl f2_3)), (b2, .inr (6, [.ref b5])), (b5, .inl (cA 0, 5, .inl f4_3)), (b3, .inr (6, [.ref b6])), (b6, .inl (cA 0, 5, .inl f6_3)), (a0, .inr (8, [.ref a1])), (a1, .inr (6, [.ref a2])), (a2, .inl (cA 0, 61, .inl f))] H → va_D A [(b0, .inr (4, [.ref b1, .ref b2, .ref b3])), (b1, .inr (6, [.ref b4])), (b4, .inl (cA 0, 5, .inl f2_3)), (b2, .inr (6, [.ref b5])), (b5, .inl (cA 0, 5, .inl f4_3)), (b3, .inr (6, [.ref b6])), (b6, .inl (cA 0, 5, .inl f6_3)), (a0, .inr (8, [.ref a1])), (a1, .inr (6, [.ref a2])), (a2, .inl (cA 0, 61, .inl f))] → va_S A s.heap H locs → LX0_steppedTide_3 N f x3 x2 fu f2_3 f4_3 f6_3 x4_3 = some r → W p l e RM_X0_steppedTide s m args below meth c H locs 0 0 Q (F0 m 3 ls []) := by
    intro fu
    induction fu with
    | zero =>
      intro f2_3 f4_3 f6_3 x4_3 ls H locs hl hP hD hS h
      rw [LX0_steppedTide_3] at h
      exact nn h
    | succ fu ih =>
      intro f2_3 f4_3 f6_3 x4_3 ls H locs hl hP hD hS h
      rw [LX0_steppedTide_3] at h
      refine lv_iload hx hb dX0_steppedTide_3 (lv_at hl 4 rfl) ?_
      refine lv_aload_n hx hb dX0_steppedTide_5 rfl (lv_at hl 1 rfl) ?_
      refine rq_V (v := (some (.int (SX4_moons f)))) (As := []) (rest := [.int x4_3]) (wc := [(a0, .inr (8, [.ref a1])), (a1, .inr (6, [.ref a2])), (a2, .inl (cA 0, 61, .inl f))]) ⟨hx, hb, hml, hfc, hts⟩ hK hP (kX4_moons l D cA a0 a1 a2 f rfl) (cwV 0 hts gX0_steppedTide_X4_moons rfl rfl rfl (by decide +kernel) ⟨(Nat.le_of_ble_eq_true rfl), (Nat.le_of_ble_eq_true rfl)⟩) [7, 8, 9] rfl 7 8 rfl rfl rfl rfl rfl rfl hl.1 (Nat.le_of_ble_eq_true rfl) dX0_steppedTide_6 ⟨(Nat.zero_le _), (Nat.zero_le _)⟩ ?_
      refine lv_icmp_ge (tgt := 65) hx hb dX0_steppedTide_9 (by decide) (fun c1 => ?_) (fun c1 => ?_)
      · have h := ite_t c1 h
        refine lv_iconst (v := 0) hx hb dX0_steppedTide_65 (by decide) ?_
        refine lv_istore hx hb dX0_steppedTide_66 hl (Nat.le_of_ble_eq_true rfl) rfl (fun ls hl => ?_)
        have hl : lv_has ls 6 [(4, .int 0), (0, .ref b0), (1, .ref a0), (2, .int x2), (3, .int x3)] := hl
        have hLX0_steppedTide_68 : ∀ (fu : Nat) (f2_68 : Nat → Int32) (f4_68 : Nat → Int32) (f6_68 : Nat → Int32) (x4_68 : Int32) (ls : Array Slot) (H : Heap) (locs : List Loc), lv_has ls 6 [(0, .ref b0), (1, .ref a0), (2, .int x2), (3, .int x3), (4, .int x4_68)] → va_P D vwCl [(b0, .inr (4, [.ref b1, .ref b2, .ref b3])), (b1, .inr (6, [.ref b4])), (b4, .inl (cA 0, 5, .inl f2_68)), (b2, .inr (6, [.ref b5])), (b5, .inl (cA 0, 5, .inl f4_68)), (b3, .inr (6, [.ref b6])), (b6, .inl (cA 0, 5, .inl f6_68)), (a0, .inr (8, [.ref a1])), (a1, .inr (6, [.ref a2])), (a2, .inl (cA 0, 61, .inl f))] H → va_D A [(b0, .inr (4, [.ref b1, .ref b2, .ref b3])), (b1, .inr (6, [.ref b4])), (b4, .inl (cA 0, 5, .inl f2_68)), (b2, .inr (6, [.ref b5])), (b5, .inl (cA 0, 5, .inl f4_68)), (b3, .inr (6, [.ref b6])), (b6, .inl (cA 0, 5, .inl f6_68)), (a0, .inr (8, [.ref a1])), (a1, .inr (6, [.ref a2])), (a2, .inl (cA 0, 61, .inl f))] → va_S A s.heap H locs → LX0_steppedTide_68 N x3 f x2 fu f2_68 f4_68 f6_68 x4_68 = some r → W p l e RM_X0_steppedTide s m args below meth c H locs 0 0 Q (F0 m 68 ls []) := by
          intro fu
          induction fu with
          | zero =>
            intro f2_68 f4_68 f6_68 x4_68 ls H locs hl hP hD hS h
            rw [LX0_steppedTide_68] at h
            exact nn h
          | succ fu ih =>
            intro f2_68 f4_68 f6_68 x4_68 ls H locs hl hP hD hS h
            rw [LX0_steppedTide_68] at h
            refine lv_iload hx hb dX0_steppedTide_68 (lv_at hl 4 rfl) ?_
            refine lv_iload_n hx hb dX0_steppedTide_70 rfl (lv_at hl 3 rfl) ?_
            refine lv_icmp_ge (tgt := 105) hx hb dX0_steppedTide_71 (by decide) (fun c2 => ?_) (fun c2 => ?_)
            · have h := ite_t c2 h
              refine lv_iconst (v := 0) hx hb dX0_steppedTide_105 (by decide) ?_
              refine lv_istore hx hb dX0_steppedTide_106 hl (Nat.le_of_ble_eq_true rfl) rfl (fun ls hl => ?_)
              have hl : lv_has ls 6 [(4, .int 0), (0, .ref b0), (1, .ref a0), (2, .int x2), (3, .int x3)] := hl
              refine lv_iconst (v := 0) hx hb dX0_steppedTide_108 (by decide) ?_
              refine lv_istore hx hb dX0_steppedTide_109 hl (Nat.le_of_ble_eq_true rfl) rfl (fun ls hl => ?_)
              have hl : lv_has ls 6 [(5, .int 0), (4, .int 0), (0, .ref b0), (1, .ref a0), (2, .int x2), (3, .int x3)] := hl
              have hLX0_steppedTide_111 : ∀ (fu : Nat) (x4_111 : Int32) (x5_111 : Int32) (ls : Array Slot) (H : Heap) (locs : List Loc), lv_has ls 6 [(0, .ref b0), (1, .ref a0), (2, .int x2), (3, .int x3), (4, .int x4_111), (5, .int x5_111)] → va_P D vwCl [(b0, .inr (4, [.ref b1, .ref b2, .ref b3])), (b1, .inr (6, [.ref b4])), (b4, .inl (cA 0, 5, .inl f2_68)), (b2, .inr (6, [.ref b5])), (b5, .inl (cA 0, 5, .inl f4_68)), (b3, .inr (6, [.ref b6])), (b6, .inl (cA 0, 5, .inl f6_68)), (a0, .inr (8, [.ref a1])), (a1, .inr (6, [.ref a2])), (a2, .inl (cA 0, 61, .inl f))] H → va_D A [(b0, .inr (4, [.ref b1, .ref b2, .ref b3])), (b1, .inr (6, [.ref b4])), (b4, .inl (cA 0, 5, .inl f2_68)), (b2, .inr (6, [.ref b5])), (b5, .inl (cA 0, 5, .inl f4_68)), (b3, .inr (6, [.ref b6])), (b6, .inl (cA 0, 5, .inl f6_68)), (a0, .inr (8, [.ref a1])), (a1, .inr (6, [.ref a2])), (a2, .inl (cA 0, 61, .inl f))] → va_S A s.heap H locs → LX0_steppedTide_111 f x2 f2_68 f4_68 f6_68 fu x4_111 x5_111 = some r → W p l e RM_X0_steppedTide s m args below meth c H locs 0 0 Q (F0 m 111 ls []) := by
                intro fu
                induction fu with
                | zero =>
                  intro x4_111 x5_111 ls H locs hl hP hD hS h
                  rw [LX0_steppedTide_111] at h
                  exact nn h
                | succ fu ih =>
                  intro x4_111 x5_111 ls H locs hl hP hD hS h
                  rw [LX0_steppedTide_111] at h
                  refine lv_iload hx hb dX0_steppedTide_111 (lv_at hl 5 rfl) ?_
                  refine lv_aload_n hx hb dX0_steppedTide_113 rfl (lv_at hl 1 rfl) ?_
                  refine rq_V (v := (some (.int (SX4_moons f)))) (As := []) (rest := [.int x5_111]) (wc := [(a0, .inr (8, [.ref a1])), (a1, .inr (6, [.ref a2])), (a2, .inl (cA 0, 61, .inl f))]) ⟨hx, hb, hml, hfc, hts⟩ hK hP (kX4_moons l D cA a0 a1 a2 f rfl) (cwV 0 hts gX0_steppedTide_X4_moons rfl rfl rfl (by decide +kernel) ⟨(Nat.le_of_ble_eq_true rfl), (Nat.le_of_ble_eq_true rfl)⟩) [7, 8, 9] rfl 7 8 rfl rfl rfl rfl rfl rfl hl.1 (Nat.le_of_ble_eq_true rfl) dX0_steppedTide_114 ⟨(Nat.zero_le _), (Nat.zero_le _)⟩ ?_
                  refine lv_icmp_ge (tgt := 154) hx hb dX0_steppedTide_117 (by decide) (fun c3 => ?_) (fun c3 => ?_)
                  · have h := ite_t c3 h
                    refine lv_aload_n hx hb dX0_steppedTide_154 rfl (lv_at hl 1 rfl) ?_
                    refine lv_iload hx hb dX0_steppedTide_155 (lv_at hl 4 rfl) ?_
                    refine lv_iload_n hx hb dX0_steppedTide_157 rfl (lv_at hl 2 rfl) ?_
                    refine rq_V (v := (some (.int (SX4_damped f x4_111 x2)))) (As := [.int x4_111, .int x2]) (rest := []) (wc := [(a0, .inr (8, [.ref a1])), (a1, .inr (6, [.ref a2])), (a2, .inl (cA 0, 61, .inl f))]) ⟨hx, hb, hml, hfc, hts⟩ hK hP (kX4_damped l D cA a0 a1 a2 f x4_111 x2 rfl) (cwV 2 hts gX0_steppedTide_X4_damped rfl rfl rfl (by decide +kernel) ⟨(Nat.le_of_ble_eq_true rfl), (Nat.le_of_ble_eq_true rfl)⟩) [7, 8, 9] rfl 7 8 rfl rfl rfl rfl rfl rfl hl.1 (Nat.le_of_ble_eq_true rfl) dX0_steppedTide_158 ⟨(Nat.zero_le _), (Nat.zero_le _)⟩ ?_
                    have h := Option.some.inj h
                    subst h
                    exact hend (adr []) _ _ _ _ _ _ _ rfl rfl (rtn_i _) hP hD hS dX0_steppedTide_161
                  · have h := ite_f c3 h
                    refine lv_iload hx hb dX0_steppedTide_120 (lv_at hl 4 rfl) ?_
                    refine lv_aload_n hx hb dX0_steppedTide_122 rfl (lv_at hl 1 rfl) ?_
                    refine lv_aload_n hx hb dX0_steppedTide_123 rfl (lv_at hl 0 rfl) ?_
                    refine va_get (D := D) (ci := 4) (v := .ref b3) (C := RX0) (T := TX0) (N := 3) hx hb hts iX0_steppedTide_X0 hfc hK hP 0 rfl rfl 2 (by decide) (hts (.fieldLink RX0 23 "BathtubTides$Forecast" "masses" "LBathtubTides$Row;") (List.mem_of_getElem? (i := 3) rfl)) (fun _ h9 => h9) rfl dX0_steppedTide_124 ?_
                    refine lv_iload hx hb dX0_steppedTide_127 (lv_at hl 5 rfl) ?_
                    refine rq_V (v := (some (.int (SX2_at 5 f6_68 x5_111)))) (As := [.int x5_111]) (rest := [.ref a0, .int x4_111]) (wc := [(b3, .inr (6, [.ref b6])), (b6, .inl (cA 0, 5, .inl f6_68))]) ⟨hx, hb, hml, hfc, hts⟩ hK hP (kX2_at l D cA b3 b6 5 f6_68 x5_111 (Nat.le_of_ble_eq_true rfl) rfl) (cwV 1 hts gX0_steppedTide_X2_at rfl rfl rfl (by decide +kernel) ⟨(Nat.le_of_ble_eq_true rfl), (Nat.le_of_ble_eq_true rfl)⟩) [5, 6] rfl 5 6 rfl rfl rfl rfl rfl rfl hl.1 (Nat.le_of_ble_eq_true rfl) dX0_steppedTide_129 ⟨(Nat.zero_le _), (Nat.zero_le _)⟩ ?_
                    refine lv_aload_n hx hb dX0_steppedTide_132 rfl (lv_at hl 0 rfl) ?_
                    refine va_get (D := D) (ci := 4) (v := .ref b2) (C := RX0) (T := TX0) (N := 3) hx hb hts iX0_steppedTide_X0 hfc hK hP 0 rfl rfl 1 (by decide) (hts (.fieldLink RX0 20 "BathtubTides$Forecast" "places" "LBathtubTides$Row;") (List.mem_of_getElem? (i := 2) rfl)) (fun _ h9 => h9) rfl dX0_steppedTide_133 ?_
                    refine lv_iload hx hb dX0_steppedTide_136 (lv_at hl 5 rfl) ?_
                    refine rq_V (v := (some (.int (SX2_at 5 f4_68 x5_111)))) (As := [.int x5_111]) (rest := [.int (SX2_at 5 f6_68 x5_111), .ref a0, .int x4_111]) (wc := [(b2, .inr (6, [.ref b5])), (b5, .inl (cA 0, 5, .inl f4_68))]) ⟨hx, hb, hml, hfc, hts⟩ hK hP (kX2_at l D cA b2 b5 5 f4_68 x5_111 (Nat.le_of_ble_eq_true rfl) rfl) (cwV 1 hts gX0_steppedTide_X2_at rfl rfl rfl (by decide +kernel) ⟨(Nat.le_of_ble_eq_true rfl), (Nat.le_of_ble_eq_true rfl)⟩) [3, 4] rfl 3 6 rfl rfl rfl rfl rfl rfl hl.1 (Nat.le_of_ble_eq_true rfl) dX0_steppedTide_138 ⟨(Nat.zero_le _), (Nat.zero_le _)⟩ ?_
                    refine lv_iload_n hx hb dX0_steppedTide_141 rfl (lv_at hl 2 rfl) ?_
                    refine rq_V (v := (some (.int (SX4_pull f (SX2_at 5 f6_68 x5_111) (SX2_at 5 f4_68 x5_111) x2)))) (As := [.int (SX2_at 5 f6_68 x5_111), .int (SX2_at 5 f4_68 x5_111), .int x2]) (rest := [.int x4_111]) (wc := [(a0, .inr (8, [.ref a1])), (a1, .inr (6, [.ref a2])), (a2, .inl (cA 0, 61, .inl f))]) ⟨hx, hb, hml, hfc, hts⟩ hK hP (kX4_pull l D cA a0 a1 a2 f (SX2_at 5 f6_68 x5_111) (SX2_at 5 f4_68 x5_111) x2 rfl) (cwV 3 hts gX0_steppedTide_X4_pull rfl rfl rfl (by decide +kernel) ⟨(Nat.le_of_ble_eq_true rfl), (Nat.le_of_ble_eq_true rfl)⟩) [7, 8, 9] rfl 7 8 rfl rfl rfl rfl rfl rfl hl.1 (Nat.le_of_ble_eq_true rfl) dX0_steppedTide_142 ⟨(Nat.zero_le _), (Nat.zero_le _)⟩ ?_
                    refine lv_iadd hx hb dX0_steppedTide_145 ?_
                    refine lv_topi (fun t4 et4 => ?_)
                    have h := lt_e h _ et4
                    refine lv_istore hx hb dX0_steppedTide_146 hl (Nat.le_of_ble_eq_true rfl) rfl (fun ls hl => ?_)
                    have hl : lv_has ls 6 [(4, .int t4), (0, .ref b0), (1, .ref a0), (2, .int x2), (3, .int x3), (5, .int x5_111)] := hl
                    refine lv_iinc (k := 5) (v := x5_111 + 1) hx hb dX0_steppedTide_148 hl rfl (congrArg (fun z => x5_111 + z) lit1) (Nat.le_of_ble_eq_true rfl) rfl (fun ls hl => ?_)
                    have hl : lv_has ls 6 [(5, .int (x5_111 + 1)), (4, .int t4), (0, .ref b0), (1, .ref a0), (2, .int x2), (3, .int x3)] := hl
                    refine lv_goto (tgt := 111) hx hb dX0_steppedTide_151 (by decide) ?_
                    exact ih t4 (x5_111 + 1) _ _ _ (lv_sub hl [2, 3, 4, 5, 1, 0] rfl) hP hD hS h
              exact hLX0_steppedTide_111 N 0 0 _ _ _ (lv_sub hl [2, 3, 4, 5, 1, 0] rfl) hP hD hS h
            · have h := ite_f c2 h
              refine lv_iconst (v := 0) hx hb dX0_steppedTide_74 (by decide) ?_
              refine lv_istore hx hb dX0_steppedTide_75 hl (Nat.le_of_ble_eq_true rfl) rfl (fun ls hl => ?_)
              have hl : lv_has ls 6 [(5, .int 0), (0, .ref b0), (1, .ref a0), (2, .int x2), (3, .int x3), (4, .int x4_68)] := hl
              have hLX0_steppedTide_77 : ∀ (K : (Int32 × (Nat → Int32) × (Nat → Int32) × (Nat → Int32)) → Option (Int32 × (Nat → Int32) × (Nat → Int32) × (Nat → Int32))), (∀ (o5 : Int32 × (Nat → Int32) × (Nat → Int32) × (Nat → Int32)) (ls : Array Slot) (H : Heap) (locs : List Loc), lv_has ls 6 [(0, .ref b0), (1, .ref a0), (2, .int x2), (3, .int x3), (4, .int x4_68), (5, .int o5.1)] → va_P D vwCl [(b0, .inr (4, [.ref b1, .ref b2, .ref b3])), (b1, .inr (6, [.ref b4])), (b4, .inl (cA 0, 5, .inl o5.2.1)), (b2, .inr (6, [.ref b5])), (b5, .inl (cA 0, 5, .inl o5.2.2.1)), (b3, .inr (6, [.ref b6])), (b6, .inl (cA 0, 5, .inl o5.2.2.2)), (a0, .inr (8, [.ref a1])), (a1, .inr (6, [.ref a2])), (a2, .inl (cA 0, 61, .inl f))] H → va_D A [(b0, .inr (4, [.ref b1, .ref b2, .ref b3])), (b1, .inr (6, [.ref b4])), (b4, .inl (cA 0, 5, .inl o5.2.1)), (b2, .inr (6, [.ref b5])), (b5, .inl (cA 0, 5, .inl o5.2.2.1)), (b3, .inr (6, [.ref b6])), (b6, .inl (cA 0, 5, .inl o5.2.2.2)), (a0, .inr (8, [.ref a1])), (a1, .inr (6, [.ref a2])), (a2, .inl (cA 0, 61, .inl f))] → va_S A s.heap H locs → K o5 = some r → W p l e RM_X0_steppedTide s m args below meth c H locs 0 0 Q (F0 m 99 ls [])) → ∀ (fu : Nat) (f2_77 : Nat → Int32) (f4_77 : Nat → Int32) (f6_77 : Nat → Int32) (x5_77 : Int32) (ls : Array Slot) (H : Heap) (locs : List Loc), lv_has ls 6 [(0, .ref b0), (1, .ref a0), (2, .int x2), (3, .int x3), (4, .int x4_68), (5, .int x5_77)] → va_P D vwCl [(b0, .inr (4, [.ref b1, .ref b2, .ref b3])), (b1, .inr (6, [.ref b4])), (b4, .inl (cA 0, 5, .inl f2_77)), (b2, .inr (6, [.ref b5])), (b5, .inl (cA 0, 5, .inl f4_77)), (b3, .inr (6, [.ref b6])), (b6, .inl (cA 0, 5, .inl f6_77)), (a0, .inr (8, [.ref a1])), (a1, .inr (6, [.ref a2])), (a2, .inl (cA 0, 61, .inl f))] H → va_D A [(b0, .inr (4, [.ref b1, .ref b2, .ref b3])), (b1, .inr (6, [.ref b4])), (b4, .inl (cA 0, 5, .inl f2_77)), (b2, .inr (6, [.ref b5])), (b5, .inl (cA 0, 5, .inl f4_77)), (b3, .inr (6, [.ref b6])), (b6, .inl (cA 0, 5, .inl f6_77)), (a0, .inr (8, [.ref a1])), (a1, .inr (6, [.ref a2])), (a2, .inl (cA 0, 61, .inl f))] → va_S A s.heap H locs → LX0_steppedTide_77 K f fu f2_77 f4_77 f6_77 x5_77 = some r → W p l e RM_X0_steppedTide s m args below meth c H locs 0 0 Q (F0 m 77 ls []) := by
                intro K hKk fu
                induction fu with
                | zero =>
                  intro f2_77 f4_77 f6_77 x5_77 ls H locs hl hP hD hS h
                  rw [LX0_steppedTide_77] at h
                  exact nn h
                | succ fu ih =>
                  intro f2_77 f4_77 f6_77 x5_77 ls H locs hl hP hD hS h
                  rw [LX0_steppedTide_77] at h
                  refine lv_iload hx hb dX0_steppedTide_77 (lv_at hl 5 rfl) ?_
                  refine lv_aload_n hx hb dX0_steppedTide_79 rfl (lv_at hl 1 rfl) ?_
                  refine rq_V (v := (some (.int (SX4_moons f)))) (As := []) (rest := [.int x5_77]) (wc := [(a0, .inr (8, [.ref a1])), (a1, .inr (6, [.ref a2])), (a2, .inl (cA 0, 61, .inl f))]) ⟨hx, hb, hml, hfc, hts⟩ hK hP (kX4_moons l D cA a0 a1 a2 f rfl) (cwV 0 hts gX0_steppedTide_X4_moons rfl rfl rfl (by decide +kernel) ⟨(Nat.le_of_ble_eq_true rfl), (Nat.le_of_ble_eq_true rfl)⟩) [7, 8, 9] rfl 7 8 rfl rfl rfl rfl rfl rfl hl.1 (Nat.le_of_ble_eq_true rfl) dX0_steppedTide_80 ⟨(Nat.zero_le _), (Nat.zero_le _)⟩ ?_
                  refine lv_icmp_ge (tgt := 99) hx hb dX0_steppedTide_83 (by decide) (fun c6 => ?_) (fun c6 => ?_)
                  · have h := ite_t c6 h
                    exact hKk (x5_77, f2_77, f4_77, f6_77) _ _ _ (lv_sub hl [0, 1, 2, 3, 4, 5] rfl) hP hD hS h
                  · have h := ite_f c6 h
                    refine lv_aload_n hx hb dX0_steppedTide_86 rfl (lv_at hl 0 rfl) ?_
                    refine lv_aload_n hx hb dX0_steppedTide_87 rfl (lv_at hl 1 rfl) ?_
                    refine lv_iload hx hb dX0_steppedTide_88 (lv_at hl 5 rfl) ?_
                    obtain ⟨o7, ho7, h⟩ := lt_i h
                    refine gq_V (v := (fun as => none)) (As := [.ref a0, .int x5_77]) (rest := []) (wc := [(b0, .inr (4, [.ref b1, .ref b2, .ref b3])), (b1, .inr (6, [.ref b4])), (b4, .inl (cA 0, 5, .inl f2_77)), (b2, .inr (6, [.ref b5])), (b5, .inl (cA 0, 5, .inl f4_77)), (b3, .inr (6, [.ref b6])), (b6, .inl (cA 0, 5, .inl f6_77)), (a0, .inr (8, [.ref a1])), (a1, .inr (6, [.ref a2])), (a2, .inl (cA 0, 61, .inl f))]) (wr := []) (w1 := (fun as => [(b0, .inr (4, [.ref b1, .ref b2, .ref b3])), (b1, .inr (6, [.ref b4])), (b4, .inl (cA 0, 5, .inl o7.1)), (b2, .inr (6, [.ref b5])), (b5, .inl (cA 0, 5, .inl o7.2.1)), (b3, .inr (6, [.ref b6])), (b6, .inl (cA 0, 5, .inl o7.2.2)), (a0, .inr (8, [.ref a1])), (a1, .inr (6, [.ref a2])), (a2, .inl (cA 0, 61, .inl f))])) (ws2 := (fun as => [(b0, .inr (4, [.ref b1, .ref b2, .ref b3])), (b1, .inr (6, [.ref b4])), (b4, .inl (cA 0, 5, .inl o7.1)), (b2, .inr (6, [.ref b5])), (b5, .inl (cA 0, 5, .inl o7.2.1)), (b3, .inr (6, [.ref b6])), (b6, .inl (cA 0, 5, .inl o7.2.2)), (a0, .inr (8, [.ref a1])), (a1, .inr (6, [.ref a2])), (a2, .inl (cA 0, 61, .inl f))])) (st1 := (fun as => [])) ⟨hx, hb, hml, hfc, hts⟩ hK hP hD hS hA (kX0_step l D cA b0 b1 b2 b3 b4 b5 b6 a0 a1 a2 f2_77 f4_77 f6_77 f x5_77 ho7) (cwV 2 hts gX0_steppedTide_X0_step rfl rfl rfl (by decide +kernel) ⟨(Nat.le_of_ble_eq_true rfl), (Nat.le_of_ble_eq_true rfl)⟩) [0, 1, 2, 3, 4, 5, 6, 7, 8, 9] [] [0, 1, 2, 3, 4, 5, 6, 7, 8, 9] rfl rfl rfl rfl (by decide) (fun _ => rfl) rfl 0 4 rfl rfl rfl rfl (fun _ => rfl) rfl hl.1 (Nat.le_of_ble_eq_true rfl) dX0_steppedTide_90 ⟨(Nat.zero_le _), (Nat.zero_le _)⟩ (fun as H locs hP hD hS => ?_)
                    have hP : va_P D vwCl [(b0, .inr (4, [.ref b1, .ref b2, .ref b3])), (b1, .inr (6, [.ref b4])), (b4, .inl (cA 0, 5, .inl o7.1)), (b2, .inr (6, [.ref b5])), (b5, .inl (cA 0, 5, .inl o7.2.1)), (b3, .inr (6, [.ref b6])), (b6, .inl (cA 0, 5, .inl o7.2.2)), (a0, .inr (8, [.ref a1])), (a1, .inr (6, [.ref a2])), (a2, .inl (cA 0, 61, .inl f))] H := hP
                    have hD : va_D A [(b0, .inr (4, [.ref b1, .ref b2, .ref b3])), (b1, .inr (6, [.ref b4])), (b4, .inl (cA 0, 5, .inl o7.1)), (b2, .inr (6, [.ref b5])), (b5, .inl (cA 0, 5, .inl o7.2.1)), (b3, .inr (6, [.ref b6])), (b6, .inl (cA 0, 5, .inl o7.2.2)), (a0, .inr (8, [.ref a1])), (a1, .inr (6, [.ref a2])), (a2, .inl (cA 0, 61, .inl f))] := hD
                    refine lv_iinc (k := 5) (v := x5_77 + 1) hx hb dX0_steppedTide_93 hl rfl (congrArg (fun z => x5_77 + z) lit1) (Nat.le_of_ble_eq_true rfl) rfl (fun ls hl => ?_)
                    have hl : lv_has ls 6 [(5, .int (x5_77 + 1)), (0, .ref b0), (1, .ref a0), (2, .int x2), (3, .int x3), (4, .int x4_68)] := hl
                    refine lv_goto (tgt := 77) hx hb dX0_steppedTide_96 (by decide) ?_
                    exact ih o7.1 o7.2.1 o7.2.2 (x5_77 + 1) _ _ _ (lv_sub hl [1, 2, 3, 4, 5, 0] rfl) hP hD hS h
              refine hLX0_steppedTide_77 _ ?_ N f2_68 f4_68 f6_68 0 _ _ _ (lv_sub hl [1, 2, 3, 4, 5, 0] rfl) hP hD hS h
              intro o5 ls H locs hl hP hD hS h
              refine lv_iinc (k := 4) (v := x4_68 + 1) hx hb dX0_steppedTide_99 hl rfl (congrArg (fun z => x4_68 + z) lit1) (Nat.le_of_ble_eq_true rfl) rfl (fun ls hl => ?_)
              have hl : lv_has ls 6 [(4, .int (x4_68 + 1)), (0, .ref b0), (1, .ref a0), (2, .int x2), (3, .int x3), (5, .int o5.1)] := hl
              refine lv_goto (tgt := 68) hx hb dX0_steppedTide_102 (by decide) ?_
              exact ih o5.2.1 o5.2.2.1 o5.2.2.2 (x4_68 + 1) _ _ _ (lv_sub hl [1, 2, 3, 4, 0] rfl) hP hD hS h
        exact hLX0_steppedTide_68 N f2_3 f4_3 f6_3 0 _ _ _ (lv_sub hl [1, 2, 3, 4, 0] rfl) hP hD hS h
      · have h := ite_f c1 h
        refine lv_aload_n hx hb dX0_steppedTide_12 rfl (lv_at hl 0 rfl) ?_
        refine va_get (D := D) (ci := 4) (v := .ref b1) (C := RX0) (T := TX0) (N := 3) hx hb hts iX0_steppedTide_X0 hfc hK hP 0 rfl rfl 0 (by decide) (hts (.fieldLink RX0 14 "BathtubTides$Forecast" "ages" "LBathtubTides$Row;") (List.mem_of_getElem? (i := 1) rfl)) (fun _ h9 => h9) rfl dX0_steppedTide_13 ?_
        refine lv_iload hx hb dX0_steppedTide_16 (lv_at hl 4 rfl) ?_
        refine lv_aload_n hx hb dX0_steppedTide_18 rfl (lv_at hl 1 rfl) ?_
        refine lv_iload hx hb dX0_steppedTide_19 (lv_at hl 4 rfl) ?_
        refine rq_V (v := (some (.int (SX4_ageNow f x4_3)))) (As := [.int x4_3]) (rest := [.int x4_3, .ref b1]) (wc := [(a0, .inr (8, [.ref a1])), (a1, .inr (6, [.ref a2])), (a2, .inl (cA 0, 61, .inl f))]) ⟨hx, hb, hml, hfc, hts⟩ hK hP (kX4_ageNow l D cA a0 a1 a2 f x4_3 rfl) (cwV 1 hts gX0_steppedTide_X4_ageNow rfl rfl rfl (by decide +kernel) ⟨(Nat.le_of_ble_eq_true rfl), (Nat.le_of_ble_eq_true rfl)⟩) [7, 8, 9] rfl 7 8 rfl rfl rfl rfl rfl rfl hl.1 (Nat.le_of_ble_eq_true rfl) dX0_steppedTide_21 ⟨(Nat.zero_le _), (Nat.zero_le _)⟩ ?_
        obtain ⟨o8, ho8, h⟩ := lt_i h
        refine gq_V (v := (fun as => none)) (As := [.int x4_3, .int (SX4_ageNow f x4_3)]) (rest := []) (wc := [(b1, .inr (6, [.ref b4])), (b4, .inl (cA 0, 5, .inl f2_3))]) (wr := [(b0, .inr (4, [.ref b1, .ref b2, .ref b3])), (b2, .inr (6, [.ref b5])), (b5, .inl (cA 0, 5, .inl f4_3)), (b3, .inr (6, [.ref b6])), (b6, .inl (cA 0, 5, .inl f6_3)), (a0, .inr (8, [.ref a1])), (a1, .inr (6, [.ref a2])), (a2, .inl (cA 0, 61, .inl f))]) (w1 := (fun as => [(b1, .inr (6, [.ref b4])), (b4, .inl (cA 0, 5, .inl o8))])) (ws2 := (fun as => [(b0, .inr (4, [.ref b1, .ref b2, .ref b3])), (b1, .inr (6, [.ref b4])), (b4, .inl (cA 0, 5, .inl o8)), (b2, .inr (6, [.ref b5])), (b5, .inl (cA 0, 5, .inl f4_3)), (b3, .inr (6, [.ref b6])), (b6, .inl (cA 0, 5, .inl f6_3)), (a0, .inr (8, [.ref a1])), (a1, .inr (6, [.ref a2])), (a2, .inl (cA 0, 61, .inl f))])) (st1 := (fun as => [])) ⟨hx, hb, hml, hfc, hts⟩ hK hP hD hS hA (kX2_put l D cA b1 b4 5 f2_3 x4_3 (SX4_ageNow f x4_3) (Nat.le_of_ble_eq_true rfl) ho8) (cwV 2 hts gX0_steppedTide_X2_put rfl rfl rfl (by decide +kernel) ⟨(Nat.le_of_ble_eq_true rfl), (Nat.le_of_ble_eq_true rfl)⟩) [1, 2] [0, 3, 4, 5, 6, 7, 8, 9] [0, 8, 9, 1, 2, 3, 4, 5, 6, 7] rfl rfl rfl rfl (by decide) (fun _ => rfl) rfl 1 6 rfl rfl rfl rfl (fun _ => rfl) rfl hl.1 (Nat.le_of_ble_eq_true rfl) dX0_steppedTide_24 ⟨(Nat.zero_le _), (Nat.zero_le _)⟩ (fun as H locs hP hD hS => ?_)
        have hP : va_P D vwCl [(b0, .inr (4, [.ref b1, .ref b2, .ref b3])), (b1, .inr (6, [.ref b4])), (b4, .inl (cA 0, 5, .inl o8)), (b2, .inr (6, [.ref b5])), (b5, .inl (cA 0, 5, .inl f4_3)), (b3, .inr (6, [.ref b6])), (b6, .inl (cA 0, 5, .inl f6_3)), (a0, .inr (8, [.ref a1])), (a1, .inr (6, [.ref a2])), (a2, .inl (cA 0, 61, .inl f))] H := hP
        have hD : va_D A [(b0, .inr (4, [.ref b1, .ref b2, .ref b3])), (b1, .inr (6, [.ref b4])), (b4, .inl (cA 0, 5, .inl o8)), (b2, .inr (6, [.ref b5])), (b5, .inl (cA 0, 5, .inl f4_3)), (b3, .inr (6, [.ref b6])), (b6, .inl (cA 0, 5, .inl f6_3)), (a0, .inr (8, [.ref a1])), (a1, .inr (6, [.ref a2])), (a2, .inl (cA 0, 61, .inl f))] := hD
        refine lv_aload_n hx hb dX0_steppedTide_27 rfl (lv_at hl 0 rfl) ?_
        refine va_get (D := D) (ci := 4) (v := .ref b2) (C := RX0) (T := TX0) (N := 3) hx hb hts iX0_steppedTide_X0 hfc hK hP 0 rfl rfl 1 (by decide) (hts (.fieldLink RX0 20 "BathtubTides$Forecast" "places" "LBathtubTides$Row;") (List.mem_of_getElem? (i := 2) rfl)) (fun _ h9 => h9) rfl dX0_steppedTide_28 ?_
        refine lv_iload hx hb dX0_steppedTide_31 (lv_at hl 4 rfl) ?_
        refine lv_aload_n hx hb dX0_steppedTide_33 rfl (lv_at hl 1 rfl) ?_
        refine lv_iload hx hb dX0_steppedTide_34 (lv_at hl 4 rfl) ?_
        refine lv_iconst (v := 0) hx hb dX0_steppedTide_36 (by decide) ?_
        refine rq_V (v := (some (.int (SX4_placeAfter f x4_3 0)))) (As := [.int x4_3, .int 0]) (rest := [.int x4_3, .ref b2]) (wc := [(a0, .inr (8, [.ref a1])), (a1, .inr (6, [.ref a2])), (a2, .inl (cA 0, 61, .inl f))]) ⟨hx, hb, hml, hfc, hts⟩ hK hP (kX4_placeAfter l D cA a0 a1 a2 f x4_3 0 rfl) (cwV 2 hts gX0_steppedTide_X4_placeAfter rfl rfl rfl (by decide +kernel) ⟨(Nat.le_of_ble_eq_true rfl), (Nat.le_of_ble_eq_true rfl)⟩) [7, 8, 9] rfl 7 8 rfl rfl rfl rfl rfl rfl hl.1 (Nat.le_of_ble_eq_true rfl) dX0_steppedTide_37 ⟨(Nat.zero_le _), (Nat.zero_le _)⟩ ?_
        obtain ⟨o9, ho9, h⟩ := lt_i h
        refine gq_V (v := (fun as => none)) (As := [.int x4_3, .int (SX4_placeAfter f x4_3 0)]) (rest := []) (wc := [(b2, .inr (6, [.ref b5])), (b5, .inl (cA 0, 5, .inl f4_3))]) (wr := [(b0, .inr (4, [.ref b1, .ref b2, .ref b3])), (b1, .inr (6, [.ref b4])), (b4, .inl (cA 0, 5, .inl o8)), (b3, .inr (6, [.ref b6])), (b6, .inl (cA 0, 5, .inl f6_3)), (a0, .inr (8, [.ref a1])), (a1, .inr (6, [.ref a2])), (a2, .inl (cA 0, 61, .inl f))]) (w1 := (fun as => [(b2, .inr (6, [.ref b5])), (b5, .inl (cA 0, 5, .inl o9))])) (ws2 := (fun as => [(b0, .inr (4, [.ref b1, .ref b2, .ref b3])), (b1, .inr (6, [.ref b4])), (b4, .inl (cA 0, 5, .inl o8)), (b2, .inr (6, [.ref b5])), (b5, .inl (cA 0, 5, .inl o9)), (b3, .inr (6, [.ref b6])), (b6, .inl (cA 0, 5, .inl f6_3)), (a0, .inr (8, [.ref a1])), (a1, .inr (6, [.ref a2])), (a2, .inl (cA 0, 61, .inl f))])) (st1 := (fun as => [])) ⟨hx, hb, hml, hfc, hts⟩ hK hP hD hS hA (kX2_put l D cA b2 b5 5 f4_3 x4_3 (SX4_placeAfter f x4_3 0) (Nat.le_of_ble_eq_true rfl) ho9) (cwV 2 hts gX0_steppedTide_X2_put rfl rfl rfl (by decide +kernel) ⟨(Nat.le_of_ble_eq_true rfl), (Nat.le_of_ble_eq_true rfl)⟩) [3, 4] [0, 1, 2, 5, 6, 7, 8, 9] [0, 1, 2, 8, 9, 3, 4, 5, 6, 7] rfl rfl rfl rfl (by decide) (fun _ => rfl) rfl 3 6 rfl rfl rfl rfl (fun _ => rfl) rfl hl.1 (Nat.le_of_ble_eq_true rfl) dX0_steppedTide_40 ⟨(Nat.zero_le _), (Nat.zero_le _)⟩ (fun as H locs hP hD hS => ?_)
        have hP : va_P D vwCl [(b0, .inr (4, [.ref b1, .ref b2, .ref b3])), (b1, .inr (6, [.ref b4])), (b4, .inl (cA 0, 5, .inl o8)), (b2, .inr (6, [.ref b5])), (b5, .inl (cA 0, 5, .inl o9)), (b3, .inr (6, [.ref b6])), (b6, .inl (cA 0, 5, .inl f6_3)), (a0, .inr (8, [.ref a1])), (a1, .inr (6, [.ref a2])), (a2, .inl (cA 0, 61, .inl f))] H := hP
        have hD : va_D A [(b0, .inr (4, [.ref b1, .ref b2, .ref b3])), (b1, .inr (6, [.ref b4])), (b4, .inl (cA 0, 5, .inl o8)), (b2, .inr (6, [.ref b5])), (b5, .inl (cA 0, 5, .inl o9)), (b3, .inr (6, [.ref b6])), (b6, .inl (cA 0, 5, .inl f6_3)), (a0, .inr (8, [.ref a1])), (a1, .inr (6, [.ref a2])), (a2, .inl (cA 0, 61, .inl f))] := hD
        refine lv_aload_n hx hb dX0_steppedTide_43 rfl (lv_at hl 0 rfl) ?_
        refine va_get (D := D) (ci := 4) (v := .ref b3) (C := RX0) (T := TX0) (N := 3) hx hb hts iX0_steppedTide_X0 hfc hK hP 0 rfl rfl 2 (by decide) (hts (.fieldLink RX0 23 "BathtubTides$Forecast" "masses" "LBathtubTides$Row;") (List.mem_of_getElem? (i := 3) rfl)) (fun _ h9 => h9) rfl dX0_steppedTide_44 ?_
        refine lv_iload hx hb dX0_steppedTide_47 (lv_at hl 4 rfl) ?_
        refine lv_aload_n hx hb dX0_steppedTide_49 rfl (lv_at hl 1 rfl) ?_
        refine lv_iload hx hb dX0_steppedTide_50 (lv_at hl 4 rfl) ?_
        refine lv_iconst (v := 0) hx hb dX0_steppedTide_52 (by decide) ?_
        refine rq_V (v := (some (.int (SX4_massAfter f x4_3 0)))) (As := [.int x4_3, .int 0]) (rest := [.int x4_3, .ref b3]) (wc := [(a0, .inr (8, [.ref a1])), (a1, .inr (6, [.ref a2])), (a2, .inl (cA 0, 61, .inl f))]) ⟨hx, hb, hml, hfc, hts⟩ hK hP (kX4_massAfter l D cA a0 a1 a2 f x4_3 0 rfl) (cwV 2 hts gX0_steppedTide_X4_massAfter rfl rfl rfl (by decide +kernel) ⟨(Nat.le_of_ble_eq_true rfl), (Nat.le_of_ble_eq_true rfl)⟩) [7, 8, 9] rfl 7 8 rfl rfl rfl rfl rfl rfl hl.1 (Nat.le_of_ble_eq_true rfl) dX0_steppedTide_53 ⟨(Nat.zero_le _), (Nat.zero_le _)⟩ ?_
        obtain ⟨o10, ho10, h⟩ := lt_i h
        refine gq_V (v := (fun as => none)) (As := [.int x4_3, .int (SX4_massAfter f x4_3 0)]) (rest := []) (wc := [(b3, .inr (6, [.ref b6])), (b6, .inl (cA 0, 5, .inl f6_3))]) (wr := [(b0, .inr (4, [.ref b1, .ref b2, .ref b3])), (b1, .inr (6, [.ref b4])), (b4, .inl (cA 0, 5, .inl o8)), (b2, .inr (6, [.ref b5])), (b5, .inl (cA 0, 5, .inl o9)), (a0, .inr (8, [.ref a1])), (a1, .inr (6, [.ref a2])), (a2, .inl (cA 0, 61, .inl f))]) (w1 := (fun as => [(b3, .inr (6, [.ref b6])), (b6, .inl (cA 0, 5, .inl o10))])) (ws2 := (fun as => [(b0, .inr (4, [.ref b1, .ref b2, .ref b3])), (b1, .inr (6, [.ref b4])), (b4, .inl (cA 0, 5, .inl o8)), (b2, .inr (6, [.ref b5])), (b5, .inl (cA 0, 5, .inl o9)), (b3, .inr (6, [.ref b6])), (b6, .inl (cA 0, 5, .inl o10)), (a0, .inr (8, [.ref a1])), (a1, .inr (6, [.ref a2])), (a2, .inl (cA 0, 61, .inl f))])) (st1 := (fun as => [])) ⟨hx, hb, hml, hfc, hts⟩ hK hP hD hS hA (kX2_put l D cA b3 b6 5 f6_3 x4_3 (SX4_massAfter f x4_3 0) (Nat.le_of_ble_eq_true rfl) ho10) (cwV 2 hts gX0_steppedTide_X2_put rfl rfl rfl (by decide +kernel) ⟨(Nat.le_of_ble_eq_true rfl), (Nat.le_of_ble_eq_true rfl)⟩) [5, 6] [0, 1, 2, 3, 4, 7, 8, 9] [0, 1, 2, 3, 4, 8, 9, 5, 6, 7] rfl rfl rfl rfl (by decide) (fun _ => rfl) rfl 5 6 rfl rfl rfl rfl (fun _ => rfl) rfl hl.1 (Nat.le_of_ble_eq_true rfl) dX0_steppedTide_56 ⟨(Nat.zero_le _), (Nat.zero_le _)⟩ (fun as H locs hP hD hS => ?_)
        have hP : va_P D vwCl [(b0, .inr (4, [.ref b1, .ref b2, .ref b3])), (b1, .inr (6, [.ref b4])), (b4, .inl (cA 0, 5, .inl o8)), (b2, .inr (6, [.ref b5])), (b5, .inl (cA 0, 5, .inl o9)), (b3, .inr (6, [.ref b6])), (b6, .inl (cA 0, 5, .inl o10)), (a0, .inr (8, [.ref a1])), (a1, .inr (6, [.ref a2])), (a2, .inl (cA 0, 61, .inl f))] H := hP
        have hD : va_D A [(b0, .inr (4, [.ref b1, .ref b2, .ref b3])), (b1, .inr (6, [.ref b4])), (b4, .inl (cA 0, 5, .inl o8)), (b2, .inr (6, [.ref b5])), (b5, .inl (cA 0, 5, .inl o9)), (b3, .inr (6, [.ref b6])), (b6, .inl (cA 0, 5, .inl o10)), (a0, .inr (8, [.ref a1])), (a1, .inr (6, [.ref a2])), (a2, .inl (cA 0, 61, .inl f))] := hD
        refine lv_iinc (k := 4) (v := x4_3 + 1) hx hb dX0_steppedTide_59 hl rfl (congrArg (fun z => x4_3 + z) lit1) (Nat.le_of_ble_eq_true rfl) rfl (fun ls hl => ?_)
        have hl : lv_has ls 6 [(4, .int (x4_3 + 1)), (0, .ref b0), (1, .ref a0), (2, .int x2), (3, .int x3)] := hl
        refine lv_goto (tgt := 3) hx hb dX0_steppedTide_62 (by decide) ?_
        exact ih o8 o9 o10 (x4_3 + 1) _ _ _ (lv_sub hl [1, 2, 3, 4, 0] rfl) hP hD hS h
  exact hLX0_steppedTide_3 N f1 f2 f3 0 _ _ _ (lv_sub hl [1, 2, 3, 4, 0] rfl) hP hD hS h
noncomputable def LX0_agreesIn_2 (N : Nat) (f : Nat → Int32) (x2 : Int32) : Nat → (Nat → Int32) → (Nat → Int32) → (Nat → Int32) → Int32 → Option (Int32 × (Nat → Int32) × (Nat → Int32) × (Nat → Int32))
  | 0, _, _, _, _ => none
  | fu + 1, f2_2, f4_2, f6_2, x3_2 => if 12 ≤ x3_2 then (some ((1, f2_2, f4_2, f6_2))) else (bnd (SX4_tideAfter N f x3_2 x2) (fun o2 : Int32 => bnd (SX0_steppedTide N f2_2 f4_2 f6_2 f x3_2 x2) (fun o3 : Int32 × (Nat → Int32) × (Nat → Int32) × (Nat → Int32) => if o2 = o3.1 then (LX0_agreesIn_2 N f x2 fu o3.2.1 o3.2.2.1 o3.2.2.2 (x3_2 + 1)) else (some ((0, o3.2.1, o3.2.2.1, o3.2.2.2))))))
noncomputable def SX0_agreesIn (N : Nat) (f1 : Nat → Int32) (f2 : Nat → Int32) (f3 : Nat → Int32) (f : Nat → Int32) (x2 : Int32) : Option (Int32 × (Nat → Int32) × (Nat → Int32) × (Nat → Int32)) := LX0_agreesIn_2 N f x2 N f1 f2 f3 0
abbrev RM_X0_agreesIn : Room := { frames := 5, cells := 0, slots := 0, locals := 107 }
set_option maxHeartbeats 4000000 in
theorem kX0_agreesIn (l : Launch) (D : va_G) (cA : Nat → ClassId) (b0 b1 b2 b3 b4 b5 b6 a0 a1 a2 : Nat) (N : Nat) (f1 : Nat → Int32) (f2 : Nat → Int32) (f3 : Nat → Int32) (f : Nat → Int32) (x2 : Int32) {r : Int32 × (Nat → Int32) × (Nat → Int32) × (Nat → Int32)} (hr : SX0_agreesIn N f1 f2 f3 f x2 = some r) {sz : Nat} : Met l yX0_agreesIn wsX0_agreesIn RM_X0_agreesIn (va_Pc [.ref b0, .ref a0, .int x2] (gqB D cA [(b0, .inr (4, [.ref b1, .ref b2, .ref b3])), (b1, .inr (6, [.ref b4])), (b4, .inl (cA 0, 5, .inl f1)), (b2, .inr (6, [.ref b5])), (b5, .inl (cA 0, 5, .inl f2)), (b3, .inr (6, [.ref b6])), (b6, .inl (cA 0, 5, .inl f3)), (a0, .inr (8, [.ref a1])), (a1, .inr (6, [.ref a2])), (a2, .inl (cA 0, 61, .inl f))] sz)) (gqQ D (fun as => (some (.int r.1))) (fun as => [(b0, .inr (4, [.ref b1, .ref b2, .ref b3])), (b1, .inr (6, [.ref b4])), (b4, .inl (cA 0, 5, .inl r.2.1)), (b2, .inr (6, [.ref b5])), (b5, .inl (cA 0, 5, .inl r.2.2.1)), (b3, .inr (6, [.ref b6])), (b6, .inl (cA 0, 5, .inl r.2.2.2)), (a0, .inr (8, [.ref a1])), (a1, .inr (6, [.ref a2])), (a2, .inl (cA 0, 61, .inl f))]) (va_A [(b0, .inr (4, [.ref b1, .ref b2, .ref b3])), (b1, .inr (6, [.ref b4])), (b4, .inl (cA 0, 5, .inl f1)), (b2, .inr (6, [.ref b5])), (b5, .inl (cA 0, 5, .inl f2)), (b3, .inr (6, [.ref b6])), (b6, .inl (cA 0, 5, .inl f3)), (a0, .inr (8, [.ref a1])), (a1, .inr (6, [.ref a2])), (a2, .inl (cA 0, 61, .inl f))] sz)) 0 0 (va_A [(b0, .inr (4, [.ref b1, .ref b2, .ref b3])), (b1, .inr (6, [.ref b4])), (b4, .inl (cA 0, 5, .inl f1)), (b2, .inr (6, [.ref b5])), (b5, .inl (cA 0, 5, .inl f2)), (b3, .inr (6, [.ref b6])), (b6, .inl (cA 0, 5, .inl f3)), (a0, .inr (8, [.ref a1])), (a1, .inr (6, [.ref a2])), (a2, .inl (cA 0, 61, .inl f))] sz) := by
  refine gq_ofW (cc := cX0_agreesIn) (maxL := 4) (ret := (some .boolean)) (by decide) rfl (Nat.le_of_ble_eq_true rfl) (fun p e s m args below meth c ls Q A hx hb hml hts hfc hmn hK hP hD hS hA hl hend => ?_)
  have hfc : s.vm.findClass RX0 = some m.cls := hfc
  have hl : lv_has ls 4 [(0, .ref b0), (1, .ref a0), (2, .int x2)] := hl
  have h := hr
  clear hr
  unfold SX0_agreesIn at h
  refine lv_iconst (v := 0) hx hb dX0_agreesIn_0 (by decide) ?_
  refine lv_istore_n hx hb dX0_agreesIn_1 rfl hl (Nat.le_of_ble_eq_true rfl) rfl (fun ls hl => ?_)
  have hl : lv_has ls 4 [(3, .int 0), (0, .ref b0), (1, .ref a0), (2, .int x2)] := hl
  have hLX0_agreesIn_2 : ∀ (fu : Nat) (f2_2 : Nat → Int32) (f4_2 : Nat → Int32) (f6_2 : Nat → Int32) (x3_2 : Int32) (ls : Array Slot) (H : Heap) (locs : List Loc), lv_has ls 4 [(0, .ref b0), (1, .ref a0), (2, .int x2), (3, .int x3_2)] → va_P D vwCl [(b0, .inr (4, [.ref b1, .ref b2, .ref b3])), (b1, .inr (6, [.ref b4])), (b4, .inl (cA 0, 5, .inl f2_2)), (b2, .inr (6, [.ref b5])), (b5, .inl (cA 0, 5, .inl f4_2)), (b3, .inr (6, [.ref b6])), (b6, .inl (cA 0, 5, .inl f6_2)), (a0, .inr (8, [.ref a1])), (a1, .inr (6, [.ref a2])), (a2, .inl (cA 0, 61, .inl f))] H → va_D A [(b0, .inr (4, [.ref b1, .ref b2, .ref b3])), (b1, .inr (6, [.ref b4])), (b4, .inl (cA 0, 5, .inl f2_2)), (b2, .inr (6, [.ref b5])), (b5, .inl (cA 0, 5, .inl f4_2)), (b3, .inr (6, [.ref b6])), (b6, .inl (cA 0, 5, .inl f6_2)), (a0, .inr (8, [.ref a1])), (a1, .inr (6, [.ref a2])), (a2, .inl (cA 0, 61, .inl f))] → va_S A s.heap H locs → LX0_agreesIn_2 N f x2 fu f2_2 f4_2 f6_2 x3_2 = some r → W p l e RM_X0_agreesIn s m args below meth c H locs 0 0 Q (F0 m 2 ls []) := by
    intro fu
    induction fu with
    | zero =>
      intro f2_2 f4_2 f6_2 x3_2 ls H locs hl hP hD hS h
      rw [LX0_agreesIn_2] at h
      exact nn h
    | succ fu ih =>
      intro f2_2 f4_2 f6_2 x3_2 ls H locs hl hP hD hS h
      rw [LX0_agreesIn_2] at h
      refine lv_iload_n hx hb dX0_agreesIn_2 rfl (lv_at hl 3 rfl) ?_
      refine lv_bipush (v := 12) hx hb dX0_agreesIn_3 (by decide) ?_
      refine lv_icmp_ge (tgt := 32) hx hb dX0_agreesIn_5 (by decide) (fun c1 => ?_) (fun c1 => ?_)
      · have h := ite_t c1 h
        refine lv_iconst (v := 1) hx hb dX0_agreesIn_32 (by decide) ?_
        have h := Option.some.inj h
        subst h
        exact hend (adr []) _ _ _ _ _ _ _ rfl rfl (rtn_n (x := 1) rfl) hP hD hS dX0_agreesIn_33
      · have h := ite_f c1 h
        refine lv_aload_n hx hb dX0_agreesIn_8 rfl (lv_at hl 1 rfl) ?_
        refine lv_iload_n hx hb dX0_agreesIn_9 rfl (lv_at hl 3 rfl) ?_
        refine lv_iload_n hx hb dX0_agreesIn_10 rfl (lv_at hl 2 rfl) ?_
        obtain ⟨o2, ho2, h⟩ := bnd_i h
        refine rq_V (v := (some (.int o2))) (As := [.int x3_2, .int x2]) (rest := []) (wc := [(a0, .inr (8, [.ref a1])), (a1, .inr (6, [.ref a2])), (a2, .inl (cA 0, 61, .inl f))]) ⟨hx, hb, hml, hfc, hts⟩ hK hP (kX4_tideAfter l D cA a0 a1 a2 N f x3_2 x2 ho2) (cwV 2 hts gX0_agreesIn_X4_tideAfter rfl rfl rfl (by decide +kernel) ⟨(Nat.le_of_ble_eq_true rfl), (Nat.le_of_ble_eq_true rfl)⟩) [7, 8, 9] rfl 7 8 rfl rfl rfl rfl rfl rfl hl.1 (Nat.le_of_ble_eq_true rfl) dX0_agreesIn_11 ⟨(Nat.zero_le _), (Nat.zero_le _)⟩ ?_
        refine lv_aload_n hx hb dX0_agreesIn_14 rfl (lv_at hl 0 rfl) ?_
        refine lv_aload_n hx hb dX0_agreesIn_15 rfl (lv_at hl 1 rfl) ?_
        refine lv_iload_n hx hb dX0_agreesIn_16 rfl (lv_at hl 3 rfl) ?_
        refine lv_iload_n hx hb dX0_agreesIn_17 rfl (lv_at hl 2 rfl) ?_
        obtain ⟨o3, ho3, h⟩ := bnd_i h
        refine gq_V (v := (fun as => (some (.int o3.1)))) (As := [.ref a0, .int x3_2, .int x2]) (rest := [.int o2]) (wc := [(b0, .inr (4, [.ref b1, .ref b2, .ref b3])), (b1, .inr (6, [.ref b4])), (b4, .inl (cA 0, 5, .inl f2_2)), (b2, .inr (6, [.ref b5])), (b5, .inl (cA 0, 5, .inl f4_2)), (b3, .inr (6, [.ref b6])), (b6, .inl (cA 0, 5, .inl f6_2)), (a0, .inr (8, [.ref a1])), (a1, .inr (6, [.ref a2])), (a2, .inl (cA 0, 61, .inl f))]) (wr := []) (w1 := (fun as => [(b0, .inr (4, [.ref b1, .ref b2, .ref b3])), (b1, .inr (6, [.ref b4])), (b4, .inl (cA 0, 5, .inl o3.2.1)), (b2, .inr (6, [.ref b5])), (b5, .inl (cA 0, 5, .inl o3.2.2.1)), (b3, .inr (6, [.ref b6])), (b6, .inl (cA 0, 5, .inl o3.2.2.2)), (a0, .inr (8, [.ref a1])), (a1, .inr (6, [.ref a2])), (a2, .inl (cA 0, 61, .inl f))])) (ws2 := (fun as => [(b0, .inr (4, [.ref b1, .ref b2, .ref b3])), (b1, .inr (6, [.ref b4])), (b4, .inl (cA 0, 5, .inl o3.2.1)), (b2, .inr (6, [.ref b5])), (b5, .inl (cA 0, 5, .inl o3.2.2.1)), (b3, .inr (6, [.ref b6])), (b6, .inl (cA 0, 5, .inl o3.2.2.2)), (a0, .inr (8, [.ref a1])), (a1, .inr (6, [.ref a2])), (a2, .inl (cA 0, 61, .inl f))])) (st1 := (fun as => [.int o3.1, .int o2])) ⟨hx, hb, hml, hfc, hts⟩ hK hP hD hS hA (kX0_steppedTide l D cA b0 b1 b2 b3 b4 b5 b6 a0 a1 a2 N f2_2 f4_2 f6_2 f x3_2 x2 ho3) (cwV 3 hts gX0_agreesIn_X0_steppedTide rfl rfl rfl (by decide +kernel) ⟨(Nat.le_of_ble_eq_true rfl), (Nat.le_of_ble_eq_true rfl)⟩) [0, 1, 2, 3, 4, 5, 6, 7, 8, 9] [] [0, 1, 2, 3, 4, 5, 6, 7, 8, 9] rfl rfl rfl rfl (by decide) (fun _ => rfl) rfl 0 4 rfl rfl rfl rfl (fun _ => rfl) rfl hl.1 (Nat.le_of_ble_eq_true rfl) dX0_agreesIn_18 ⟨(Nat.zero_le _), (Nat.zero_le _)⟩ (fun as H locs hP hD hS => ?_)
        have hP : va_P D vwCl [(b0, .inr (4, [.ref b1, .ref b2, .ref b3])), (b1, .inr (6, [.ref b4])), (b4, .inl (cA 0, 5, .inl o3.2.1)), (b2, .inr (6, [.ref b5])), (b5, .inl (cA 0, 5, .inl o3.2.2.1)), (b3, .inr (6, [.ref b6])), (b6, .inl (cA 0, 5, .inl o3.2.2.2)), (a0, .inr (8, [.ref a1])), (a1, .inr (6, [.ref a2])), (a2, .inl (cA 0, 61, .inl f))] H := hP
        have hD : va_D A [(b0, .inr (4, [.ref b1, .ref b2, .ref b3])), (b1, .inr (6, [.ref b4])), (b4, .inl (cA 0, 5, .inl o3.2.1)), (b2, .inr (6, [.ref b5])), (b5, .inl (cA 0, 5, .inl o3.2.2.1)), (b3, .inr (6, [.ref b6])), (b6, .inl (cA 0, 5, .inl o3.2.2.2)), (a0, .inr (8, [.ref a1])), (a1, .inr (6, [.ref a2])), (a2, .inl (cA 0, 61, .inl f))] := hD
        refine lv_icmp_eq (tgt := 26) hx hb dX0_agreesIn_21 (by decide) (fun c4 => ?_) (fun c4 => ?_)
        · have h := ite_t c4 h
          refine lv_iinc (k := 3) (v := x3_2 + 1) hx hb dX0_agreesIn_26 hl rfl (congrArg (fun z => x3_2 + z) lit1) (Nat.le_of_ble_eq_true rfl) rfl (fun ls hl => ?_)
          have hl : lv_has ls 4 [(3, .int (x3_2 + 1)), (0, .ref b0), (1, .ref a0), (2, .int x2)] := hl
          refine lv_goto (tgt := 2) hx hb dX0_agreesIn_29 (by decide) ?_
          exact ih o3.2.1 o3.2.2.1 o3.2.2.2 (x3_2 + 1) _ _ _ (lv_sub hl [1, 2, 3, 0] rfl) hP hD hS h
        · have h := ite_f c4 h
          refine lv_iconst (v := 0) hx hb dX0_agreesIn_24 (by decide) ?_
          have h := Option.some.inj h
          subst h
          exact hend (adr []) _ _ _ _ _ _ _ rfl rfl (rtn_n (x := 0) rfl) hP hD hS dX0_agreesIn_25
  exact hLX0_agreesIn_2 N f1 f2 f3 0 _ _ _ (lv_sub hl [1, 2, 3, 0] rfl) hP hD hS h
noncomputable def LX0_highest_12 (N : Nat) (f : Nat → Int32) (x1 : Int32) : Nat → Int32 → Int32 → Int32 → Option (Int32)
  | 0, _, _, _ => none
  | fu + 1, x2_12, x3_12, x4_12 => if 144 < x4_12 then (some (x2_12)) else (bnd (SX4_tideAfter N f x1 x4_12) (fun o3 : Int32 => lt_ (if o3 ≤ x3_12 then ((x2_12, x3_12)) else ((x4_12, o3))) (fun o5 : Int32 × Int32 => LX0_highest_12 N f x1 fu o5.1 o5.2 (x4_12 + 1))))
noncomputable def SX0_highest (N : Nat) (f : Nat → Int32) (x1 : Int32) : Option (Int32) := bnd (SX4_tideAfter N f x1 0) (fun o1 : Int32 => LX0_highest_12 N f x1 N 0 o1 1)
abbrev RM_X0_highest : Room := { frames := 5, cells := 0, slots := 0, locals := 105 }
set_option maxHeartbeats 4000000 in
theorem kX0_highest (l : Launch) (D : va_G) (cA : Nat → ClassId) (a0 a1 a2 : Nat) (N : Nat) (f : Nat → Int32) (x1 : Int32) {r : Int32} (hr : SX0_highest N f x1 = some r) : Met l yX0_highest wsX0_highest RM_X0_highest (va_Pc [.ref a0, .int x1] (rqB D cA [(a0, .inr (8, [.ref a1])), (a1, .inr (6, [.ref a2])), (a2, .inl (cA 0, 61, .inl f))])) (rqQ (some (.int r))) 0 0 (fun _ => False) := by
  refine rq_ofW (cc := cX0_highest) (maxL := 6) (ret := (some .int)) (by decide) rfl (Nat.le_of_ble_eq_true rfl) (fun p e s m args below meth c ls Q hx hb hml hts hfc hK hP hl hend => ?_)
  have hfc : s.vm.findClass RX0 = some m.cls := hfc
  have hl : lv_has ls 6 [(0, .ref a0), (1, .int x1)] := hl
  have h := hr
  clear hr
  unfold SX0_highest at h
  refine lv_iconst (v := 0) hx hb dX0_highest_0 (by decide) ?_
  refine lv_istore_n hx hb dX0_highest_1 rfl hl (Nat.le_of_ble_eq_true rfl) rfl (fun ls hl => ?_)
  have hl : lv_has ls 6 [(2, .int 0), (0, .ref a0), (1, .int x1)] := hl
  refine lv_aload_n hx hb dX0_highest_2 rfl (lv_at hl 1 rfl) ?_
  refine lv_iload_n hx hb dX0_highest_3 rfl (lv_at hl 2 rfl) ?_
  refine lv_iconst (v := 0) hx hb dX0_highest_4 (by decide) ?_
  obtain ⟨o1, ho1, h⟩ := bnd_i h
  refine rq_V (v := (some (.int o1))) (As := [.int x1, .int 0]) (rest := []) (wc := [(a0, .inr (8, [.ref a1])), (a1, .inr (6, [.ref a2])), (a2, .inl (cA 0, 61, .inl f))]) ⟨hx, hb, hml, hfc, hts⟩ hK hP (kX4_tideAfter l D cA a0 a1 a2 N f x1 0 ho1) (cwV 2 hts gX0_highest_X4_tideAfter rfl rfl rfl (by decide +kernel) ⟨(Nat.le_of_ble_eq_true rfl), (Nat.le_of_ble_eq_true rfl)⟩) [0, 1, 2] rfl 0 8 rfl rfl rfl rfl rfl rfl hl.1 (Nat.le_of_ble_eq_true rfl) dX0_highest_5 ⟨(Nat.zero_le _), (Nat.zero_le _)⟩ ?_
  refine lv_istore_n hx hb dX0_highest_8 rfl hl (Nat.le_of_ble_eq_true rfl) rfl (fun ls hl => ?_)
  have hl : lv_has ls 6 [(3, .int o1), (2, .int 0), (0, .ref a0), (1, .int x1)] := hl
  refine lv_iconst (v := 1) hx hb dX0_highest_9 (by decide) ?_
  refine lv_istore hx hb dX0_highest_10 hl (Nat.le_of_ble_eq_true rfl) rfl (fun ls hl => ?_)
  have hl : lv_has ls 6 [(4, .int 1), (3, .int o1), (2, .int 0), (0, .ref a0), (1, .int x1)] := hl
  have hLX0_highest_12 : ∀ (fu : Nat) (x2_12 : Int32) (x3_12 : Int32) (x4_12 : Int32) (ls : Array Slot), lv_has ls 6 [(0, .ref a0), (1, .int x1), (2, .int x2_12), (3, .int x3_12), (4, .int x4_12)] → LX0_highest_12 N f x1 fu x2_12 x3_12 x4_12 = some r → W p l e RM_X0_highest s m args below meth c s.heap [] 0 0 Q (F0 m 12 ls []) := by
    intro fu
    induction fu with
    | zero =>
      intro x2_12 x3_12 x4_12 ls hl h
      rw [LX0_highest_12] at h
      exact nn h
    | succ fu ih =>
      intro x2_12 x3_12 x4_12 ls hl h
      rw [LX0_highest_12] at h
      refine lv_iload hx hb dX0_highest_12 (lv_at hl 4 rfl) ?_
      refine lv_sipush (v := 144) hx hb dX0_highest_14 (by decide) ?_
      refine lv_icmp_gt (tgt := 47) hx hb dX0_highest_17 (by decide) (fun c2 => ?_) (fun c2 => ?_)
      · have h := ite_t c2 h
        refine lv_iload_n hx hb dX0_highest_47 rfl (lv_at hl 2 rfl) ?_
        have h := Option.some.inj h
        subst h
        exact hend _ _ _ _ rfl (rtn_i _) dX0_highest_48
      · have h := ite_f c2 h
        refine lv_aload_n hx hb dX0_highest_20 rfl (lv_at hl 0 rfl) ?_
        refine lv_iload_n hx hb dX0_highest_21 rfl (lv_at hl 1 rfl) ?_
        refine lv_iload hx hb dX0_highest_22 (lv_at hl 4 rfl) ?_
        obtain ⟨o3, ho3, h⟩ := bnd_i h
        refine rq_V (v := (some (.int o3))) (As := [.int x1, .int x4_12]) (rest := []) (wc := [(a0, .inr (8, [.ref a1])), (a1, .inr (6, [.ref a2])), (a2, .inl (cA 0, 61, .inl f))]) ⟨hx, hb, hml, hfc, hts⟩ hK hP (kX4_tideAfter l D cA a0 a1 a2 N f x1 x4_12 ho3) (cwV 2 hts gX0_highest_X4_tideAfter rfl rfl rfl (by decide +kernel) ⟨(Nat.le_of_ble_eq_true rfl), (Nat.le_of_ble_eq_true rfl)⟩) [0, 1, 2] rfl 0 8 rfl rfl rfl rfl rfl rfl hl.1 (Nat.le_of_ble_eq_true rfl) dX0_highest_24 ⟨(Nat.zero_le _), (Nat.zero_le _)⟩ ?_
        refine lv_istore hx hb dX0_highest_27 hl (Nat.le_of_ble_eq_true rfl) rfl (fun ls hl => ?_)
        have hl : lv_has ls 6 [(5, .int o3), (0, .ref a0), (1, .int x1), (2, .int x2_12), (3, .int x3_12), (4, .int x4_12)] := hl
        refine lv_iload hx hb dX0_highest_29 (lv_at hl 0 rfl) ?_
        refine lv_iload_n hx hb dX0_highest_31 rfl (lv_at hl 4 rfl) ?_
        obtain ⟨o5, ho5, h⟩ := lt_i h
        have ko5 : ∀ (ls : Array Slot), lv_has ls 6 [(0, .ref a0), (1, .int x1), (2, .int o5.1), (3, .int o5.2), (4, .int x4_12), (5, .int o3)] → W p l e RM_X0_highest s m args below meth c s.heap [] 0 0 Q (F0 m 41 ls []) := by
          intro ls hl
          refine lv_iinc (k := 4) (v := x4_12 + 1) hx hb dX0_highest_41 hl rfl (congrArg (fun z => x4_12 + z) lit1) (Nat.le_of_ble_eq_true rfl) rfl (fun ls hl => ?_)
          have hl : lv_has ls 6 [(4, .int (x4_12 + 1)), (0, .ref a0), (1, .int x1), (2, .int o5.1), (3, .int o5.2), (5, .int o3)] := hl
          refine lv_goto (tgt := 12) hx hb dX0_highest_44 (by decide) ?_
          exact ih o5.1 o5.2 (x4_12 + 1) _ (lv_sub hl [1, 2, 3, 4, 0] rfl) h
        clear h
        have h := ho5
        clear ho5
        refine lv_icmp_le (tgt := 41) hx hb dX0_highest_32 (by decide) (fun c4 => ?_) (fun c4 => ?_)
        · have h := ite_t c4 h
          subst h
          exact ko5 _ (lv_sub hl [1, 2, 3, 4, 5, 0] rfl)
        · have h := ite_f c4 h
          refine lv_iload hx hb dX0_highest_35 (lv_at hl 0 rfl) ?_
          refine lv_istore_n hx hb dX0_highest_37 rfl hl (Nat.le_of_ble_eq_true rfl) rfl (fun ls hl => ?_)
          have hl : lv_has ls 6 [(3, .int o3), (5, .int o3), (0, .ref a0), (1, .int x1), (2, .int x2_12), (4, .int x4_12)] := hl
          refine lv_iload hx hb dX0_highest_38 (lv_at hl 5 rfl) ?_
          refine lv_istore_n hx hb dX0_highest_40 rfl hl (Nat.le_of_ble_eq_true rfl) rfl (fun ls hl => ?_)
          have hl : lv_has ls 6 [(2, .int x4_12), (3, .int o3), (5, .int o3), (0, .ref a0), (1, .int x1), (4, .int x4_12)] := hl
          subst h
          exact ko5 _ (lv_sub hl [3, 4, 0, 1, 5, 2] rfl)
  exact hLX0_highest_12 N 0 o1 1 _ (lv_sub hl [3, 4, 2, 1, 0] rfl) h
noncomputable def LX0_lowest_12 (N : Nat) (f : Nat → Int32) (x1 : Int32) : Nat → Int32 → Int32 → Int32 → Option (Int32)
  | 0, _, _, _ => none
  | fu + 1, x2_12, x3_12, x4_12 => if 144 < x4_12 then (some (x2_12)) else (bnd (SX4_tideAfter N f x1 x4_12) (fun o3 : Int32 => lt_ (if x3_12 ≤ o3 then ((x2_12, x3_12)) else ((x4_12, o3))) (fun o5 : Int32 × Int32 => LX0_lowest_12 N f x1 fu o5.1 o5.2 (x4_12 + 1))))
noncomputable def SX0_lowest (N : Nat) (f : Nat → Int32) (x1 : Int32) : Option (Int32) := bnd (SX4_tideAfter N f x1 0) (fun o1 : Int32 => LX0_lowest_12 N f x1 N 0 o1 1)
abbrev RM_X0_lowest : Room := { frames := 5, cells := 0, slots := 0, locals := 105 }
set_option maxHeartbeats 4000000 in
theorem kX0_lowest (l : Launch) (D : va_G) (cA : Nat → ClassId) (a0 a1 a2 : Nat) (N : Nat) (f : Nat → Int32) (x1 : Int32) {r : Int32} (hr : SX0_lowest N f x1 = some r) : Met l yX0_lowest wsX0_lowest RM_X0_lowest (va_Pc [.ref a0, .int x1] (rqB D cA [(a0, .inr (8, [.ref a1])), (a1, .inr (6, [.ref a2])), (a2, .inl (cA 0, 61, .inl f))])) (rqQ (some (.int r))) 0 0 (fun _ => False) := by
  refine rq_ofW (cc := cX0_lowest) (maxL := 6) (ret := (some .int)) (by decide) rfl (Nat.le_of_ble_eq_true rfl) (fun p e s m args below meth c ls Q hx hb hml hts hfc hK hP hl hend => ?_)
  have hfc : s.vm.findClass RX0 = some m.cls := hfc
  have hl : lv_has ls 6 [(0, .ref a0), (1, .int x1)] := hl
  have h := hr
  clear hr
  unfold SX0_lowest at h
  refine lv_iconst (v := 0) hx hb dX0_lowest_0 (by decide) ?_
  refine lv_istore_n hx hb dX0_lowest_1 rfl hl (Nat.le_of_ble_eq_true rfl) rfl (fun ls hl => ?_)
  have hl : lv_has ls 6 [(2, .int 0), (0, .ref a0), (1, .int x1)] := hl
  refine lv_aload_n hx hb dX0_lowest_2 rfl (lv_at hl 1 rfl) ?_
  refine lv_iload_n hx hb dX0_lowest_3 rfl (lv_at hl 2 rfl) ?_
  refine lv_iconst (v := 0) hx hb dX0_lowest_4 (by decide) ?_
  obtain ⟨o1, ho1, h⟩ := bnd_i h
  refine rq_V (v := (some (.int o1))) (As := [.int x1, .int 0]) (rest := []) (wc := [(a0, .inr (8, [.ref a1])), (a1, .inr (6, [.ref a2])), (a2, .inl (cA 0, 61, .inl f))]) ⟨hx, hb, hml, hfc, hts⟩ hK hP (kX4_tideAfter l D cA a0 a1 a2 N f x1 0 ho1) (cwV 2 hts gX0_lowest_X4_tideAfter rfl rfl rfl (by decide +kernel) ⟨(Nat.le_of_ble_eq_true rfl), (Nat.le_of_ble_eq_true rfl)⟩) [0, 1, 2] rfl 0 8 rfl rfl rfl rfl rfl rfl hl.1 (Nat.le_of_ble_eq_true rfl) dX0_lowest_5 ⟨(Nat.zero_le _), (Nat.zero_le _)⟩ ?_
  refine lv_istore_n hx hb dX0_lowest_8 rfl hl (Nat.le_of_ble_eq_true rfl) rfl (fun ls hl => ?_)
  have hl : lv_has ls 6 [(3, .int o1), (2, .int 0), (0, .ref a0), (1, .int x1)] := hl
  refine lv_iconst (v := 1) hx hb dX0_lowest_9 (by decide) ?_
  refine lv_istore hx hb dX0_lowest_10 hl (Nat.le_of_ble_eq_true rfl) rfl (fun ls hl => ?_)
  have hl : lv_has ls 6 [(4, .int 1), (3, .int o1), (2, .int 0), (0, .ref a0), (1, .int x1)] := hl
  have hLX0_lowest_12 : ∀ (fu : Nat) (x2_12 : Int32) (x3_12 : Int32) (x4_12 : Int32) (ls : Array Slot), lv_has ls 6 [(0, .ref a0), (1, .int x1), (2, .int x2_12), (3, .int x3_12), (4, .int x4_12)] → LX0_lowest_12 N f x1 fu x2_12 x3_12 x4_12 = some r → W p l e RM_X0_lowest s m args below meth c s.heap [] 0 0 Q (F0 m 12 ls []) := by
    intro fu
    induction fu with
    | zero =>
      intro x2_12 x3_12 x4_12 ls hl h
      rw [LX0_lowest_12] at h
      exact nn h
    | succ fu ih =>
      intro x2_12 x3_12 x4_12 ls hl h
      rw [LX0_lowest_12] at h
      refine lv_iload hx hb dX0_lowest_12 (lv_at hl 4 rfl) ?_
      refine lv_sipush (v := 144) hx hb dX0_lowest_14 (by decide) ?_
      refine lv_icmp_gt (tgt := 47) hx hb dX0_lowest_17 (by decide) (fun c2 => ?_) (fun c2 => ?_)
      · have h := ite_t c2 h
        refine lv_iload_n hx hb dX0_lowest_47 rfl (lv_at hl 2 rfl) ?_
        have h := Option.some.inj h
        subst h
        exact hend _ _ _ _ rfl (rtn_i _) dX0_lowest_48
      · have h := ite_f c2 h
        refine lv_aload_n hx hb dX0_lowest_20 rfl (lv_at hl 0 rfl) ?_
        refine lv_iload_n hx hb dX0_lowest_21 rfl (lv_at hl 1 rfl) ?_
        refine lv_iload hx hb dX0_lowest_22 (lv_at hl 4 rfl) ?_
        obtain ⟨o3, ho3, h⟩ := bnd_i h
        refine rq_V (v := (some (.int o3))) (As := [.int x1, .int x4_12]) (rest := []) (wc := [(a0, .inr (8, [.ref a1])), (a1, .inr (6, [.ref a2])), (a2, .inl (cA 0, 61, .inl f))]) ⟨hx, hb, hml, hfc, hts⟩ hK hP (kX4_tideAfter l D cA a0 a1 a2 N f x1 x4_12 ho3) (cwV 2 hts gX0_lowest_X4_tideAfter rfl rfl rfl (by decide +kernel) ⟨(Nat.le_of_ble_eq_true rfl), (Nat.le_of_ble_eq_true rfl)⟩) [0, 1, 2] rfl 0 8 rfl rfl rfl rfl rfl rfl hl.1 (Nat.le_of_ble_eq_true rfl) dX0_lowest_24 ⟨(Nat.zero_le _), (Nat.zero_le _)⟩ ?_
        refine lv_istore hx hb dX0_lowest_27 hl (Nat.le_of_ble_eq_true rfl) rfl (fun ls hl => ?_)
        have hl : lv_has ls 6 [(5, .int o3), (0, .ref a0), (1, .int x1), (2, .int x2_12), (3, .int x3_12), (4, .int x4_12)] := hl
        refine lv_iload hx hb dX0_lowest_29 (lv_at hl 0 rfl) ?_
        refine lv_iload_n hx hb dX0_lowest_31 rfl (lv_at hl 4 rfl) ?_
        obtain ⟨o5, ho5, h⟩ := lt_i h
        have ko5 : ∀ (ls : Array Slot), lv_has ls 6 [(0, .ref a0), (1, .int x1), (2, .int o5.1), (3, .int o5.2), (4, .int x4_12), (5, .int o3)] → W p l e RM_X0_lowest s m args below meth c s.heap [] 0 0 Q (F0 m 41 ls []) := by
          intro ls hl
          refine lv_iinc (k := 4) (v := x4_12 + 1) hx hb dX0_lowest_41 hl rfl (congrArg (fun z => x4_12 + z) lit1) (Nat.le_of_ble_eq_true rfl) rfl (fun ls hl => ?_)
          have hl : lv_has ls 6 [(4, .int (x4_12 + 1)), (0, .ref a0), (1, .int x1), (2, .int o5.1), (3, .int o5.2), (5, .int o3)] := hl
          refine lv_goto (tgt := 12) hx hb dX0_lowest_44 (by decide) ?_
          exact ih o5.1 o5.2 (x4_12 + 1) _ (lv_sub hl [1, 2, 3, 4, 0] rfl) h
        clear h
        have h := ho5
        clear ho5
        refine lv_icmp_ge (tgt := 41) hx hb dX0_lowest_32 (by decide) (fun c4 => ?_) (fun c4 => ?_)
        · have h := ite_t c4 h
          subst h
          exact ko5 _ (lv_sub hl [1, 2, 3, 4, 5, 0] rfl)
        · have h := ite_f c4 h
          refine lv_iload hx hb dX0_lowest_35 (lv_at hl 0 rfl) ?_
          refine lv_istore_n hx hb dX0_lowest_37 rfl hl (Nat.le_of_ble_eq_true rfl) rfl (fun ls hl => ?_)
          have hl : lv_has ls 6 [(3, .int o3), (5, .int o3), (0, .ref a0), (1, .int x1), (2, .int x2_12), (4, .int x4_12)] := hl
          refine lv_iload hx hb dX0_lowest_38 (lv_at hl 5 rfl) ?_
          refine lv_istore_n hx hb dX0_lowest_40 rfl hl (Nat.le_of_ble_eq_true rfl) rfl (fun ls hl => ?_)
          have hl : lv_has ls 6 [(2, .int x4_12), (3, .int o3), (5, .int o3), (0, .ref a0), (1, .int x1), (4, .int x4_12)] := hl
          subst h
          exact ko5 _ (lv_sub hl [3, 4, 0, 1, 5, 2] rfl)
  exact hLX0_lowest_12 N 0 o1 1 _ (lv_sub hl [3, 4, 2, 1, 0] rfl) h
noncomputable def SX0_untilMove (f : Nat → Int32) (x1 : Int32) (x2 : Int32) : Int32 := if 1 ≤ (SX4_periodOf f x1) then ((SX4_periodOf f x1) - (irm ((SX4_ageNow f x1) + x2) (SX4_periodOf f x1))) else (1)
abbrev RM_X0_untilMove : Room := { frames := 2, cells := 0, slots := 0, locals := 44 }
set_option maxHeartbeats 4000000 in
theorem kX0_untilMove (l : Launch) (D : va_G) (cA : Nat → ClassId) (a0 a1 a2 : Nat) (f : Nat → Int32) (x1 : Int32) (x2 : Int32) {r : Int32} (hr : SX0_untilMove f x1 x2 = r) : Met l yX0_untilMove wsX0_untilMove RM_X0_untilMove (va_Pc [.ref a0, .int x1, .int x2] (rqB D cA [(a0, .inr (8, [.ref a1])), (a1, .inr (6, [.ref a2])), (a2, .inl (cA 0, 61, .inl f))])) (rqQ (some (.int r))) 0 0 (fun _ => False) := by
  refine rq_ofW (cc := cX0_untilMove) (maxL := 4) (ret := (some .int)) (by decide) rfl (Nat.le_of_ble_eq_true rfl) (fun p e s m args below meth c ls Q hx hb hml hts hfc hK hP hl hend => ?_)
  have hfc : s.vm.findClass RX0 = some m.cls := hfc
  have hl : lv_has ls 4 [(0, .ref a0), (1, .int x1), (2, .int x2)] := hl
  have h := hr
  clear hr
  unfold SX0_untilMove at h
  refine lv_aload_n hx hb dX0_untilMove_0 rfl (lv_at hl 0 rfl) ?_
  refine lv_iload_n hx hb dX0_untilMove_1 rfl (lv_at hl 1 rfl) ?_
  refine rq_V (v := (some (.int (SX4_periodOf f x1)))) (As := [.int x1]) (rest := []) (wc := [(a0, .inr (8, [.ref a1])), (a1, .inr (6, [.ref a2])), (a2, .inl (cA 0, 61, .inl f))]) ⟨hx, hb, hml, hfc, hts⟩ hK hP (kX4_periodOf l D cA a0 a1 a2 f x1 rfl) (cwV 1 hts gX0_untilMove_X4_periodOf rfl rfl rfl (by decide +kernel) ⟨(Nat.le_of_ble_eq_true rfl), (Nat.le_of_ble_eq_true rfl)⟩) [0, 1, 2] rfl 0 8 rfl rfl rfl rfl rfl rfl hl.1 (Nat.le_of_ble_eq_true rfl) dX0_untilMove_2 ⟨(Nat.zero_le _), (Nat.zero_le _)⟩ ?_
  refine lv_istore_n hx hb dX0_untilMove_5 rfl hl (Nat.le_of_ble_eq_true rfl) rfl (fun ls hl => ?_)
  have hl : lv_has ls 4 [(3, .int (SX4_periodOf f x1)), (0, .ref a0), (1, .int x1), (2, .int x2)] := hl
  refine lv_iload_n hx hb dX0_untilMove_6 rfl (lv_at hl 0 rfl) ?_
  refine lv_iconst (v := 1) hx hb dX0_untilMove_7 (by decide) ?_
  refine lv_icmp_ge (tgt := 15) hx hb dX0_untilMove_8 (by decide) (fun c1 => ?_) (fun c1 => ?_)
  · have h := ite_t c1 h
    refine lv_iload_n hx hb dX0_untilMove_15 rfl (lv_at hl 0 rfl) ?_
    refine lv_aload_n hx hb dX0_untilMove_16 rfl (lv_at hl 1 rfl) ?_
    refine lv_iload_n hx hb dX0_untilMove_17 rfl (lv_at hl 2 rfl) ?_
    refine rq_V (v := (some (.int (SX4_ageNow f x1)))) (As := [.int x1]) (rest := [.int (SX4_periodOf f x1)]) (wc := [(a0, .inr (8, [.ref a1])), (a1, .inr (6, [.ref a2])), (a2, .inl (cA 0, 61, .inl f))]) ⟨hx, hb, hml, hfc, hts⟩ hK hP (kX4_ageNow l D cA a0 a1 a2 f x1 rfl) (cwV 1 hts gX0_untilMove_X4_ageNow rfl rfl rfl (by decide +kernel) ⟨(Nat.le_of_ble_eq_true rfl), (Nat.le_of_ble_eq_true rfl)⟩) [0, 1, 2] rfl 0 8 rfl rfl rfl rfl rfl rfl hl.1 (Nat.le_of_ble_eq_true rfl) dX0_untilMove_18 ⟨(Nat.zero_le _), (Nat.zero_le _)⟩ ?_
    refine lv_iload_n hx hb dX0_untilMove_21 rfl (lv_at hl 3 rfl) ?_
    refine lv_iadd hx hb dX0_untilMove_22 ?_
    refine lv_iload_n hx hb dX0_untilMove_23 rfl (lv_at hl 0 rfl) ?_
    refine lv_irem hx hb dX0_untilMove_24 (ne0_b c1) ?_
    refine lv_isub hx hb dX0_untilMove_25 ?_
    subst h
    exact hend _ _ _ _ rfl (rtn_i _) dX0_untilMove_26
  · have h := ite_f c1 h
    refine lv_iconst (v := 1) hx hb dX0_untilMove_11 (by decide) ?_
    refine lv_goto (tgt := 26) hx hb dX0_untilMove_12 (by decide) ?_
    subst h
    exact hend _ _ _ _ rfl (rtn_i _) dX0_untilMove_26
noncomputable def SX0_eclipse (f : Nat → Int32) (x1 : Int32) : Int32 := lt_ (irm ((((SX4_plug f) + 6) + 12) - (SX4_placeAfter f x1 0)) 12) (fun t1 : Int32 => if t1 = 0 then (0) else ((SX0_untilMove f x1 0) + ((t1 - 1) * (SX4_periodOf f x1))))
abbrev RM_X0_eclipse : Room := { frames := 3, cells := 0, slots := 0, locals := 69 }
set_option maxHeartbeats 4000000 in
theorem kX0_eclipse (l : Launch) (D : va_G) (cA : Nat → ClassId) (a0 a1 a2 : Nat) (f : Nat → Int32) (x1 : Int32) {r : Int32} (hr : SX0_eclipse f x1 = r) : Met l yX0_eclipse wsX0_eclipse RM_X0_eclipse (va_Pc [.ref a0, .int x1] (rqB D cA [(a0, .inr (8, [.ref a1])), (a1, .inr (6, [.ref a2])), (a2, .inl (cA 0, 61, .inl f))])) (rqQ (some (.int r))) 0 0 (fun _ => False) := by
  refine rq_ofW (cc := cX0_eclipse) (maxL := 3) (ret := (some .int)) (by decide) rfl (Nat.le_of_ble_eq_true rfl) (fun p e s m args below meth c ls Q hx hb hml hts hfc hK hP hl hend => ?_)
  have hfc : s.vm.findClass RX0 = some m.cls := hfc
  have hl : lv_has ls 3 [(0, .ref a0), (1, .int x1)] := hl
  have h := hr
  clear hr
  unfold SX0_eclipse at h
  refine lv_aload_n hx hb dX0_eclipse_0 rfl (lv_at hl 0 rfl) ?_
  refine rq_V (v := (some (.int (SX4_plug f)))) (As := []) (rest := []) (wc := [(a0, .inr (8, [.ref a1])), (a1, .inr (6, [.ref a2])), (a2, .inl (cA 0, 61, .inl f))]) ⟨hx, hb, hml, hfc, hts⟩ hK hP (kX4_plug l D cA a0 a1 a2 f rfl) (cwV 0 hts gX0_eclipse_X4_plug rfl rfl rfl (by decide +kernel) ⟨(Nat.le_of_ble_eq_true rfl), (Nat.le_of_ble_eq_true rfl)⟩) [0, 1, 2] rfl 0 8 rfl rfl rfl rfl rfl rfl hl.1 (Nat.le_of_ble_eq_true rfl) dX0_eclipse_1 ⟨(Nat.zero_le _), (Nat.zero_le _)⟩ ?_
  refine lv_bipush (v := 6) hx hb dX0_eclipse_4 (by decide) ?_
  refine lv_iadd hx hb dX0_eclipse_6 ?_
  refine lv_bipush (v := 12) hx hb dX0_eclipse_7 (by decide) ?_
  refine lv_iadd hx hb dX0_eclipse_9 ?_
  refine lv_aload_n hx hb dX0_eclipse_10 rfl (lv_at hl 0 rfl) ?_
  refine lv_iload_n hx hb dX0_eclipse_11 rfl (lv_at hl 1 rfl) ?_
  refine lv_iconst (v := 0) hx hb dX0_eclipse_12 (by decide) ?_
  refine rq_V (v := (some (.int (SX4_placeAfter f x1 0)))) (As := [.int x1, .int 0]) (rest := [.int (((SX4_plug f) + 6) + 12)]) (wc := [(a0, .inr (8, [.ref a1])), (a1, .inr (6, [.ref a2])), (a2, .inl (cA 0, 61, .inl f))]) ⟨hx, hb, hml, hfc, hts⟩ hK hP (kX4_placeAfter l D cA a0 a1 a2 f x1 0 rfl) (cwV 2 hts gX0_eclipse_X4_placeAfter rfl rfl rfl (by decide +kernel) ⟨(Nat.le_of_ble_eq_true rfl), (Nat.le_of_ble_eq_true rfl)⟩) [0, 1, 2] rfl 0 8 rfl rfl rfl rfl rfl rfl hl.1 (Nat.le_of_ble_eq_true rfl) dX0_eclipse_13 ⟨(Nat.zero_le _), (Nat.zero_le _)⟩ ?_
  refine lv_isub hx hb dX0_eclipse_16 ?_
  refine lv_bipush (v := 12) hx hb dX0_eclipse_17 (by decide) ?_
  refine lv_irem hx hb dX0_eclipse_19 (by decide) ?_
  refine lv_topi (fun t1 et1 => ?_)
  have h := lt_e h _ et1
  refine lv_istore_n hx hb dX0_eclipse_20 rfl hl (Nat.le_of_ble_eq_true rfl) rfl (fun ls hl => ?_)
  have hl : lv_has ls 3 [(2, .int t1), (0, .ref a0), (1, .int x1)] := hl
  refine lv_iload_n hx hb dX0_eclipse_21 rfl (lv_at hl 0 rfl) ?_
  refine lv_if_ne (tgt := 27) hx hb dX0_eclipse_22 (by decide) (fun c2 => ?_) (fun c2 => ?_)
  · have h := ite_f c2 h
    refine lv_aload_n hx hb dX0_eclipse_27 rfl (lv_at hl 1 rfl) ?_
    refine lv_iload_n hx hb dX0_eclipse_28 rfl (lv_at hl 2 rfl) ?_
    refine lv_iconst (v := 0) hx hb dX0_eclipse_29 (by decide) ?_
    refine rq_S (v := (some (.int (SX0_untilMove f x1 0)))) (As := [.ref a0, .int x1, .int 0]) (rest := []) (wc := [(a0, .inr (8, [.ref a1])), (a1, .inr (6, [.ref a2])), (a2, .inl (cA 0, 61, .inl f))]) ⟨hx, hb, hml, hfc, hts⟩ hK hP (kX0_untilMove l D cA a0 a1 a2 f x1 0 rfl) (va_cwS 3 hts gX0_eclipse_X0_untilMove rfl rfl rfl (by decide +kernel) ⟨(Nat.le_of_ble_eq_true rfl), (Nat.le_of_ble_eq_true rfl)⟩) [0, 1, 2] rfl rfl rfl rfl hl.1 (Nat.le_of_ble_eq_true rfl) dX0_eclipse_30 ⟨(Nat.zero_le _), (Nat.zero_le _)⟩ ?_
    refine lv_iload_n hx hb dX0_eclipse_33 rfl (lv_at hl 0 rfl) ?_
    refine lv_iconst (v := 1) hx hb dX0_eclipse_34 (by decide) ?_
    refine lv_isub hx hb dX0_eclipse_35 ?_
    refine lv_aload_n hx hb dX0_eclipse_36 rfl (lv_at hl 1 rfl) ?_
    refine lv_iload_n hx hb dX0_eclipse_37 rfl (lv_at hl 2 rfl) ?_
    refine rq_V (v := (some (.int (SX4_periodOf f x1)))) (As := [.int x1]) (rest := [.int (t1 - 1), .int (SX0_untilMove f x1 0)]) (wc := [(a0, .inr (8, [.ref a1])), (a1, .inr (6, [.ref a2])), (a2, .inl (cA 0, 61, .inl f))]) ⟨hx, hb, hml, hfc, hts⟩ hK hP (kX4_periodOf l D cA a0 a1 a2 f x1 rfl) (cwV 1 hts gX0_eclipse_X4_periodOf rfl rfl rfl (by decide +kernel) ⟨(Nat.le_of_ble_eq_true rfl), (Nat.le_of_ble_eq_true rfl)⟩) [0, 1, 2] rfl 0 8 rfl rfl rfl rfl rfl rfl hl.1 (Nat.le_of_ble_eq_true rfl) dX0_eclipse_38 ⟨(Nat.zero_le _), (Nat.zero_le _)⟩ ?_
    refine lv_imul hx hb dX0_eclipse_41 ?_
    refine lv_iadd hx hb dX0_eclipse_42 ?_
    subst h
    exact hend _ _ _ _ rfl (rtn_i _) dX0_eclipse_43
  · have h := ite_t c2 h
    refine lv_iconst (v := 0) hx hb dX0_eclipse_25 (by decide) ?_
    subst h
    exact hend _ _ _ _ rfl (rtn_i _) dX0_eclipse_26
noncomputable def LX0_meetingByMinutes_2 (f : Nat → Int32) (x1 : Int32) (x2 : Int32) : Nat → Int32 → Option (Int32)
  | 0, _ => none
  | fu + 1, x3_2 => if 2000 < x3_2 then (some ((-1))) else (if (SX4_placeAfter f x1 x3_2) = (SX4_placeAfter f x2 x3_2) then (some (x3_2)) else (LX0_meetingByMinutes_2 f x1 x2 fu (x3_2 + 1)))
noncomputable def SX0_meetingByMinutes (N : Nat) (f : Nat → Int32) (x1 : Int32) (x2 : Int32) : Option (Int32) := LX0_meetingByMinutes_2 f x1 x2 N 0
abbrev RM_X0_meetingByMinutes : Room := { frames := 3, cells := 0, slots := 0, locals := 69 }
set_option maxHeartbeats 4000000 in
theorem kX0_meetingByMinutes (l : Launch) (D : va_G) (cA : Nat → ClassId) (a0 a1 a2 : Nat) (N : Nat) (f : Nat → Int32) (x1 : Int32) (x2 : Int32) {r : Int32} (hr : SX0_meetingByMinutes N f x1 x2 = some r) : Met l yX0_meetingByMinutes wsX0_meetingByMinutes RM_X0_meetingByMinutes (va_Pc [.ref a0, .int x1, .int x2] (rqB D cA [(a0, .inr (8, [.ref a1])), (a1, .inr (6, [.ref a2])), (a2, .inl (cA 0, 61, .inl f))])) (rqQ (some (.int r))) 0 0 (fun _ => False) := by
  refine rq_ofW (cc := cX0_meetingByMinutes) (maxL := 4) (ret := (some .int)) (by decide) rfl (Nat.le_of_ble_eq_true rfl) (fun p e s m args below meth c ls Q hx hb hml hts hfc hK hP hl hend => ?_)
  have hfc : s.vm.findClass RX0 = some m.cls := hfc
  have hl : lv_has ls 4 [(0, .ref a0), (1, .int x1), (2, .int x2)] := hl
  have h := hr
  clear hr
  unfold SX0_meetingByMinutes at h
  refine lv_iconst (v := 0) hx hb dX0_meetingByMinutes_0 (by decide) ?_
  refine lv_istore_n hx hb dX0_meetingByMinutes_1 rfl hl (Nat.le_of_ble_eq_true rfl) rfl (fun ls hl => ?_)
  have hl : lv_has ls 4 [(3, .int 0), (0, .ref a0), (1, .int x1), (2, .int x2)] := hl
  have hLX0_meetingByMinutes_2 : ∀ (fu : Nat) (x3_2 : Int32) (ls : Array Slot), lv_has ls 4 [(0, .ref a0), (1, .int x1), (2, .int x2), (3, .int x3_2)] → LX0_meetingByMinutes_2 f x1 x2 fu x3_2 = some r → W p l e RM_X0_meetingByMinutes s m args below meth c s.heap [] 0 0 Q (F0 m 2 ls []) := by
    intro fu
    induction fu with
    | zero =>
      intro x3_2 ls hl h
      rw [LX0_meetingByMinutes_2] at h
      exact nn h
    | succ fu ih =>
      intro x3_2 ls hl h
      rw [LX0_meetingByMinutes_2] at h
      refine lv_iload_n hx hb dX0_meetingByMinutes_2 rfl (lv_at hl 3 rfl) ?_
      refine lv_sipush (v := 2000) hx hb dX0_meetingByMinutes_3 (by decide) ?_
      refine lv_icmp_gt (tgt := 32) hx hb dX0_meetingByMinutes_6 (by decide) (fun c1 => ?_) (fun c1 => ?_)
      · have h := ite_t c1 h
        refine lv_iconst (v := (-1)) hx hb dX0_meetingByMinutes_32 (by decide) ?_
        have h := Option.some.inj h
        subst h
        exact hend _ _ _ _ rfl (rtn_i _) dX0_meetingByMinutes_33
      · have h := ite_f c1 h
        refine lv_aload_n hx hb dX0_meetingByMinutes_9 rfl (lv_at hl 0 rfl) ?_
        refine lv_iload_n hx hb dX0_meetingByMinutes_10 rfl (lv_at hl 1 rfl) ?_
        refine lv_iload_n hx hb dX0_meetingByMinutes_11 rfl (lv_at hl 3 rfl) ?_
        refine rq_V (v := (some (.int (SX4_placeAfter f x1 x3_2)))) (As := [.int x1, .int x3_2]) (rest := []) (wc := [(a0, .inr (8, [.ref a1])), (a1, .inr (6, [.ref a2])), (a2, .inl (cA 0, 61, .inl f))]) ⟨hx, hb, hml, hfc, hts⟩ hK hP (kX4_placeAfter l D cA a0 a1 a2 f x1 x3_2 rfl) (cwV 2 hts gX0_meetingByMinutes_X4_placeAfter rfl rfl rfl (by decide +kernel) ⟨(Nat.le_of_ble_eq_true rfl), (Nat.le_of_ble_eq_true rfl)⟩) [0, 1, 2] rfl 0 8 rfl rfl rfl rfl rfl rfl hl.1 (Nat.le_of_ble_eq_true rfl) dX0_meetingByMinutes_12 ⟨(Nat.zero_le _), (Nat.zero_le _)⟩ ?_
        refine lv_aload_n hx hb dX0_meetingByMinutes_15 rfl (lv_at hl 0 rfl) ?_
        refine lv_iload_n hx hb dX0_meetingByMinutes_16 rfl (lv_at hl 2 rfl) ?_
        refine lv_iload_n hx hb dX0_meetingByMinutes_17 rfl (lv_at hl 3 rfl) ?_
        refine rq_V (v := (some (.int (SX4_placeAfter f x2 x3_2)))) (As := [.int x2, .int x3_2]) (rest := [.int (SX4_placeAfter f x1 x3_2)]) (wc := [(a0, .inr (8, [.ref a1])), (a1, .inr (6, [.ref a2])), (a2, .inl (cA 0, 61, .inl f))]) ⟨hx, hb, hml, hfc, hts⟩ hK hP (kX4_placeAfter l D cA a0 a1 a2 f x2 x3_2 rfl) (cwV 2 hts gX0_meetingByMinutes_X4_placeAfter rfl rfl rfl (by decide +kernel) ⟨(Nat.le_of_ble_eq_true rfl), (Nat.le_of_ble_eq_true rfl)⟩) [0, 1, 2] rfl 0 8 rfl rfl rfl rfl rfl rfl hl.1 (Nat.le_of_ble_eq_true rfl) dX0_meetingByMinutes_18 ⟨(Nat.zero_le _), (Nat.zero_le _)⟩ ?_
        refine lv_icmp_ne (tgt := 26) hx hb dX0_meetingByMinutes_21 (by decide) (fun c2 => ?_) (fun c2 => ?_)
        · have h := ite_f c2 h
          refine lv_iinc (k := 3) (v := x3_2 + 1) hx hb dX0_meetingByMinutes_26 hl rfl (congrArg (fun z => x3_2 + z) lit1) (Nat.le_of_ble_eq_true rfl) rfl (fun ls hl => ?_)
          have hl : lv_has ls 4 [(3, .int (x3_2 + 1)), (0, .ref a0), (1, .int x1), (2, .int x2)] := hl
          refine lv_goto (tgt := 2) hx hb dX0_meetingByMinutes_29 (by decide) ?_
          exact ih (x3_2 + 1) _ (lv_sub hl [1, 2, 3, 0] rfl) h
        · have h := ite_t c2 h
          refine lv_iload_n hx hb dX0_meetingByMinutes_24 rfl (lv_at hl 3 rfl) ?_
          have h := Option.some.inj h
          subst h
          exact hend _ _ _ _ rfl (rtn_i _) dX0_meetingByMinutes_25
  exact hLX0_meetingByMinutes_2 N 0 _ (lv_sub hl [1, 2, 3, 0] rfl) h
noncomputable def LX0_meetingByMoves_5 (f : Nat → Int32) (x1 : Int32) (x2 : Int32) : Nat → Int32 → Int32 → Option (Int32)
  | 0, _, _ => none
  | fu + 1, x3_5, x4_5 => if 2000 < x4_5 then (some ((-1))) else (if 2000 < x3_5 then (some ((-1))) else (if (SX4_placeAfter f x1 x3_5) = (SX4_placeAfter f x2 x3_5) then (some (x3_5)) else (lt_ (x3_5 + (imin (SX0_untilMove f x1 x3_5) (SX0_untilMove f x2 x3_5))) (fun t4 : Int32 => LX0_meetingByMoves_5 f x1 x2 fu t4 (x4_5 + 1)))))
noncomputable def SX0_meetingByMoves (N : Nat) (f : Nat → Int32) (x1 : Int32) (x2 : Int32) : Option (Int32) := LX0_meetingByMoves_5 f x1 x2 N 0 0
abbrev RM_X0_meetingByMoves : Room := { frames := 3, cells := 0, slots := 0, locals := 69 }
set_option maxHeartbeats 4000000 in
theorem kX0_meetingByMoves (l : Launch) (D : va_G) (cA : Nat → ClassId) (a0 a1 a2 : Nat) (N : Nat) (f : Nat → Int32) (x1 : Int32) (x2 : Int32) {r : Int32} (hr : SX0_meetingByMoves N f x1 x2 = some r) : Met l yX0_meetingByMoves wsX0_meetingByMoves RM_X0_meetingByMoves (va_Pc [.ref a0, .int x1, .int x2] (rqB D cA [(a0, .inr (8, [.ref a1])), (a1, .inr (6, [.ref a2])), (a2, .inl (cA 0, 61, .inl f))])) (rqQ (some (.int r))) 0 0 (fun _ => False) := by
  refine rq_ofW (cc := cX0_meetingByMoves) (maxL := 5) (ret := (some .int)) (by decide) rfl (Nat.le_of_ble_eq_true rfl) (fun p e s m args below meth c ls Q hx hb hml hts hfc hK hP hl hend => ?_)
  have hfc : s.vm.findClass RX0 = some m.cls := hfc
  have hl : lv_has ls 5 [(0, .ref a0), (1, .int x1), (2, .int x2)] := hl
  have h := hr
  clear hr
  unfold SX0_meetingByMoves at h
  refine lv_iconst (v := 0) hx hb dX0_meetingByMoves_0 (by decide) ?_
  refine lv_istore_n hx hb dX0_meetingByMoves_1 rfl hl (Nat.le_of_ble_eq_true rfl) rfl (fun ls hl => ?_)
  have hl : lv_has ls 5 [(3, .int 0), (0, .ref a0), (1, .int x1), (2, .int x2)] := hl
  refine lv_iconst (v := 0) hx hb dX0_meetingByMoves_2 (by decide) ?_
  refine lv_istore hx hb dX0_meetingByMoves_3 hl (Nat.le_of_ble_eq_true rfl) rfl (fun ls hl => ?_)
  have hl : lv_has ls 5 [(4, .int 0), (3, .int 0), (0, .ref a0), (1, .int x1), (2, .int x2)] := hl
  have hLX0_meetingByMoves_5 : ∀ (fu : Nat) (x3_5 : Int32) (x4_5 : Int32) (ls : Array Slot), lv_has ls 5 [(0, .ref a0), (1, .int x1), (2, .int x2), (3, .int x3_5), (4, .int x4_5)] → LX0_meetingByMoves_5 f x1 x2 fu x3_5 x4_5 = some r → W p l e RM_X0_meetingByMoves s m args below meth c s.heap [] 0 0 Q (F0 m 5 ls []) := by
    intro fu
    induction fu with
    | zero =>
      intro x3_5 x4_5 ls hl h
      rw [LX0_meetingByMoves_5] at h
      exact nn h
    | succ fu ih =>
      intro x3_5 x4_5 ls hl h
      rw [LX0_meetingByMoves_5] at h
      refine lv_iload hx hb dX0_meetingByMoves_5 (lv_at hl 4 rfl) ?_
      refine lv_sipush (v := 2000) hx hb dX0_meetingByMoves_7 (by decide) ?_
      refine lv_icmp_gt (tgt := 61) hx hb dX0_meetingByMoves_10 (by decide) (fun c1 => ?_) (fun c1 => ?_)
      · have h := ite_t c1 h
        refine lv_iconst (v := (-1)) hx hb dX0_meetingByMoves_61 (by decide) ?_
        have h := Option.some.inj h
        subst h
        exact hend _ _ _ _ rfl (rtn_i _) dX0_meetingByMoves_62
      · have h := ite_f c1 h
        refine lv_iload_n hx hb dX0_meetingByMoves_13 rfl (lv_at hl 3 rfl) ?_
        refine lv_sipush (v := 2000) hx hb dX0_meetingByMoves_14 (by decide) ?_
        refine lv_icmp_gt (tgt := 61) hx hb dX0_meetingByMoves_17 (by decide) (fun c2 => ?_) (fun c2 => ?_)
        · have h := ite_t c2 h
          refine lv_iconst (v := (-1)) hx hb dX0_meetingByMoves_61 (by decide) ?_
          have h := Option.some.inj h
          subst h
          exact hend _ _ _ _ rfl (rtn_i _) dX0_meetingByMoves_62
        · have h := ite_f c2 h
          refine lv_aload_n hx hb dX0_meetingByMoves_20 rfl (lv_at hl 0 rfl) ?_
          refine lv_iload_n hx hb dX0_meetingByMoves_21 rfl (lv_at hl 1 rfl) ?_
          refine lv_iload_n hx hb dX0_meetingByMoves_22 rfl (lv_at hl 3 rfl) ?_
          refine rq_V (v := (some (.int (SX4_placeAfter f x1 x3_5)))) (As := [.int x1, .int x3_5]) (rest := []) (wc := [(a0, .inr (8, [.ref a1])), (a1, .inr (6, [.ref a2])), (a2, .inl (cA 0, 61, .inl f))]) ⟨hx, hb, hml, hfc, hts⟩ hK hP (kX4_placeAfter l D cA a0 a1 a2 f x1 x3_5 rfl) (cwV 2 hts gX0_meetingByMoves_X4_placeAfter rfl rfl rfl (by decide +kernel) ⟨(Nat.le_of_ble_eq_true rfl), (Nat.le_of_ble_eq_true rfl)⟩) [0, 1, 2] rfl 0 8 rfl rfl rfl rfl rfl rfl hl.1 (Nat.le_of_ble_eq_true rfl) dX0_meetingByMoves_23 ⟨(Nat.zero_le _), (Nat.zero_le _)⟩ ?_
          refine lv_aload_n hx hb dX0_meetingByMoves_26 rfl (lv_at hl 0 rfl) ?_
          refine lv_iload_n hx hb dX0_meetingByMoves_27 rfl (lv_at hl 2 rfl) ?_
          refine lv_iload_n hx hb dX0_meetingByMoves_28 rfl (lv_at hl 3 rfl) ?_
          refine rq_V (v := (some (.int (SX4_placeAfter f x2 x3_5)))) (As := [.int x2, .int x3_5]) (rest := [.int (SX4_placeAfter f x1 x3_5)]) (wc := [(a0, .inr (8, [.ref a1])), (a1, .inr (6, [.ref a2])), (a2, .inl (cA 0, 61, .inl f))]) ⟨hx, hb, hml, hfc, hts⟩ hK hP (kX4_placeAfter l D cA a0 a1 a2 f x2 x3_5 rfl) (cwV 2 hts gX0_meetingByMoves_X4_placeAfter rfl rfl rfl (by decide +kernel) ⟨(Nat.le_of_ble_eq_true rfl), (Nat.le_of_ble_eq_true rfl)⟩) [0, 1, 2] rfl 0 8 rfl rfl rfl rfl rfl rfl hl.1 (Nat.le_of_ble_eq_true rfl) dX0_meetingByMoves_29 ⟨(Nat.zero_le _), (Nat.zero_le _)⟩ ?_
          refine lv_icmp_ne (tgt := 37) hx hb dX0_meetingByMoves_32 (by decide) (fun c3 => ?_) (fun c3 => ?_)
          · have h := ite_f c3 h
            refine lv_iload_n hx hb dX0_meetingByMoves_37 rfl (lv_at hl 3 rfl) ?_
            refine lv_aload_n hx hb dX0_meetingByMoves_38 rfl (lv_at hl 0 rfl) ?_
            refine lv_iload_n hx hb dX0_meetingByMoves_39 rfl (lv_at hl 1 rfl) ?_
            refine lv_iload_n hx hb dX0_meetingByMoves_40 rfl (lv_at hl 3 rfl) ?_
            refine rq_S (v := (some (.int (SX0_untilMove f x1 x3_5)))) (As := [.ref a0, .int x1, .int x3_5]) (rest := [.int x3_5]) (wc := [(a0, .inr (8, [.ref a1])), (a1, .inr (6, [.ref a2])), (a2, .inl (cA 0, 61, .inl f))]) ⟨hx, hb, hml, hfc, hts⟩ hK hP (kX0_untilMove l D cA a0 a1 a2 f x1 x3_5 rfl) (va_cwS 3 hts gX0_meetingByMoves_X0_untilMove rfl rfl rfl (by decide +kernel) ⟨(Nat.le_of_ble_eq_true rfl), (Nat.le_of_ble_eq_true rfl)⟩) [0, 1, 2] rfl rfl rfl rfl hl.1 (Nat.le_of_ble_eq_true rfl) dX0_meetingByMoves_41 ⟨(Nat.zero_le _), (Nat.zero_le _)⟩ ?_
            refine lv_aload_n hx hb dX0_meetingByMoves_44 rfl (lv_at hl 0 rfl) ?_
            refine lv_iload_n hx hb dX0_meetingByMoves_45 rfl (lv_at hl 2 rfl) ?_
            refine lv_iload_n hx hb dX0_meetingByMoves_46 rfl (lv_at hl 3 rfl) ?_
            refine rq_S (v := (some (.int (SX0_untilMove f x2 x3_5)))) (As := [.ref a0, .int x2, .int x3_5]) (rest := [.int (SX0_untilMove f x1 x3_5), .int x3_5]) (wc := [(a0, .inr (8, [.ref a1])), (a1, .inr (6, [.ref a2])), (a2, .inl (cA 0, 61, .inl f))]) ⟨hx, hb, hml, hfc, hts⟩ hK hP (kX0_untilMove l D cA a0 a1 a2 f x2 x3_5 rfl) (va_cwS 3 hts gX0_meetingByMoves_X0_untilMove rfl rfl rfl (by decide +kernel) ⟨(Nat.le_of_ble_eq_true rfl), (Nat.le_of_ble_eq_true rfl)⟩) [0, 1, 2] rfl rfl rfl rfl hl.1 (Nat.le_of_ble_eq_true rfl) dX0_meetingByMoves_47 ⟨(Nat.zero_le _), (Nat.zero_le _)⟩ ?_
            refine va_mmin hx hb (hml.trans hl.1.symm) hfc (hts (.methodLink RX0 86 Lib.Math.min.name) (List.mem_of_getElem? (i := 1) rfl)) (hts (.static Lib.Math.min.name) (List.mem_of_getElem? (i := 2) rfl)) (hts (.initialized "java/lang/Math") (List.mem_of_getElem? (i := 3) rfl)) (hts (.code Lib.Math.min.name Lib.Math.min.code 2 (some .int)) (List.mem_of_getElem? (i := 4) rfl)) (Nat.le_of_ble_eq_true rfl) (Nat.le_of_ble_eq_true rfl) (Nat.zero_le _) (Nat.zero_le _) dX0_meetingByMoves_50 ?_
            refine lv_iadd hx hb dX0_meetingByMoves_53 ?_
            refine lv_topi (fun t4 et4 => ?_)
            have h := lt_e h _ et4
            refine lv_istore_n hx hb dX0_meetingByMoves_54 rfl hl (Nat.le_of_ble_eq_true rfl) rfl (fun ls hl => ?_)
            have hl : lv_has ls 5 [(3, .int t4), (0, .ref a0), (1, .int x1), (2, .int x2), (4, .int x4_5)] := hl
            refine lv_iinc (k := 4) (v := x4_5 + 1) hx hb dX0_meetingByMoves_55 hl rfl (congrArg (fun z => x4_5 + z) lit1) (Nat.le_of_ble_eq_true rfl) rfl (fun ls hl => ?_)
            have hl : lv_has ls 5 [(4, .int (x4_5 + 1)), (3, .int t4), (0, .ref a0), (1, .int x1), (2, .int x2)] := hl
            refine lv_goto (tgt := 5) hx hb dX0_meetingByMoves_58 (by decide) ?_
            exact ih t4 (x4_5 + 1) _ (lv_sub hl [2, 3, 4, 1, 0] rfl) h
          · have h := ite_t c3 h
            refine lv_iload_n hx hb dX0_meetingByMoves_35 rfl (lv_at hl 3 rfl) ?_
            have h := Option.some.inj h
            subst h
            exact hend _ _ _ _ rfl (rtn_i _) dX0_meetingByMoves_36
  exact hLX0_meetingByMoves_5 N 0 0 _ (lv_sub hl [2, 3, 4, 1, 0] rfl) h
noncomputable def SX1_size (v2 : Int32) : Int32 := v2
theorem iX1_size_X1 : ∀ w ∈ wsX10, w ∈ wsX1_size := fun _ h => List.mem_cons_of_mem _ (List.mem_append_right _ h)
abbrev RM_X1_size : Room := { frames := 0, cells := 0, slots := 0, locals := 0 }
set_option maxHeartbeats 4000000 in
theorem kX1_size (l : Launch) (D : va_G) (cA : Nat → ClassId) (h0 h1 h2 : Nat) (v1 : Int32) (v2 : Int32) (g : Nat → Int32) {r : Int32} (hr : SX1_size v2 = r) : Met l yX1_size wsX1_size RM_X1_size (va_Pc [.ref h0] (rqB D cA [(h0, .inr (5, [.ref h1, .int v1, .int v2])), (h1, .inr (6, [.ref h2])), (h2, .inl (cA 0, 488, .inl g))])) (rqQ (some (.int r))) 0 0 (fun _ => False) := by
  refine rq_ofW (cc := cX1_size) (maxL := 1) (ret := (some .int)) (by decide) rfl (Nat.le_of_ble_eq_true rfl) (fun p e s m args below meth c ls Q hx hb hml hts hfc hK hP hl hend => ?_)
  have hfc : s.vm.findClass RX1 = some m.cls := hfc
  have hl : lv_has ls 1 [(0, .ref h0)] := hl
  have h := hr
  clear hr
  unfold SX1_size at h
  refine lv_aload_n hx hb dX1_size_0 rfl (lv_at hl 0 rfl) ?_
  refine va_get (D := D) (ci := 5) (v := .int v2) (C := RX1) (T := TX1) (N := 3) hx hb hts iX1_size_X1 hfc hK hP 0 rfl rfl 2 (by decide) (hts (.fieldLink RX1 26 "BathtubTides$History" "size" "I") (List.mem_of_getElem? (i := 1) rfl)) (fun _ h9 => h9) rfl dX1_size_1 ?_
  subst h
  exact hend _ _ _ _ rfl (rtn_i _) dX1_size_4
noncomputable def SX1_keep (N : Nat) (v1 : Int32) (v2 : Int32) (g : Nat → Int32) (f : Nat → Int32) : Option ((Nat → Int32) × Int32 × Int32) := bnd (SX2_copy N 488 g 61 f 0 (v1 * 61) 61) (fun o1 : Nat → Int32 => some ((o1, irm (v1 + 1) 8, imin (v2 + 1) 8)))
theorem iX1_keep_X1 : ∀ w ∈ wsX10, w ∈ wsX1_keep := fun _ h => List.mem_cons_of_mem _ (List.mem_append_left _ (List.mem_append_left _ (List.mem_append_right _ h)))
abbrev RM_X1_keep : Room := { frames := 2, cells := 0, slots := 0, locals := 48 }
set_option maxHeartbeats 4000000 in
theorem kX1_keep (l : Launch) (D : va_G) (cA : Nat → ClassId) (h0 h1 h2 a1 a2 : Nat) (N : Nat) (v1 : Int32) (v2 : Int32) (g : Nat → Int32) (f : Nat → Int32) {r : (Nat → Int32) × Int32 × Int32} (hr : SX1_keep N v1 v2 g f = some r) {sz : Nat} : Met l yX1_keep wsX1_keep RM_X1_keep (va_Pc [.ref h0, .ref a1] (gqB D cA [(h0, .inr (5, [.ref h1, .int v1, .int v2])), (h1, .inr (6, [.ref h2])), (h2, .inl (cA 0, 488, .inl g)), (a1, .inr (6, [.ref a2])), (a2, .inl (cA 0, 61, .inl f))] sz)) (gqQ D (fun as => none) (fun as => [(h0, .inr (5, [.ref h1, .int r.2.1, .int r.2.2])), (h1, .inr (6, [.ref h2])), (h2, .inl (cA 0, 488, .inl r.1)), (a1, .inr (6, [.ref a2])), (a2, .inl (cA 0, 61, .inl f))]) (va_A [(h0, .inr (5, [.ref h1, .int v1, .int v2])), (h1, .inr (6, [.ref h2])), (h2, .inl (cA 0, 488, .inl g)), (a1, .inr (6, [.ref a2])), (a2, .inl (cA 0, 61, .inl f))] sz)) 0 0 (va_A [(h0, .inr (5, [.ref h1, .int v1, .int v2])), (h1, .inr (6, [.ref h2])), (h2, .inl (cA 0, 488, .inl g)), (a1, .inr (6, [.ref a2])), (a2, .inl (cA 0, 61, .inl f))] sz) := by
  refine gq_ofW (cc := cX1_keep) (maxL := 2) (ret := none) (by decide) rfl (Nat.le_of_ble_eq_true rfl) (fun p e s m args below meth c ls Q A hx hb hml hts hfc hmn hK hP hD hS hA hl hend => ?_)
  have hfc : s.vm.findClass RX1 = some m.cls := hfc
  have hl : lv_has ls 2 [(0, .ref h0), (1, .ref a1)] := hl
  have h := hr
  clear hr
  unfold SX1_keep at h
  refine lv_aload_n hx hb dX1_keep_0 rfl (lv_at hl 0 rfl) ?_
  refine va_get (D := D) (ci := 5) (v := .ref h1) (C := RX1) (T := TX1) (N := 3) hx hb hts iX1_keep_X1 hfc hK hP 0 rfl rfl 0 (by decide) (hts (.fieldLink RX1 16 "BathtubTides$History" "kept" "LBathtubTides$Row;") (List.mem_of_getElem? (i := 1) rfl)) (fun _ h9 => h9) rfl dX1_keep_1 ?_
  refine lv_aload_n hx hb dX1_keep_4 rfl (lv_at hl 1 rfl) ?_
  refine lv_iconst (v := 0) hx hb dX1_keep_5 (by decide) ?_
  refine lv_aload_n hx hb dX1_keep_6 rfl (lv_at hl 0 rfl) ?_
  refine va_get (D := D) (ci := 5) (v := .int v1) (C := RX1) (T := TX1) (N := 3) hx hb hts iX1_keep_X1 hfc hK hP 0 rfl rfl 1 (by decide) (hts (.fieldLink RX1 22 "BathtubTides$History" "next" "I") (List.mem_of_getElem? (i := 2) rfl)) (fun _ h9 => h9) rfl dX1_keep_7 ?_
  refine lv_bipush (v := 61) hx hb dX1_keep_10 (by decide) ?_
  refine lv_imul hx hb dX1_keep_12 ?_
  refine lv_bipush (v := 61) hx hb dX1_keep_13 (by decide) ?_
  obtain ⟨o1, ho1, h⟩ := bnd_i h
  refine gq_V (v := (fun as => none)) (As := [.ref a1, .int 0, .int (v1 * 61), .int 61]) (rest := []) (wc := [(h1, .inr (6, [.ref h2])), (h2, .inl (cA 0, 488, .inl g)), (a1, .inr (6, [.ref a2])), (a2, .inl (cA 0, 61, .inl f))]) (wr := [(h0, .inr (5, [.ref h1, .int v1, .int v2]))]) (w1 := (fun as => [(h1, .inr (6, [.ref h2])), (h2, .inl (cA 0, 488, .inl o1)), (a1, .inr (6, [.ref a2])), (a2, .inl (cA 0, 61, .inl f))])) (ws2 := (fun as => [(h0, .inr (5, [.ref h1, .int v1, .int v2])), (h1, .inr (6, [.ref h2])), (h2, .inl (cA 0, 488, .inl o1)), (a1, .inr (6, [.ref a2])), (a2, .inl (cA 0, 61, .inl f))])) (st1 := (fun as => [])) ⟨hx, hb, hml, hfc, hts⟩ hK hP hD hS hA (kX2_copy l D cA h1 h2 a1 a2 N 488 g 61 f 0 (v1 * 61) 61 (Nat.le_of_ble_eq_true rfl) (Nat.le_of_ble_eq_true rfl) ho1) (cwV 4 hts gX1_keep_X2_copy rfl rfl rfl (by decide +kernel) ⟨(Nat.le_of_ble_eq_true rfl), (Nat.le_of_ble_eq_true rfl)⟩) [1, 2, 3, 4] [0] [0, 1, 2, 3, 4] rfl rfl rfl rfl (by decide) (fun _ => rfl) rfl 1 6 rfl rfl rfl rfl (fun _ => rfl) rfl hl.1 (Nat.le_of_ble_eq_true rfl) dX1_keep_15 ⟨(Nat.zero_le _), (Nat.zero_le _)⟩ (fun as H locs hP hD hS => ?_)
  have hP : va_P D vwCl [(h0, .inr (5, [.ref h1, .int v1, .int v2])), (h1, .inr (6, [.ref h2])), (h2, .inl (cA 0, 488, .inl o1)), (a1, .inr (6, [.ref a2])), (a2, .inl (cA 0, 61, .inl f))] H := hP
  have hD : va_D A [(h0, .inr (5, [.ref h1, .int v1, .int v2])), (h1, .inr (6, [.ref h2])), (h2, .inl (cA 0, 488, .inl o1)), (a1, .inr (6, [.ref a2])), (a2, .inl (cA 0, 61, .inl f))] := hD
  refine lv_aload_n hx hb dX1_keep_18 rfl (lv_at hl 0 rfl) ?_
  refine lv_aload_n hx hb dX1_keep_19 rfl (lv_at hl 0 rfl) ?_
  refine va_get (D := D) (ci := 5) (v := .int v1) (C := RX1) (T := TX1) (N := 3) hx hb hts iX1_keep_X1 hfc hK hP 0 rfl rfl 1 (by decide) (hts (.fieldLink RX1 22 "BathtubTides$History" "next" "I") (List.mem_of_getElem? (i := 2) rfl)) (fun _ h9 => h9) rfl dX1_keep_20 ?_
  refine lv_iconst (v := 1) hx hb dX1_keep_23 (by decide) ?_
  refine lv_iadd hx hb dX1_keep_24 ?_
  refine lv_bipush (v := 8) hx hb dX1_keep_25 (by decide) ?_
  refine lv_irem hx hb dX1_keep_27 (by decide) ?_
  refine va_put (D := D) (ci := 5) (v := .int (irm (v1 + 1) 8)) (ty := .int) (C := RX1) (T := TX1) (N := 3) hx hb hts iX1_keep_X1 tyX1 tyX1_ok nmX1 hfc hK hP hD hS 0 rfl rfl 1 (by decide) (hts (.fieldLink RX1 22 "BathtubTides$History" "next" "I") (List.mem_of_getElem? (i := 2) rfl)) (fun _ h9 => h9) rfl (by decide +kernel) rfl rfl (Nat.le_of_ble_eq_true rfl) dX1_keep_28 (fun H locs hP hD hS => ?_)
  have hP : va_P D vwCl [(h0, .inr (5, [.ref h1, .int (irm (v1 + 1) 8), .int v2])), (h1, .inr (6, [.ref h2])), (h2, .inl (cA 0, 488, .inl o1)), (a1, .inr (6, [.ref a2])), (a2, .inl (cA 0, 61, .inl f))] H := hP
  have hD : va_D A [(h0, .inr (5, [.ref h1, .int (irm (v1 + 1) 8), .int v2])), (h1, .inr (6, [.ref h2])), (h2, .inl (cA 0, 488, .inl o1)), (a1, .inr (6, [.ref a2])), (a2, .inl (cA 0, 61, .inl f))] := hD
  refine lv_aload_n hx hb dX1_keep_31 rfl (lv_at hl 0 rfl) ?_
  refine lv_aload_n hx hb dX1_keep_32 rfl (lv_at hl 0 rfl) ?_
  refine va_get (D := D) (ci := 5) (v := .int v2) (C := RX1) (T := TX1) (N := 3) hx hb hts iX1_keep_X1 hfc hK hP 0 rfl rfl 2 (by decide) (hts (.fieldLink RX1 26 "BathtubTides$History" "size" "I") (List.mem_of_getElem? (i := 3) rfl)) (fun _ h9 => h9) rfl dX1_keep_33 ?_
  refine lv_iconst (v := 1) hx hb dX1_keep_36 (by decide) ?_
  refine lv_iadd hx hb dX1_keep_37 ?_
  refine lv_bipush (v := 8) hx hb dX1_keep_38 (by decide) ?_
  refine va_mmin hx hb (hml.trans hl.1.symm) hfc (hts (.methodLink RX1 33 Lib.Math.min.name) (List.mem_of_getElem? (i := 4) rfl)) (hts (.static Lib.Math.min.name) (List.mem_of_getElem? (i := 5) rfl)) (hts (.initialized "java/lang/Math") (List.mem_of_getElem? (i := 6) rfl)) (hts (.code Lib.Math.min.name Lib.Math.min.code 2 (some .int)) (List.mem_of_getElem? (i := 7) rfl)) (Nat.le_of_ble_eq_true rfl) (Nat.le_of_ble_eq_true rfl) (Nat.zero_le _) (Nat.zero_le _) dX1_keep_40 ?_
  refine va_put (D := D) (ci := 5) (v := .int (imin (v2 + 1) 8)) (ty := .int) (C := RX1) (T := TX1) (N := 3) hx hb hts iX1_keep_X1 tyX1 tyX1_ok nmX1 hfc hK hP hD hS 0 rfl rfl 2 (by decide) (hts (.fieldLink RX1 26 "BathtubTides$History" "size" "I") (List.mem_of_getElem? (i := 3) rfl)) (fun _ h9 => h9) rfl (by decide +kernel) rfl rfl (Nat.le_of_ble_eq_true rfl) dX1_keep_43 (fun H locs hP hD hS => ?_)
  have hP : va_P D vwCl [(h0, .inr (5, [.ref h1, .int (irm (v1 + 1) 8), .int (imin (v2 + 1) 8)])), (h1, .inr (6, [.ref h2])), (h2, .inl (cA 0, 488, .inl o1)), (a1, .inr (6, [.ref a2])), (a2, .inl (cA 0, 61, .inl f))] H := hP
  have hD : va_D A [(h0, .inr (5, [.ref h1, .int (irm (v1 + 1) 8), .int (imin (v2 + 1) 8)])), (h1, .inr (6, [.ref h2])), (h2, .inl (cA 0, 488, .inl o1)), (a1, .inr (6, [.ref a2])), (a2, .inl (cA 0, 61, .inl f))] := hD
  have h := Option.some.inj h
  subst h
  exact hend (adr []) _ _ _ _ _ _ _ rfl rfl (rtn_v) hP hD hS dX1_keep_46
noncomputable def SX1_takeBack (N : Nat) (v1 : Int32) (v2 : Int32) (g : Nat → Int32) (f : Nat → Int32) : Option ((Nat → Int32) × Int32 × Int32) := if v2 ≤ 0 then (some ((f, v1, v2))) else (bnd (SX2_copy N 61 f 488 g ((irm ((v1 + 8) - 1) 8) * 61) 0 61) (fun o2 : Nat → Int32 => some ((o2, irm ((v1 + 8) - 1) 8, v2 - 1))))
theorem iX1_takeBack_X1 : ∀ w ∈ wsX10, w ∈ wsX1_takeBack := fun _ h => List.mem_cons_of_mem _ (List.mem_append_left _ (List.mem_append_left _ (List.mem_append_right _ h)))
abbrev RM_X1_takeBack : Room := { frames := 2, cells := 0, slots := 0, locals := 48 }
set_option maxHeartbeats 4000000 in
theorem kX1_takeBack (l : Launch) (D : va_G) (cA : Nat → ClassId) (h0 h1 h2 a1 a2 : Nat) (N : Nat) (v1 : Int32) (v2 : Int32) (g : Nat → Int32) (f : Nat → Int32) {r : (Nat → Int32) × Int32 × Int32} (hr : SX1_takeBack N v1 v2 g f = some r) {sz : Nat} : Met l yX1_takeBack wsX1_takeBack RM_X1_takeBack (va_Pc [.ref h0, .ref a1] (gqB D cA [(h0, .inr (5, [.ref h1, .int v1, .int v2])), (h1, .inr (6, [.ref h2])), (h2, .inl (cA 0, 488, .inl g)), (a1, .inr (6, [.ref a2])), (a2, .inl (cA 0, 61, .inl f))] sz)) (gqQ D (fun as => none) (fun as => [(h0, .inr (5, [.ref h1, .int r.2.1, .int r.2.2])), (h1, .inr (6, [.ref h2])), (h2, .inl (cA 0, 488, .inl g)), (a1, .inr (6, [.ref a2])), (a2, .inl (cA 0, 61, .inl r.1))]) (va_A [(h0, .inr (5, [.ref h1, .int v1, .int v2])), (h1, .inr (6, [.ref h2])), (h2, .inl (cA 0, 488, .inl g)), (a1, .inr (6, [.ref a2])), (a2, .inl (cA 0, 61, .inl f))] sz)) 0 0 (va_A [(h0, .inr (5, [.ref h1, .int v1, .int v2])), (h1, .inr (6, [.ref h2])), (h2, .inl (cA 0, 488, .inl g)), (a1, .inr (6, [.ref a2])), (a2, .inl (cA 0, 61, .inl f))] sz) := by
  refine gq_ofW (cc := cX1_takeBack) (maxL := 2) (ret := none) (by decide) rfl (Nat.le_of_ble_eq_true rfl) (fun p e s m args below meth c ls Q A hx hb hml hts hfc hmn hK hP hD hS hA hl hend => ?_)
  have hfc : s.vm.findClass RX1 = some m.cls := hfc
  have hl : lv_has ls 2 [(0, .ref h0), (1, .ref a1)] := hl
  have h := hr
  clear hr
  unfold SX1_takeBack at h
  refine lv_aload_n hx hb dX1_takeBack_0 rfl (lv_at hl 0 rfl) ?_
  refine va_get (D := D) (ci := 5) (v := .int v2) (C := RX1) (T := TX1) (N := 3) hx hb hts iX1_takeBack_X1 hfc hK hP 0 rfl rfl 2 (by decide) (hts (.fieldLink RX1 26 "BathtubTides$History" "size" "I") (List.mem_of_getElem? (i := 1) rfl)) (fun _ h9 => h9) rfl dX1_takeBack_1 ?_
  refine lv_if_le (tgt := 51) hx hb dX1_takeBack_4 (by decide) (fun c1 => ?_) (fun c1 => ?_)
  · have h := ite_t c1 h
    have h := Option.some.inj h
    subst h
    exact hend (adr []) _ _ _ _ _ _ _ rfl rfl (rtn_v) hP hD hS dX1_takeBack_51
  · have h := ite_f c1 h
    refine lv_aload_n hx hb dX1_takeBack_7 rfl (lv_at hl 0 rfl) ?_
    refine lv_dup hx hb dX1_takeBack_8 rfl ?_
    refine va_get (D := D) (ci := 5) (v := .int v2) (C := RX1) (T := TX1) (N := 3) hx hb hts iX1_takeBack_X1 hfc hK hP 0 rfl rfl 2 (by decide) (hts (.fieldLink RX1 26 "BathtubTides$History" "size" "I") (List.mem_of_getElem? (i := 1) rfl)) (fun _ h9 => h9) rfl dX1_takeBack_9 ?_
    refine lv_iconst (v := 1) hx hb dX1_takeBack_12 (by decide) ?_
    refine lv_isub hx hb dX1_takeBack_13 ?_
    refine va_put (D := D) (ci := 5) (v := .int (v2 - 1)) (ty := .int) (C := RX1) (T := TX1) (N := 3) hx hb hts iX1_takeBack_X1 tyX1 tyX1_ok nmX1 hfc hK hP hD hS 0 rfl rfl 2 (by decide) (hts (.fieldLink RX1 26 "BathtubTides$History" "size" "I") (List.mem_of_getElem? (i := 1) rfl)) (fun _ h9 => h9) rfl (by decide +kernel) rfl rfl (Nat.le_of_ble_eq_true rfl) dX1_takeBack_14 (fun H locs hP hD hS => ?_)
    have hP : va_P D vwCl [(h0, .inr (5, [.ref h1, .int v1, .int (v2 - 1)])), (h1, .inr (6, [.ref h2])), (h2, .inl (cA 0, 488, .inl g)), (a1, .inr (6, [.ref a2])), (a2, .inl (cA 0, 61, .inl f))] H := hP
    have hD : va_D A [(h0, .inr (5, [.ref h1, .int v1, .int (v2 - 1)])), (h1, .inr (6, [.ref h2])), (h2, .inl (cA 0, 488, .inl g)), (a1, .inr (6, [.ref a2])), (a2, .inl (cA 0, 61, .inl f))] := hD
    refine lv_aload_n hx hb dX1_takeBack_17 rfl (lv_at hl 0 rfl) ?_
    refine lv_aload_n hx hb dX1_takeBack_18 rfl (lv_at hl 0 rfl) ?_
    refine va_get (D := D) (ci := 5) (v := .int v1) (C := RX1) (T := TX1) (N := 3) hx hb hts iX1_takeBack_X1 hfc hK hP 0 rfl rfl 1 (by decide) (hts (.fieldLink RX1 22 "BathtubTides$History" "next" "I") (List.mem_of_getElem? (i := 2) rfl)) (fun _ h9 => h9) rfl dX1_takeBack_19 ?_
    refine lv_bipush (v := 8) hx hb dX1_takeBack_22 (by decide) ?_
    refine lv_iadd hx hb dX1_takeBack_24 ?_
    refine lv_iconst (v := 1) hx hb dX1_takeBack_25 (by decide) ?_
    refine lv_isub hx hb dX1_takeBack_26 ?_
    refine lv_bipush (v := 8) hx hb dX1_takeBack_27 (by decide) ?_
    refine lv_irem hx hb dX1_takeBack_29 (by decide) ?_
    refine va_put (D := D) (ci := 5) (v := .int (irm ((v1 + 8) - 1) 8)) (ty := .int) (C := RX1) (T := TX1) (N := 3) hx hb hts iX1_takeBack_X1 tyX1 tyX1_ok nmX1 hfc hK hP hD hS 0 rfl rfl 1 (by decide) (hts (.fieldLink RX1 22 "BathtubTides$History" "next" "I") (List.mem_of_getElem? (i := 2) rfl)) (fun _ h9 => h9) rfl (by decide +kernel) rfl rfl (Nat.le_of_ble_eq_true rfl) dX1_takeBack_30 (fun H locs hP hD hS => ?_)
    have hP : va_P D vwCl [(h0, .inr (5, [.ref h1, .int (irm ((v1 + 8) - 1) 8), .int (v2 - 1)])), (h1, .inr (6, [.ref h2])), (h2, .inl (cA 0, 488, .inl g)), (a1, .inr (6, [.ref a2])), (a2, .inl (cA 0, 61, .inl f))] H := hP
    have hD : va_D A [(h0, .inr (5, [.ref h1, .int (irm ((v1 + 8) - 1) 8), .int (v2 - 1)])), (h1, .inr (6, [.ref h2])), (h2, .inl (cA 0, 488, .inl g)), (a1, .inr (6, [.ref a2])), (a2, .inl (cA 0, 61, .inl f))] := hD
    refine lv_aload_n hx hb dX1_takeBack_33 rfl (lv_at hl 1 rfl) ?_
    refine lv_aload_n hx hb dX1_takeBack_34 rfl (lv_at hl 0 rfl) ?_
    refine va_get (D := D) (ci := 5) (v := .ref h1) (C := RX1) (T := TX1) (N := 3) hx hb hts iX1_takeBack_X1 hfc hK hP 0 rfl rfl 0 (by decide) (hts (.fieldLink RX1 16 "BathtubTides$History" "kept" "LBathtubTides$Row;") (List.mem_of_getElem? (i := 3) rfl)) (fun _ h9 => h9) rfl dX1_takeBack_35 ?_
    refine lv_aload_n hx hb dX1_takeBack_38 rfl (lv_at hl 0 rfl) ?_
    refine va_get (D := D) (ci := 5) (v := .int (irm ((v1 + 8) - 1) 8)) (C := RX1) (T := TX1) (N := 3) hx hb hts iX1_takeBack_X1 hfc hK hP 0 rfl rfl 1 (by decide) (hts (.fieldLink RX1 22 "BathtubTides$History" "next" "I") (List.mem_of_getElem? (i := 2) rfl)) (fun _ h9 => h9) rfl dX1_takeBack_39 ?_
    refine lv_bipush (v := 61) hx hb dX1_takeBack_42 (by decide) ?_
    refine lv_imul hx hb dX1_takeBack_44 ?_
    refine lv_iconst (v := 0) hx hb dX1_takeBack_45 (by decide) ?_
    refine lv_bipush (v := 61) hx hb dX1_takeBack_46 (by decide) ?_
    obtain ⟨o2, ho2, h⟩ := bnd_i h
    refine gq_V (v := (fun as => none)) (As := [.ref h1, .int ((irm ((v1 + 8) - 1) 8) * 61), .int 0, .int 61]) (rest := []) (wc := [(a1, .inr (6, [.ref a2])), (a2, .inl (cA 0, 61, .inl f)), (h1, .inr (6, [.ref h2])), (h2, .inl (cA 0, 488, .inl g))]) (wr := [(h0, .inr (5, [.ref h1, .int (irm ((v1 + 8) - 1) 8), .int (v2 - 1)]))]) (w1 := (fun as => [(a1, .inr (6, [.ref a2])), (a2, .inl (cA 0, 61, .inl o2)), (h1, .inr (6, [.ref h2])), (h2, .inl (cA 0, 488, .inl g))])) (ws2 := (fun as => [(h0, .inr (5, [.ref h1, .int (irm ((v1 + 8) - 1) 8), .int (v2 - 1)])), (h1, .inr (6, [.ref h2])), (h2, .inl (cA 0, 488, .inl g)), (a1, .inr (6, [.ref a2])), (a2, .inl (cA 0, 61, .inl o2))])) (st1 := (fun as => [])) ⟨hx, hb, hml, hfc, hts⟩ hK hP hD hS hA (kX2_copy l D cA a1 a2 h1 h2 N 61 f 488 g ((irm ((v1 + 8) - 1) 8) * 61) 0 61 (Nat.le_of_ble_eq_true rfl) (Nat.le_of_ble_eq_true rfl) ho2) (cwV 4 hts gX1_takeBack_X2_copy rfl rfl rfl (by decide +kernel) ⟨(Nat.le_of_ble_eq_true rfl), (Nat.le_of_ble_eq_true rfl)⟩) [3, 4, 1, 2] [0] [0, 3, 4, 1, 2] rfl rfl rfl rfl (by decide) (fun _ => rfl) rfl 3 6 rfl rfl rfl rfl (fun _ => rfl) rfl hl.1 (Nat.le_of_ble_eq_true rfl) dX1_takeBack_48 ⟨(Nat.zero_le _), (Nat.zero_le _)⟩ (fun as H locs hP hD hS => ?_)
    have hP : va_P D vwCl [(h0, .inr (5, [.ref h1, .int (irm ((v1 + 8) - 1) 8), .int (v2 - 1)])), (h1, .inr (6, [.ref h2])), (h2, .inl (cA 0, 488, .inl g)), (a1, .inr (6, [.ref a2])), (a2, .inl (cA 0, 61, .inl o2))] H := hP
    have hD : va_D A [(h0, .inr (5, [.ref h1, .int (irm ((v1 + 8) - 1) 8), .int (v2 - 1)])), (h1, .inr (6, [.ref h2])), (h2, .inl (cA 0, 488, .inl g)), (a1, .inr (6, [.ref a2])), (a2, .inl (cA 0, 61, .inl o2))] := hD
    have h := Option.some.inj h
    subst h
    exact hend (adr []) _ _ _ _ _ _ _ rfl rfl (rtn_v) hP hD hS dX1_takeBack_51