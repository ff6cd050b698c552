noncomputable def SJ5_isLatin1_aae02 : Unit := ()
theorem iJ5_isLatin1_aae02_J4 : ∀ w ∈ wsJ40, w ∈ wsJ5_isLatin1_aae02 := fun _ h => List.mem_cons_of_mem _ (List.mem_append_right _ h)
abbrev RM_J5_isLatin1_aae02 : Room := { frames := 0, cells := 0, slots := 0, locals := 0 }
set_option maxHeartbeats 4000000 in
theorem kJ5_isLatin1_aae02 (l : Launch) (D : va_G) (cA : Nat → ClassId) (G : eG) (s0 s1 : Nat) (n : Nat) (f : Nat → Int32) (ml : Int32) (c0 : Int32) {r : Unit} (hr : SJ5_isLatin1_aae02 = r) : Met l yJ5_isLatin1_aae02 wsJ5_isLatin1_aae02 RM_J5_isLatin1_aae02 (va_Pc [.ref s0] (rqEB G D cA [(s0, .inr (1, [.ref s1, .int 0, .int ml, .int c0])), (s1, .inl (cA 1, n, .inl f))])) (rqQ (some (.int 1))) 0 0 (fun _ => False) := by
  refine rqE_ofW (cc := cJ5_isLatin1_aae02) (maxL := 1) (ret := (some .boolean)) (by decide) rfl (Nat.le_of_ble_eq_true rfl) (fun p e s m args below meth c ls Q hx hb hml hts hfc hK hP hS hEV hl hend => ?_)
  have hfc : s.vm.findClass RJ5 = some m.cls := hfc
  have hl : lv_has ls 1 [(0, .ref s0)] := hl
  have h := hr
  clear hr
  unfold SJ5_isLatin1_aae02 at h
  refine va_gets (v := .int 1) hx hb hEV.2.1 hS hfc (hts (.fieldLink RJ5 18 "java/lang/String" "COMPACT_STRINGS" "Z") (List.mem_of_getElem? (i := 1) rfl)) (fun _ h9 => h9) dJ5_isLatin1_aae02_0 ?_
  refine lv_if_eq (tgt := 17) hx hb dJ5_isLatin1_aae02_3 (by decide) (fun c => absurd c (by decide)) (fun _ => ?_)
  refine lv_aload_n hx hb dJ5_isLatin1_aae02_6 rfl (lv_at hl 0 rfl) ?_
  refine va_get (D := D) (ci := 1) (v := .int 0) (C := RJ4) (T := TJ4) (N := 4) hx hb hts iJ5_isLatin1_aae02_J4 hfc hK hP 0 rfl rfl 1 (by decide) (hts (.fieldLink RJ5 22 "java/lang/AbstractStringBuilder" "coder" "B") (List.mem_of_getElem? (i := 2) rfl)) (fun _ h9 => h9) rfl dJ5_isLatin1_aae02_7 ?_
  refine lv_if_ne (tgt := 17) hx hb dJ5_isLatin1_aae02_10 (by decide) (fun c => absurd (by decide) c) (fun _ => ?_)
  refine lv_iconst (v := 1) hx hb dJ5_isLatin1_aae02_13 (by decide) ?_
  refine lv_goto (tgt := 18) hx hb dJ5_isLatin1_aae02_14 (by decide) ?_
  subst h
  exact hend _ _ _ _ rfl (rtn_n (x := 1) rfl) dJ5_isLatin1_aae02_18

noncomputable def SJ5_length_8abf5 (c0 : Int32) : Int32 := c0
theorem iJ5_length_8abf5_J4 : ∀ w ∈ wsJ40, w ∈ wsJ5_length_8abf5 := fun _ h => List.mem_cons_of_mem _ (List.mem_append_right _ h)
abbrev RM_J5_length_8abf5 : Room := { frames := 0, cells := 0, slots := 0, locals := 0 }
set_option maxHeartbeats 4000000 in
theorem kJ5_length_8abf5 (l : Launch) (D : va_G) (cA : Nat → ClassId) (s0 s1 : Nat) (n : Nat) (f : Nat → Int32) (ml : Int32) (c0 : Int32) {r : Int32} (hr : SJ5_length_8abf5 c0 = r) : Met l yJ5_length_8abf5 wsJ5_length_8abf5 RM_J5_length_8abf5 (va_Pc [.ref s0] (rqB D cA [(s0, .inr (1, [.ref s1, .int 0, .int ml, .int c0])), (s1, .inl (cA 1, n, .inl f))])) (rqQ (some (.int r))) 0 0 (fun _ => False) := by
  refine rq_ofW (cc := cJ5_length_8abf5) (maxL := 1) (ret := (some .int)) (by decide) rfl (Nat.le_of_ble_eq_true rfl) (fun p e s m args below meth c ls Q hx hb hml hts hfc hK hP hl hend => ?_)
  have hfc : s.vm.findClass RJ5 = some m.cls := hfc
  have hl : lv_has ls 1 [(0, .ref s0)] := hl
  have h := hr
  clear hr
  unfold SJ5_length_8abf5 at h
  refine lv_aload_n hx hb dJ5_length_8abf5_0 rfl (lv_at hl 0 rfl) ?_
  refine va_get (D := D) (ci := 1) (v := .int c0) (C := RJ4) (T := TJ4) (N := 4) hx hb hts iJ5_length_8abf5_J4 hfc hK hP 0 rfl rfl 3 (by decide) (hts (.fieldLink RJ5 79 "java/lang/AbstractStringBuilder" "count" "I") (List.mem_of_getElem? (i := 1) rfl)) (fun _ h9 => h9) rfl dJ5_length_8abf5_1 ?_
  subst h
  exact hend _ _ _ _ rfl (rtn_i _) dJ5_length_8abf5_4

noncomputable def SJ4_length_8abf5 (c0 : Int32) : Int32 := (SJ5_length_8abf5 c0)
abbrev RM_J4_length_8abf5 : Room := { frames := 1, cells := 0, slots := 0, locals := 20 }
set_option maxHeartbeats 4000000 in
theorem kJ4_length_8abf5 (l : Launch) (D : va_G) (cA : Nat → ClassId) (s0 s1 : Nat) (n : Nat) (f : Nat → Int32) (ml : Int32) (c0 : Int32) {r : Int32} (hr : SJ4_length_8abf5 c0 = r) : Met l yJ4_length_8abf5 wsJ4_length_8abf5 RM_J4_length_8abf5 (va_Pc [.ref s0] (rqB D cA [(s0, .inr (1, [.ref s1, .int 0, .int ml, .int c0])), (s1, .inl (cA 1, n, .inl f))])) (rqQ (some (.int r))) 0 0 (fun _ => False) := by
  refine rq_ofW (cc := cJ4_length_8abf5) (maxL := 1) (ret := (some .int)) (by decide) rfl (Nat.le_of_ble_eq_true rfl) (fun p e s m args below meth c ls Q hx hb hml hts hfc hK hP hl hend => ?_)
  have hfc : s.vm.findClass RJ4 = some m.cls := hfc
  have hl : lv_has ls 1 [(0, .ref s0)] := hl
  have h := hr
  clear hr
  unfold SJ4_length_8abf5 at h
  refine lv_aload_n hx hb dJ4_length_8abf5_0 rfl (lv_at hl 0 rfl) ?_
  refine rq_P (v := (some (.int (SJ5_length_8abf5 c0)))) (As := []) (rest := []) (wc := [(s0, .inr (1, [.ref s1, .int 0, .int ml, .int c0])), (s1, .inl (cA 1, n, .inl f))]) ⟨hx, hb, hml, hfc, hts⟩ hK hP (kJ5_length_8abf5 l D cA s0 s1 n f ml c0 rfl) (va_cwSU 0 hts gJ4_length_8abf5_J5_length_8abf5_s343 rfl rfl rfl (by decide +kernel) ⟨(Nat.le_of_ble_eq_true rfl), (Nat.le_of_ble_eq_true rfl)⟩) [0, 1] rfl 0 1 rfl rfl rfl rfl rfl rfl hl.1 (Nat.le_of_ble_eq_true rfl) dJ4_length_8abf5_1 ⟨(Nat.zero_le _), (Nat.zero_le _)⟩ ?_
  subst h
  exact hend _ _ _ _ rfl (rtn_i _) dJ4_length_8abf5_4

noncomputable def SJ1_canEncode_fc78d (x0 : Int32) : Int32 := if 255 < x0 then (0) else (1)
abbrev RM_J1_canEncode_fc78d : Room := { frames := 0, cells := 0, slots := 0, locals := 0 }
set_option maxHeartbeats 4000000 in
theorem kJ1_canEncode_fc78d (l : Launch) (D : va_G) (cA : Nat → ClassId) (x0 : Int32) {r : Int32} (hr : SJ1_canEncode_fc78d x0 = r) : Met l yJ1_canEncode_fc78d wsJ1_canEncode_fc78d RM_J1_canEncode_fc78d (va_Pc [.int x0] (rqB D cA [])) (rqQ (some (.int r))) 0 0 (fun _ => False) := by
  refine rq_ofW (cc := cJ1_canEncode_fc78d) (maxL := 1) (ret := (some .boolean)) (by decide) rfl (Nat.le_of_ble_eq_true rfl) (fun p e s m args below meth c ls Q hx hb hml hts hfc hK hP hl hend => ?_)
  have hfc : s.vm.findClass RJ1 = some m.cls := hfc
  have hl : lv_has ls 1 [(0, .int x0)] := hl
  have h := hr
  clear hr
  unfold SJ1_canEncode_fc78d at h
  refine lv_iload_n hx hb dJ1_canEncode_fc78d_0 rfl (lv_at hl 0 rfl) ?_
  refine lv_sipush (v := 255) hx hb dJ1_canEncode_fc78d_1 (by decide) ?_
  refine lv_icmp_gt (tgt := 11) hx hb dJ1_canEncode_fc78d_4 (by decide) (fun c1 => ?_) (fun c1 => ?_)
  · have h := ite_t c1 h
    refine lv_iconst (v := 0) hx hb dJ1_canEncode_fc78d_11 (by decide) ?_
    subst h
    exact hend _ _ _ _ rfl (rtn_n (x := 0) rfl) dJ1_canEncode_fc78d_12
  · have h := ite_f c1 h
    refine lv_iconst (v := 1) hx hb dJ1_canEncode_fc78d_7 (by decide) ?_
    refine lv_goto (tgt := 12) hx hb dJ1_canEncode_fc78d_8 (by decide) ?_
    subst h
    exact hend _ _ _ _ rfl (rtn_n (x := 1) rfl) dJ1_canEncode_fc78d_12

noncomputable def SJ8_newLength_cabcc (x0 : Int32) (x1 : Int32) (x2 : Int32) : Option (Int32) := gd (¬ (x0 + (imax x1 x2)) ≤ 0) (gd (¬ 2147483639 < (x0 + (imax x1 x2))) (some (x0 + (imax x1 x2))))
abbrev RM_J8_newLength_cabcc : Room := { frames := 1, cells := 0, slots := 0, locals := 14 }
set_option maxHeartbeats 4000000 in
theorem kJ8_newLength_cabcc (l : Launch) (D : va_G) (cA : Nat → ClassId) (x0 : Int32) (x1 : Int32) (x2 : Int32) {r : Int32} (hr : SJ8_newLength_cabcc x0 x1 x2 = some r) : Met l yJ8_newLength_cabcc wsJ8_newLength_cabcc RM_J8_newLength_cabcc (va_Pc [.int x0, .int x1, .int x2] (rqB D cA [])) (rqQ (some (.int r))) 0 0 (fun _ => False) := by
  refine rq_ofW (cc := cJ8_newLength_cabcc) (maxL := 4) (ret := (some .int)) (by decide) rfl (Nat.le_of_ble_eq_true rfl) (fun p e s m args below meth c ls Q hx hb hml hts hfc hK hP hl hend => ?_)
  have hfc : s.vm.findClass RJ8 = some m.cls := hfc
  have hl : lv_has ls 4 [(0, .int x0), (1, .int x1), (2, .int x2)] := hl
  have h := hr
  clear hr
  unfold SJ8_newLength_cabcc at h
  refine lv_iload_n hx hb dJ8_newLength_cabcc_0 rfl (lv_at hl 0 rfl) ?_
  refine lv_iload_n hx hb dJ8_newLength_cabcc_1 rfl (lv_at hl 1 rfl) ?_
  refine lv_iload_n hx hb dJ8_newLength_cabcc_2 rfl (lv_at hl 2 rfl) ?_
  refine va_mmax hx hb (hml.trans hl.1.symm) hfc (hts (.methodLink RJ8 194 Lib.Math.max.name) (List.mem_of_getElem? (i := 1) rfl)) (hts (.static Lib.Math.max.name) (List.mem_of_getElem? (i := 2) rfl)) (hts (.initialized "java/lang/Math") (List.mem_of_getElem? (i := 3) rfl)) (hts (.code Lib.Math.max.name Lib.Math.max.code 2 (some .int)) (List.mem_of_getElem? (i := 4) rfl)) (Nat.le_of_ble_eq_true rfl) (Nat.le_of_ble_eq_true rfl) (Nat.zero_le _) (Nat.zero_le _) dJ8_newLength_cabcc_3 ?_
  refine lv_iadd hx hb dJ8_newLength_cabcc_6 ?_
  refine lv_istore_n hx hb dJ8_newLength_cabcc_7 rfl hl (Nat.le_of_ble_eq_true rfl) rfl (fun ls hl => ?_)
  have hl : lv_has ls 4 [(3, .int (x0 + (imax x1 x2))), (0, .int x0), (1, .int x1), (2, .int x2)] := hl
  refine lv_iconst (v := 0) hx hb dJ8_newLength_cabcc_8 (by decide) ?_
  refine lv_iload_n hx hb dJ8_newLength_cabcc_9 rfl (lv_at hl 0 rfl) ?_
  obtain ⟨g2, h⟩ := gd_i h
  refine lv_icmp_ge (tgt := 21) hx hb dJ8_newLength_cabcc_10 (by decide) (fun c => absurd c g2) (fun _ => ?_)
  refine lv_iload_n hx hb dJ8_newLength_cabcc_13 rfl (lv_at hl 0 rfl) ?_
  refine lv_ldc (v := 2147483639) hx hb hfc (hts (.constant RJ8 200 (2147483639)) (List.mem_of_getElem? (i := 5) rfl)) dJ8_newLength_cabcc_14 ?_
  obtain ⟨g4, h⟩ := gd_i h
  refine lv_icmp_gt (tgt := 21) hx hb dJ8_newLength_cabcc_16 (by decide) (fun c => absurd c g4) (fun _ => ?_)
  refine lv_iload_n hx hb dJ8_newLength_cabcc_19 rfl (lv_at hl 0 rfl) ?_
  have h := Option.some.inj h
  subst h
  exact hend _ _ _ _ rfl (rtn_i _) dJ8_newLength_cabcc_20

noncomputable def SJ5_newCapacity_0f7a4 (n : Nat) (x1 : Int32) : Option (Int32) := bnd (SJ8_newLength_cabcc (nI n) (x1 - (nI n)) ((nI n) + 2)) (fun o1 : Int32 => gd (¬ o1 = 2147483647) (some (o1)))
theorem iJ5_newCapacity_0f7a4_J4 : ∀ w ∈ wsJ40, w ∈ wsJ5_newCapacity_0f7a4 := fun _ h => List.mem_cons_of_mem _ (List.mem_append_right _ h)
abbrev RM_J5_newCapacity_0f7a4 : Room := { frames := 2, cells := 0, slots := 0, locals := 37 }
set_option maxHeartbeats 4000000 in
theorem kJ5_newCapacity_0f7a4 (l : Launch) (D : va_G) (cA : Nat → ClassId) (s0 s1 : Nat) (n : Nat) (f : Nat → Int32) (ml : Int32) (c0 : Int32) (x1 : Int32) {r : Int32} (hr : SJ5_newCapacity_0f7a4 n x1 = some r) : Met l yJ5_newCapacity_0f7a4 wsJ5_newCapacity_0f7a4 RM_J5_newCapacity_0f7a4 (va_Pc [.ref s0, .int x1] (rqB D cA [(s0, .inr (1, [.ref s1, .int 0, .int ml, .int c0])), (s1, .inl (cA 1, n, .inl f))])) (rqQ (some (.int r))) 0 0 (fun _ => False) := by
  refine rq_ofW (cc := cJ5_newCapacity_0f7a4) (maxL := 6) (ret := (some .int)) (by decide) rfl (Nat.le_of_ble_eq_true rfl) (fun p e s m args below meth c ls Q hx hb hml hts hfc hK hP hl hend => ?_)
  have hfc : s.vm.findClass RJ5 = some m.cls := hfc
  have hl : lv_has ls 6 [(0, .ref s0), (1, .int x1)] := hl
  have h := hr
  clear hr
  unfold SJ5_newCapacity_0f7a4 at h
  refine lv_aload_n hx hb dJ5_newCapacity_0f7a4_0 rfl (lv_at hl 0 rfl) ?_
  refine va_get (D := D) (ci := 1) (v := .ref s1) (C := RJ4) (T := TJ4) (N := 4) hx hb hts iJ5_newCapacity_0f7a4_J4 hfc hK hP 0 rfl rfl 0 (by decide) (hts (.fieldLink RJ5 15 "java/lang/AbstractStringBuilder" "value" "[B") (List.mem_of_getElem? (i := 1) rfl)) (fun _ h9 => h9) rfl dJ5_newCapacity_0f7a4_1 ?_
  refine va_alen (v := nI n) hx hb hK hP 1 1 rfl rfl rfl dJ5_newCapacity_0f7a4_4 ?_
  refine lv_istore_n hx hb dJ5_newCapacity_0f7a4_5 rfl hl (Nat.le_of_ble_eq_true rfl) rfl (fun ls hl => ?_)
  have hl : lv_has ls 6 [(2, .int (nI n)), (0, .ref s0), (1, .int x1)] := hl
  refine lv_iload_n hx hb dJ5_newCapacity_0f7a4_6 rfl (lv_at hl 2 rfl) ?_
  refine lv_aload_n hx hb dJ5_newCapacity_0f7a4_7 rfl (lv_at hl 1 rfl) ?_
  refine va_get (D := D) (ci := 1) (v := .int 0) (C := RJ4) (T := TJ4) (N := 4) hx hb hts iJ5_newCapacity_0f7a4_J4 hfc hK hP 0 rfl rfl 1 (by decide) (hts (.fieldLink RJ5 22 "java/lang/AbstractStringBuilder" "coder" "B") (List.mem_of_getElem? (i := 2) rfl)) (fun _ h9 => h9) rfl dJ5_newCapacity_0f7a4_8 ?_
  refine lv_ishl hx hb dJ5_newCapacity_0f7a4_11 ?_
  refine lv_topi' (x := x1 <<< (0 &&& 31)) (y := x1) (shl0 x1) ?_
  refine lv_istore_n hx hb dJ5_newCapacity_0f7a4_12 rfl hl (Nat.le_of_ble_eq_true rfl) rfl (fun ls hl => ?_)
  have hl : lv_has ls 6 [(3, .int x1), (2, .int (nI n)), (0, .ref s0), (1, .int x1)] := hl
  refine lv_iload_n hx hb dJ5_newCapacity_0f7a4_13 rfl (lv_at hl 0 rfl) ?_
  refine lv_iload_n hx hb dJ5_newCapacity_0f7a4_14 rfl (lv_at hl 1 rfl) ?_
  refine lv_isub hx hb dJ5_newCapacity_0f7a4_15 ?_
  refine lv_istore hx hb dJ5_newCapacity_0f7a4_16 hl (Nat.le_of_ble_eq_true rfl) rfl (fun ls hl => ?_)
  have hl : lv_has ls 6 [(4, .int (x1 - (nI n))), (3, .int x1), (2, .int (nI n)), (0, .ref s0), (1, .int x1)] := hl
  refine lv_iload_n hx hb dJ5_newCapacity_0f7a4_18 rfl (lv_at hl 2 rfl) ?_
  refine lv_iload hx hb dJ5_newCapacity_0f7a4_19 (lv_at hl 0 rfl) ?_
  refine lv_iload_n hx hb dJ5_newCapacity_0f7a4_21 rfl (lv_at hl 2 rfl) ?_
  refine lv_iconst (v := 2) hx hb dJ5_newCapacity_0f7a4_22 (by decide) ?_
  refine lv_aload_n hx hb dJ5_newCapacity_0f7a4_23 rfl (lv_at hl 3 rfl) ?_
  refine va_get (D := D) (ci := 1) (v := .int 0) (C := RJ4) (T := TJ4) (N := 4) hx hb hts iJ5_newCapacity_0f7a4_J4 hfc hK hP 0 rfl rfl 1 (by decide) (hts (.fieldLink RJ5 22 "java/lang/AbstractStringBuilder" "coder" "B") (List.mem_of_getElem? (i := 2) rfl)) (fun _ h9 => h9) rfl dJ5_newCapacity_0f7a4_24 ?_
  refine lv_ishl hx hb dJ5_newCapacity_0f7a4_27 ?_
  refine lv_topi' (x := (2 : Int32) <<< (0 &&& 31)) (y := (2 : Int32)) (shl0 (2 : Int32)) ?_
  refine lv_iadd hx hb dJ5_newCapacity_0f7a4_28 ?_
  obtain ⟨o1, ho1, h⟩ := bnd_i h
  refine rq_S (v := (some (.int o1))) (As := [.int (nI n), .int (x1 - (nI n)), .int ((nI n) + 2)]) (rest := []) (wc := []) ⟨hx, hb, hml, hfc, hts⟩ hK hP (kJ8_newLength_cabcc l D cA (nI n) (x1 - (nI n)) ((nI n) + 2) ho1) (va_cwS 3 hts gJ5_newCapacity_0f7a4_J8_newLength_cabcc rfl rfl rfl (by decide +kernel) ⟨(Nat.le_of_ble_eq_true rfl), (Nat.le_of_ble_eq_true rfl)⟩) [] rfl rfl rfl rfl hl.1 (Nat.le_of_ble_eq_true rfl) dJ5_newCapacity_0f7a4_29 ⟨(Nat.zero_le _), (Nat.zero_le _)⟩ ?_
  refine lv_istore hx hb dJ5_newCapacity_0f7a4_32 hl (Nat.le_of_ble_eq_true rfl) rfl (fun ls hl => ?_)
  have hl : lv_has ls 6 [(5, .int o1), (4, .int (x1 - (nI n))), (3, .int x1), (2, .int (nI n)), (0, .ref s0), (1, .int x1)] := hl
  refine lv_iload hx hb dJ5_newCapacity_0f7a4_34 (lv_at hl 0 rfl) ?_
  refine lv_ldc (v := 2147483647) hx hb hfc (hts (.constant RJ5 39 (2147483647)) (List.mem_of_getElem? (i := 3) rfl)) dJ5_newCapacity_0f7a4_36 ?_
  obtain ⟨g4, h⟩ := gd_i h
  refine lv_icmp_ne (tgt := 51) hx hb dJ5_newCapacity_0f7a4_38 (by decide) (fun _ => ?_) (fun c => absurd c g4)
  refine lv_iload hx hb dJ5_newCapacity_0f7a4_51 (lv_at hl 0 rfl) ?_
  refine lv_aload_n hx hb dJ5_newCapacity_0f7a4_53 rfl (lv_at hl 4 rfl) ?_
  refine va_get (D := D) (ci := 1) (v := .int 0) (C := RJ4) (T := TJ4) (N := 4) hx hb hts iJ5_newCapacity_0f7a4_J4 hfc hK hP 0 rfl rfl 1 (by decide) (hts (.fieldLink RJ5 22 "java/lang/AbstractStringBuilder" "coder" "B") (List.mem_of_getElem? (i := 2) rfl)) (fun _ h9 => h9) rfl dJ5_newCapacity_0f7a4_54 ?_
  refine lv_ishr hx hb dJ5_newCapacity_0f7a4_57 ?_
  refine lv_topi' (x := o1 >>> (0 &&& 31)) (y := o1) (shr0 o1) ?_
  have h := Option.some.inj h
  subst h
  exact hend _ _ _ _ rfl (rtn_i _) dJ5_newCapacity_0f7a4_58

noncomputable def SJ7_copyOf_9075b (n : Nat) (f : Nat → Int32) (x1 : Int32) : Option ((Nat → Int32) × Nat) := gd (¬ x1 = (nI n)) (gd (¬ x1 < 0 ∧ (Int32.toNatClampNeg x1) ≤ 168) (gd (¬ (imin (nI n) x1) < 0 ∧ 0 + Int32.toNatClampNeg (imin (nI n) x1) ≤ n ∧ 0 + Int32.toNatClampNeg (imin (nI n) x1) ≤ (Int32.toNatClampNeg x1) ∧ ∀ i9, i9 < Int32.toNatClampNeg (imin (nI n) x1) → fits .byte (.int (f (0 + i9))) = true) (some ((va_cpy f (fun _ => 0) 0 0 (Int32.toNatClampNeg (imin (nI n) x1)), (Int32.toNatClampNeg x1))))))
abbrev RM_J7_copyOf_9075b : Room := { frames := 1, cells := 1, slots := 168, locals := 18 }
set_option maxHeartbeats 4000000 in
theorem kJ7_copyOf_9075b (l : Launch) (D : va_G) (cA : Nat → ClassId) (s1 : Nat) (n : Nat) (f : Nat → Int32) (x1 : Int32) {r : (Nat → Int32) × Nat} (hr : SJ7_copyOf_9075b n f x1 = some r) {sz : Nat} : Met l yJ7_copyOf_9075b wsJ7_copyOf_9075b RM_J7_copyOf_9075b (va_Pc [.ref s1, .int x1] (gqB D cA [(s1, .inl (cA 1, n, .inl f))] sz)) (gqQ D (fun as => (some (.ref (as 0)))) (fun as => [(s1, .inl (cA 1, n, .inl f)), ((as 0), .inl (cA 1, r.2, .inl r.1))]) (va_A [(s1, .inl (cA 1, n, .inl f))] sz)) 1 168 (va_A [(s1, .inl (cA 1, n, .inl f))] sz) := by
  refine gq_ofW (cc := cJ7_copyOf_9075b) (maxL := 3) (ret := (some (.array .byte))) (by decide) rfl (Nat.le_of_ble_eq_true rfl) (fun p e s m args below meth c ls Q A hx hb hml hts hfc hmn hK hP hD hS hA hl hend => ?_)
  have hfc : s.vm.findClass RJ7 = some m.cls := hfc
  have hl : lv_has ls 3 [(0, .ref s1), (1, .int x1)] := hl
  have h := hr
  clear hr
  unfold SJ7_copyOf_9075b at h
  refine lv_iload_n hx hb dJ7_copyOf_9075b_0 rfl (lv_at hl 1 rfl) ?_
  refine lv_aload_n hx hb dJ7_copyOf_9075b_1 rfl (lv_at hl 0 rfl) ?_
  refine va_alen (v := nI n) hx hb hK hP 0 1 rfl rfl rfl dJ7_copyOf_9075b_2 ?_
  obtain ⟨g2, h⟩ := gd_i h
  refine lv_icmp_ne (tgt := 14) hx hb dJ7_copyOf_9075b_3 (by decide) (fun _ => ?_) (fun c => absurd c g2)
  refine lv_iload_n hx hb dJ7_copyOf_9075b_14 rfl (lv_at hl 1 rfl) ?_
  obtain ⟨g4, h⟩ := gd_i h
  refine gx_newa (atype := .byte) (a0 := ((Int32.toNatClampNeg x1), .inl (fun _ => 0))) hx hb (hts (.arrayClass .byte) (List.mem_of_getElem? (i := 7) rfl)) rfl hK hP hD hS hA 1 rfl (fun _ => rfl) g4.1 rfl (Nat.le_trans (Nat.mul_le_mul_right (componentBytes .byte) g4.2) (show 168 * componentBytes .byte ≤ 536870912 from (Nat.le_of_ble_eq_true rfl))) (Nat.le_of_ble_eq_true rfl) (Nat.le_trans (Nat.add_le_add_left g4.2 0) (show 0 + 168 ≤ RM_J7_copyOf_9075b.slots from (Nat.le_of_ble_eq_true rfl))) dJ7_copyOf_9075b_15 (fun q3 H hP hD hS => ?_)
  have hP : va_P D vwCl [(s1, .inl (cA 1, n, .inl f)), (q3, .inl (cA 1, (Int32.toNatClampNeg x1), .inl (fun _ => 0)))] H := hP
  have hD : va_D A [(s1, .inl (cA 1, n, .inl f)), (q3, .inl (cA 1, (Int32.toNatClampNeg x1), .inl (fun _ => 0)))] := hD
  refine W.widen (k := 1) (n := 168) (show 0 + 1 ≤ 1 from (Nat.le_of_ble_eq_true rfl)) (show 0 + (Int32.toNatClampNeg x1) ≤ 0 + 168 from Nat.add_le_add_left g4.2 0) ?_
  refine lv_astore_n hx hb dJ7_copyOf_9075b_17 rfl hl (Nat.le_of_ble_eq_true rfl) rfl (fun ls hl => ?_)
  have hl : lv_has ls 3 [(2, .ref q3), (0, .ref s1), (1, .int x1)] := hl
  refine lv_aload_n hx hb dJ7_copyOf_9075b_18 rfl (lv_at hl 1 rfl) ?_
  refine lv_iconst (v := 0) hx hb dJ7_copyOf_9075b_19 (by decide) ?_
  refine lv_aload_n hx hb dJ7_copyOf_9075b_20 rfl (lv_at hl 0 rfl) ?_
  refine lv_iconst (v := 0) hx hb dJ7_copyOf_9075b_21 (by decide) ?_
  refine lv_aload_n hx hb dJ7_copyOf_9075b_22 rfl (lv_at hl 1 rfl) ?_
  refine va_alen (v := nI n) hx hb hK hP 0 1 rfl rfl rfl dJ7_copyOf_9075b_23 ?_
  refine lv_iload_n hx hb dJ7_copyOf_9075b_24 rfl (lv_at hl 2 rfl) ?_
  refine va_mmin hx hb (hml.trans hl.1.symm) hfc (hts (.methodLink RJ7 304 Lib.Math.min.name) (List.mem_of_getElem? (i := 8) rfl)) (hts (.static Lib.Math.min.name) (List.mem_of_getElem? (i := 9) rfl)) (hts (.initialized "java/lang/Math") (List.mem_of_getElem? (i := 10) rfl)) (hts (.code Lib.Math.min.name Lib.Math.min.code 2 (some .int)) (List.mem_of_getElem? (i := 11) rfl)) (Nat.le_of_ble_eq_true rfl) (Nat.le_of_ble_eq_true rfl) (Nat.le_of_ble_eq_true rfl) (Nat.le_of_ble_eq_true rfl) dJ7_copyOf_9075b_25 ?_
  obtain ⟨g5, h⟩ := gd_i h
  refine va_copyi hx hb (hml.trans hl.1.symm) hfc (hts (.methodLink RJ7 150 arraycopyName) (List.mem_of_getElem? (i := 12) rfl)) (hts (.native arraycopyName) (List.mem_of_getElem? (i := 13) rfl)) (hts (.static arraycopyName) (List.mem_of_getElem? (i := 14) rfl)) (hts (.initialized "java/lang/System") (List.mem_of_getElem? (i := 15) rfl)) hK hP hD hS 0 1 1 1 rfl rfl rfl rfl rfl (by decide) (by decide) g5.1 g5.2.1 g5.2.2.1 g5.2.2.2 (Nat.le_of_ble_eq_true rfl) (Nat.le_of_ble_eq_true rfl) dJ7_copyOf_9075b_28 (fun H locs hP hD hS => ?_)
  have hP : va_P D vwCl [(s1, .inl (cA 1, n, .inl f)), (q3, .inl (cA 1, (Int32.toNatClampNeg x1), .inl (va_cpy f (fun _ => 0) 0 0 (Int32.toNatClampNeg (imin (nI n) x1)))))] H := hP
  have hD : va_D A [(s1, .inl (cA 1, n, .inl f)), (q3, .inl (cA 1, (Int32.toNatClampNeg x1), .inl (va_cpy f (fun _ => 0) 0 0 (Int32.toNatClampNeg (imin (nI n) x1)))))] := hD
  refine lv_aload_n hx hb dJ7_copyOf_9075b_31 rfl (lv_at hl 0 rfl) ?_
  have h := Option.some.inj h
  subst h
  refine W.widen (k := 1) (n := 168) (Nat.le_of_ble_eq_true rfl) (Nat.le_of_ble_eq_true rfl) ?_
  exact hend (adr [q3]) _ _ _ _ _ _ _ rfl rfl (rtn_ar _ _) hP hD hS dJ7_copyOf_9075b_32

noncomputable def SJ5_ensureCapacityInternal_d00df (n : Nat) (f : Nat → Int32) (x1 : Int32) : Option ((Nat → Int32) × Nat) := if (x1 - (nI n)) ≤ 0 then (some ((f, n))) else (bnd (SJ5_newCapacity_0f7a4 n x1) (fun o2 : Int32 => bnd (SJ7_copyOf_9075b n f o2) (fun o4 : (Nat → Int32) × Nat => some ((o4.1, o4.2)))))
theorem iJ5_ensureCapacityInternal_d00df_J4 : ∀ w ∈ wsJ40, w ∈ wsJ5_ensureCapacityInternal_d00df := fun _ h => List.mem_cons_of_mem _ (List.mem_append_right _ h)
abbrev RM_J5_ensureCapacityInternal_d00df : Room := { frames := 3, cells := 1, slots := 168, locals := 64 }
set_option maxHeartbeats 4000000 in
theorem kJ5_ensureCapacityInternal_d00df (l : Launch) (D : va_G) (cA : Nat → ClassId) (s0 s1 : Nat) (n : Nat) (f : Nat → Int32) (ml : Int32) (c0 : Int32) (x1 : Int32) {r : (Nat → Int32) × Nat} (hr : SJ5_ensureCapacityInternal_d00df n f x1 = some r) {sz : Nat} : Met l yJ5_ensureCapacityInternal_d00df wsJ5_ensureCapacityInternal_d00df RM_J5_ensureCapacityInternal_d00df (va_Pc [.ref s0, .int x1] (gqB D cA [(s0, .inr (1, [.ref s1, .int 0, .int ml, .int c0])), (s1, .inl (cA 1, n, .inl f))] sz)) (gqQ D (fun as => none) (fun as => [(s0, .inr (1, [.ref (as 0), .int 0, .int ml, .int c0])), ((as 0), .inl (cA 1, r.2, .inl r.1))]) (va_A [(s0, .inr (1, [.ref s1, .int 0, .int ml, .int c0])), (s1, .inl (cA 1, n, .inl f))] sz)) 1 168 (va_A [(s0, .inr (1, [.ref s1, .int 0, .int ml, .int c0])), (s1, .inl (cA 1, n, .inl f))] sz) := by
  refine gq_ofW (cc := cJ5_ensureCapacityInternal_d00df) (maxL := 3) (ret := none) (by decide) rfl (Nat.le_of_ble_eq_true rfl) (fun p e s m args below meth c ls Q A hx hb hml hts hfc hmn hK hP hD hS hA hl hend => ?_)
  have hfc : s.vm.findClass RJ5 = some m.cls := hfc
  have hl : lv_has ls 3 [(0, .ref s0), (1, .int x1)] := hl
  have h := hr
  clear hr
  unfold SJ5_ensureCapacityInternal_d00df at h
  refine lv_aload_n hx hb dJ5_ensureCapacityInternal_d00df_0 rfl (lv_at hl 0 rfl) ?_
  refine va_get (D := D) (ci := 1) (v := .ref s1) (C := RJ4) (T := TJ4) (N := 4) hx hb hts iJ5_ensureCapacityInternal_d00df_J4 hfc hK hP 0 rfl rfl 0 (by decide) (hts (.fieldLink RJ5 15 "java/lang/AbstractStringBuilder" "value" "[B") (List.mem_of_getElem? (i := 1) rfl)) (fun _ h9 => h9) rfl dJ5_ensureCapacityInternal_d00df_1 ?_
  refine va_alen (v := nI n) hx hb hK hP 1 1 rfl rfl rfl dJ5_ensureCapacityInternal_d00df_4 ?_
  refine lv_aload_n hx hb dJ5_ensureCapacityInternal_d00df_5 rfl (lv_at hl 0 rfl) ?_
  refine va_get (D := D) (ci := 1) (v := .int 0) (C := RJ4) (T := TJ4) (N := 4) hx hb hts iJ5_ensureCapacityInternal_d00df_J4 hfc hK hP 0 rfl rfl 1 (by decide) (hts (.fieldLink RJ5 22 "java/lang/AbstractStringBuilder" "coder" "B") (List.mem_of_getElem? (i := 2) rfl)) (fun _ h9 => h9) rfl dJ5_ensureCapacityInternal_d00df_6 ?_
  refine lv_ishr hx hb dJ5_ensureCapacityInternal_d00df_9 ?_
  refine lv_topi' (x := (nI n) >>> (0 &&& 31)) (y := (nI n)) (shr0 (nI n)) ?_
  refine lv_istore_n hx hb dJ5_ensureCapacityInternal_d00df_10 rfl hl (Nat.le_of_ble_eq_true rfl) rfl (fun ls hl => ?_)
  have hl : lv_has ls 3 [(2, .int (nI n)), (0, .ref s0), (1, .int x1)] := hl
  refine lv_iload_n hx hb dJ5_ensureCapacityInternal_d00df_11 rfl (lv_at hl 2 rfl) ?_
  refine lv_iload_n hx hb dJ5_ensureCapacityInternal_d00df_12 rfl (lv_at hl 0 rfl) ?_
  refine lv_isub hx hb dJ5_ensureCapacityInternal_d00df_13 ?_
  refine lv_if_le (tgt := 38) hx hb dJ5_ensureCapacityInternal_d00df_14 (by decide) (fun c1 => ?_) (fun c1 => ?_)
  · have h := ite_t c1 h
    have h := Option.some.inj h
    subst h
    refine W.widen (k := 1) (n := 168) (Nat.le_of_ble_eq_true rfl) (Nat.le_of_ble_eq_true rfl) ?_
    exact hend (adr [s1]) _ _ _ _ _ _ _ rfl rfl (rtn_v) hP hD hS dJ5_ensureCapacityInternal_d00df_38
  · have h := ite_f c1 h
    refine lv_aload_n hx hb dJ5_ensureCapacityInternal_d00df_17 rfl (lv_at hl 1 rfl) ?_
    refine lv_aload_n hx hb dJ5_ensureCapacityInternal_d00df_18 rfl (lv_at hl 1 rfl) ?_
    refine va_get (D := D) (ci := 1) (v := .ref s1) (C := RJ4) (T := TJ4) (N := 4) hx hb hts iJ5_ensureCapacityInternal_d00df_J4 hfc hK hP 0 rfl rfl 0 (by decide) (hts (.fieldLink RJ5 15 "java/lang/AbstractStringBuilder" "value" "[B") (List.mem_of_getElem? (i := 1) rfl)) (fun _ h9 => h9) rfl dJ5_ensureCapacityInternal_d00df_19 ?_
    refine lv_aload_n hx hb dJ5_ensureCapacityInternal_d00df_22 rfl (lv_at hl 1 rfl) ?_
    refine lv_iload_n hx hb dJ5_ensureCapacityInternal_d00df_23 rfl (lv_at hl 2 rfl) ?_
    obtain ⟨o2, ho2, h⟩ := bnd_i h
    refine rq_U (v := (some (.int o2))) (As := [.int x1]) (rest := [.ref s1, .ref s0]) (wc := [(s0, .inr (1, [.ref s1, .int 0, .int ml, .int c0])), (s1, .inl (cA 1, n, .inl f))]) ⟨hx, hb, hml, hfc, hts⟩ hK hP (kJ5_newCapacity_0f7a4 l D cA s0 s1 n f ml c0 x1 ho2) (va_cwU 1 hts gJ5_ensureCapacityInternal_d00df_J5_newCapacity_0f7a4_u104J4 rfl rfl rfl rfl (by decide +kernel) ⟨(Nat.le_of_ble_eq_true rfl), (Nat.le_of_ble_eq_true rfl)⟩) [0, 1] rfl 0 1 rfl rfl rfl rfl rfl rfl hl.1 (Nat.le_of_ble_eq_true rfl) dJ5_ensureCapacityInternal_d00df_24 ⟨(Nat.zero_le _), (Nat.zero_le _)⟩ ?_
    refine lv_aload_n hx hb dJ5_ensureCapacityInternal_d00df_27 rfl (lv_at hl 1 rfl) ?_
    refine va_get (D := D) (ci := 1) (v := .int 0) (C := RJ4) (T := TJ4) (N := 4) hx hb hts iJ5_ensureCapacityInternal_d00df_J4 hfc hK hP 0 rfl rfl 1 (by decide) (hts (.fieldLink RJ5 22 "java/lang/AbstractStringBuilder" "coder" "B") (List.mem_of_getElem? (i := 2) rfl)) (fun _ h9 => h9) rfl dJ5_ensureCapacityInternal_d00df_28 ?_
    refine lv_ishl hx hb dJ5_ensureCapacityInternal_d00df_31 ?_
    refine lv_topi' (x := o2 <<< (0 &&& 31)) (y := o2) (shl0 o2) ?_
    obtain ⟨o4, ho4, h⟩ := bnd_i h
    refine gq_S (v := (fun as => (some (.ref (as 0))))) (As := [.ref s1, .int o2]) (rest := [.ref s0]) (wc := [(s1, .inl (cA 1, n, .inl f))]) (wr := [(s0, .inr (1, [.ref s1, .int 0, .int ml, .int c0]))]) (w1 := (fun as => [(s1, .inl (cA 1, n, .inl f)), ((as 0), .inl (cA 1, o4.2, .inl o4.1))])) (ws2 := (fun as => [(s0, .inr (1, [.ref s1, .int 0, .int ml, .int c0])), (s1, .inl (cA 1, n, .inl f)), ((as 0), .inl (cA 1, o4.2, .inl o4.1))])) (st1 := (fun as => [.ref (as 0), .ref s0])) ⟨hx, hb, hml, hfc, hts⟩ hK hP hD hS hA (kJ7_copyOf_9075b l D cA s1 n f o2 ho4) (va_cwS 2 hts gJ5_ensureCapacityInternal_d00df_J7_copyOf_9075b rfl rfl rfl (by decide +kernel) ⟨(Nat.le_of_ble_eq_true rfl), (Nat.le_of_ble_eq_true rfl)⟩) [1] [0] [0, 1, 2] rfl rfl rfl rfl (by decide) (fun _ => rfl) rfl rfl (fun _ => rfl) rfl hl.1 (Nat.le_of_ble_eq_true rfl) dJ5_ensureCapacityInternal_d00df_32 ⟨(Nat.le_of_ble_eq_true rfl), (Nat.le_of_ble_eq_true rfl)⟩ (fun as5 H locs hP hD hS => ?_)
    have hP : va_P D vwCl [(s0, .inr (1, [.ref s1, .int 0, .int ml, .int c0])), (s1, .inl (cA 1, n, .inl f)), ((as5 0), .inl (cA 1, o4.2, .inl o4.1))] H := hP
    have hD : va_D A [(s0, .inr (1, [.ref s1, .int 0, .int ml, .int c0])), (s1, .inl (cA 1, n, .inl f)), ((as5 0), .inl (cA 1, o4.2, .inl o4.1))] := hD
    refine W.cs (cells' := 1) (slots' := 168) rfl rfl ?_
    refine va_put (D := D) (ci := 1) (v := .ref (as5 0)) (ty := (.array .byte)) (C := RJ4) (T := TJ4) (N := 4) hx hb hts iJ5_ensureCapacityInternal_d00df_J4 tyJ4 tyJ4_ok nmJ4 hfc hK hP hD hS 0 rfl rfl 0 (by decide) (hts (.fieldLink RJ5 15 "java/lang/AbstractStringBuilder" "value" "[B") (List.mem_of_getElem? (i := 1) rfl)) (fun _ h9 => h9) rfl (by decide +kernel) rfl rfl (Nat.le_of_ble_eq_true rfl) dJ5_ensureCapacityInternal_d00df_35 (fun H locs hP hD hS => ?_)
    have hP : va_P D vwCl [(s0, .inr (1, [.ref (as5 0), .int 0, .int ml, .int c0])), (s1, .inl (cA 1, n, .inl f)), ((as5 0), .inl (cA 1, o4.2, .inl o4.1))] H := hP
    have hD : va_D A [(s0, .inr (1, [.ref (as5 0), .int 0, .int ml, .int c0])), (s1, .inl (cA 1, n, .inl f)), ((as5 0), .inl (cA 1, o4.2, .inl o4.1))] := hD
    have h := Option.some.inj h
    subst h
    have hP : va_P D vwCl [(s0, .inr (1, [.ref (as5 0), .int 0, .int ml, .int c0])), ((as5 0), .inl (cA 1, o4.2, .inl o4.1))] H := gq_sub hP [0, 2] rfl
    have hD : va_D A [(s0, .inr (1, [.ref (as5 0), .int 0, .int ml, .int c0])), ((as5 0), .inl (cA 1, o4.2, .inl o4.1))] := hD.sub [0, 2] rfl rfl
    refine W.widen (k := 1) (n := 168) (Nat.le_of_ble_eq_true rfl) (Nat.le_of_ble_eq_true rfl) ?_
    exact hend (adr [(as5 0)]) _ _ _ _ _ _ _ rfl rfl (rtn_v) hP hD hS dJ5_ensureCapacityInternal_d00df_38

noncomputable def SJ5_append_3fe6f (n : Nat) (f : Nat → Int32) (c0 : Int32) (x1 : Int32) : Option (Int32 × (Nat → Int32) × Nat) := bnd (SJ5_ensureCapacityInternal_d00df n f (c0 + 1)) (fun o1 : (Nat → Int32) × Nat => lt_ (SJ5_isLatin1_aae02) (fun o3 : Unit => gd (¬ (SJ1_canEncode_fc78d x1) = 0) (gd (vp_in c0 o1.2) (some ((c0 + 1, upd o1.1 (Int32.toNatClampNeg c0) (vp_nar .byte (i2b x1)), o1.2))))))
theorem iJ5_append_3fe6f_J4 : ∀ w ∈ wsJ40, w ∈ wsJ5_append_3fe6f := fun _ h => List.mem_cons_of_mem _ (List.mem_append_right _ h)
abbrev RM_J5_append_3fe6f : Room := { frames := 4, cells := 1, slots := 168, locals := 86 }
set_option maxHeartbeats 4000000 in
theorem kJ5_append_3fe6f (l : Launch) (D : va_G) (cA : Nat → ClassId) (G : eG) (s0 s1 : Nat) (n : Nat) (f : Nat → Int32) (ml : Int32) (c0 : Int32) (x1 : Int32) {r : Int32 × (Nat → Int32) × Nat} (hr : SJ5_append_3fe6f n f c0 x1 = some r) {sz : Nat} : Met l yJ5_append_3fe6f wsJ5_append_3fe6f RM_J5_append_3fe6f (va_Pc [.ref s0, .int x1] (gqEB G D cA [(s0, .inr (1, [.ref s1, .int 0, .int ml, .int c0])), (s1, .inl (cA 1, n, .inl f))] sz)) (gqQ D (fun as => (some (.ref s0))) (fun as => [(s0, .inr (1, [.ref (as 0), .int 0, .int ml, .int r.1])), ((as 0), .inl (cA 1, r.2.2, .inl r.2.1))]) (va_A [(s0, .inr (1, [.ref s1, .int 0, .int ml, .int c0])), (s1, .inl (cA 1, n, .inl f))] sz)) 1 168 (va_A [(s0, .inr (1, [.ref s1, .int 0, .int ml, .int c0])), (s1, .inl (cA 1, n, .inl f))] sz) := by
  refine gqE_ofW (cc := cJ5_append_3fe6f) (maxL := 2) (ret := (some (.object "java/lang/AbstractStringBuilder"))) (by decide) rfl (Nat.le_of_ble_eq_true rfl) (fun p e s m args below meth c ls Q A hx hb hml hts hfc hmn hK hP hD hS hA hEV hl hend => ?_)
  have hfc : s.vm.findClass RJ5 = some m.cls := hfc
  have hl : lv_has ls 2 [(0, .ref s0), (1, .int x1)] := hl
  have h := hr
  clear hr
  unfold SJ5_append_3fe6f at h
  refine lv_aload_n hx hb dJ5_append_3fe6f_0 rfl (lv_at hl 0 rfl) ?_
  refine lv_aload_n hx hb dJ5_append_3fe6f_1 rfl (lv_at hl 0 rfl) ?_
  refine va_get (D := D) (ci := 1) (v := .int c0) (C := RJ4) (T := TJ4) (N := 4) hx hb hts iJ5_append_3fe6f_J4 hfc hK hP 0 rfl rfl 3 (by decide) (hts (.fieldLink RJ5 79 "java/lang/AbstractStringBuilder" "count" "I") (List.mem_of_getElem? (i := 1) rfl)) (fun _ h9 => h9) rfl dJ5_append_3fe6f_2 ?_
  refine lv_iconst (v := 1) hx hb dJ5_append_3fe6f_5 (by decide) ?_
  refine lv_iadd hx hb dJ5_append_3fe6f_6 ?_
  obtain ⟨o1, ho1, h⟩ := bnd_i h
  refine gq_U (v := (fun as => none)) (As := [.int (c0 + 1)]) (rest := []) (wc := [(s0, .inr (1, [.ref s1, .int 0, .int ml, .int c0])), (s1, .inl (cA 1, n, .inl f))]) (wr := []) (w1 := (fun as => [(s0, .inr (1, [.ref (as 0), .int 0, .int ml, .int c0])), ((as 0), .inl (cA 1, o1.2, .inl o1.1))])) (ws2 := (fun as => [(s0, .inr (1, [.ref (as 0), .int 0, .int ml, .int c0])), ((as 0), .inl (cA 1, o1.2, .inl o1.1))])) (st1 := (fun as => [])) ⟨hx, hb, hml, hfc, hts⟩ hK hP hD hS hA (kJ5_ensureCapacityInternal_d00df l D cA s0 s1 n f ml c0 (c0 + 1) ho1) (va_cwU 1 hts gJ5_append_3fe6f_J5_ensureCapacityInternal_d00df_u100J4 rfl rfl rfl rfl (by decide +kernel) ⟨(Nat.le_of_ble_eq_true rfl), (Nat.le_of_ble_eq_true rfl)⟩) [0, 1] [] [0, 1] rfl rfl rfl rfl (by decide) (fun _ => rfl) rfl 0 1 rfl rfl rfl rfl (fun _ => rfl) rfl hl.1 (Nat.le_of_ble_eq_true rfl) dJ5_append_3fe6f_7 ⟨(Nat.le_of_ble_eq_true rfl), (Nat.le_of_ble_eq_true rfl)⟩ (fun as2 H locs hP hD hS => ?_)
  have hP : va_P D vwCl [(s0, .inr (1, [.ref (as2 0), .int 0, .int ml, .int c0])), ((as2 0), .inl (cA 1, o1.2, .inl o1.1))] H := hP
  have hD : va_D A [(s0, .inr (1, [.ref (as2 0), .int 0, .int ml, .int c0])), ((as2 0), .inl (cA 1, o1.2, .inl o1.1))] := hD
  refine W.cs (cells' := 1) (slots' := 168) rfl rfl ?_
  refine lv_aload_n hx hb dJ5_append_3fe6f_10 rfl (lv_at hl 0 rfl) ?_
  obtain ⟨o3, ho3, h⟩ := lt_i h
  refine rqE_U (G := G) (v := (some (.int 1))) (As := []) (rest := []) (wc := [(s0, .inr (1, [.ref (as2 0), .int 0, .int ml, .int c0])), ((as2 0), .inl (cA 1, o1.2, .inl o1.1))]) ⟨hx, hb, hml, hfc, hts⟩ hK hP hS hEV (kJ5_isLatin1_aae02 l D cA G s0 (as2 0) o1.2 o1.1 ml c0 ho3) (va_cwU 0 hts gJ5_append_3fe6f_J5_isLatin1_aae02_u83J4 rfl rfl rfl rfl (by decide +kernel) ⟨(Nat.le_of_ble_eq_true rfl), (Nat.le_of_ble_eq_true rfl)⟩) [0, 1] rfl 0 1 rfl rfl rfl rfl rfl rfl hl.1 (Nat.le_of_ble_eq_true rfl) dJ5_append_3fe6f_11 ⟨(Nat.le_of_ble_eq_true rfl), (Nat.le_of_ble_eq_true rfl)⟩ ?_
  refine lv_if_eq (tgt := 45) hx hb dJ5_append_3fe6f_14 (by decide) (fun c => absurd c (by decide)) (fun _ => ?_)
  refine lv_iload_n hx hb dJ5_append_3fe6f_17 rfl (lv_at hl 1 rfl) ?_
  refine rq_S (v := (some (.int (SJ1_canEncode_fc78d x1)))) (As := [.int x1]) (rest := []) (wc := []) ⟨hx, hb, hml, hfc, hts⟩ hK hP (kJ1_canEncode_fc78d l D cA x1 rfl) (va_cwS 1 hts gJ5_append_3fe6f_J1_canEncode_fc78d rfl rfl rfl (by decide +kernel) ⟨(Nat.le_of_ble_eq_true rfl), (Nat.le_of_ble_eq_true rfl)⟩) [] rfl rfl rfl rfl hl.1 (Nat.le_of_ble_eq_true rfl) dJ5_append_3fe6f_18 ⟨(Nat.le_of_ble_eq_true rfl), (Nat.le_of_ble_eq_true rfl)⟩ ?_
  obtain ⟨g8, h⟩ := gd_i h
  refine lv_if_eq (tgt := 45) hx hb dJ5_append_3fe6f_21 (by decide) (fun c => absurd c g8) (fun _ => ?_)
  refine lv_aload_n hx hb dJ5_append_3fe6f_24 rfl (lv_at hl 0 rfl) ?_
  refine va_get (D := D) (ci := 1) (v := .ref (as2 0)) (C := RJ4) (T := TJ4) (N := 4) hx hb hts iJ5_append_3fe6f_J4 hfc hK hP 0 rfl rfl 0 (by decide) (hts (.fieldLink RJ5 15 "java/lang/AbstractStringBuilder" "value" "[B") (List.mem_of_getElem? (i := 2) rfl)) (fun _ h9 => h9) rfl dJ5_append_3fe6f_25 ?_
  refine lv_aload_n hx hb dJ5_append_3fe6f_28 rfl (lv_at hl 0 rfl) ?_
  refine lv_dup hx hb dJ5_append_3fe6f_29 rfl ?_
  refine va_get (D := D) (ci := 1) (v := .int c0) (C := RJ4) (T := TJ4) (N := 4) hx hb hts iJ5_append_3fe6f_J4 hfc hK hP 0 rfl rfl 3 (by decide) (hts (.fieldLink RJ5 79 "java/lang/AbstractStringBuilder" "count" "I") (List.mem_of_getElem? (i := 1) rfl)) (fun _ h9 => h9) rfl dJ5_append_3fe6f_30 ?_
  refine lv_dup_x1 hx hb dJ5_append_3fe6f_33 rfl rfl ?_
  refine lv_iconst (v := 1) hx hb dJ5_append_3fe6f_34 (by decide) ?_
  refine lv_iadd hx hb dJ5_append_3fe6f_35 ?_
  refine va_put (D := D) (ci := 1) (v := .int (c0 + 1)) (ty := .int) (C := RJ4) (T := TJ4) (N := 4) hx hb hts iJ5_append_3fe6f_J4 tyJ4 tyJ4_ok nmJ4 hfc hK hP hD hS 0 rfl rfl 3 (by decide) (hts (.fieldLink RJ5 79 "java/lang/AbstractStringBuilder" "count" "I") (List.mem_of_getElem? (i := 1) rfl)) (fun _ h9 => h9) rfl (by decide +kernel) rfl rfl (Nat.le_of_ble_eq_true rfl) dJ5_append_3fe6f_36 (fun H locs hP hD hS => ?_)
  have hP : va_P D vwCl [(s0, .inr (1, [.ref (as2 0), .int 0, .int ml, .int (c0 + 1)])), ((as2 0), .inl (cA 1, o1.2, .inl o1.1))] H := hP
  have hD : va_D A [(s0, .inr (1, [.ref (as2 0), .int 0, .int ml, .int (c0 + 1)])), ((as2 0), .inl (cA 1, o1.2, .inl o1.1))] := hD
  refine lv_iload_n hx hb dJ5_append_3fe6f_39 rfl (lv_at hl 1 rfl) ?_
  refine lv_i2b (v := i2b x1) hx hb dJ5_append_3fe6f_40 rfl ?_
  obtain ⟨g9, h⟩ := gd_i h
  refine va_bast hx hb hK hP hD hS 1 1 rfl rfl g9 dJ5_append_3fe6f_41 (fun H locs hP hD hS => ?_)
  have hP : va_P D vwCl [(s0, .inr (1, [.ref (as2 0), .int 0, .int ml, .int (c0 + 1)])), ((as2 0), .inl (cA 1, o1.2, .inl (upd o1.1 (Int32.toNatClampNeg c0) (vp_nar .byte (i2b x1)))))] H := hP
  have hD : va_D A [(s0, .inr (1, [.ref (as2 0), .int 0, .int ml, .int (c0 + 1)])), ((as2 0), .inl (cA 1, o1.2, .inl (upd o1.1 (Int32.toNatClampNeg c0) (vp_nar .byte (i2b x1)))))] := hD
  refine lv_goto (tgt := 75) hx hb dJ5_append_3fe6f_42 (by decide) ?_
  refine lv_aload_n hx hb dJ5_append_3fe6f_75 rfl (lv_at hl 0 rfl) ?_
  have h := Option.some.inj h
  subst h
  refine W.widen (k := 1) (n := 168) (Nat.le_of_ble_eq_true rfl) (Nat.le_of_ble_eq_true rfl) ?_
  exact hend (adr [(as2 0)]) _ _ _ _ _ _ _ rfl rfl (rtn_a _ _) hP hD hS dJ5_append_3fe6f_76

noncomputable def SJ4_append_cf468 (n : Nat) (f : Nat → Int32) (c0 : Int32) (x1 : Int32) : Option (Int32 × (Nat → Int32) × Nat) := bnd (SJ5_append_3fe6f n f c0 x1) (fun o1 : Int32 × (Nat → Int32) × Nat => some ((o1.1, o1.2.1, o1.2.2)))
abbrev RM_J4_append_cf468 : Room := { frames := 5, cells := 1, slots := 168, locals := 107 }
set_option maxHeartbeats 4000000 in
theorem kJ4_append_cf468 (l : Launch) (D : va_G) (cA : Nat → ClassId) (G : eG) (s0 s1 : Nat) (n : Nat) (f : Nat → Int32) (ml : Int32) (c0 : Int32) (x1 : Int32) {r : Int32 × (Nat → Int32) × Nat} (hr : SJ4_append_cf468 n f c0 x1 = some r) {sz : Nat} : Met l yJ4_append_cf468 wsJ4_append_cf468 RM_J4_append_cf468 (va_Pc [.ref s0, .int x1] (gqEB G D cA [(s0, .inr (1, [.ref s1, .int 0, .int ml, .int c0])), (s1, .inl (cA 1, n, .inl f))] sz)) (gqQ D (fun as => (some (.ref s0))) (fun as => [(s0, .inr (1, [.ref (as 0), .int 0, .int ml, .int r.1])), ((as 0), .inl (cA 1, r.2.2, .inl r.2.1))]) (va_A [(s0, .inr (1, [.ref s1, .int 0, .int ml, .int c0])), (s1, .inl (cA 1, n, .inl f))] sz)) 1 168 (va_A [(s0, .inr (1, [.ref s1, .int 0, .int ml, .int c0])), (s1, .inl (cA 1, n, .inl f))] sz) := by
  refine gqE_ofW (cc := cJ4_append_cf468) (maxL := 2) (ret := (some (.object "java/lang/StringBuilder"))) (by decide) rfl (Nat.le_of_ble_eq_true rfl) (fun p e s m args below meth c ls Q A hx hb hml hts hfc hmn hK hP hD hS hA hEV hl hend => ?_)
  have hfc : s.vm.findClass RJ4 = some m.cls := hfc
  have hl : lv_has ls 2 [(0, .ref s0), (1, .int x1)] := hl
  have h := hr
  clear hr
  unfold SJ4_append_cf468 at h
  refine lv_aload_n hx hb dJ4_append_cf468_0 rfl (lv_at hl 0 rfl) ?_
  refine lv_iload_n hx hb dJ4_append_cf468_1 rfl (lv_at hl 1 rfl) ?_
  obtain ⟨o1, ho1, h⟩ := bnd_i h
  refine gqE_P (G := G) (v := (fun as => (some (.ref s0)))) (As := [.int x1]) (rest := []) (wc := [(s0, .inr (1, [.ref s1, .int 0, .int ml, .int c0])), (s1, .inl (cA 1, n, .inl f))]) (wr := []) (w1 := (fun as => [(s0, .inr (1, [.ref (as 0), .int 0, .int ml, .int o1.1])), ((as 0), .inl (cA 1, o1.2.2, .inl o1.2.1))])) (ws2 := (fun as => [(s0, .inr (1, [.ref (as 0), .int 0, .int ml, .int o1.1])), ((as 0), .inl (cA 1, o1.2.2, .inl o1.2.1))])) (st1 := (fun as => [.ref s0])) ⟨hx, hb, hml, hfc, hts⟩ hK hP hD hS hA hEV (kJ5_append_3fe6f l D cA G s0 s1 n f ml c0 x1 ho1) (va_cwSU 1 hts gJ4_append_cf468_J5_append_3fe6f_s50 rfl rfl rfl (by decide +kernel) ⟨(Nat.le_of_ble_eq_true rfl), (Nat.le_of_ble_eq_true rfl)⟩) [0, 1] [] [0, 1] rfl rfl rfl rfl (by decide) (fun _ => rfl) rfl 0 1 rfl rfl rfl rfl (fun _ => rfl) rfl hl.1 (Nat.le_of_ble_eq_true rfl) dJ4_append_cf468_2 ⟨(Nat.le_of_ble_eq_true rfl), (Nat.le_of_ble_eq_true rfl)⟩ (fun as2 H locs hP hD hS => ?_)
  have hP : va_P D vwCl [(s0, .inr (1, [.ref (as2 0), .int 0, .int ml, .int o1.1])), ((as2 0), .inl (cA 1, o1.2.2, .inl o1.2.1))] H := hP
  have hD : va_D A [(s0, .inr (1, [.ref (as2 0), .int 0, .int ml, .int o1.1])), ((as2 0), .inl (cA 1, o1.2.2, .inl o1.2.1))] := hD
  refine W.cs (cells' := 1) (slots' := 168) rfl rfl ?_
  refine lv_pop hx hb dJ4_append_cf468_5 rfl ?_
  refine lv_aload_n hx hb dJ4_append_cf468_6 rfl (lv_at hl 0 rfl) ?_
  have h := Option.some.inj h
  subst h
  refine W.widen (k := 1) (n := 168) (Nat.le_of_ble_eq_true rfl) (Nat.le_of_ble_eq_true rfl) ?_
  exact hend (adr [(as2 0)]) _ _ _ _ _ _ _ rfl rfl (rtn_a _ _) hP hD hS dJ4_append_cf468_7

noncomputable def LJ6_stringSize_0f7a4_16 (x0 : Int32) : Nat → Int32 → Int32 → Option (Int32)
  | 0, _, _ => none
  | fu + 1, x2_16, x3_16 => if 10 ≤ x3_16 then (some (10)) else (if (-x0) ≤ x2_16 then (LJ6_stringSize_0f7a4_16 x0 fu (10 * x2_16) (x3_16 + 1)) else (some (x3_16 + 0)))
noncomputable def SJ6_stringSize_0f7a4 (N : Nat) (x0 : Int32) : Option (Int32) := gd (¬ x0 < 0) (LJ6_stringSize_0f7a4_16 x0 N (-10) 1)
abbrev RM_J6_stringSize_0f7a4 : Room := { frames := 0, cells := 0, slots := 0, locals := 0 }
set_option maxHeartbeats 4000000 in
theorem kJ6_stringSize_0f7a4 (l : Launch) (D : va_G) (cA : Nat → ClassId) (N : Nat) (x0 : Int32) {r : Int32} (hr : SJ6_stringSize_0f7a4 N x0 = some r) : Met l yJ6_stringSize_0f7a4 wsJ6_stringSize_0f7a4 RM_J6_stringSize_0f7a4 (va_Pc [.int x0] (rqB D cA [])) (rqQ (some (.int r))) 0 0 (fun _ => False) := by
  refine rq_ofW (cc := cJ6_stringSize_0f7a4) (maxL := 4) (ret := (some .int)) (by decide) rfl (Nat.le_of_ble_eq_true rfl) (fun p e s m args below meth c ls Q hx hb hml hts hfc hK hP hl hend => ?_)
  have hfc : s.vm.findClass RJ6 = some m.cls := hfc
  have hl : lv_has ls 4 [(0, .int x0)] := hl
  have h := hr
  clear hr
  unfold SJ6_stringSize_0f7a4 at h
  refine lv_iconst (v := 1) hx hb dJ6_stringSize_0f7a4_0 (by decide) ?_
  refine lv_istore_n hx hb dJ6_stringSize_0f7a4_1 rfl hl (Nat.le_of_ble_eq_true rfl) rfl (fun ls hl => ?_)
  have hl : lv_has ls 4 [(1, .int 1), (0, .int x0)] := hl
  refine lv_iload_n hx hb dJ6_stringSize_0f7a4_2 rfl (lv_at hl 1 rfl) ?_
  obtain ⟨g2, h⟩ := gd_i h
  refine lv_if_lt (tgt := 11) hx hb dJ6_stringSize_0f7a4_3 (by decide) (fun c => absurd c g2) (fun _ => ?_)
  refine lv_iconst (v := 0) hx hb dJ6_stringSize_0f7a4_6 (by decide) ?_
  refine lv_istore_n hx hb dJ6_stringSize_0f7a4_7 rfl hl (Nat.le_of_ble_eq_true rfl) rfl (fun ls hl => ?_)
  have hl : lv_has ls 4 [(1, .int 0), (0, .int x0)] := hl
  refine lv_iload_n hx hb dJ6_stringSize_0f7a4_8 rfl (lv_at hl 1 rfl) ?_
  refine lv_ineg hx hb dJ6_stringSize_0f7a4_9 ?_
  refine lv_istore_n hx hb dJ6_stringSize_0f7a4_10 rfl hl (Nat.le_of_ble_eq_true rfl) rfl (fun ls hl => ?_)
  have hl : lv_has ls 4 [(0, .int (-x0)), (1, .int 0)] := hl
  refine lv_bipush (v := (-10)) hx hb dJ6_stringSize_0f7a4_11 (by decide) ?_
  refine lv_istore_n hx hb dJ6_stringSize_0f7a4_13 rfl hl (Nat.le_of_ble_eq_true rfl) rfl (fun ls hl => ?_)
  have hl : lv_has ls 4 [(2, .int (-10)), (0, .int (-x0)), (1, .int 0)] := hl
  refine lv_iconst (v := 1) hx hb dJ6_stringSize_0f7a4_14 (by decide) ?_
  refine lv_istore_n hx hb dJ6_stringSize_0f7a4_15 rfl hl (Nat.le_of_ble_eq_true rfl) rfl (fun ls hl => ?_)
  have hl : lv_has ls 4 [(3, .int 1), (2, .int (-10)), (0, .int (-x0)), (1, .int 0)] := hl
  have hLJ6_stringSize_0f7a4_16 : ∀ (fu : Nat) (x2_16 : Int32) (x3_16 : Int32) (ls : Array Slot), lv_has ls 4 [(0, .int (-x0)), (1, .int 0), (2, .int x2_16), (3, .int x3_16)] → LJ6_stringSize_0f7a4_16 x0 fu x2_16 x3_16 = some r → W p l e RM_J6_stringSize_0f7a4 s m args below meth c s.heap [] 0 0 Q (F0 m 16 ls []) := by
    intro fu
    induction fu with
    | zero =>
      intro x2_16 x3_16 ls hl h
      rw [LJ6_stringSize_0f7a4_16] at h
      exact nn h
    | succ fu ih =>
      intro x2_16 x3_16 ls hl h
      rw [LJ6_stringSize_0f7a4_16] at h
      refine lv_iload_n hx hb dJ6_stringSize_0f7a4_16 rfl (lv_at hl 3 rfl) ?_
      refine lv_bipush (v := 10) hx hb dJ6_stringSize_0f7a4_17 (by decide) ?_
      refine lv_icmp_ge (tgt := 42) hx hb dJ6_stringSize_0f7a4_19 (by decide) (fun c3 => ?_) (fun c3 => ?_)
      · have h := ite_t c3 h
        refine lv_bipush (v := 10) hx hb dJ6_stringSize_0f7a4_42 (by decide) ?_
        refine lv_iload_n hx hb dJ6_stringSize_0f7a4_44 rfl (lv_at hl 1 rfl) ?_
        refine lv_iadd hx hb dJ6_stringSize_0f7a4_45 ?_
        refine lv_topi' (x := 10 + 0) (y := 10) (by decide) ?_
        have h := Option.some.inj h
        subst h
        exact hend _ _ _ _ rfl (rtn_i _) dJ6_stringSize_0f7a4_46
      · have h := ite_f c3 h
        refine lv_iload_n hx hb dJ6_stringSize_0f7a4_22 rfl (lv_at hl 0 rfl) ?_
        refine lv_iload_n hx hb dJ6_stringSize_0f7a4_23 rfl (lv_at hl 2 rfl) ?_
        refine lv_icmp_le (tgt := 31) hx hb dJ6_stringSize_0f7a4_24 (by decide) (fun c4 => ?_) (fun c4 => ?_)
        · have h := ite_t c4 h
          refine lv_bipush (v := 10) hx hb dJ6_stringSize_0f7a4_31 (by decide) ?_
          refine lv_iload_n hx hb dJ6_stringSize_0f7a4_33 rfl (lv_at hl 2 rfl) ?_
          refine lv_imul hx hb dJ6_stringSize_0f7a4_34 ?_
          refine lv_istore_n hx hb dJ6_stringSize_0f7a4_35 rfl hl (Nat.le_of_ble_eq_true rfl) rfl (fun ls hl => ?_)
          have hl : lv_has ls 4 [(2, .int (10 * x2_16)), (0, .int (-x0)), (1, .int 0), (3, .int x3_16)] := hl
          refine lv_iinc (k := 3) (v := x3_16 + 1) hx hb dJ6_stringSize_0f7a4_36 hl rfl (congrArg (fun z => x3_16 + z) lit1) (Nat.le_of_ble_eq_true rfl) rfl (fun ls hl => ?_)
          have hl : lv_has ls 4 [(3, .int (x3_16 + 1)), (2, .int (10 * x2_16)), (0, .int (-x0)), (1, .int 0)] := hl
          refine lv_goto (tgt := 16) hx hb dJ6_stringSize_0f7a4_39 (by decide) ?_
          exact ih (10 * x2_16) (x3_16 + 1) _ (lv_sub hl [2, 3, 1, 0] rfl) h
        · have h := ite_f c4 h
          refine lv_iload_n hx hb dJ6_stringSize_0f7a4_27 rfl (lv_at hl 3 rfl) ?_
          refine lv_iload_n hx hb dJ6_stringSize_0f7a4_28 rfl (lv_at hl 1 rfl) ?_
          refine lv_iadd hx hb dJ6_stringSize_0f7a4_29 ?_
          have h := Option.some.inj h
          subst h
          exact hend _ _ _ _ rfl (rtn_i _) dJ6_stringSize_0f7a4_30
  exact hLJ6_stringSize_0f7a4_16 N (-10) 1 _ (lv_sub hl [2, 3, 1, 0] rfl) h

noncomputable def LJ6_getChars_ba4f3_22 (n : Nat) : Nat → (Nat → Int32) → Int32 → Int32 → Option (Int32 × (Nat → Int32))
  | 0, _, _, _ => none
  | fu + 1, f0_22, x0_22, x5_22 => if (-100) < x0_22 then (gd (vp_in (-x0_22) 100) (lt_ (jOnes (Int32.toNatClampNeg (-x0_22))) (fun t6 : Int32 => gd (vp_in (x5_22 + (-1)) n) (bnd (if (-9) ≤ x0_22 then (some ((x5_22 + (-1), upd f0_22 (Int32.toNatClampNeg (x5_22 + (-1))) (vp_nar .byte t6)))) else (gd (vp_in (-x0_22) 100) (lt_ (jTens (Int32.toNatClampNeg (-x0_22))) (fun t11 : Int32 => gd (vp_in (x5_22 + (-1) + (-1)) n) (some ((x5_22 + (-1) + (-1), upd (upd f0_22 (Int32.toNatClampNeg (x5_22 + (-1))) (vp_nar .byte t6)) (Int32.toNatClampNeg (x5_22 + (-1) + (-1))) (vp_nar .byte t11)))))))) (fun o9 : Int32 × (Nat → Int32) => some ((o9.1, o9.2))))))) else (lt_ (((x0_22 / 100) * 100) - x0_22) (fun t14 : Int32 => gd (vp_in t14 100) (lt_ (jOnes (Int32.toNatClampNeg t14)) (fun t16 : Int32 => gd (vp_in (x5_22 + (-1)) n) (gd (vp_in t14 100) (lt_ (jTens (Int32.toNatClampNeg t14)) (fun t19 : Int32 => gd (vp_in (x5_22 + (-1) + (-1)) n) (LJ6_getChars_ba4f3_22 n fu (upd (upd f0_22 (Int32.toNatClampNeg (x5_22 + (-1))) (vp_nar .byte t16)) (Int32.toNatClampNeg (x5_22 + (-1) + (-1))) (vp_nar .byte t19)) (x0_22 / 100) (x5_22 + (-1) + (-1))))))))))
noncomputable def SJ6_getChars_ba4f3 (N : Nat) (x0 : Int32) (x1 : Int32) (n : Nat) (f : Nat → Int32) : Option (Int32 × (Nat → Int32)) := gd (0 ≤ x0) (LJ6_getChars_ba4f3_22 n N f (-x0) x1)
abbrev RM_J6_getChars_ba4f3 : Room := { frames := 0, cells := 0, slots := 0, locals := 0 }
set_option maxHeartbeats 4000000 in
theorem kJ6_getChars_ba4f3 (l : Launch) (D : va_G) (cA : Nat → ClassId) (G : eG) (s1 : Nat) (N : Nat) (x0 : Int32) (x1 : Int32) (n : Nat) (f : Nat → Int32) {r : Int32 × (Nat → Int32)} (hr : SJ6_getChars_ba4f3 N x0 x1 n f = some r) {sz : Nat} : Met l yJ6_getChars_ba4f3 wsJ6_getChars_ba4f3 RM_J6_getChars_ba4f3 (va_Pc [.int x0, .int x1, .ref s1] (gqEB G D cA [(s1, .inl (cA 1, n, .inl f))] sz)) (gqQ D (fun as => (some (.int r.1))) (fun as => [(s1, .inl (cA 1, n, .inl r.2))]) (va_A [(s1, .inl (cA 1, n, .inl f))] sz)) 0 0 (va_A [(s1, .inl (cA 1, n, .inl f))] sz) := by
  refine gqE_ofW (cc := cJ6_getChars_ba4f3) (maxL := 7) (ret := (some .int)) (by decide) rfl (Nat.le_of_ble_eq_true rfl) (fun p e s m args below meth c ls Q A hx hb hml hts hfc hmn hK hP hD hS hA hEV hl hend => ?_)
  have hfc : s.vm.findClass RJ6 = some m.cls := hfc
  have hl : lv_has ls 7 [(0, .int x0), (1, .int x1), (2, .ref s1)] := hl
  have h := hr
  clear hr
  unfold SJ6_getChars_ba4f3 at h
  refine lv_iload_n hx hb dJ6_getChars_ba4f3_0 rfl (lv_at hl 1 rfl) ?_
  refine lv_istore hx hb dJ6_getChars_ba4f3_1 hl (Nat.le_of_ble_eq_true rfl) rfl (fun ls hl => ?_)
  have hl : lv_has ls 7 [(5, .int x1), (0, .int x0), (1, .int x1), (2, .ref s1)] := hl
  refine lv_iload_n hx hb dJ6_getChars_ba4f3_3 rfl (lv_at hl 1 rfl) ?_
  obtain ⟨g2, h⟩ := gd_i h
  refine lv_if_ge (tgt := 11) hx hb dJ6_getChars_ba4f3_4 (by decide) (fun _ => ?_) (fun c => absurd g2 c)
  refine lv_iconst (v := 0) hx hb dJ6_getChars_ba4f3_11 (by decide) ?_
  refine lv_istore hx hb dJ6_getChars_ba4f3_12 hl (Nat.le_of_ble_eq_true rfl) rfl (fun ls hl => ?_)
  have hl : lv_has ls 7 [(6, .int 0), (5, .int x1), (0, .int x0), (1, .int x1), (2, .ref s1)] := hl
  refine lv_iload hx hb dJ6_getChars_ba4f3_14 (lv_at hl 0 rfl) ?_
  refine lv_if_ne (tgt := 22) hx hb dJ6_getChars_ba4f3_16 (by decide) (fun c => absurd (by decide) c) (fun _ => ?_)
  refine lv_iload_n hx hb dJ6_getChars_ba4f3_19 rfl (lv_at hl 2 rfl) ?_
  refine lv_ineg hx hb dJ6_getChars_ba4f3_20 ?_
  refine lv_istore_n hx hb dJ6_getChars_ba4f3_21 rfl hl (Nat.le_of_ble_eq_true rfl) rfl (fun ls hl => ?_)
  have hl : lv_has ls 7 [(0, .int (-x0)), (6, .int 0), (5, .int x1), (1, .int x1), (2, .ref s1)] := hl
  have hLJ6_getChars_ba4f3_22 : ∀ (fu : Nat) (f0_22 : Nat → Int32) (x0_22 : Int32) (x5_22 : Int32) (ls : Array Slot) (H : Heap) (locs : List Loc), lv_has ls 7 [(0, .int x0_22), (1, .int x1), (2, .ref s1), (5, .int x5_22), (6, .int 0)] → va_P D vwCl [(s1, .inl (cA 1, n, .inl f0_22))] H → va_D A [(s1, .inl (cA 1, n, .inl f0_22))] → va_S A s.heap H locs → LJ6_getChars_ba4f3_22 n fu f0_22 x0_22 x5_22 = some r → W p l e RM_J6_getChars_ba4f3 s m args below meth c H locs 0 0 Q (F0 m 22 ls []) := by
    intro fu
    induction fu with
    | zero =>
      intro f0_22 x0_22 x5_22 ls H locs hl hP hD hS h
      rw [LJ6_getChars_ba4f3_22] at h
      exact nn h
    | succ fu ih =>
      intro f0_22 x0_22 x5_22 ls H locs hl hP hD hS h
      rw [LJ6_getChars_ba4f3_22] at h
      refine lv_iload_n hx hb dJ6_getChars_ba4f3_22 rfl (lv_at hl 0 rfl) ?_
      refine lv_bipush (v := (-100)) hx hb dJ6_getChars_ba4f3_23 (by decide) ?_
      refine lv_icmp_gt (tgt := 72) hx hb dJ6_getChars_ba4f3_25 (by decide) (fun c4 => ?_) (fun c4 => ?_)
      · have h := ite_t c4 h
        refine lv_aload_n hx hb dJ6_getChars_ba4f3_72 rfl (lv_at hl 2 rfl) ?_
        refine lv_iinc (k := 3) (v := x5_22 + (-1)) hx hb dJ6_getChars_ba4f3_73 hl rfl (congrArg (fun z => x5_22 + z) litm1) (Nat.le_of_ble_eq_true rfl) rfl (fun ls hl => ?_)
        have hl : lv_has ls 7 [(5, .int (x5_22 + (-1))), (0, .int x0_22), (1, .int x1), (2, .ref s1), (6, .int 0)] := hl
        refine lv_iload hx hb dJ6_getChars_ba4f3_76 (lv_at hl 0 rfl) ?_
        refine va_gets (v := .ref G.2.2.2) hx hb hEV.2.2.2.1 hS hfc (hts (.fieldLink RJ6 83 "java/lang/Integer" "DigitOnes" "[B") (List.mem_of_getElem? (i := 1) rfl)) (fun _ h9 => h9) dJ6_getChars_ba4f3_78 ?_
        refine lv_iload_n hx hb dJ6_getChars_ba4f3_81 rfl (lv_at hl 1 rfl) ?_
        refine lv_ineg hx hb dJ6_getChars_ba4f3_82 ?_
        obtain ⟨g5, h⟩ := gd_i h
        refine va_tb (v := .int (jOnes (Int32.toNatClampNeg (-x0_22)))) hx hb hEV.2.2.2.2.2.1 hS g5 rfl dJ6_getChars_ba4f3_83 ?_
        refine lv_topi (fun t6 et6 => ?_)
        have h := lt_e h _ et6
        obtain ⟨g7, h⟩ := gd_i h
        refine va_bast hx hb hK hP hD hS 0 1 rfl rfl g7 dJ6_getChars_ba4f3_84 (fun H locs hP hD hS => ?_)
        have hP : va_P D vwCl [(s1, .inl (cA 1, n, .inl (upd f0_22 (Int32.toNatClampNeg (x5_22 + (-1))) (vp_nar .byte t6))))] H := hP
        have hD : va_D A [(s1, .inl (cA 1, n, .inl (upd f0_22 (Int32.toNatClampNeg (x5_22 + (-1))) (vp_nar .byte t6))))] := hD
        refine lv_iload_n hx hb dJ6_getChars_ba4f3_85 rfl (lv_at hl 1 rfl) ?_
        refine lv_bipush (v := (-9)) hx hb dJ6_getChars_ba4f3_86 (by decide) ?_
        obtain ⟨o9, ho9, h⟩ := bnd_i h
        have ko9 : ∀ (ls : Array Slot) (H : Heap) (locs : List Loc), lv_has ls 7 [(0, .int x0_22), (1, .int x1), (2, .ref s1), (5, .int o9.1), (6, .int 0)] → va_P D vwCl [(s1, .inl (cA 1, n, .inl o9.2))] H → va_D A [(s1, .inl (cA 1, n, .inl o9.2))] → va_S A s.heap H locs → W p l e RM_J6_getChars_ba4f3 s m args below meth c H locs 0 0 Q (F0 m 104 ls []) := by
          intro ls H locs hl hP hD hS
          refine lv_iload hx hb dJ6_getChars_ba4f3_104 (lv_at hl 4 rfl) ?_
          refine lv_if_eq (tgt := 118) hx hb dJ6_getChars_ba4f3_106 (by decide) (fun _ => ?_) (fun c => absurd (by decide) c)
          refine lv_iload hx hb dJ6_getChars_ba4f3_118 (lv_at hl 3 rfl) ?_
          have h := Option.some.inj h
          subst h
          exact hend (adr []) _ _ _ _ _ _ _ rfl rfl (rtn_i _) hP hD hS dJ6_getChars_ba4f3_120
        clear h
        have h := ho9
        clear ho9
        refine lv_icmp_ge (tgt := 104) hx hb dJ6_getChars_ba4f3_88 (by decide) (fun c8 => ?_) (fun c8 => ?_)
        · have h := ite_t c8 h
          have h := Option.some.inj h
          subst h
          exact ko9 _ _ _ (lv_sub hl [1, 2, 3, 0, 4] rfl) hP hD hS
        · have h := ite_f c8 h
          refine lv_aload_n hx hb dJ6_getChars_ba4f3_91 rfl (lv_at hl 3 rfl) ?_
          refine lv_iinc (k := 0) (v := x5_22 + (-1) + (-1)) hx hb dJ6_getChars_ba4f3_92 hl rfl (congrArg (fun z => x5_22 + (-1) + z) litm1) (Nat.le_of_ble_eq_true rfl) rfl (fun ls hl => ?_)
          have hl : lv_has ls 7 [(5, .int (x5_22 + (-1) + (-1))), (0, .int x0_22), (1, .int x1), (2, .ref s1), (6, .int 0)] := hl
          refine lv_iload hx hb dJ6_getChars_ba4f3_95 (lv_at hl 0 rfl) ?_
          refine va_gets (v := .ref G.2.2.1) hx hb hEV.2.2.1 hS hfc (hts (.fieldLink RJ6 87 "java/lang/Integer" "DigitTens" "[B") (List.mem_of_getElem? (i := 2) rfl)) (fun _ h9 => h9) dJ6_getChars_ba4f3_97 ?_
          refine lv_iload_n hx hb dJ6_getChars_ba4f3_100 rfl (lv_at hl 1 rfl) ?_
          refine lv_ineg hx hb dJ6_getChars_ba4f3_101 ?_
          obtain ⟨g10, h⟩ := gd_i h
          refine va_tb (v := .int (jTens (Int32.toNatClampNeg (-x0_22)))) hx hb hEV.2.2.2.2.1 hS g10 rfl dJ6_getChars_ba4f3_102 ?_
          refine lv_topi (fun t11 et11 => ?_)
          have h := lt_e h _ et11
          obtain ⟨g12, h⟩ := gd_i h
          refine va_bast hx hb hK hP hD hS 0 1 rfl rfl g12 dJ6_getChars_ba4f3_103 (fun H locs hP hD hS => ?_)
          have hP : va_P D vwCl [(s1, .inl (cA 1, n, .inl (upd (upd f0_22 (Int32.toNatClampNeg (x5_22 + (-1))) (vp_nar .byte t6)) (Int32.toNatClampNeg (x5_22 + (-1) + (-1))) (vp_nar .byte t11))))] H := hP
          have hD : va_D A [(s1, .inl (cA 1, n, .inl (upd (upd f0_22 (Int32.toNatClampNeg (x5_22 + (-1))) (vp_nar .byte t6)) (Int32.toNatClampNeg (x5_22 + (-1) + (-1))) (vp_nar .byte t11))))] := hD
          have h := Option.some.inj h
          subst h
          exact ko9 _ _ _ (lv_sub hl [1, 2, 3, 0, 4] rfl) hP hD hS
      · have h := ite_f c4 h
        refine lv_iload_n hx hb dJ6_getChars_ba4f3_28 rfl (lv_at hl 0 rfl) ?_
        refine lv_bipush (v := 100) hx hb dJ6_getChars_ba4f3_29 (by decide) ?_
        refine lv_idiv hx hb dJ6_getChars_ba4f3_31 (by decide) ?_
        refine lv_istore_n hx hb dJ6_getChars_ba4f3_32 rfl hl (Nat.le_of_ble_eq_true rfl) rfl (fun ls hl => ?_)
        have hl : lv_has ls 7 [(3, .int (x0_22 / 100)), (0, .int x0_22), (1, .int x1), (2, .ref s1), (5, .int x5_22), (6, .int 0)] := hl
        refine lv_iload_n hx hb dJ6_getChars_ba4f3_33 rfl (lv_at hl 0 rfl) ?_
        refine lv_bipush (v := 100) hx hb dJ6_getChars_ba4f3_34 (by decide) ?_
        refine lv_imul hx hb dJ6_getChars_ba4f3_36 ?_
        refine lv_iload_n hx hb dJ6_getChars_ba4f3_37 rfl (lv_at hl 1 rfl) ?_
        refine lv_isub hx hb dJ6_getChars_ba4f3_38 ?_
        refine lv_topi (fun t14 et14 => ?_)
        have h := lt_e h _ et14
        refine lv_istore hx hb dJ6_getChars_ba4f3_39 hl (Nat.le_of_ble_eq_true rfl) rfl (fun ls hl => ?_)
        have hl : lv_has ls 7 [(4, .int t14), (3, .int (x0_22 / 100)), (0, .int x0_22), (1, .int x1), (2, .ref s1), (5, .int x5_22), (6, .int 0)] := hl
        refine lv_iload_n hx hb dJ6_getChars_ba4f3_41 rfl (lv_at hl 1 rfl) ?_
        refine lv_istore_n hx hb dJ6_getChars_ba4f3_42 rfl hl (Nat.le_of_ble_eq_true rfl) rfl (fun ls hl => ?_)
        have hl : lv_has ls 7 [(0, .int (x0_22 / 100)), (4, .int t14), (3, .int (x0_22 / 100)), (1, .int x1), (2, .ref s1), (5, .int x5_22), (6, .int 0)] := hl
        refine lv_aload_n hx hb dJ6_getChars_ba4f3_43 rfl (lv_at hl 4 rfl) ?_
        refine lv_iinc (k := 5) (v := x5_22 + (-1)) hx hb dJ6_getChars_ba4f3_44 hl rfl (congrArg (fun z => x5_22 + z) litm1) (Nat.le_of_ble_eq_true rfl) rfl (fun ls hl => ?_)
        have hl : lv_has ls 7 [(5, .int (x5_22 + (-1))), (0, .int (x0_22 / 100)), (4, .int t14), (3, .int (x0_22 / 100)), (1, .int x1), (2, .ref s1), (6, .int 0)] := hl
        refine lv_iload hx hb dJ6_getChars_ba4f3_47 (lv_at hl 0 rfl) ?_
        refine va_gets (v := .ref G.2.2.2) hx hb hEV.2.2.2.1 hS hfc (hts (.fieldLink RJ6 83 "java/lang/Integer" "DigitOnes" "[B") (List.mem_of_getElem? (i := 1) rfl)) (fun _ h9 => h9) dJ6_getChars_ba4f3_49 ?_
        refine lv_iload hx hb dJ6_getChars_ba4f3_52 (lv_at hl 2 rfl) ?_
        obtain ⟨g15, h⟩ := gd_i h
        refine va_tb (v := .int (jOnes (Int32.toNatClampNeg t14))) hx hb hEV.2.2.2.2.2.1 hS g15 rfl dJ6_getChars_ba4f3_54 ?_
        refine lv_topi (fun t16 et16 => ?_)
        have h := lt_e h _ et16
        obtain ⟨g17, h⟩ := gd_i h
        refine va_bast hx hb hK hP hD hS 0 1 rfl rfl g17 dJ6_getChars_ba4f3_55 (fun H locs hP hD hS => ?_)
        have hP : va_P D vwCl [(s1, .inl (cA 1, n, .inl (upd f0_22 (Int32.toNatClampNeg (x5_22 + (-1))) (vp_nar .byte t16))))] H := hP
        have hD : va_D A [(s1, .inl (cA 1, n, .inl (upd f0_22 (Int32.toNatClampNeg (x5_22 + (-1))) (vp_nar .byte t16))))] := hD
        refine lv_aload_n hx hb dJ6_getChars_ba4f3_56 rfl (lv_at hl 5 rfl) ?_
        refine lv_iinc (k := 0) (v := x5_22 + (-1) + (-1)) hx hb dJ6_getChars_ba4f3_57 hl rfl (congrArg (fun z => x5_22 + (-1) + z) litm1) (Nat.le_of_ble_eq_true rfl) rfl (fun ls hl => ?_)
        have hl : lv_has ls 7 [(5, .int (x5_22 + (-1) + (-1))), (0, .int (x0_22 / 100)), (4, .int t14), (3, .int (x0_22 / 100)), (1, .int x1), (2, .ref s1), (6, .int 0)] := hl
        refine lv_iload hx hb dJ6_getChars_ba4f3_60 (lv_at hl 0 rfl) ?_
        refine va_gets (v := .ref G.2.2.1) hx hb hEV.2.2.1 hS hfc (hts (.fieldLink RJ6 87 "java/lang/Integer" "DigitTens" "[B") (List.mem_of_getElem? (i := 2) rfl)) (fun _ h9 => h9) dJ6_getChars_ba4f3_62 ?_
        refine lv_iload hx hb dJ6_getChars_ba4f3_65 (lv_at hl 2 rfl) ?_
        obtain ⟨g18, h⟩ := gd_i h
        refine va_tb (v := .int (jTens (Int32.toNatClampNeg t14))) hx hb hEV.2.2.2.2.1 hS g18 rfl dJ6_getChars_ba4f3_67 ?_
        refine lv_topi (fun t19 et19 => ?_)
        have h := lt_e h _ et19
        obtain ⟨g20, h⟩ := gd_i h
        refine va_bast hx hb hK hP hD hS 0 1 rfl rfl g20 dJ6_getChars_ba4f3_68 (fun H locs hP hD hS => ?_)
        have hP : va_P D vwCl [(s1, .inl (cA 1, n, .inl (upd (upd f0_22 (Int32.toNatClampNeg (x5_22 + (-1))) (vp_nar .byte t16)) (Int32.toNatClampNeg (x5_22 + (-1) + (-1))) (vp_nar .byte t19))))] H := hP
        have hD : va_D A [(s1, .inl (cA 1, n, .inl (upd (upd f0_22 (Int32.toNatClampNeg (x5_22 + (-1))) (vp_nar .byte t16)) (Int32.toNatClampNeg (x5_22 + (-1) + (-1))) (vp_nar .byte t19))))] := hD
        refine lv_goto (tgt := 22) hx hb dJ6_getChars_ba4f3_69 (by decide) ?_
        exact ih (upd (upd f0_22 (Int32.toNatClampNeg (x5_22 + (-1))) (vp_nar .byte t16)) (Int32.toNatClampNeg (x5_22 + (-1) + (-1))) (vp_nar .byte t19)) (x0_22 / 100) (x5_22 + (-1) + (-1)) _ _ _ (lv_sub hl [1, 4, 5, 0, 6] rfl) hP hD hS h
  exact hLJ6_getChars_ba4f3_22 N f (-x0) x1 _ _ _ (lv_sub hl [0, 3, 4, 2, 1] rfl) hP hD hS h

noncomputable def SJ5_append_c97b9 (N : Nat) (n : Nat) (f : Nat → Int32) (c0 : Int32) (x1 : Int32) : Option (Int32 × (Nat → Int32) × Nat) := bnd (SJ6_stringSize_0f7a4 N x1) (fun o1 : Int32 => bnd (SJ5_ensureCapacityInternal_d00df n f (c0 + o1)) (fun o3 : (Nat → Int32) × Nat => lt_ (SJ5_isLatin1_aae02) (fun o5 : Unit => bnd (SJ6_getChars_ba4f3 N x1 (c0 + o1) o3.2 o3.1) (fun o8 : Int32 × (Nat → Int32) => some ((c0 + o1, o8.2, o3.2))))))
theorem iJ5_append_c97b9_J4 : ∀ w ∈ wsJ40, w ∈ wsJ5_append_c97b9 := fun _ h => List.mem_cons_of_mem _ (List.mem_append_right _ h)
abbrev RM_J5_append_c97b9 : Room := { frames := 4, cells := 1, slots := 168, locals := 86 }
set_option maxHeartbeats 4000000 in
theorem kJ5_append_c97b9 (l : Launch) (D : va_G) (cA : Nat → ClassId) (G : eG) (s0 s1 : Nat) (N : Nat) (n : Nat) (f : Nat → Int32) (ml : Int32) (c0 : Int32) (x1 : Int32) {r : Int32 × (Nat → Int32) × Nat} (hr : SJ5_append_c97b9 N n f c0 x1 = some r) {sz : Nat} : Met l yJ5_append_c97b9 wsJ5_append_c97b9 RM_J5_append_c97b9 (va_Pc [.ref s0, .int x1] (gqEB G D cA [(s0, .inr (1, [.ref s1, .int 0, .int ml, .int c0])), (s1, .inl (cA 1, n, .inl f))] sz)) (gqQ D (fun as => (some (.ref s0))) (fun as => [(s0, .inr (1, [.ref (as 0), .int 0, .int ml, .int r.1])), ((as 0), .inl (cA 1, r.2.2, .inl r.2.1))]) (va_A [(s0, .inr (1, [.ref s1, .int 0, .int ml, .int c0])), (s1, .inl (cA 1, n, .inl f))] sz)) 1 168 (va_A [(s0, .inr (1, [.ref s1, .int 0, .int ml, .int c0])), (s1, .inl (cA 1, n, .inl f))] sz) := by
  refine gqE_ofW (cc := cJ5_append_c97b9) (maxL := 4) (ret := (some (.object "java/lang/AbstractStringBuilder"))) (by decide) rfl (Nat.le_of_ble_eq_true rfl) (fun p e s m args below meth c ls Q A hx hb hml hts hfc hmn hK hP hD hS hA hEV hl hend => ?_)
  have hfc : s.vm.findClass RJ5 = some m.cls := hfc
  have hl : lv_has ls 4 [(0, .ref s0), (1, .int x1)] := hl
  have h := hr
  clear hr
  unfold SJ5_append_c97b9 at h
  refine lv_aload_n hx hb dJ5_append_c97b9_0 rfl (lv_at hl 0 rfl) ?_
  refine va_get (D := D) (ci := 1) (v := .int c0) (C := RJ4) (T := TJ4) (N := 4) hx hb hts iJ5_append_c97b9_J4 hfc hK hP 0 rfl rfl 3 (by decide) (hts (.fieldLink RJ5 79 "java/lang/AbstractStringBuilder" "count" "I") (List.mem_of_getElem? (i := 1) rfl)) (fun _ h9 => h9) rfl dJ5_append_c97b9_1 ?_
  refine lv_istore_n hx hb dJ5_append_c97b9_4 rfl hl (Nat.le_of_ble_eq_true rfl) rfl (fun ls hl => ?_)
  have hl : lv_has ls 4 [(2, .int c0), (0, .ref s0), (1, .int x1)] := hl
  refine lv_iload_n hx hb dJ5_append_c97b9_5 rfl (lv_at hl 0 rfl) ?_
  refine lv_iload_n hx hb dJ5_append_c97b9_6 rfl (lv_at hl 2 rfl) ?_
  obtain ⟨o1, ho1, h⟩ := bnd_i h
  refine rq_S (v := (some (.int o1))) (As := [.int x1]) (rest := [.int c0]) (wc := []) ⟨hx, hb, hml, hfc, hts⟩ hK hP (kJ6_stringSize_0f7a4 l D cA N x1 ho1) (va_cwS 1 hts gJ5_append_c97b9_J6_stringSize_0f7a4 rfl rfl rfl (by decide +kernel) ⟨(Nat.le_of_ble_eq_true rfl), (Nat.le_of_ble_eq_true rfl)⟩) [] rfl rfl rfl rfl hl.1 (Nat.le_of_ble_eq_true rfl) dJ5_append_c97b9_7 ⟨(Nat.zero_le _), (Nat.zero_le _)⟩ ?_
  refine lv_iadd hx hb dJ5_append_c97b9_10 ?_
  refine lv_istore_n hx hb dJ5_append_c97b9_11 rfl hl (Nat.le_of_ble_eq_true rfl) rfl (fun ls hl => ?_)
  have hl : lv_has ls 4 [(3, .int (c0 + o1)), (2, .int c0), (0, .ref s0), (1, .int x1)] := hl
  refine lv_aload_n hx hb dJ5_append_c97b9_12 rfl (lv_at hl 2 rfl) ?_
  refine lv_iload_n hx hb dJ5_append_c97b9_13 rfl (lv_at hl 0 rfl) ?_
  obtain ⟨o3, ho3, h⟩ := bnd_i h
  refine gq_U (v := (fun as => none)) (As := [.int (c0 + o1)]) (rest := []) (wc := [(s0, .inr (1, [.ref s1, .int 0, .int ml, .int c0])), (s1, .inl (cA 1, n, .inl f))]) (wr := []) (w1 := (fun as => [(s0, .inr (1, [.ref (as 0), .int 0, .int ml, .int c0])), ((as 0), .inl (cA 1, o3.2, .inl o3.1))])) (ws2 := (fun as => [(s0, .inr (1, [.ref (as 0), .int 0, .int ml, .int c0])), ((as 0), .inl (cA 1, o3.2, .inl o3.1))])) (st1 := (fun as => [])) ⟨hx, hb, hml, hfc, hts⟩ hK hP hD hS hA (kJ5_ensureCapacityInternal_d00df l D cA s0 s1 n f ml c0 (c0 + o1) ho3) (va_cwU 1 hts gJ5_append_c97b9_J5_ensureCapacityInternal_d00df_u100J4 rfl rfl rfl rfl (by decide +kernel) ⟨(Nat.le_of_ble_eq_true rfl), (Nat.le_of_ble_eq_true rfl)⟩) [0, 1] [] [0, 1] rfl rfl rfl rfl (by decide) (fun _ => rfl) rfl 0 1 rfl rfl rfl rfl (fun _ => rfl) rfl hl.1 (Nat.le_of_ble_eq_true rfl) dJ5_append_c97b9_14 ⟨(Nat.le_of_ble_eq_true rfl), (Nat.le_of_ble_eq_true rfl)⟩ (fun as4 H locs hP hD hS => ?_)
  have hP : va_P D vwCl [(s0, .inr (1, [.ref (as4 0), .int 0, .int ml, .int c0])), ((as4 0), .inl (cA 1, o3.2, .inl o3.1))] H := hP
  have hD : va_D A [(s0, .inr (1, [.ref (as4 0), .int 0, .int ml, .int c0])), ((as4 0), .inl (cA 1, o3.2, .inl o3.1))] := hD
  refine W.cs (cells' := 1) (slots' := 168) rfl rfl ?_
  refine lv_aload_n hx hb dJ5_append_c97b9_17 rfl (lv_at hl 2 rfl) ?_
  obtain ⟨o5, ho5, h⟩ := lt_i h
  refine rqE_U (G := G) (v := (some (.int 1))) (As := []) (rest := []) (wc := [(s0, .inr (1, [.ref (as4 0), .int 0, .int ml, .int c0])), ((as4 0), .inl (cA 1, o3.2, .inl o3.1))]) ⟨hx, hb, hml, hfc, hts⟩ hK hP hS hEV (kJ5_isLatin1_aae02 l D cA G s0 (as4 0) o3.2 o3.1 ml c0 ho5) (va_cwU 0 hts gJ5_append_c97b9_J5_isLatin1_aae02_u83J4 rfl rfl rfl rfl (by decide +kernel) ⟨(Nat.le_of_ble_eq_true rfl), (Nat.le_of_ble_eq_true rfl)⟩) [0, 1] rfl 0 1 rfl rfl rfl rfl rfl rfl hl.1 (Nat.le_of_ble_eq_true rfl) dJ5_append_c97b9_18 ⟨(Nat.le_of_ble_eq_true rfl), (Nat.le_of_ble_eq_true rfl)⟩ ?_
  refine lv_if_eq (tgt := 37) hx hb dJ5_append_c97b9_21 (by decide) (fun c => absurd c (by decide)) (fun _ => ?_)
  refine lv_iload_n hx hb dJ5_append_c97b9_24 rfl (lv_at hl 3 rfl) ?_
  refine lv_iload_n hx hb dJ5_append_c97b9_25 rfl (lv_at hl 0 rfl) ?_
  refine lv_aload_n hx hb dJ5_append_c97b9_26 rfl (lv_at hl 2 rfl) ?_
  refine va_get (D := D) (ci := 1) (v := .ref (as4 0)) (C := RJ4) (T := TJ4) (N := 4) hx hb hts iJ5_append_c97b9_J4 hfc hK hP 0 rfl rfl 0 (by decide) (hts (.fieldLink RJ5 15 "java/lang/AbstractStringBuilder" "value" "[B") (List.mem_of_getElem? (i := 2) rfl)) (fun _ h9 => h9) rfl dJ5_append_c97b9_27 ?_
  obtain ⟨o8, ho8, h⟩ := bnd_i h
  refine gqE_S (G := G) (v := (fun as => (some (.int o8.1)))) (As := [.int x1, .int (c0 + o1), .ref (as4 0)]) (rest := []) (wc := [((as4 0), .inl (cA 1, o3.2, .inl o3.1))]) (wr := [(s0, .inr (1, [.ref (as4 0), .int 0, .int ml, .int c0]))]) (w1 := (fun as => [((as4 0), .inl (cA 1, o3.2, .inl o8.2))])) (ws2 := (fun as => [(s0, .inr (1, [.ref (as4 0), .int 0, .int ml, .int c0])), ((as4 0), .inl (cA 1, o3.2, .inl o8.2))])) (st1 := (fun as => [.int o8.1])) ⟨hx, hb, hml, hfc, hts⟩ hK hP hD hS hA hEV (kJ6_getChars_ba4f3 l D cA G (as4 0) N x1 (c0 + o1) o3.2 o3.1 ho8) (va_cwS 3 hts gJ5_append_c97b9_J6_getChars_ba4f3 rfl rfl rfl (by decide +kernel) ⟨(Nat.le_of_ble_eq_true rfl), (Nat.le_of_ble_eq_true rfl)⟩) [1] [0] [0, 1] rfl rfl rfl rfl (by decide) (fun _ => rfl) rfl rfl (fun _ => rfl) rfl hl.1 (Nat.le_of_ble_eq_true rfl) dJ5_append_c97b9_30 ⟨(Nat.le_of_ble_eq_true rfl), (Nat.le_of_ble_eq_true rfl)⟩ (fun as9 H locs hP hD hS => ?_)
  have hP : va_P D vwCl [(s0, .inr (1, [.ref (as4 0), .int 0, .int ml, .int c0])), ((as4 0), .inl (cA 1, o3.2, .inl o8.2))] H := hP
  have hD : va_D A [(s0, .inr (1, [.ref (as4 0), .int 0, .int ml, .int c0])), ((as4 0), .inl (cA 1, o3.2, .inl o8.2))] := hD
  refine lv_pop hx hb dJ5_append_c97b9_33 rfl ?_
  refine lv_goto (tgt := 48) hx hb dJ5_append_c97b9_34 (by decide) ?_
  refine lv_aload_n hx hb dJ5_append_c97b9_48 rfl (lv_at hl 2 rfl) ?_
  refine lv_iload_n hx hb dJ5_append_c97b9_49 rfl (lv_at hl 0 rfl) ?_
  refine va_put (D := D) (ci := 1) (v := .int (c0 + o1)) (ty := .int) (C := RJ4) (T := TJ4) (N := 4) hx hb hts iJ5_append_c97b9_J4 tyJ4 tyJ4_ok nmJ4 hfc hK hP hD hS 0 rfl rfl 3 (by decide) (hts (.fieldLink RJ5 79 "java/lang/AbstractStringBuilder" "count" "I") (List.mem_of_getElem? (i := 1) rfl)) (fun _ h9 => h9) rfl (by decide +kernel) rfl rfl (Nat.le_of_ble_eq_true rfl) dJ5_append_c97b9_50 (fun H locs hP hD hS => ?_)
  have hP : va_P D vwCl [(s0, .inr (1, [.ref (as4 0), .int 0, .int ml, .int (c0 + o1)])), ((as4 0), .inl (cA 1, o3.2, .inl o8.2))] H := hP
  have hD : va_D A [(s0, .inr (1, [.ref (as4 0), .int 0, .int ml, .int (c0 + o1)])), ((as4 0), .inl (cA 1, o3.2, .inl o8.2))] := hD
  refine lv_aload_n hx hb dJ5_append_c97b9_53 rfl (lv_at hl 2 rfl) ?_
  have h := Option.some.inj h
  subst h
  refine W.widen (k := 1) (n := 168) (Nat.le_of_ble_eq_true rfl) (Nat.le_of_ble_eq_true rfl) ?_
  exact hend (adr [(as4 0)]) _ _ _ _ _ _ _ rfl rfl (rtn_a _ _) hP hD hS dJ5_append_c97b9_54

noncomputable def SJ4_append_bf812 (N : Nat) (n : Nat) (f : Nat → Int32) (c0 : Int32) (x1 : Int32) : Option (Int32 × (Nat → Int32) × Nat) := bnd (SJ5_append_c97b9 N n f c0 x1) (fun o1 : Int32 × (Nat → Int32) × Nat => some ((o1.1, o1.2.1, o1.2.2)))
abbrev RM_J4_append_bf812 : Room := { frames := 5, cells := 1, slots := 168, locals := 109 }
set_option maxHeartbeats 4000000 in
theorem kJ4_append_bf812 (l : Launch) (D : va_G) (cA : Nat → ClassId) (G : eG) (s0 s1 : Nat) (N : Nat) (n : Nat) (f : Nat → Int32) (ml : Int32) (c0 : Int32) (x1 : Int32) {r : Int32 × (Nat → Int32) × Nat} (hr : SJ4_append_bf812 N n f c0 x1 = some r) {sz : Nat} : Met l yJ4_append_bf812 wsJ4_append_bf812 RM_J4_append_bf812 (va_Pc [.ref s0, .int x1] (gqEB G D cA [(s0, .inr (1, [.ref s1, .int 0, .int ml, .int c0])), (s1, .inl (cA 1, n, .inl f))] sz)) (gqQ D (fun as => (some (.ref s0))) (fun as => [(s0, .inr (1, [.ref (as 0), .int 0, .int ml, .int r.1])), ((as 0), .inl (cA 1, r.2.2, .inl r.2.1))]) (va_A [(s0, .inr (1, [.ref s1, .int 0, .int ml, .int c0])), (s1, .inl (cA 1, n, .inl f))] sz)) 1 168 (va_A [(s0, .inr (1, [.ref s1, .int 0, .int ml, .int c0])), (s1, .inl (cA 1, n, .inl f))] sz) := by
  refine gqE_ofW (cc := cJ4_append_bf812) (maxL := 2) (ret := (some (.object "java/lang/StringBuilder"))) (by decide) rfl (Nat.le_of_ble_eq_true rfl) (fun p e s m args below meth c ls Q A hx hb hml hts hfc hmn hK hP hD hS hA hEV hl hend => ?_)
  have hfc : s.vm.findClass RJ4 = some m.cls := hfc
  have hl : lv_has ls 2 [(0, .ref s0), (1, .int x1)] := hl
  have h := hr
  clear hr
  unfold SJ4_append_bf812 at h
  refine lv_aload_n hx hb dJ4_append_bf812_0 rfl (lv_at hl 0 rfl) ?_
  refine lv_iload_n hx hb dJ4_append_bf812_1 rfl (lv_at hl 1 rfl) ?_
  obtain ⟨o1, ho1, h⟩ := bnd_i h
  refine gqE_P (G := G) (v := (fun as => (some (.ref s0)))) (As := [.int x1]) (rest := []) (wc := [(s0, .inr (1, [.ref s1, .int 0, .int ml, .int c0])), (s1, .inl (cA 1, n, .inl f))]) (wr := []) (w1 := (fun as => [(s0, .inr (1, [.ref (as 0), .int 0, .int ml, .int o1.1])), ((as 0), .inl (cA 1, o1.2.2, .inl o1.2.1))])) (ws2 := (fun as => [(s0, .inr (1, [.ref (as 0), .int 0, .int ml, .int o1.1])), ((as 0), .inl (cA 1, o1.2.2, .inl o1.2.1))])) (st1 := (fun as => [.ref s0])) ⟨hx, hb, hml, hfc, hts⟩ hK hP hD hS hA hEV (kJ5_append_c97b9 l D cA G s0 s1 N n f ml c0 x1 ho1) (va_cwSU 1 hts gJ4_append_bf812_J5_append_c97b9_s53 rfl rfl rfl (by decide +kernel) ⟨(Nat.le_of_ble_eq_true rfl), (Nat.le_of_ble_eq_true rfl)⟩) [0, 1] [] [0, 1] rfl rfl rfl rfl (by decide) (fun _ => rfl) rfl 0 1 rfl rfl rfl rfl (fun _ => rfl) rfl hl.1 (Nat.le_of_ble_eq_true rfl) dJ4_append_bf812_2 ⟨(Nat.le_of_ble_eq_true rfl), (Nat.le_of_ble_eq_true rfl)⟩ (fun as2 H locs hP hD hS => ?_)
  have hP : va_P D vwCl [(s0, .inr (1, [.ref (as2 0), .int 0, .int ml, .int o1.1])), ((as2 0), .inl (cA 1, o1.2.2, .inl o1.2.1))] H := hP
  have hD : va_D A [(s0, .inr (1, [.ref (as2 0), .int 0, .int ml, .int o1.1])), ((as2 0), .inl (cA 1, o1.2.2, .inl o1.2.1))] := hD
  refine W.cs (cells' := 1) (slots' := 168) rfl rfl ?_
  refine lv_pop hx hb dJ4_append_bf812_5 rfl ?_
  refine lv_aload_n hx hb dJ4_append_bf812_6 rfl (lv_at hl 0 rfl) ?_
  have h := Option.some.inj h
  subst h
  refine W.widen (k := 1) (n := 168) (Nat.le_of_ble_eq_true rfl) (Nat.le_of_ble_eq_true rfl) ?_
  exact hend (adr [(as2 0)]) _ _ _ _ _ _ _ rfl rfl (rtn_a _ _) hP hD hS dJ4_append_bf812_7

noncomputable def SJ5_setLength_d00df (n : Nat) (f : Nat → Int32) (ml : Int32) (c0 : Int32) (x1 : Int32) : Option (Int32 × Int32 × (Nat → Int32) × Nat) := gd (0 ≤ x1) (bnd (SJ5_ensureCapacityInternal_d00df n f x1) (fun o3 : (Nat → Int32) × Nat => gd (x1 ≤ c0) (lt_ (if c0 ≤ x1 then (ml) else (1)) (fun o8 : Int32 => some ((o8, x1, o3.1, o3.2))))))
theorem iJ5_setLength_d00df_J4 : ∀ w ∈ wsJ40, w ∈ wsJ5_setLength_d00df := fun _ h => List.mem_cons_of_mem _ (List.mem_append_left _ (List.mem_append_right _ h))
abbrev RM_J5_setLength_d00df : Room := { frames := 4, cells := 1, slots := 168, locals := 86 }
set_option maxHeartbeats 4000000 in
theorem kJ5_setLength_d00df (l : Launch) (D : va_G) (cA : Nat → ClassId) (G : eG) (s0 s1 : Nat) (n : Nat) (f : Nat → Int32) (ml : Int32) (c0 : Int32) (x1 : Int32) {r : Int32 × Int32 × (Nat → Int32) × Nat} (hr : SJ5_setLength_d00df n f ml c0 x1 = some r) {sz : Nat} : Met l yJ5_setLength_d00df wsJ5_setLength_d00df RM_J5_setLength_d00df (va_Pc [.ref s0, .int x1] (gqEB G D cA [(s0, .inr (1, [.ref s1, .int 0, .int ml, .int c0])), (s1, .inl (cA 1, n, .inl f))] sz)) (gqQ D (fun as => none) (fun as => [(s0, .inr (1, [.ref (as 0), .int 0, .int r.1, .int r.2.1])), ((as 0), .inl (cA 1, r.2.2.2, .inl r.2.2.1))]) (va_A [(s0, .inr (1, [.ref s1, .int 0, .int ml, .int c0])), (s1, .inl (cA 1, n, .inl f))] sz)) 1 168 (va_A [(s0, .inr (1, [.ref s1, .int 0, .int ml, .int c0])), (s1, .inl (cA 1, n, .inl f))] sz) := by
  refine gqE_ofW (cc := cJ5_setLength_d00df) (maxL := 2) (ret := none) (by decide) rfl (Nat.le_of_ble_eq_true rfl) (fun p e s m args below meth c ls Q A hx hb hml hts hfc hmn hK hP hD hS hA hEV hl hend => ?_)
  have hfc : s.vm.findClass RJ5 = some m.cls := hfc
  have hl : lv_has ls 2 [(0, .ref s0), (1, .int x1)] := hl
  have h := hr
  clear hr
  unfold SJ5_setLength_d00df at h
  refine lv_iload_n hx hb dJ5_setLength_d00df_0 rfl (lv_at hl 1 rfl) ?_
  obtain ⟨g2, h⟩ := gd_i h
  refine lv_if_ge (tgt := 13) hx hb dJ5_setLength_d00df_1 (by decide) (fun _ => ?_) (fun c => absurd g2 c)
  refine lv_aload_n hx hb dJ5_setLength_d00df_13 rfl (lv_at hl 0 rfl) ?_
  refine lv_iload_n hx hb dJ5_setLength_d00df_14 rfl (lv_at hl 1 rfl) ?_
  obtain ⟨o3, ho3, h⟩ := bnd_i h
  refine gq_U (v := (fun as => none)) (As := [.int x1]) (rest := []) (wc := [(s0, .inr (1, [.ref s1, .int 0, .int ml, .int c0])), (s1, .inl (cA 1, n, .inl f))]) (wr := []) (w1 := (fun as => [(s0, .inr (1, [.ref (as 0), .int 0, .int ml, .int c0])), ((as 0), .inl (cA 1, o3.2, .inl o3.1))])) (ws2 := (fun as => [(s0, .inr (1, [.ref (as 0), .int 0, .int ml, .int c0])), ((as 0), .inl (cA 1, o3.2, .inl o3.1))])) (st1 := (fun as => [])) ⟨hx, hb, hml, hfc, hts⟩ hK hP hD hS hA (kJ5_ensureCapacityInternal_d00df l D cA s0 s1 n f ml c0 x1 ho3) (va_cwU 1 hts gJ5_setLength_d00df_J5_ensureCapacityInternal_d00df_u100J4 rfl rfl rfl rfl (by decide +kernel) ⟨(Nat.le_of_ble_eq_true rfl), (Nat.le_of_ble_eq_true rfl)⟩) [0, 1] [] [0, 1] rfl rfl rfl rfl (by decide) (fun _ => rfl) rfl 0 1 rfl rfl rfl rfl (fun _ => rfl) rfl hl.1 (Nat.le_of_ble_eq_true rfl) dJ5_setLength_d00df_15 ⟨(Nat.le_of_ble_eq_true rfl), (Nat.le_of_ble_eq_true rfl)⟩ (fun as4 H locs hP hD hS => ?_)
  have hP : va_P D vwCl [(s0, .inr (1, [.ref (as4 0), .int 0, .int ml, .int c0])), ((as4 0), .inl (cA 1, o3.2, .inl o3.1))] H := hP
  have hD : va_D A [(s0, .inr (1, [.ref (as4 0), .int 0, .int ml, .int c0])), ((as4 0), .inl (cA 1, o3.2, .inl o3.1))] := hD
  refine W.cs (cells' := 1) (slots' := 168) rfl rfl ?_
  refine lv_aload_n hx hb dJ5_setLength_d00df_18 rfl (lv_at hl 0 rfl) ?_
  refine va_get (D := D) (ci := 1) (v := .int c0) (C := RJ4) (T := TJ4) (N := 4) hx hb hts iJ5_setLength_d00df_J4 hfc hK hP 0 rfl rfl 3 (by decide) (hts (.fieldLink RJ5 79 "java/lang/AbstractStringBuilder" "count" "I") (List.mem_of_getElem? (i := 4) rfl)) (fun _ h9 => h9) rfl dJ5_setLength_d00df_19 ?_
  refine lv_iload_n hx hb dJ5_setLength_d00df_22 rfl (lv_at hl 1 rfl) ?_
  obtain ⟨g6, h⟩ := gd_i h
  refine lv_icmp_ge (tgt := 63) hx hb dJ5_setLength_d00df_23 (by decide) (fun _ => ?_) (fun c => absurd g6 c)
  refine lv_aload_n hx hb dJ5_setLength_d00df_63 rfl (lv_at hl 0 rfl) ?_
  refine va_get (D := D) (ci := 1) (v := .int c0) (C := RJ4) (T := TJ4) (N := 4) hx hb hts iJ5_setLength_d00df_J4 hfc hK hP 0 rfl rfl 3 (by decide) (hts (.fieldLink RJ5 79 "java/lang/AbstractStringBuilder" "count" "I") (List.mem_of_getElem? (i := 4) rfl)) (fun _ h9 => h9) rfl dJ5_setLength_d00df_64 ?_
  refine lv_iload_n hx hb dJ5_setLength_d00df_67 rfl (lv_at hl 1 rfl) ?_
  obtain ⟨o8, ho8, h⟩ := lt_i h
  have ko8 : ∀ (ls : Array Slot) (H : Heap) (locs : List Loc), lv_has ls 2 [(0, .ref s0), (1, .int x1)] → va_P D vwCl [(s0, .inr (1, [.ref (as4 0), .int 0, .int o8, .int c0])), ((as4 0), .inl (cA 1, o3.2, .inl o3.1))] H → va_D A [(s0, .inr (1, [.ref (as4 0), .int 0, .int o8, .int c0])), ((as4 0), .inl (cA 1, o3.2, .inl o3.1))] → va_S A s.heap H locs → W p l e RM_J5_setLength_d00df s m args below meth c H locs 1 168 Q (F0 m 76 ls []) := by
    intro ls H locs hl hP hD hS
    refine lv_aload_n hx hb dJ5_setLength_d00df_76 rfl (lv_at hl 0 rfl) ?_
    refine lv_iload_n hx hb dJ5_setLength_d00df_77 rfl (lv_at hl 1 rfl) ?_
    refine va_put (D := D) (ci := 1) (v := .int x1) (ty := .int) (C := RJ4) (T := TJ4) (N := 4) hx hb hts iJ5_setLength_d00df_J4 tyJ4 tyJ4_ok nmJ4 hfc hK hP hD hS 0 rfl rfl 3 (by decide) (hts (.fieldLink RJ5 79 "java/lang/AbstractStringBuilder" "count" "I") (List.mem_of_getElem? (i := 4) rfl)) (fun _ h9 => h9) rfl (by decide +kernel) rfl rfl (Nat.le_of_ble_eq_true rfl) dJ5_setLength_d00df_78 (fun H locs hP hD hS => ?_)
    have hP : va_P D vwCl [(s0, .inr (1, [.ref (as4 0), .int 0, .int o8, .int x1])), ((as4 0), .inl (cA 1, o3.2, .inl o3.1))] H := hP
    have hD : va_D A [(s0, .inr (1, [.ref (as4 0), .int 0, .int o8, .int x1])), ((as4 0), .inl (cA 1, o3.2, .inl o3.1))] := hD
    have h := Option.some.inj h
    subst h
    refine W.widen (k := 1) (n := 168) (Nat.le_of_ble_eq_true rfl) (Nat.le_of_ble_eq_true rfl) ?_
    exact hend (adr [(as4 0)]) _ _ _ _ _ _ _ rfl rfl (rtn_v) hP hD hS dJ5_setLength_d00df_81
  clear h
  have h := ho8
  clear ho8
  refine lv_icmp_le (tgt := 76) hx hb dJ5_setLength_d00df_68 (by decide) (fun c7 => ?_) (fun c7 => ?_)
  · have h := ite_t c7 h
    subst h
    exact ko8 _ _ _ (lv_sub hl [0, 1] rfl) hP hD hS
  · have h := ite_f c7 h
    refine lv_aload_n hx hb dJ5_setLength_d00df_71 rfl (lv_at hl 0 rfl) ?_
    refine lv_iconst (v := 1) hx hb dJ5_setLength_d00df_72 (by decide) ?_
    refine va_put (D := D) (ci := 1) (v := .int 1) (ty := .boolean) (C := RJ4) (T := TJ4) (N := 4) hx hb hts iJ5_setLength_d00df_J4 tyJ4 tyJ4_ok nmJ4 hfc hK hP hD hS 0 rfl rfl 2 (by decide) (hts (.fieldLink RJ5 73 "java/lang/AbstractStringBuilder" "maybeLatin1" "Z") (List.mem_of_getElem? (i := 6) rfl)) (fun _ h9 => h9) rfl (by decide +kernel) rfl rfl (Nat.le_of_ble_eq_true rfl) dJ5_setLength_d00df_73 (fun H locs hP hD hS => ?_)
    have hP : va_P D vwCl [(s0, .inr (1, [.ref (as4 0), .int 0, .int 1, .int c0])), ((as4 0), .inl (cA 1, o3.2, .inl o3.1))] H := hP
    have hD : va_D A [(s0, .inr (1, [.ref (as4 0), .int 0, .int 1, .int c0])), ((as4 0), .inl (cA 1, o3.2, .inl o3.1))] := hD
    subst h
    exact ko8 _ _ _ (lv_sub hl [0, 1] rfl) hP hD hS

noncomputable def SJ4_setLength_d00df (n : Nat) (f : Nat → Int32) (ml : Int32) (c0 : Int32) (x1 : Int32) : Option (Int32 × Int32 × (Nat → Int32) × Nat) := bnd (SJ5_setLength_d00df n f ml c0 x1) (fun o1 : Int32 × Int32 × (Nat → Int32) × Nat => some ((o1.1, o1.2.1, o1.2.2.1, o1.2.2.2)))
abbrev RM_J4_setLength_d00df : Room := { frames := 5, cells := 1, slots := 168, locals := 107 }
set_option maxHeartbeats 4000000 in
theorem kJ4_setLength_d00df (l : Launch) (D : va_G) (cA : Nat → ClassId) (G : eG) (s0 s1 : Nat) (n : Nat) (f : Nat → Int32) (ml : Int32) (c0 : Int32) (x1 : Int32) {r : Int32 × Int32 × (Nat → Int32) × Nat} (hr : SJ4_setLength_d00df n f ml c0 x1 = some r) {sz : Nat} : Met l yJ4_setLength_d00df wsJ4_setLength_d00df RM_J4_setLength_d00df (va_Pc [.ref s0, .int x1] (gqEB G D cA [(s0, .inr (1, [.ref s1, .int 0, .int ml, .int c0])), (s1, .inl (cA 1, n, .inl f))] sz)) (gqQ D (fun as => none) (fun as => [(s0, .inr (1, [.ref (as 0), .int 0, .int r.1, .int r.2.1])), ((as 0), .inl (cA 1, r.2.2.2, .inl r.2.2.1))]) (va_A [(s0, .inr (1, [.ref s1, .int 0, .int ml, .int c0])), (s1, .inl (cA 1, n, .inl f))] sz)) 1 168 (va_A [(s0, .inr (1, [.ref s1, .int 0, .int ml, .int c0])), (s1, .inl (cA 1, n, .inl f))] sz) := by
  refine gqE_ofW (cc := cJ4_setLength_d00df) (maxL := 2) (ret := none) (by decide) rfl (Nat.le_of_ble_eq_true rfl) (fun p e s m args below meth c ls Q A hx hb hml hts hfc hmn hK hP hD hS hA hEV hl hend => ?_)
  have hfc : s.vm.findClass RJ4 = some m.cls := hfc
  have hl : lv_has ls 2 [(0, .ref s0), (1, .int x1)] := hl
  have h := hr
  clear hr
  unfold SJ4_setLength_d00df at h
  refine lv_aload_n hx hb dJ4_setLength_d00df_0 rfl (lv_at hl 0 rfl) ?_
  refine lv_iload_n hx hb dJ4_setLength_d00df_1 rfl (lv_at hl 1 rfl) ?_
  obtain ⟨o1, ho1, h⟩ := bnd_i h
  refine gqE_P (G := G) (v := (fun as => none)) (As := [.int x1]) (rest := []) (wc := [(s0, .inr (1, [.ref s1, .int 0, .int ml, .int c0])), (s1, .inl (cA 1, n, .inl f))]) (wr := []) (w1 := (fun as => [(s0, .inr (1, [.ref (as 0), .int 0, .int o1.1, .int o1.2.1])), ((as 0), .inl (cA 1, o1.2.2.2, .inl o1.2.2.1))])) (ws2 := (fun as => [(s0, .inr (1, [.ref (as 0), .int 0, .int o1.1, .int o1.2.1])), ((as 0), .inl (cA 1, o1.2.2.2, .inl o1.2.2.1))])) (st1 := (fun as => [])) ⟨hx, hb, hml, hfc, hts⟩ hK hP hD hS hA hEV (kJ5_setLength_d00df l D cA G s0 s1 n f ml c0 x1 ho1) (va_cwSU 1 hts gJ4_setLength_d00df_J5_setLength_d00df_s333 rfl rfl rfl (by decide +kernel) ⟨(Nat.le_of_ble_eq_true rfl), (Nat.le_of_ble_eq_true rfl)⟩) [0, 1] [] [0, 1] rfl rfl rfl rfl (by decide) (fun _ => rfl) rfl 0 1 rfl rfl rfl rfl (fun _ => rfl) rfl hl.1 (Nat.le_of_ble_eq_true rfl) dJ4_setLength_d00df_2 ⟨(Nat.le_of_ble_eq_true rfl), (Nat.le_of_ble_eq_true rfl)⟩ (fun as2 H locs hP hD hS => ?_)
  have hP : va_P D vwCl [(s0, .inr (1, [.ref (as2 0), .int 0, .int o1.1, .int o1.2.1])), ((as2 0), .inl (cA 1, o1.2.2.2, .inl o1.2.2.1))] H := hP
  have hD : va_D A [(s0, .inr (1, [.ref (as2 0), .int 0, .int o1.1, .int o1.2.1])), ((as2 0), .inl (cA 1, o1.2.2.2, .inl o1.2.2.1))] := hD
  refine W.cs (cells' := 1) (slots' := 168) rfl rfl ?_
  have h := Option.some.inj h
  subst h
  refine W.widen (k := 1) (n := 168) (Nat.le_of_ble_eq_true rfl) (Nat.le_of_ble_eq_true rfl) ?_
  exact hend (adr [(as2 0)]) _ _ _ _ _ _ _ rfl rfl (rtn_v) hP hD hS dJ4_setLength_d00df_5

noncomputable def SJ3_checkIndex_8e157_n (x0 : Int32) (x1 : Int32) : Option (Int32) := gd (¬ x0 < 0) (gd (x0 < x1) (some (x0)))
abbrev RM_J3_checkIndex_8e157_n : Room := { frames := 0, cells := 0, slots := 0, locals := 0 }
set_option maxHeartbeats 4000000 in
theorem kJ3_checkIndex_8e157_n (l : Launch) (D : va_G) (cA : Nat → ClassId) (x0 : Int32) (x1 : Int32) {r : Int32} (hr : SJ3_checkIndex_8e157_n x0 x1 = some r) : Met l yJ3_checkIndex_8e157 wsJ3_checkIndex_8e157 RM_J3_checkIndex_8e157_n (va_Pc [.int x0, .int x1, .null] (rqB D cA [])) (rqQ (some (.int r))) 0 0 (fun _ => False) := by
  refine rq_ofW (cc := cJ3_checkIndex_8e157) (maxL := 3) (ret := (some .int)) (by decide) rfl (Nat.le_of_ble_eq_true rfl) (fun p e s m args below meth c ls Q hx hb hml hts hfc hK hP hl hend => ?_)
  have hfc : s.vm.findClass RJ3 = some m.cls := hfc
  have hl : lv_has ls 3 [(0, .int x0), (1, .int x1), (2, .null)] := hl
  have h := hr
  clear hr
  unfold SJ3_checkIndex_8e157_n at h
  refine lv_iload_n hx hb dJ3_checkIndex_8e157_0 rfl (lv_at hl 0 rfl) ?_
  obtain ⟨g2, h⟩ := gd_i h
  refine lv_if_lt (tgt := 9) hx hb dJ3_checkIndex_8e157_1 (by decide) (fun c => absurd c g2) (fun _ => ?_)
  refine lv_iload_n hx hb dJ3_checkIndex_8e157_4 rfl (lv_at hl 0 rfl) ?_
  refine lv_iload_n hx hb dJ3_checkIndex_8e157_5 rfl (lv_at hl 1 rfl) ?_
  obtain ⟨g4, h⟩ := gd_i h
  refine lv_icmp_lt (tgt := 16) hx hb dJ3_checkIndex_8e157_6 (by decide) (fun _ => ?_) (fun c => absurd g4 c)
  refine lv_iload_n hx hb dJ3_checkIndex_8e157_16 rfl (lv_at hl 0 rfl) ?_
  have h := Option.some.inj h
  subst h
  exact hend _ _ _ _ rfl (rtn_i _) dJ3_checkIndex_8e157_17

noncomputable def SJ3_checkIndex_8e157 (x0 : Int32) (x1 : Int32) : Option (Int32) := gd (¬ x0 < 0) (gd (x0 < x1) (some (x0)))
abbrev RM_J3_checkIndex_8e157 : Room := { frames := 0, cells := 0, slots := 0, locals := 0 }
set_option maxHeartbeats 4000000 in
theorem kJ3_checkIndex_8e157 (l : Launch) (D : va_G) (cA : Nat → ClassId) (z9 : Nat) (x0 : Int32) (x1 : Int32) {r : Int32} (hr : SJ3_checkIndex_8e157 x0 x1 = some r) : Met l yJ3_checkIndex_8e157 wsJ3_checkIndex_8e157 RM_J3_checkIndex_8e157 (va_Pc [.int x0, .int x1, .ref z9] (rqB D cA [])) (rqQ (some (.int r))) 0 0 (fun _ => False) := by
  refine rq_ofW (cc := cJ3_checkIndex_8e157) (maxL := 3) (ret := (some .int)) (by decide) rfl (Nat.le_of_ble_eq_true rfl) (fun p e s m args below meth c ls Q hx hb hml hts hfc hK hP hl hend => ?_)
  have hfc : s.vm.findClass RJ3 = some m.cls := hfc
  have hl : lv_has ls 3 [(0, .int x0), (1, .int x1), (2, .ref z9)] := hl
  have h := hr
  clear hr
  unfold SJ3_checkIndex_8e157 at h
  refine lv_iload_n hx hb dJ3_checkIndex_8e157_0 rfl (lv_at hl 0 rfl) ?_
  obtain ⟨g2, h⟩ := gd_i h
  refine lv_if_lt (tgt := 9) hx hb dJ3_checkIndex_8e157_1 (by decide) (fun c => absurd c g2) (fun _ => ?_)
  refine lv_iload_n hx hb dJ3_checkIndex_8e157_4 rfl (lv_at hl 0 rfl) ?_
  refine lv_iload_n hx hb dJ3_checkIndex_8e157_5 rfl (lv_at hl 1 rfl) ?_
  obtain ⟨g4, h⟩ := gd_i h
  refine lv_icmp_lt (tgt := 16) hx hb dJ3_checkIndex_8e157_6 (by decide) (fun _ => ?_) (fun c => absurd g4 c)
  refine lv_iload_n hx hb dJ3_checkIndex_8e157_16 rfl (lv_at hl 0 rfl) ?_
  have h := Option.some.inj h
  subst h
  exact hend _ _ _ _ rfl (rtn_i _) dJ3_checkIndex_8e157_17

noncomputable def SJ0_checkIndex_df160 (x0 : Int32) (x1 : Int32) : Option (Unit) := bnd (SJ3_checkIndex_8e157_n x0 x1) (fun o2 : Int32 => some (()))
abbrev RM_J0_checkIndex_df160 : Room := { frames := 1, cells := 0, slots := 0, locals := 22 }
set_option maxHeartbeats 4000000 in
theorem kJ0_checkIndex_df160 (l : Launch) (D : va_G) (cA : Nat → ClassId) (G : eG) (x0 : Int32) (x1 : Int32) {r : Unit} (hr : SJ0_checkIndex_df160 x0 x1 = some r) : Met l yJ0_checkIndex_df160 wsJ0_checkIndex_df160 RM_J0_checkIndex_df160 (va_Pc [.int x0, .int x1] (rqEB G D cA [])) (rqQ none) 0 0 (fun _ => False) := by
  refine rqE_ofW (cc := cJ0_checkIndex_df160) (maxL := 2) (ret := none) (by decide) rfl (Nat.le_of_ble_eq_true rfl) (fun p e s m args below meth c ls Q hx hb hml hts hfc hK hP hS hEV hl hend => ?_)
  have hfc : s.vm.findClass RJ0 = some m.cls := hfc
  have hl : lv_has ls 2 [(0, .int x0), (1, .int x1)] := hl
  have h := hr
  clear hr
  unfold SJ0_checkIndex_df160 at h
  refine lv_iload_n hx hb dJ0_checkIndex_df160_0 rfl (lv_at hl 0 rfl) ?_
  refine lv_iload_n hx hb dJ0_checkIndex_df160_1 rfl (lv_at hl 1 rfl) ?_
  rcases hEV.2.2.2.2.2.2.1 with hz | ⟨z1, hz⟩
  · refine va_gets (v := .null) hx hb hz hS hfc (hts (.fieldLink RJ0 1053 "jdk/internal/util/Preconditions" "SIOOBE_FORMATTER" "Ljava/util/function/BiFunction;") (List.mem_of_getElem? (i := 1) rfl)) (fun _ h9 => h9) dJ0_checkIndex_df160_2 ?_
    obtain ⟨o2, ho2, h⟩ := bnd_i h
    refine rq_S (v := (some (.int o2))) (As := [.int x0, .int x1, .null]) (rest := []) (wc := []) ⟨hx, hb, hml, hfc, hts⟩ hK hP (kJ3_checkIndex_8e157_n l D cA x0 x1 ho2) (va_cwS 3 hts gJ0_checkIndex_df160_J3_checkIndex_8e157 rfl rfl rfl (by decide +kernel) ⟨(Nat.le_of_ble_eq_true rfl), (Nat.le_of_ble_eq_true rfl)⟩) [] rfl rfl rfl rfl hl.1 (Nat.le_of_ble_eq_true rfl) dJ0_checkIndex_df160_5 ⟨(Nat.zero_le _), (Nat.zero_le _)⟩ ?_
    refine lv_pop hx hb dJ0_checkIndex_df160_8 rfl ?_
    have h := Option.some.inj h
    subst h
    exact hend _ _ _ _ rfl (rtn_v) dJ0_checkIndex_df160_9
  · refine va_gets (v := .ref z1) hx hb hz hS hfc (hts (.fieldLink RJ0 1053 "jdk/internal/util/Preconditions" "SIOOBE_FORMATTER" "Ljava/util/function/BiFunction;") (List.mem_of_getElem? (i := 1) rfl)) (fun _ h9 => h9) dJ0_checkIndex_df160_2 ?_
    obtain ⟨o4, ho4, h⟩ := bnd_i h
    refine rq_S (v := (some (.int o4))) (As := [.int x0, .int x1, .ref z1]) (rest := []) (wc := []) ⟨hx, hb, hml, hfc, hts⟩ hK hP (kJ3_checkIndex_8e157 l D cA z1 x0 x1 ho4) (va_cwS 3 hts gJ0_checkIndex_df160_J3_checkIndex_8e157 rfl rfl rfl (by decide +kernel) ⟨(Nat.le_of_ble_eq_true rfl), (Nat.le_of_ble_eq_true rfl)⟩) [] rfl rfl rfl rfl hl.1 (Nat.le_of_ble_eq_true rfl) dJ0_checkIndex_df160_5 ⟨(Nat.zero_le _), (Nat.zero_le _)⟩ ?_
    refine lv_pop hx hb dJ0_checkIndex_df160_8 rfl ?_
    have h := Option.some.inj h
    subst h
    exact hend _ _ _ _ rfl (rtn_v) dJ0_checkIndex_df160_9

noncomputable def SJ5_charAt_5068e (n : Nat) (f : Nat → Int32) (c0 : Int32) (x1 : Int32) : Option (Int32) := bnd (SJ0_checkIndex_df160 x1 (imin c0 (nI n))) (fun o1 : Unit => gd (vp_in x1 n) (gd (narrow .char (.int (i2c ((f (Int32.toNatClampNeg x1)) &&& 255))) = .int (i2c ((f (Int32.toNatClampNeg x1)) &&& 255))) (some (i2c ((f (Int32.toNatClampNeg x1)) &&& 255)))))
theorem iJ5_charAt_5068e_J4 : ∀ w ∈ wsJ40, w ∈ wsJ5_charAt_5068e := fun _ h => List.mem_cons_of_mem _ (List.mem_append_right _ h)
abbrev RM_J5_charAt_5068e : Room := { frames := 2, cells := 0, slots := 0, locals := 43 }
set_option maxHeartbeats 4000000 in
theorem kJ5_charAt_5068e (l : Launch) (D : va_G) (cA : Nat → ClassId) (G : eG) (s0 s1 : Nat) (n : Nat) (f : Nat → Int32) (ml : Int32) (c0 : Int32) (x1 : Int32) {r : Int32} (hr : SJ5_charAt_5068e n f c0 x1 = some r) : Met l yJ5_charAt_5068e wsJ5_charAt_5068e RM_J5_charAt_5068e (va_Pc [.ref s0, .int x1] (rqEB G D cA [(s0, .inr (1, [.ref s1, .int 0, .int ml, .int c0])), (s1, .inl (cA 1, n, .inl f))])) (rqQ (some (.int r))) 0 0 (fun _ => False) := by
  refine rqE_ofW (cc := cJ5_charAt_5068e) (maxL := 5) (ret := (some .char)) (by decide) rfl (Nat.le_of_ble_eq_true rfl) (fun p e s m args below meth c ls Q hx hb hml hts hfc hK hP hS hEV hl hend => ?_)
  have hfc : s.vm.findClass RJ5 = some m.cls := hfc
  have hl : lv_has ls 5 [(0, .ref s0), (1, .int x1)] := hl
  have h := hr
  clear hr
  unfold SJ5_charAt_5068e at h
  refine lv_aload_n hx hb dJ5_charAt_5068e_0 rfl (lv_at hl 0 rfl) ?_
  refine va_get (D := D) (ci := 1) (v := .int 0) (C := RJ4) (T := TJ4) (N := 4) hx hb hts iJ5_charAt_5068e_J4 hfc hK hP 0 rfl rfl 1 (by decide) (hts (.fieldLink RJ5 22 "java/lang/AbstractStringBuilder" "coder" "B") (List.mem_of_getElem? (i := 1) rfl)) (fun _ h9 => h9) rfl dJ5_charAt_5068e_1 ?_
  refine lv_istore_n hx hb dJ5_charAt_5068e_4 rfl hl (Nat.le_of_ble_eq_true rfl) rfl (fun ls hl => ?_)
  have hl : lv_has ls 5 [(2, .int 0), (0, .ref s0), (1, .int x1)] := hl
  refine lv_aload_n hx hb dJ5_charAt_5068e_5 rfl (lv_at hl 1 rfl) ?_
  refine va_get (D := D) (ci := 1) (v := .ref s1) (C := RJ4) (T := TJ4) (N := 4) hx hb hts iJ5_charAt_5068e_J4 hfc hK hP 0 rfl rfl 0 (by decide) (hts (.fieldLink RJ5 15 "java/lang/AbstractStringBuilder" "value" "[B") (List.mem_of_getElem? (i := 2) rfl)) (fun _ h9 => h9) rfl dJ5_charAt_5068e_6 ?_
  refine lv_astore_n hx hb dJ5_charAt_5068e_9 rfl hl (Nat.le_of_ble_eq_true rfl) rfl (fun ls hl => ?_)
  have hl : lv_has ls 5 [(3, .ref s1), (2, .int 0), (0, .ref s0), (1, .int x1)] := hl
  refine lv_aload_n hx hb dJ5_charAt_5068e_10 rfl (lv_at hl 2 rfl) ?_
  refine va_get (D := D) (ci := 1) (v := .int c0) (C := RJ4) (T := TJ4) (N := 4) hx hb hts iJ5_charAt_5068e_J4 hfc hK hP 0 rfl rfl 3 (by decide) (hts (.fieldLink RJ5 79 "java/lang/AbstractStringBuilder" "count" "I") (List.mem_of_getElem? (i := 3) rfl)) (fun _ h9 => h9) rfl dJ5_charAt_5068e_11 ?_
  refine lv_aload_n hx hb dJ5_charAt_5068e_14 rfl (lv_at hl 0 rfl) ?_
  refine va_alen (v := nI n) hx hb hK hP 1 1 rfl rfl rfl dJ5_charAt_5068e_15 ?_
  refine lv_iload_n hx hb dJ5_charAt_5068e_16 rfl (lv_at hl 1 rfl) ?_
  refine lv_ishr hx hb dJ5_charAt_5068e_17 ?_
  refine lv_topi' (x := (nI n) >>> (0 &&& 31)) (y := (nI n)) (shr0 (nI n)) ?_
  refine va_mmin hx hb (hml.trans hl.1.symm) hfc (hts (.methodLink RJ5 138 Lib.Math.min.name) (List.mem_of_getElem? (i := 4) rfl)) (hts (.static Lib.Math.min.name) (List.mem_of_getElem? (i := 5) rfl)) (hts (.initialized "java/lang/Math") (List.mem_of_getElem? (i := 6) rfl)) (hts (.code Lib.Math.min.name Lib.Math.min.code 2 (some .int)) (List.mem_of_getElem? (i := 7) rfl)) (Nat.le_of_ble_eq_true rfl) (Nat.le_of_ble_eq_true rfl) (Nat.zero_le _) (Nat.zero_le _) dJ5_charAt_5068e_18 ?_
  refine lv_istore hx hb dJ5_charAt_5068e_21 hl (Nat.le_of_ble_eq_true rfl) rfl (fun ls hl => ?_)
  have hl : lv_has ls 5 [(4, .int (imin c0 (nI n))), (3, .ref s1), (2, .int 0), (0, .ref s0), (1, .int x1)] := hl
  refine lv_iload_n hx hb dJ5_charAt_5068e_23 rfl (lv_at hl 4 rfl) ?_
  refine lv_iload hx hb dJ5_charAt_5068e_24 (lv_at hl 0 rfl) ?_
  obtain ⟨o1, ho1, h⟩ := bnd_i h
  refine rqE_S (G := G) (v := none) (As := [.int x1, .int (imin c0 (nI n))]) (rest := []) (wc := []) ⟨hx, hb, hml, hfc, hts⟩ hK hP hS hEV (kJ0_checkIndex_df160 l D cA G x1 (imin c0 (nI n)) ho1) (va_cwS 2 hts gJ5_charAt_5068e_J0_checkIndex_df160 rfl rfl rfl (by decide +kernel) ⟨(Nat.le_of_ble_eq_true rfl), (Nat.le_of_ble_eq_true rfl)⟩) [] rfl rfl rfl rfl hl.1 (Nat.le_of_ble_eq_true rfl) dJ5_charAt_5068e_26 ⟨(Nat.zero_le _), (Nat.zero_le _)⟩ ?_
  refine lv_iload_n hx hb dJ5_charAt_5068e_29 rfl (lv_at hl 2 rfl) ?_
  refine lv_if_ne (tgt := 42) hx hb dJ5_charAt_5068e_30 (by decide) (fun c => absurd (by decide) c) (fun _ => ?_)
  refine lv_aload_n hx hb dJ5_charAt_5068e_33 rfl (lv_at hl 1 rfl) ?_
  refine lv_iload_n hx hb dJ5_charAt_5068e_34 rfl (lv_at hl 4 rfl) ?_
  obtain ⟨g4, h⟩ := gd_i h
  refine va_bald hx hb hK hP 1 1 rfl rfl g4 dJ5_charAt_5068e_35 ?_
  refine lv_sipush (v := 255) hx hb dJ5_charAt_5068e_36 (by decide) ?_
  refine lv_iand hx hb dJ5_charAt_5068e_39 ?_
  refine lv_i2c (v := i2c ((f (Int32.toNatClampNeg x1)) &&& 255)) hx hb dJ5_charAt_5068e_40 rfl ?_
  obtain ⟨g5, h⟩ := gd_i h
  have h := Option.some.inj h
  subst h
  exact hend _ _ _ _ rfl (rtn_n g5) dJ5_charAt_5068e_41

noncomputable def SJ4_charAt_5068e (n : Nat) (f : Nat → Int32) (c0 : Int32) (x1 : Int32) : Option (Int32) := bnd (SJ5_charAt_5068e n f c0 x1) (fun o1 : Int32 => gd (narrow .char (.int o1) = .int o1) (some (o1)))
abbrev RM_J4_charAt_5068e : Room := { frames := 3, cells := 0, slots := 0, locals := 67 }
set_option maxHeartbeats 4000000 in
theorem kJ4_charAt_5068e (l : Launch) (D : va_G) (cA : Nat → ClassId) (G : eG) (s0 s1 : Nat) (n : Nat) (f : Nat → Int32) (ml : Int32) (c0 : Int32) (x1 : Int32) {r : Int32} (hr : SJ4_charAt_5068e n f c0 x1 = some r) : Met l yJ4_charAt_5068e wsJ4_charAt_5068e RM_J4_charAt_5068e (va_Pc [.ref s0, .int x1] (rqEB G D cA [(s0, .inr (1, [.ref s1, .int 0, .int ml, .int c0])), (s1, .inl (cA 1, n, .inl f))])) (rqQ (some (.int r))) 0 0 (fun _ => False) := by
  refine rqE_ofW (cc := cJ4_charAt_5068e) (maxL := 2) (ret := (some .char)) (by decide) rfl (Nat.le_of_ble_eq_true rfl) (fun p e s m args below meth c ls Q hx hb hml hts hfc hK hP hS hEV hl hend => ?_)
  have hfc : s.vm.findClass RJ4 = some m.cls := hfc
  have hl : lv_has ls 2 [(0, .ref s0), (1, .int x1)] := hl
  have h := hr
  clear hr
  unfold SJ4_charAt_5068e at h
  refine lv_aload_n hx hb dJ4_charAt_5068e_0 rfl (lv_at hl 0 rfl) ?_
  refine lv_iload_n hx hb dJ4_charAt_5068e_1 rfl (lv_at hl 1 rfl) ?_
  obtain ⟨o1, ho1, h⟩ := bnd_i h
  refine rqE_P (G := G) (v := (some (.int o1))) (As := [.int x1]) (rest := []) (wc := [(s0, .inr (1, [.ref s1, .int 0, .int ml, .int c0])), (s1, .inl (cA 1, n, .inl f))]) ⟨hx, hb, hml, hfc, hts⟩ hK hP hS hEV (kJ5_charAt_5068e l D cA G s0 s1 n f ml c0 x1 ho1) (va_cwSU 1 hts gJ4_charAt_5068e_J5_charAt_5068e_s329 rfl rfl rfl (by decide +kernel) ⟨(Nat.le_of_ble_eq_true rfl), (Nat.le_of_ble_eq_true rfl)⟩) [0, 1] rfl 0 1 rfl rfl rfl rfl rfl rfl hl.1 (Nat.le_of_ble_eq_true rfl) dJ4_charAt_5068e_2 ⟨(Nat.zero_le _), (Nat.zero_le _)⟩ ?_
  obtain ⟨g3, h⟩ := gd_i h
  have h := Option.some.inj h
  subst h
  exact hend _ _ _ _ rfl (rtn_n g3) dJ4_charAt_5068e_5

noncomputable def SJ5_init_d00df (x1 : Int32) : Option ((Nat → Int32) × Nat) := gd (¬ x1 < 0 ∧ (Int32.toNatClampNeg x1) ≤ 16) (some (((fun _ => 0), (Int32.toNatClampNeg x1))))
theorem iJ5_init_d00df_J4 : ∀ w ∈ wsJ40, w ∈ wsJ5_init_d00df := fun _ h => List.mem_cons_of_mem _ (List.mem_append_right _ h)
abbrev RM_J5_init_d00df : Room := { frames := 1, cells := 1, slots := 16, locals := 25 }
set_option maxHeartbeats 4000000 in
theorem kJ5_init_d00df (l : Launch) (D : va_G) (cA : Nat → ClassId) (G : eG) (s0 : Nat) (x1 : Int32) {r : (Nat → Int32) × Nat} (hr : SJ5_init_d00df x1 = some r) {sz : Nat} : Met l yJ5_init_d00df wsJ5_init_d00df RM_J5_init_d00df (va_Pc [.ref s0, .int x1] (gqEB G D cA [(s0, .inr (1, [.null, .int 0, .int 0, .int 0]))] sz)) (gqQ D (fun as => none) (fun as => [(s0, .inr (1, [.ref (as 0), .int 0, .int 0, .int 0])), ((as 0), .inl (cA 1, r.2, .inl r.1))]) (va_A [(s0, .inr (1, [.null, .int 0, .int 0, .int 0]))] sz)) 1 16 (va_A [(s0, .inr (1, [.null, .int 0, .int 0, .int 0]))] sz) := by
  refine gqE_ofW (cc := cJ5_init_d00df) (maxL := 2) (ret := none) (by decide) rfl (Nat.le_of_ble_eq_true rfl) (fun p e s m args below meth c ls Q A hx hb hml hts hfc hmn hK hP hD hS hA hEV hl hend => ?_)
  have hfc : s.vm.findClass RJ5 = some m.cls := hfc
  have hl : lv_has ls 2 [(0, .ref s0), (1, .int x1)] := hl
  have h := hr
  clear hr
  unfold SJ5_init_d00df at h
  refine lv_aload_n hx hb dJ5_init_d00df_0 rfl (lv_at hl 0 rfl) ?_
  refine W.objInit hx hb hfc (hts (.methodLink RJ5 3 objectInit) (List.mem_of_getElem? (i := 1) rfl)) (hts (.instanceMethod objectInit) (List.mem_of_getElem? (i := 2) rfl)) (hts (.code objectInit ⟨#[0xb1]⟩ 1 none) (List.mem_of_getElem? (i := 3) rfl)) rfl (by rw [hml]; exact hl.1) rfl dJ5_init_d00df_1 (Nat.le_of_ble_eq_true rfl) (Nat.le_of_ble_eq_true rfl) ?_
  show W p l e RM_J5_init_d00df s m args below meth c _ _ 0 0 Q (F0 m 4 ls [])
  refine va_gets (v := .int 1) hx hb hEV.2.1 hS hfc (hts (.fieldLink RJ5 18 "java/lang/String" "COMPACT_STRINGS" "Z") (List.mem_of_getElem? (i := 4) rfl)) (fun _ h9 => h9) dJ5_init_d00df_4 ?_
  refine lv_if_eq (tgt := 25) hx hb dJ5_init_d00df_7 (by decide) (fun c => absurd c (by decide)) (fun _ => ?_)
  refine lv_aload_n hx hb dJ5_init_d00df_10 rfl (lv_at hl 0 rfl) ?_
  refine lv_iload_n hx hb dJ5_init_d00df_11 rfl (lv_at hl 1 rfl) ?_
  obtain ⟨g3, h⟩ := gd_i h
  refine gx_newa (atype := .byte) (a0 := ((Int32.toNatClampNeg x1), .inl (fun _ => 0))) hx hb (hts (.arrayClass .byte) (List.mem_of_getElem? (i := 5) rfl)) rfl hK hP hD hS hA 1 rfl (fun _ => rfl) g3.1 rfl (Nat.le_trans (Nat.mul_le_mul_right (componentBytes .byte) g3.2) (show 16 * componentBytes .byte ≤ 536870912 from (Nat.le_of_ble_eq_true rfl))) (Nat.le_of_ble_eq_true rfl) (Nat.le_trans (Nat.add_le_add_left g3.2 0) (show 0 + 16 ≤ RM_J5_init_d00df.slots from (Nat.le_of_ble_eq_true rfl))) dJ5_init_d00df_12 (fun q2 H hP hD hS => ?_)
  have hP : va_P D vwCl [(s0, .inr (1, [.null, .int 0, .int 0, .int 0])), (q2, .inl (cA 1, (Int32.toNatClampNeg x1), .inl (fun _ => 0)))] H := hP
  have hD : va_D A [(s0, .inr (1, [.null, .int 0, .int 0, .int 0])), (q2, .inl (cA 1, (Int32.toNatClampNeg x1), .inl (fun _ => 0)))] := hD
  refine W.widen (k := 1) (n := 16) (show 0 + 1 ≤ 1 from (Nat.le_of_ble_eq_true rfl)) (show 0 + (Int32.toNatClampNeg x1) ≤ 0 + 16 from Nat.add_le_add_left g3.2 0) ?_
  refine va_put (D := D) (ci := 1) (v := .ref q2) (ty := (.array .byte)) (C := RJ4) (T := TJ4) (N := 4) hx hb hts iJ5_init_d00df_J4 tyJ4 tyJ4_ok nmJ4 hfc hK hP hD hS 0 rfl rfl 0 (by decide) (hts (.fieldLink RJ5 15 "java/lang/AbstractStringBuilder" "value" "[B") (List.mem_of_getElem? (i := 6) rfl)) (fun _ h9 => h9) rfl (by decide +kernel) rfl rfl (Nat.le_of_ble_eq_true rfl) dJ5_init_d00df_14 (fun H locs hP hD hS => ?_)
  have hP : va_P D vwCl [(s0, .inr (1, [.ref q2, .int 0, .int 0, .int 0])), (q2, .inl (cA 1, (Int32.toNatClampNeg x1), .inl (fun _ => 0)))] H := hP
  have hD : va_D A [(s0, .inr (1, [.ref q2, .int 0, .int 0, .int 0])), (q2, .inl (cA 1, (Int32.toNatClampNeg x1), .inl (fun _ => 0)))] := hD
  refine lv_aload_n hx hb dJ5_init_d00df_17 rfl (lv_at hl 0 rfl) ?_
  refine lv_iconst (v := 0) hx hb dJ5_init_d00df_18 (by decide) ?_
  refine va_put (D := D) (ci := 1) (v := .int 0) (ty := .byte) (C := RJ4) (T := TJ4) (N := 4) hx hb hts iJ5_init_d00df_J4 tyJ4 tyJ4_ok nmJ4 hfc hK hP hD hS 0 rfl rfl 1 (by decide) (hts (.fieldLink RJ5 22 "java/lang/AbstractStringBuilder" "coder" "B") (List.mem_of_getElem? (i := 7) rfl)) (fun _ h9 => h9) rfl (by decide +kernel) rfl rfl (Nat.le_of_ble_eq_true rfl) dJ5_init_d00df_19 (fun H locs hP hD hS => ?_)
  have hP : va_P D vwCl [(s0, .inr (1, [.ref q2, .int 0, .int 0, .int 0])), (q2, .inl (cA 1, (Int32.toNatClampNeg x1), .inl (fun _ => 0)))] H := hP
  have hD : va_D A [(s0, .inr (1, [.ref q2, .int 0, .int 0, .int 0])), (q2, .inl (cA 1, (Int32.toNatClampNeg x1), .inl (fun _ => 0)))] := hD
  refine lv_goto (tgt := 38) hx hb dJ5_init_d00df_22 (by decide) ?_
  have h := Option.some.inj h
  subst h
  refine W.widen (k := 1) (n := 16) (Nat.le_of_ble_eq_true rfl) (Nat.le_of_ble_eq_true rfl) ?_
  exact hend (adr [q2]) _ _ _ _ _ _ _ rfl rfl (rtn_v) hP hD hS dJ5_init_d00df_38

noncomputable def SJ4_init_da8c8 : Option ((Nat → Int32) × Nat) := bnd (SJ5_init_d00df 16) (fun o1 : (Nat → Int32) × Nat => some ((o1.1, o1.2)))
abbrev RM_J4_init_da8c8 : Room := { frames := 2, cells := 1, slots := 16, locals := 46 }
set_option maxHeartbeats 4000000 in
theorem kJ4_init_da8c8 (l : Launch) (D : va_G) (cA : Nat → ClassId) (G : eG) (s0 : Nat) {r : (Nat → Int32) × Nat} (hr : SJ4_init_da8c8 = some r) {sz : Nat} : Met l yJ4_init_da8c8 wsJ4_init_da8c8 RM_J4_init_da8c8 (va_Pc [.ref s0] (gqEB G D cA [(s0, .inr (1, [.null, .int 0, .int 0, .int 0]))] sz)) (gqQ D (fun as => none) (fun as => [(s0, .inr (1, [.ref (as 0), .int 0, .int 0, .int 0])), ((as 0), .inl (cA 1, r.2, .inl r.1))]) (va_A [(s0, .inr (1, [.null, .int 0, .int 0, .int 0]))] sz)) 1 16 (va_A [(s0, .inr (1, [.null, .int 0, .int 0, .int 0]))] sz) := by
  refine gqE_ofW (cc := cJ4_init_da8c8) (maxL := 1) (ret := none) (by decide) rfl (Nat.le_of_ble_eq_true rfl) (fun p e s m args below meth c ls Q A hx hb hml hts hfc hmn hK hP hD hS hA hEV hl hend => ?_)
  have hfc : s.vm.findClass RJ4 = some m.cls := hfc
  have hl : lv_has ls 1 [(0, .ref s0)] := hl
  have h := hr
  clear hr
  unfold SJ4_init_da8c8 at h
  refine lv_aload_n hx hb dJ4_init_da8c8_0 rfl (lv_at hl 0 rfl) ?_
  refine lv_bipush (v := 16) hx hb dJ4_init_da8c8_1 (by decide) ?_
  obtain ⟨o1, ho1, h⟩ := bnd_i h
  refine gqE_I (G := G) (As := [.int 16]) (rest := []) (wc := [(s0, .inr (1, [.null, .int 0, .int 0, .int 0]))]) (wr := []) (w1 := (fun as => [(s0, .inr (1, [.ref (as 0), .int 0, .int 0, .int 0])), ((as 0), .inl (cA 1, o1.2, .inl o1.1))])) (ws2 := (fun as => [(s0, .inr (1, [.ref (as 0), .int 0, .int 0, .int 0])), ((as 0), .inl (cA 1, o1.2, .inl o1.1))])) ⟨hx, hb, hml, hfc, hts⟩ hK hP hD hS hA hEV (kJ5_init_d00df l D cA G s0 16 ho1) (cwI 1 hts gJ4_init_da8c8_J5_init_d00df rfl rfl rfl (hts (.initialized RJ5) (List.mem_of_getElem? (i := 3) rfl)) (hts (.methodLink RJ4 1 yJ5_init_d00df) (List.mem_of_getElem? (i := 1) rfl)) (hts (.instanceMethod yJ5_init_d00df) (List.mem_of_getElem? (i := 2) rfl)) rfl (by decide +kernel) ⟨(Nat.le_of_ble_eq_true rfl), (Nat.le_of_ble_eq_true rfl)⟩) [0] [] [0, 1] rfl rfl rfl rfl (by decide) (fun _ => rfl) rfl rfl rfl hl.1 (Nat.le_of_ble_eq_true rfl) dJ4_init_da8c8_3 ⟨(Nat.le_of_ble_eq_true rfl), (Nat.le_of_ble_eq_true rfl)⟩ (fun as2 H locs hP hD hS => ?_)
  have hP : va_P D vwCl [(s0, .inr (1, [.ref (as2 0), .int 0, .int 0, .int 0])), ((as2 0), .inl (cA 1, o1.2, .inl o1.1))] H := hP
  have hD : va_D A [(s0, .inr (1, [.ref (as2 0), .int 0, .int 0, .int 0])), ((as2 0), .inl (cA 1, o1.2, .inl o1.1))] := hD
  refine W.cs (cells' := 1) (slots' := 16) rfl rfl ?_
  have h := Option.some.inj h
  subst h
  refine W.widen (k := 1) (n := 16) (Nat.le_of_ble_eq_true rfl) (Nat.le_of_ble_eq_true rfl) ?_
  exact hend (adr [(as2 0)]) _ _ _ _ _ _ _ rfl rfl (rtn_v) hP hD hS dJ4_init_da8c8_6

noncomputable def SJ0_coder_7d493 : Unit := ()
abbrev RM_J0_coder_7d493 : Room := { frames := 0, cells := 0, slots := 0, locals := 0 }
set_option maxHeartbeats 4000000 in
theorem kJ0_coder_7d493 (l : Launch) (D : va_G) (cA : Nat → ClassId) (G : eG) (k : Nat) (hk : k < 24) {r : Unit} (hr : SJ0_coder_7d493 = r) : Met l yJ0_coder_7d493 wsJ0_coder_7d493 RM_J0_coder_7d493 (va_Pc [.ref (G.1 k)] (rqEB G D cA [])) (rqQ (some (.int 0))) 0 0 (fun _ => False) := by
  refine rqE_ofW (cc := cJ0_coder_7d493) (maxL := 1) (ret := (some .byte)) (by decide) rfl (Nat.le_of_ble_eq_true rfl) (fun p e s m args below meth c ls Q hx hb hml hts hfc hK hP hS hEV hl hend => ?_)
  have hfc : s.vm.findClass RJ0 = some m.cls := hfc
  have hl : lv_has ls 1 [(0, .ref (G.1 k))] := hl
  have h := hr
  clear hr
  unfold SJ0_coder_7d493 at h
  refine va_gets (v := .int 1) hx hb hEV.2.1 hS hfc (hts (.fieldLink RJ0 38 "java/lang/String" "COMPACT_STRINGS" "Z") (List.mem_of_getElem? (i := 1) rfl)) (fun _ h9 => h9) dJ0_coder_7d493_0 ?_
  refine lv_if_eq (tgt := 13) hx hb dJ0_coder_7d493_3 (by decide) (fun c => absurd c (by decide)) (fun _ => ?_)
  refine lv_aload_n hx hb dJ0_coder_7d493_6 rfl (lv_at hl 0 rfl) ?_
  refine vk_getf (v := .int 0) hx hb (hEV.2.2.2.2.2.2.2.1.1 k hk).2.1 hS hfc (hts (.fieldLink RJ0 15 "java/lang/String" "coder" "B") (List.mem_of_getElem? (i := 2) rfl)) (fun _ h9 => h9) dJ0_coder_7d493_7 ?_
  refine lv_goto (tgt := 14) hx hb dJ0_coder_7d493_10 (by decide) ?_
  subst h
  exact hend _ _ _ _ rfl (rtn_n (x := 0) rfl) dJ0_coder_7d493_14

noncomputable def SJ0_length_8abf5 (k : Nat) : Int32 := lt_ (SJ0_coder_7d493) (fun o1 : Unit => nI (jLen.getD k 0))
abbrev RM_J0_length_8abf5 : Room := { frames := 1, cells := 0, slots := 0, locals := 21 }
set_option maxHeartbeats 4000000 in
theorem kJ0_length_8abf5 (l : Launch) (D : va_G) (cA : Nat → ClassId) (G : eG) (k : Nat) (hk : k < 24) {r : Int32} (hr : SJ0_length_8abf5 k = r) : Met l yJ0_length_8abf5 wsJ0_length_8abf5 RM_J0_length_8abf5 (va_Pc [.ref (G.1 k)] (rqEB G D cA [])) (rqQ (some (.int r))) 0 0 (fun _ => False) := by
  refine rqE_ofW (cc := cJ0_length_8abf5) (maxL := 1) (ret := (some .int)) (by decide) rfl (Nat.le_of_ble_eq_true rfl) (fun p e s m args below meth c ls Q hx hb hml hts hfc hK hP hS hEV hl hend => ?_)
  have hfc : s.vm.findClass RJ0 = some m.cls := hfc
  have hl : lv_has ls 1 [(0, .ref (G.1 k))] := hl
  have h := hr
  clear hr
  unfold SJ0_length_8abf5 at h
  refine lv_aload_n hx hb dJ0_length_8abf5_0 rfl (lv_at hl 0 rfl) ?_
  refine vk_getf (v := .ref (G.2.1 k)) hx hb (hEV.2.2.2.2.2.2.2.1.1 k hk).2.2.1 hS hfc (hts (.fieldLink RJ0 9 "java/lang/String" "value" "[B") (List.mem_of_getElem? (i := 1) rfl)) (fun _ h9 => h9) dJ0_length_8abf5_1 ?_
  refine va_tlen (v := nI (jLen.getD k 0)) hx hb (hEV.2.2.2.2.2.2.2.1.1 k hk).2.2.2 hS rfl dJ0_length_8abf5_4 ?_
  refine lv_aload_n hx hb dJ0_length_8abf5_5 rfl (lv_at hl 0 rfl) ?_
  obtain ⟨o1, ho1, h⟩ := lt_i h
  refine rqE_T (G := G) (v := (some (.int 0))) (As := []) (rest := [.int (nI (jLen.getD k 0))]) (wc := []) ⟨hx, hb, hml, hfc, hts⟩ hK hP hS hEV (kJ0_coder_7d493 l D cA G k hk ho1) (cwV 0 hts gJ0_length_8abf5_J0_coder_7d493 rfl rfl rfl (by decide +kernel) ⟨(Nat.le_of_ble_eq_true rfl), (Nat.le_of_ble_eq_true rfl)⟩) [] rfl hk rfl rfl rfl hl.1 (Nat.le_of_ble_eq_true rfl) dJ0_length_8abf5_6 ⟨(Nat.zero_le _), (Nat.zero_le _)⟩ ?_
  refine lv_ishr hx hb dJ0_length_8abf5_9 ?_
  refine lv_topi' (x := (nI (jLen.getD k 0)) >>> (0 &&& 31)) (y := (nI (jLen.getD k 0))) (shr0 (nI (jLen.getD k 0))) ?_
  subst h
  exact hend _ _ _ _ rfl (rtn_i _) dJ0_length_8abf5_10

noncomputable def SJ0_isLatin1_aae02 : Unit := ()
abbrev RM_J0_isLatin1_aae02 : Room := { frames := 0, cells := 0, slots := 0, locals := 0 }
set_option maxHeartbeats 4000000 in
theorem kJ0_isLatin1_aae02 (l : Launch) (D : va_G) (cA : Nat → ClassId) (G : eG) (k : Nat) (hk : k < 24) {r : Unit} (hr : SJ0_isLatin1_aae02 = r) : Met l yJ0_isLatin1_aae02 wsJ0_isLatin1_aae02 RM_J0_isLatin1_aae02 (va_Pc [.ref (G.1 k)] (rqEB G D cA [])) (rqQ (some (.int 1))) 0 0 (fun _ => False) := by
  refine rqE_ofW (cc := cJ0_isLatin1_aae02) (maxL := 1) (ret := (some .boolean)) (by decide) rfl (Nat.le_of_ble_eq_true rfl) (fun p e s m args below meth c ls Q hx hb hml hts hfc hK hP hS hEV hl hend => ?_)
  have hfc : s.vm.findClass RJ0 = some m.cls := hfc
  have hl : lv_has ls 1 [(0, .ref (G.1 k))] := hl
  have h := hr
  clear hr
  unfold SJ0_isLatin1_aae02 at h
  refine va_gets (v := .int 1) hx hb hEV.2.1 hS hfc (hts (.fieldLink RJ0 38 "java/lang/String" "COMPACT_STRINGS" "Z") (List.mem_of_getElem? (i := 1) rfl)) (fun _ h9 => h9) dJ0_isLatin1_aae02_0 ?_
  refine lv_if_eq (tgt := 17) hx hb dJ0_isLatin1_aae02_3 (by decide) (fun c => absurd c (by decide)) (fun _ => ?_)
  refine lv_aload_n hx hb dJ0_isLatin1_aae02_6 rfl (lv_at hl 0 rfl) ?_
  refine vk_getf (v := .int 0) hx hb (hEV.2.2.2.2.2.2.2.1.1 k hk).2.1 hS hfc (hts (.fieldLink RJ0 15 "java/lang/String" "coder" "B") (List.mem_of_getElem? (i := 2) rfl)) (fun _ h9 => h9) dJ0_isLatin1_aae02_7 ?_
  refine lv_if_ne (tgt := 17) hx hb dJ0_isLatin1_aae02_10 (by decide) (fun c => absurd (by decide) c) (fun _ => ?_)
  refine lv_iconst (v := 1) hx hb dJ0_isLatin1_aae02_13 (by decide) ?_
  refine lv_goto (tgt := 18) hx hb dJ0_isLatin1_aae02_14 (by decide) ?_
  subst h
  exact hend _ _ _ _ rfl (rtn_n (x := 1) rfl) dJ0_isLatin1_aae02_18

noncomputable def SJ1_charAt_3b067 (k : Nat) (x1 : Int32) : Option (Int32) := bnd (SJ0_checkIndex_df160 x1 (nI (jLen.getD k 0))) (fun o1 : Unit => gd (vp_in x1 (jLen.getD k 0)) (gd (narrow .char (.int (i2c (((jByt.getD k []).getD (Int32.toNatClampNeg x1) 0) &&& 255))) = .int (i2c (((jByt.getD k []).getD (Int32.toNatClampNeg x1) 0) &&& 255))) (some (i2c (((jByt.getD k []).getD (Int32.toNatClampNeg x1) 0) &&& 255)))))
abbrev RM_J1_charAt_3b067 : Room := { frames := 2, cells := 0, slots := 0, locals := 43 }
set_option maxHeartbeats 4000000 in
theorem kJ1_charAt_3b067 (l : Launch) (D : va_G) (cA : Nat → ClassId) (G : eG) (k : Nat) (x1 : Int32) (hk : k < 24) {r : Int32} (hr : SJ1_charAt_3b067 k x1 = some r) : Met l yJ1_charAt_3b067 wsJ1_charAt_3b067 RM_J1_charAt_3b067 (va_Pc [.ref (G.2.1 k), .int x1] (rqEB G D cA [])) (rqQ (some (.int r))) 0 0 (fun _ => False) := by
  refine rqE_ofW (cc := cJ1_charAt_3b067) (maxL := 2) (ret := (some .char)) (by decide) rfl (Nat.le_of_ble_eq_true rfl) (fun p e s m args below meth c ls Q hx hb hml hts hfc hK hP hS hEV hl hend => ?_)
  have hfc : s.vm.findClass RJ1 = some m.cls := hfc
  have hl : lv_has ls 2 [(0, .ref (G.2.1 k)), (1, .int x1)] := hl
  have h := hr
  clear hr
  unfold SJ1_charAt_3b067 at h
  refine lv_iload_n hx hb dJ1_charAt_3b067_0 rfl (lv_at hl 1 rfl) ?_
  refine lv_aload_n hx hb dJ1_charAt_3b067_1 rfl (lv_at hl 0 rfl) ?_
  refine va_tlen (v := nI (jLen.getD k 0)) hx hb (hEV.2.2.2.2.2.2.2.1.1 k hk).2.2.2 hS rfl dJ1_charAt_3b067_2 ?_
  obtain ⟨o1, ho1, h⟩ := bnd_i h
  refine rqE_S (G := G) (v := none) (As := [.int x1, .int (nI (jLen.getD k 0))]) (rest := []) (wc := []) ⟨hx, hb, hml, hfc, hts⟩ hK hP hS hEV (kJ0_checkIndex_df160 l D cA G x1 (nI (jLen.getD k 0)) ho1) (va_cwS 2 hts gJ1_charAt_3b067_J0_checkIndex_df160 rfl rfl rfl (by decide +kernel) ⟨(Nat.le_of_ble_eq_true rfl), (Nat.le_of_ble_eq_true rfl)⟩) [] rfl rfl rfl rfl hl.1 (Nat.le_of_ble_eq_true rfl) dJ1_charAt_3b067_3 ⟨(Nat.zero_le _), (Nat.zero_le _)⟩ ?_
  refine lv_aload_n hx hb dJ1_charAt_3b067_6 rfl (lv_at hl 0 rfl) ?_
  refine lv_iload_n hx hb dJ1_charAt_3b067_7 rfl (lv_at hl 1 rfl) ?_
  obtain ⟨g3, h⟩ := gd_i h
  refine va_tb (v := .int ((jByt.getD k []).getD (Int32.toNatClampNeg x1) 0)) hx hb (hEV.2.2.2.2.2.2.2.1.1 k hk).2.2.2 hS g3 rfl dJ1_charAt_3b067_8 ?_
  refine lv_sipush (v := 255) hx hb dJ1_charAt_3b067_9 (by decide) ?_
  refine lv_iand hx hb dJ1_charAt_3b067_12 ?_
  refine lv_i2c (v := i2c (((jByt.getD k []).getD (Int32.toNatClampNeg x1) 0) &&& 255)) hx hb dJ1_charAt_3b067_13 rfl ?_
  obtain ⟨g4, h⟩ := gd_i h
  have h := Option.some.inj h
  subst h
  exact hend _ _ _ _ rfl (rtn_n g4) dJ1_charAt_3b067_14

noncomputable def SJ0_charAt_5068e (k : Nat) (x1 : Int32) : Option (Int32) := lt_ (SJ0_isLatin1_aae02) (fun o1 : Unit => bnd (SJ1_charAt_3b067 k x1) (fun o4 : Int32 => gd (narrow .char (.int o4) = .int o4) (some (o4))))
abbrev RM_J0_charAt_5068e : Room := { frames := 3, cells := 0, slots := 0, locals := 64 }
set_option maxHeartbeats 4000000 in
theorem kJ0_charAt_5068e (l : Launch) (D : va_G) (cA : Nat → ClassId) (G : eG) (k : Nat) (x1 : Int32) (hk : k < 24) {r : Int32} (hr : SJ0_charAt_5068e k x1 = some r) : Met l yJ0_charAt_5068e wsJ0_charAt_5068e RM_J0_charAt_5068e (va_Pc [.ref (G.1 k), .int x1] (rqEB G D cA [])) (rqQ (some (.int r))) 0 0 (fun _ => False) := by
  refine rqE_ofW (cc := cJ0_charAt_5068e) (maxL := 2) (ret := (some .char)) (by decide) rfl (Nat.le_of_ble_eq_true rfl) (fun p e s m args below meth c ls Q hx hb hml hts hfc hK hP hS hEV hl hend => ?_)
  have hfc : s.vm.findClass RJ0 = some m.cls := hfc
  have hl : lv_has ls 2 [(0, .ref (G.1 k)), (1, .int x1)] := hl
  have h := hr
  clear hr
  unfold SJ0_charAt_5068e at h
  refine lv_aload_n hx hb dJ0_charAt_5068e_0 rfl (lv_at hl 0 rfl) ?_
  obtain ⟨o1, ho1, h⟩ := lt_i h
  refine rqE_T (G := G) (v := (some (.int 1))) (As := []) (rest := []) (wc := []) ⟨hx, hb, hml, hfc, hts⟩ hK hP hS hEV (kJ0_isLatin1_aae02 l D cA G k hk ho1) (cwV 0 hts gJ0_charAt_5068e_J0_isLatin1_aae02 rfl rfl rfl (by decide +kernel) ⟨(Nat.le_of_ble_eq_true rfl), (Nat.le_of_ble_eq_true rfl)⟩) [] rfl hk rfl rfl rfl hl.1 (Nat.le_of_ble_eq_true rfl) dJ0_charAt_5068e_1 ⟨(Nat.zero_le _), (Nat.zero_le _)⟩ ?_
  refine lv_if_eq (tgt := 16) hx hb dJ0_charAt_5068e_4 (by decide) (fun c => absurd c (by decide)) (fun _ => ?_)
  refine lv_aload_n hx hb dJ0_charAt_5068e_7 rfl (lv_at hl 0 rfl) ?_
  refine vk_getf (v := .ref (G.2.1 k)) hx hb (hEV.2.2.2.2.2.2.2.1.1 k hk).2.2.1 hS hfc (hts (.fieldLink RJ0 9 "java/lang/String" "value" "[B") (List.mem_of_getElem? (i := 1) rfl)) (fun _ h9 => h9) dJ0_charAt_5068e_8 ?_
  refine lv_iload_n hx hb dJ0_charAt_5068e_11 rfl (lv_at hl 1 rfl) ?_
  obtain ⟨o4, ho4, h⟩ := bnd_i h
  refine rqE_S (G := G) (v := (some (.int o4))) (As := [.ref (G.2.1 k), .int x1]) (rest := []) (wc := []) ⟨hx, hb, hml, hfc, hts⟩ hK hP hS hEV (kJ1_charAt_3b067 l D cA G k x1 hk ho4) (va_cwS 2 hts gJ0_charAt_5068e_J1_charAt_3b067 rfl rfl rfl (by decide +kernel) ⟨(Nat.le_of_ble_eq_true rfl), (Nat.le_of_ble_eq_true rfl)⟩) [] rfl rfl rfl rfl hl.1 (Nat.le_of_ble_eq_true rfl) dJ0_charAt_5068e_12 ⟨(Nat.zero_le _), (Nat.zero_le _)⟩ ?_
  obtain ⟨g6, h⟩ := gd_i h
  have h := Option.some.inj h
  subst h
  exact hend _ _ _ _ rfl (rtn_n g6) dJ0_charAt_5068e_15
