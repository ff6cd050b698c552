noncomputable def SJ0_coder_7d493_w : Unit := ()
theorem iJ0_coder_7d493_J0 : ∀ w ∈ wsJ00, w ∈ wsJ0_coder_7d493 := fun _ h => List.mem_cons_of_mem _ (List.mem_append_right _ h)
abbrev RM_J0_coder_7d493_w : Room := { frames := 0, cells := 0, slots := 0, locals := 0 }
set_option maxHeartbeats 4000000 in
theorem kJ0_coder_7d493_w (l : Launch) (D : va_G) (cA : Nat → ClassId) (G : eG) (r0 r1 : Nat) (h1 : Int32) (h2 : Int32) (n2 : Nat) (f2 : Nat → Int32) {r : Unit} (hr : SJ0_coder_7d493_w = r) : Met l yJ0_coder_7d493 wsJ0_coder_7d493 RM_J0_coder_7d493_w (va_Pc [.ref r0] (rqEB G D cA [(r0, .inr (0, [.ref r1, .int 0, .int h1, .int h2])), (r1, .inl (cA 1, n2, .inl f2))])) (rqQ (some (.int 0))) 0 0 (fun _ => False) := by
  refine rqE_ofW (cc := cJ0_coder_7d493) (maxL := 1) (ret := (some .byte)) (by decide) rfl (Nat.le_of_ble_eq_true rfl) (fun p e s m args below meth c ls Q hx hb hml hts hfc hK hP hS hEV hl hend => ?_)
  have hfc : s.vm.findClass RJ0 = some m.cls := hfc
  have hl : lv_has ls 1 [(0, .ref r0)] := hl
  have h := hr
  clear hr
  unfold SJ0_coder_7d493_w at h
  refine va_gets (v := .int 1) hx hb hEV.2.1 hS hfc (hts (.fieldLink RJ0 38 "java/lang/String" "COMPACT_STRINGS" "Z") (List.mem_of_getElem? (i := 1) rfl)) (fun _ h9 => h9) dJ0_coder_7d493_0 ?_
  refine lv_if_eq (tgt := 13) hx hb dJ0_coder_7d493_3 (by decide) (fun c => absurd c (by decide)) (fun _ => ?_)
  refine lv_aload_n hx hb dJ0_coder_7d493_6 rfl (lv_at hl 0 rfl) ?_
  refine va_get (D := D) (ci := 0) (v := .int 0) (C := RJ0) (T := TJ0) (N := 4) hx hb hts iJ0_coder_7d493_J0 hfc hK hP 0 rfl rfl 1 (by decide) (hts (.fieldLink RJ0 15 "java/lang/String" "coder" "B") (List.mem_of_getElem? (i := 2) rfl)) (fun _ h9 => h9) rfl dJ0_coder_7d493_7 ?_
  refine lv_goto (tgt := 14) hx hb dJ0_coder_7d493_10 (by decide) ?_
  subst h
  exact hend _ _ _ _ rfl (rtn_n (x := 0) rfl) dJ0_coder_7d493_14

noncomputable def SJ0_length_8abf5_w (n2 : Nat) : Int32 := lt_ (SJ0_coder_7d493_w) (fun o1 : Unit => nI n2)
theorem iJ0_length_8abf5_J0 : ∀ w ∈ wsJ00, w ∈ wsJ0_length_8abf5 := fun _ h => List.mem_cons_of_mem _ (List.mem_append_right _ h)
abbrev RM_J0_length_8abf5_w : Room := { frames := 1, cells := 0, slots := 0, locals := 21 }
set_option maxHeartbeats 4000000 in
theorem kJ0_length_8abf5_w (l : Launch) (D : va_G) (cA : Nat → ClassId) (G : eG) (r0 r1 : Nat) (h1 : Int32) (h2 : Int32) (n2 : Nat) (f2 : Nat → Int32) {r : Int32} (hr : SJ0_length_8abf5_w n2 = r) : Met l yJ0_length_8abf5 wsJ0_length_8abf5 RM_J0_length_8abf5_w (va_Pc [.ref r0] (rqEB G D cA [(r0, .inr (0, [.ref r1, .int 0, .int h1, .int h2])), (r1, .inl (cA 1, n2, .inl f2))])) (rqQ (some (.int r))) 0 0 (fun _ => False) := by
  refine rqE_ofW (cc := cJ0_length_8abf5) (maxL := 1) (ret := (some .int)) (by decide) rfl (Nat.le_of_ble_eq_true rfl) (fun p e s m args below meth c ls Q hx hb hml hts hfc hK hP hS hEV hl hend => ?_)
  have hfc : s.vm.findClass RJ0 = some m.cls := hfc
  have hl : lv_has ls 1 [(0, .ref r0)] := hl
  have h := hr
  clear hr
  unfold SJ0_length_8abf5_w at h
  refine lv_aload_n hx hb dJ0_length_8abf5_0 rfl (lv_at hl 0 rfl) ?_
  refine va_get (D := D) (ci := 0) (v := .ref r1) (C := RJ0) (T := TJ0) (N := 4) hx hb hts iJ0_length_8abf5_J0 hfc hK hP 0 rfl rfl 0 (by decide) (hts (.fieldLink RJ0 9 "java/lang/String" "value" "[B") (List.mem_of_getElem? (i := 1) rfl)) (fun _ h9 => h9) rfl dJ0_length_8abf5_1 ?_
  refine va_alen (v := nI n2) hx hb hK hP 1 1 rfl rfl rfl dJ0_length_8abf5_4 ?_
  refine lv_aload_n hx hb dJ0_length_8abf5_5 rfl (lv_at hl 0 rfl) ?_
  obtain ⟨o1, ho1, h⟩ := lt_i h
  refine rqE_V (G := G) (v := (some (.int 0))) (As := []) (rest := [.int (nI n2)]) (wc := [(r0, .inr (0, [.ref r1, .int 0, .int h1, .int h2])), (r1, .inl (cA 1, n2, .inl f2))]) ⟨hx, hb, hml, hfc, hts⟩ hK hP hS hEV (kJ0_coder_7d493_w l D cA G r0 r1 h1 h2 n2 f2 ho1) (cwV 0 hts gJ0_length_8abf5_J0_coder_7d493 rfl rfl rfl (by decide +kernel) ⟨(Nat.le_of_ble_eq_true rfl), (Nat.le_of_ble_eq_true rfl)⟩) [0, 1] rfl 0 0 rfl rfl rfl rfl rfl rfl hl.1 (Nat.le_of_ble_eq_true rfl) dJ0_length_8abf5_6 ⟨(Nat.zero_le _), (Nat.zero_le _)⟩ ?_
  refine lv_ishr hx hb dJ0_length_8abf5_9 ?_
  refine lv_topi' (x := (nI n2) >>> (0 &&& 31)) (y := (nI n2)) (shr0 (nI n2)) ?_
  subst h
  exact hend _ _ _ _ rfl (rtn_i _) dJ0_length_8abf5_10

noncomputable def SJ0_isLatin1_aae02_w : Unit := ()
theorem iJ0_isLatin1_aae02_J0 : ∀ w ∈ wsJ00, w ∈ wsJ0_isLatin1_aae02 := fun _ h => List.mem_cons_of_mem _ (List.mem_append_right _ h)
abbrev RM_J0_isLatin1_aae02_w : Room := { frames := 0, cells := 0, slots := 0, locals := 0 }
set_option maxHeartbeats 4000000 in
theorem kJ0_isLatin1_aae02_w (l : Launch) (D : va_G) (cA : Nat → ClassId) (G : eG) (r0 r1 : Nat) (h1 : Int32) (h2 : Int32) (n2 : Nat) (f2 : Nat → Int32) {r : Unit} (hr : SJ0_isLatin1_aae02_w = r) : Met l yJ0_isLatin1_aae02 wsJ0_isLatin1_aae02 RM_J0_isLatin1_aae02_w (va_Pc [.ref r0] (rqEB G D cA [(r0, .inr (0, [.ref r1, .int 0, .int h1, .int h2])), (r1, .inl (cA 1, n2, .inl f2))])) (rqQ (some (.int 1))) 0 0 (fun _ => False) := by
  refine rqE_ofW (cc := cJ0_isLatin1_aae02) (maxL := 1) (ret := (some .boolean)) (by decide) rfl (Nat.le_of_ble_eq_true rfl) (fun p e s m args below meth c ls Q hx hb hml hts hfc hK hP hS hEV hl hend => ?_)
  have hfc : s.vm.findClass RJ0 = some m.cls := hfc
  have hl : lv_has ls 1 [(0, .ref r0)] := hl
  have h := hr
  clear hr
  unfold SJ0_isLatin1_aae02_w at h
  refine va_gets (v := .int 1) hx hb hEV.2.1 hS hfc (hts (.fieldLink RJ0 38 "java/lang/String" "COMPACT_STRINGS" "Z") (List.mem_of_getElem? (i := 1) rfl)) (fun _ h9 => h9) dJ0_isLatin1_aae02_0 ?_
  refine lv_if_eq (tgt := 17) hx hb dJ0_isLatin1_aae02_3 (by decide) (fun c => absurd c (by decide)) (fun _ => ?_)
  refine lv_aload_n hx hb dJ0_isLatin1_aae02_6 rfl (lv_at hl 0 rfl) ?_
  refine va_get (D := D) (ci := 0) (v := .int 0) (C := RJ0) (T := TJ0) (N := 4) hx hb hts iJ0_isLatin1_aae02_J0 hfc hK hP 0 rfl rfl 1 (by decide) (hts (.fieldLink RJ0 15 "java/lang/String" "coder" "B") (List.mem_of_getElem? (i := 2) rfl)) (fun _ h9 => h9) rfl dJ0_isLatin1_aae02_7 ?_
  refine lv_if_ne (tgt := 17) hx hb dJ0_isLatin1_aae02_10 (by decide) (fun c => absurd (by decide) c) (fun _ => ?_)
  refine lv_iconst (v := 1) hx hb dJ0_isLatin1_aae02_13 (by decide) ?_
  refine lv_goto (tgt := 18) hx hb dJ0_isLatin1_aae02_14 (by decide) ?_
  subst h
  exact hend _ _ _ _ rfl (rtn_n (x := 1) rfl) dJ0_isLatin1_aae02_18

noncomputable def SJ1_charAt_3b067_w (n2 : Nat) (f2 : Nat → Int32) (x1 : Int32) : Option (Int32) := bnd (SJ0_checkIndex_df160 x1 (nI n2)) (fun o1 : Unit => gd (vp_in x1 n2) (gd (narrow .char (.int (i2c ((f2 (Int32.toNatClampNeg x1)) &&& 255))) = .int (i2c ((f2 (Int32.toNatClampNeg x1)) &&& 255))) (some (i2c ((f2 (Int32.toNatClampNeg x1)) &&& 255)))))
abbrev RM_J1_charAt_3b067_w : Room := { frames := 2, cells := 0, slots := 0, locals := 43 }
set_option maxHeartbeats 4000000 in
theorem kJ1_charAt_3b067_w (l : Launch) (D : va_G) (cA : Nat → ClassId) (G : eG) (r1 : Nat) (n2 : Nat) (f2 : Nat → Int32) (x1 : Int32) {r : Int32} (hr : SJ1_charAt_3b067_w n2 f2 x1 = some r) : Met l yJ1_charAt_3b067 wsJ1_charAt_3b067 RM_J1_charAt_3b067_w (va_Pc [.ref r1, .int x1] (rqEB G D cA [(r1, .inl (cA 1, n2, .inl f2))])) (rqQ (some (.int r))) 0 0 (fun _ => False) := by
  refine rqE_ofW (cc := cJ1_charAt_3b067) (maxL := 2) (ret := (some .char)) (by decide) rfl (Nat.le_of_ble_eq_true rfl) (fun p e s m args below meth c ls Q hx hb hml hts hfc hK hP hS hEV hl hend => ?_)
  have hfc : s.vm.findClass RJ1 = some m.cls := hfc
  have hl : lv_has ls 2 [(0, .ref r1), (1, .int x1)] := hl
  have h := hr
  clear hr
  unfold SJ1_charAt_3b067_w at h
  refine lv_iload_n hx hb dJ1_charAt_3b067_0 rfl (lv_at hl 1 rfl) ?_
  refine lv_aload_n hx hb dJ1_charAt_3b067_1 rfl (lv_at hl 0 rfl) ?_
  refine va_alen (v := nI n2) hx hb hK hP 0 1 rfl rfl rfl dJ1_charAt_3b067_2 ?_
  obtain ⟨o1, ho1, h⟩ := bnd_i h
  refine rqE_S (G := G) (v := none) (As := [.int x1, .int (nI n2)]) (rest := []) (wc := []) ⟨hx, hb, hml, hfc, hts⟩ hK hP hS hEV (kJ0_checkIndex_df160 l D cA G x1 (nI n2) ho1) (va_cwS 2 hts gJ1_charAt_3b067_J0_checkIndex_df160 rfl rfl rfl (by decide +kernel) ⟨(Nat.le_of_ble_eq_true rfl), (Nat.le_of_ble_eq_true rfl)⟩) [] rfl rfl rfl rfl hl.1 (Nat.le_of_ble_eq_true rfl) dJ1_charAt_3b067_3 ⟨(Nat.zero_le _), (Nat.zero_le _)⟩ ?_
  refine lv_aload_n hx hb dJ1_charAt_3b067_6 rfl (lv_at hl 0 rfl) ?_
  refine lv_iload_n hx hb dJ1_charAt_3b067_7 rfl (lv_at hl 1 rfl) ?_
  obtain ⟨g3, h⟩ := gd_i h
  refine va_bald hx hb hK hP 0 1 rfl rfl g3 dJ1_charAt_3b067_8 ?_
  refine lv_sipush (v := 255) hx hb dJ1_charAt_3b067_9 (by decide) ?_
  refine lv_iand hx hb dJ1_charAt_3b067_12 ?_
  refine lv_i2c (v := i2c ((f2 (Int32.toNatClampNeg x1)) &&& 255)) hx hb dJ1_charAt_3b067_13 rfl ?_
  obtain ⟨g4, h⟩ := gd_i h
  have h := Option.some.inj h
  subst h
  exact hend _ _ _ _ rfl (rtn_n g4) dJ1_charAt_3b067_14

noncomputable def SJ0_charAt_5068e_w (n2 : Nat) (f2 : Nat → Int32) (x1 : Int32) : Option (Int32) := lt_ (SJ0_isLatin1_aae02_w) (fun o1 : Unit => bnd (SJ1_charAt_3b067_w n2 f2 x1) (fun o4 : Int32 => gd (narrow .char (.int o4) = .int o4) (some (o4))))
theorem iJ0_charAt_5068e_J0 : ∀ w ∈ wsJ00, w ∈ wsJ0_charAt_5068e := fun _ h => List.mem_cons_of_mem _ (List.mem_append_right _ h)
abbrev RM_J0_charAt_5068e_w : Room := { frames := 3, cells := 0, slots := 0, locals := 64 }
set_option maxHeartbeats 4000000 in
theorem kJ0_charAt_5068e_w (l : Launch) (D : va_G) (cA : Nat → ClassId) (G : eG) (r0 r1 : Nat) (h1 : Int32) (h2 : Int32) (n2 : Nat) (f2 : Nat → Int32) (x1 : Int32) {r : Int32} (hr : SJ0_charAt_5068e_w n2 f2 x1 = some r) : Met l yJ0_charAt_5068e wsJ0_charAt_5068e RM_J0_charAt_5068e_w (va_Pc [.ref r0, .int x1] (rqEB G D cA [(r0, .inr (0, [.ref r1, .int 0, .int h1, .int h2])), (r1, .inl (cA 1, n2, .inl f2))])) (rqQ (some (.int r))) 0 0 (fun _ => False) := by
  refine rqE_ofW (cc := cJ0_charAt_5068e) (maxL := 2) (ret := (some .char)) (by decide) rfl (Nat.le_of_ble_eq_true rfl) (fun p e s m args below meth c ls Q hx hb hml hts hfc hK hP hS hEV hl hend => ?_)
  have hfc : s.vm.findClass RJ0 = some m.cls := hfc
  have hl : lv_has ls 2 [(0, .ref r0), (1, .int x1)] := hl
  have h := hr
  clear hr
  unfold SJ0_charAt_5068e_w at h
  refine lv_aload_n hx hb dJ0_charAt_5068e_0 rfl (lv_at hl 0 rfl) ?_
  obtain ⟨o1, ho1, h⟩ := lt_i h
  refine rqE_V (G := G) (v := (some (.int 1))) (As := []) (rest := []) (wc := [(r0, .inr (0, [.ref r1, .int 0, .int h1, .int h2])), (r1, .inl (cA 1, n2, .inl f2))]) ⟨hx, hb, hml, hfc, hts⟩ hK hP hS hEV (kJ0_isLatin1_aae02_w l D cA G r0 r1 h1 h2 n2 f2 ho1) (cwV 0 hts gJ0_charAt_5068e_J0_isLatin1_aae02 rfl rfl rfl (by decide +kernel) ⟨(Nat.le_of_ble_eq_true rfl), (Nat.le_of_ble_eq_true rfl)⟩) [0, 1] rfl 0 0 rfl rfl rfl rfl rfl rfl hl.1 (Nat.le_of_ble_eq_true rfl) dJ0_charAt_5068e_1 ⟨(Nat.zero_le _), (Nat.zero_le _)⟩ ?_
  refine lv_if_eq (tgt := 16) hx hb dJ0_charAt_5068e_4 (by decide) (fun c => absurd c (by decide)) (fun _ => ?_)
  refine lv_aload_n hx hb dJ0_charAt_5068e_7 rfl (lv_at hl 0 rfl) ?_
  refine va_get (D := D) (ci := 0) (v := .ref r1) (C := RJ0) (T := TJ0) (N := 4) hx hb hts iJ0_charAt_5068e_J0 hfc hK hP 0 rfl rfl 0 (by decide) (hts (.fieldLink RJ0 9 "java/lang/String" "value" "[B") (List.mem_of_getElem? (i := 1) rfl)) (fun _ h9 => h9) rfl dJ0_charAt_5068e_8 ?_
  refine lv_iload_n hx hb dJ0_charAt_5068e_11 rfl (lv_at hl 1 rfl) ?_
  obtain ⟨o4, ho4, h⟩ := bnd_i h
  refine rqE_S (G := G) (v := (some (.int o4))) (As := [.ref r1, .int x1]) (rest := []) (wc := [(r1, .inl (cA 1, n2, .inl f2))]) ⟨hx, hb, hml, hfc, hts⟩ hK hP hS hEV (kJ1_charAt_3b067_w l D cA G r1 n2 f2 x1 ho4) (va_cwS 2 hts gJ0_charAt_5068e_J1_charAt_3b067 rfl rfl rfl (by decide +kernel) ⟨(Nat.le_of_ble_eq_true rfl), (Nat.le_of_ble_eq_true rfl)⟩) [1] rfl rfl rfl rfl hl.1 (Nat.le_of_ble_eq_true rfl) dJ0_charAt_5068e_12 ⟨(Nat.zero_le _), (Nat.zero_le _)⟩ ?_
  obtain ⟨g6, h⟩ := gd_i h
  have h := Option.some.inj h
  subst h
  exact hend _ _ _ _ rfl (rtn_n g6) dJ0_charAt_5068e_15

noncomputable def SJ5_inflateIfNeededFor_a7421 : Unit := lt_ (SJ0_coder_7d493) (fun o2 : Unit => ())
theorem iJ5_inflateIfNeededFor_a7421_J4 : ∀ w ∈ wsJ40, w ∈ wsJ5_inflateIfNeededFor_a7421 := fun _ h => List.mem_cons_of_mem _ (List.mem_append_left _ (List.mem_append_right _ h))
abbrev RM_J5_inflateIfNeededFor_a7421 : Room := { frames := 1, cells := 0, slots := 0, locals := 21 }
set_option maxHeartbeats 4000000 in
theorem kJ5_inflateIfNeededFor_a7421 (l : Launch) (D : va_G) (cA : Nat → ClassId) (G : eG) (s0 s1 : Nat) (k : Nat) (n : Nat) (f : Nat → Int32) (ml : Int32) (c0 : Int32) (hk : k < 24) {r : Unit} (hr : SJ5_inflateIfNeededFor_a7421 = r) : Met l yJ5_inflateIfNeededFor_a7421 wsJ5_inflateIfNeededFor_a7421 RM_J5_inflateIfNeededFor_a7421 (va_Pc [.ref s0, .ref (G.1 k)] (rqEB G D cA [(s0, .inr (1, [.ref s1, .int 0, .int ml, .int c0])), (s1, .inl (cA 1, n, .inl f))])) (rqQ none) 0 0 (fun _ => False) := by
  refine rqE_ofW (cc := cJ5_inflateIfNeededFor_a7421) (maxL := 2) (ret := none) (by decide) rfl (Nat.le_of_ble_eq_true rfl) (fun p e s m args below meth c ls Q hx hb hml hts hfc hK hP hS hEV hl hend => ?_)
  have hfc : s.vm.findClass RJ5 = some m.cls := hfc
  have hl : lv_has ls 2 [(0, .ref s0), (1, .ref (G.1 k))] := hl
  have h := hr
  clear hr
  unfold SJ5_inflateIfNeededFor_a7421 at h
  refine va_gets (v := .int 1) hx hb hEV.2.1 hS hfc (hts (.fieldLink RJ5 18 "java/lang/String" "COMPACT_STRINGS" "Z") (List.mem_of_getElem? (i := 1) rfl)) (fun _ h9 => h9) dJ5_inflateIfNeededFor_a7421_0 ?_
  refine lv_if_eq (tgt := 21) hx hb dJ5_inflateIfNeededFor_a7421_3 (by decide) (fun c => absurd c (by decide)) (fun _ => ?_)
  refine lv_aload_n hx hb dJ5_inflateIfNeededFor_a7421_6 rfl (lv_at hl 0 rfl) ?_
  refine va_get (D := D) (ci := 1) (v := .int 0) (C := RJ4) (T := TJ4) (N := 4) hx hb hts iJ5_inflateIfNeededFor_a7421_J4 hfc hK hP 0 rfl rfl 1 (by decide) (hts (.fieldLink RJ5 22 "java/lang/AbstractStringBuilder" "coder" "B") (List.mem_of_getElem? (i := 2) rfl)) (fun _ h9 => h9) rfl dJ5_inflateIfNeededFor_a7421_7 ?_
  refine lv_aload_n hx hb dJ5_inflateIfNeededFor_a7421_10 rfl (lv_at hl 1 rfl) ?_
  obtain ⟨o2, ho2, h⟩ := lt_i h
  refine rqE_T (G := G) (v := (some (.int 0))) (As := []) (rest := [.int 0]) (wc := []) ⟨hx, hb, hml, hfc, hts⟩ hK hP hS hEV (kJ0_coder_7d493 l D cA G k hk ho2) (cwV 0 hts gJ5_inflateIfNeededFor_a7421_J0_coder_7d493 rfl rfl rfl (by decide +kernel) ⟨(Nat.le_of_ble_eq_true rfl), (Nat.le_of_ble_eq_true rfl)⟩) [] rfl hk rfl rfl rfl hl.1 (Nat.le_of_ble_eq_true rfl) dJ5_inflateIfNeededFor_a7421_11 ⟨(Nat.zero_le _), (Nat.zero_le _)⟩ ?_
  refine lv_icmp_eq (tgt := 21) hx hb dJ5_inflateIfNeededFor_a7421_14 (by decide) (fun _ => ?_) (fun c => absurd (by decide) c)
  subst h
  exact hend _ _ _ _ rfl (rtn_v) dJ5_inflateIfNeededFor_a7421_21

noncomputable def SJ5_inflateIfNeededFor_a7421_w : Unit := lt_ (SJ0_coder_7d493_w) (fun o2 : Unit => ())
abbrev RM_J5_inflateIfNeededFor_a7421_w : Room := { frames := 1, cells := 0, slots := 0, locals := 21 }
set_option maxHeartbeats 4000000 in
theorem kJ5_inflateIfNeededFor_a7421_w (l : Launch) (D : va_G) (cA : Nat → ClassId) (G : eG) (s0 s1 r0 r1 : Nat) (n : Nat) (f : Nat → Int32) (ml : Int32) (c0 : Int32) (h1 : Int32) (h2 : Int32) (n2 : Nat) (f2 : Nat → Int32) {r : Unit} (hr : SJ5_inflateIfNeededFor_a7421_w = r) : Met l yJ5_inflateIfNeededFor_a7421 wsJ5_inflateIfNeededFor_a7421 RM_J5_inflateIfNeededFor_a7421_w (va_Pc [.ref s0, .ref r0] (rqEB G D cA [(s0, .inr (1, [.ref s1, .int 0, .int ml, .int c0])), (s1, .inl (cA 1, n, .inl f)), (r0, .inr (0, [.ref r1, .int 0, .int h1, .int h2])), (r1, .inl (cA 1, n2, .inl f2))])) (rqQ none) 0 0 (fun _ => False) := by
  refine rqE_ofW (cc := cJ5_inflateIfNeededFor_a7421) (maxL := 2) (ret := none) (by decide) rfl (Nat.le_of_ble_eq_true rfl) (fun p e s m args below meth c ls Q hx hb hml hts hfc hK hP hS hEV hl hend => ?_)
  have hfc : s.vm.findClass RJ5 = some m.cls := hfc
  have hl : lv_has ls 2 [(0, .ref s0), (1, .ref r0)] := hl
  have h := hr
  clear hr
  unfold SJ5_inflateIfNeededFor_a7421_w at h
  refine va_gets (v := .int 1) hx hb hEV.2.1 hS hfc (hts (.fieldLink RJ5 18 "java/lang/String" "COMPACT_STRINGS" "Z") (List.mem_of_getElem? (i := 1) rfl)) (fun _ h9 => h9) dJ5_inflateIfNeededFor_a7421_0 ?_
  refine lv_if_eq (tgt := 21) hx hb dJ5_inflateIfNeededFor_a7421_3 (by decide) (fun c => absurd c (by decide)) (fun _ => ?_)
  refine lv_aload_n hx hb dJ5_inflateIfNeededFor_a7421_6 rfl (lv_at hl 0 rfl) ?_
  refine va_get (D := D) (ci := 1) (v := .int 0) (C := RJ4) (T := TJ4) (N := 4) hx hb hts iJ5_inflateIfNeededFor_a7421_J4 hfc hK hP 0 rfl rfl 1 (by decide) (hts (.fieldLink RJ5 22 "java/lang/AbstractStringBuilder" "coder" "B") (List.mem_of_getElem? (i := 2) rfl)) (fun _ h9 => h9) rfl dJ5_inflateIfNeededFor_a7421_7 ?_
  refine lv_aload_n hx hb dJ5_inflateIfNeededFor_a7421_10 rfl (lv_at hl 1 rfl) ?_
  obtain ⟨o2, ho2, h⟩ := lt_i h
  refine rqE_V (G := G) (v := (some (.int 0))) (As := []) (rest := [.int 0]) (wc := [(r0, .inr (0, [.ref r1, .int 0, .int h1, .int h2])), (r1, .inl (cA 1, n2, .inl f2))]) ⟨hx, hb, hml, hfc, hts⟩ hK hP hS hEV (kJ0_coder_7d493_w l D cA G r0 r1 h1 h2 n2 f2 ho2) (cwV 0 hts gJ5_inflateIfNeededFor_a7421_J0_coder_7d493 rfl rfl rfl (by decide +kernel) ⟨(Nat.le_of_ble_eq_true rfl), (Nat.le_of_ble_eq_true rfl)⟩) [2, 3] rfl 2 0 rfl rfl rfl rfl rfl rfl hl.1 (Nat.le_of_ble_eq_true rfl) dJ5_inflateIfNeededFor_a7421_11 ⟨(Nat.zero_le _), (Nat.zero_le _)⟩ ?_
  refine lv_icmp_eq (tgt := 21) hx hb dJ5_inflateIfNeededFor_a7421_14 (by decide) (fun _ => ?_) (fun c => absurd (by decide) c)
  subst h
  exact hend _ _ _ _ rfl (rtn_v) dJ5_inflateIfNeededFor_a7421_21

noncomputable def SJ0_getBytes_840e7 (k : Nat) (n : Nat) (f : Nat → Int32) (x1 : Int32) : Option (Nat → Int32) := lt_ (SJ0_coder_7d493) (fun o1 : Unit => gd (¬ x1 < 0 ∧ ¬ (nI (jLen.getD k 0)) < 0 ∧ 0 + Int32.toNatClampNeg (nI (jLen.getD k 0)) ≤ (jLen.getD k 0) ∧ Int32.toNatClampNeg x1 + Int32.toNatClampNeg (nI (jLen.getD k 0)) ≤ n ∧ ∀ i9, i9 < Int32.toNatClampNeg (nI (jLen.getD k 0)) → fits .byte (.int ((fun j => (jByt.getD k []).getD j 0) (0 + i9))) = true) (some (va_cpy (fun j => (jByt.getD k []).getD j 0) f 0 (Int32.toNatClampNeg x1) (Int32.toNatClampNeg (nI (jLen.getD k 0))))))
abbrev RM_J0_getBytes_840e7 : Room := { frames := 1, cells := 0, slots := 0, locals := 20 }
set_option maxHeartbeats 4000000 in
theorem kJ0_getBytes_840e7 (l : Launch) (D : va_G) (cA : Nat → ClassId) (G : eG) (s1 : Nat) (k : Nat) (n : Nat) (f : Nat → Int32) (x1 : Int32) (hk : k < 24) {r : Nat → Int32} (hr : SJ0_getBytes_840e7 k n f x1 = some r) {sz : Nat} : Met l yJ0_getBytes_840e7 wsJ0_getBytes_840e7 RM_J0_getBytes_840e7 (va_Pc [.ref (G.1 k), .ref s1, .int x1, .int 0] (gqEB G D cA [(s1, .inl (cA 1, n, .inl f))] sz)) (gqQ D (fun as => none) (fun as => [(s1, .inl (cA 1, n, .inl r))]) (va_A [(s1, .inl (cA 1, n, .inl f))] sz)) 0 0 (va_A [(s1, .inl (cA 1, n, .inl f))] sz) := by
  refine gqE_ofW (cc := cJ0_getBytes_840e7) (maxL := 4) (ret := none) (by decide) rfl (Nat.le_of_ble_eq_true rfl) (fun p e s m args below meth c ls Q A hx hb hml hts hfc hmn hK hP hD hS hA hEV hl hend => ?_)
  have hfc : s.vm.findClass RJ0 = some m.cls := hfc
  have hl : lv_has ls 4 [(0, .ref (G.1 k)), (1, .ref s1), (2, .int x1), (3, .int 0)] := hl
  have h := hr
  clear hr
  unfold SJ0_getBytes_840e7 at h
  refine lv_aload_n hx hb dJ0_getBytes_840e7_0 rfl (lv_at hl 0 rfl) ?_
  obtain ⟨o1, ho1, h⟩ := lt_i h
  refine rqE_T (G := G) (v := (some (.int 0))) (As := []) (rest := []) (wc := []) ⟨hx, hb, hml, hfc, hts⟩ hK hP hS hEV (kJ0_coder_7d493 l D cA G k hk ho1) (cwV 0 hts gJ0_getBytes_840e7_J0_coder_7d493 rfl rfl rfl (by decide +kernel) ⟨(Nat.le_of_ble_eq_true rfl), (Nat.le_of_ble_eq_true rfl)⟩) [] rfl hk rfl rfl rfl hl.1 (Nat.le_of_ble_eq_true rfl) dJ0_getBytes_840e7_1 ⟨(Nat.zero_le _), (Nat.zero_le _)⟩ ?_
  refine lv_iload_n hx hb dJ0_getBytes_840e7_4 rfl (lv_at hl 3 rfl) ?_
  refine lv_icmp_ne (tgt := 28) hx hb dJ0_getBytes_840e7_5 (by decide) (fun c => absurd (by decide) c) (fun _ => ?_)
  refine lv_aload_n hx hb dJ0_getBytes_840e7_8 rfl (lv_at hl 0 rfl) ?_
  refine vk_getf (v := .ref (G.2.1 k)) hx hb (hEV.2.2.2.2.2.2.2.1.1 k hk).2.2.1 hS hfc (hts (.fieldLink RJ0 9 "java/lang/String" "value" "[B") (List.mem_of_getElem? (i := 1) rfl)) (fun _ h9 => h9) dJ0_getBytes_840e7_9 ?_
  refine lv_iconst (v := 0) hx hb dJ0_getBytes_840e7_12 (by decide) ?_
  refine lv_aload_n hx hb dJ0_getBytes_840e7_13 rfl (lv_at hl 1 rfl) ?_
  refine lv_iload_n hx hb dJ0_getBytes_840e7_14 rfl (lv_at hl 2 rfl) ?_
  refine lv_iload_n hx hb dJ0_getBytes_840e7_15 rfl (lv_at hl 3 rfl) ?_
  refine lv_ishl hx hb dJ0_getBytes_840e7_16 ?_
  refine lv_topi' (x := x1 <<< (0 &&& 31)) (y := x1) (shl0 x1) ?_
  refine lv_aload_n hx hb dJ0_getBytes_840e7_17 rfl (lv_at hl 0 rfl) ?_
  refine vk_getf (v := .ref (G.2.1 k)) hx hb (hEV.2.2.2.2.2.2.2.1.1 k hk).2.2.1 hS hfc (hts (.fieldLink RJ0 9 "java/lang/String" "value" "[B") (List.mem_of_getElem? (i := 1) rfl)) (fun _ h9 => h9) dJ0_getBytes_840e7_18 ?_
  refine va_tlen (v := nI (jLen.getD k 0)) hx hb (hEV.2.2.2.2.2.2.2.1.1 k hk).2.2.2 hS rfl dJ0_getBytes_840e7_21 ?_
  obtain ⟨g4, h⟩ := gd_i h
  refine vk_copyt hx hb (hml.trans hl.1.symm) hfc (hts (.methodLink RJ0 212 arraycopyName) (List.mem_of_getElem? (i := 2) rfl)) (hts (.native arraycopyName) (List.mem_of_getElem? (i := 3) rfl)) (hts (.static arraycopyName) (List.mem_of_getElem? (i := 4) rfl)) (hts (.initialized "java/lang/System") (List.mem_of_getElem? (i := 5) rfl)) hK hP hD hS (f := (fun j => (jByt.getD k []).getD j 0)) (hEV.2.2.2.2.2.2.2.1.1 k hk).2.2.2 0 1 rfl rfl (by decide) g4.1 g4.2.1 g4.2.2.1 g4.2.2.2.1 g4.2.2.2.2 (Nat.le_of_ble_eq_true rfl) (Nat.le_of_ble_eq_true rfl) dJ0_getBytes_840e7_22 (fun H locs hP hD hS => ?_)
  have hP : va_P D vwCl [(s1, .inl (cA 1, n, .inl (va_cpy (fun j => (jByt.getD k []).getD j 0) f 0 (Int32.toNatClampNeg x1) (Int32.toNatClampNeg (nI (jLen.getD k 0))))))] H := hP
  have hD : va_D A [(s1, .inl (cA 1, n, .inl (va_cpy (fun j => (jByt.getD k []).getD j 0) f 0 (Int32.toNatClampNeg x1) (Int32.toNatClampNeg (nI (jLen.getD k 0))))))] := hD
  refine lv_goto (tgt := 43) hx hb dJ0_getBytes_840e7_25 (by decide) ?_
  have h := Option.some.inj h
  subst h
  exact hend (adr []) _ _ _ _ _ _ _ rfl rfl (rtn_v) hP hD hS dJ0_getBytes_840e7_43

noncomputable def SJ0_getBytes_840e7_w (n2 : Nat) (f2 : Nat → Int32) (n : Nat) (f : Nat → Int32) (x1 : Int32) : Option (Nat → Int32) := lt_ (SJ0_coder_7d493_w) (fun o1 : Unit => gd (¬ x1 < 0 ∧ ¬ (nI n2) < 0 ∧ 0 + Int32.toNatClampNeg (nI n2) ≤ n2 ∧ Int32.toNatClampNeg x1 + Int32.toNatClampNeg (nI n2) ≤ n ∧ ∀ i9, i9 < Int32.toNatClampNeg (nI n2) → fits .byte (.int (f2 (0 + i9))) = true) (some (va_cpy f2 f 0 (Int32.toNatClampNeg x1) (Int32.toNatClampNeg (nI n2)))))
theorem iJ0_getBytes_840e7_J0 : ∀ w ∈ wsJ00, w ∈ wsJ0_getBytes_840e7 := fun _ h => List.mem_cons_of_mem _ (List.mem_append_right _ h)
abbrev RM_J0_getBytes_840e7_w : Room := { frames := 1, cells := 0, slots := 0, locals := 20 }
set_option maxHeartbeats 4000000 in
theorem kJ0_getBytes_840e7_w (l : Launch) (D : va_G) (cA : Nat → ClassId) (G : eG) (r0 r1 s1 : Nat) (h1 : Int32) (h2 : Int32) (n2 : Nat) (f2 : Nat → Int32) (n : Nat) (f : Nat → Int32) (x1 : Int32) {r : Nat → Int32} (hr : SJ0_getBytes_840e7_w n2 f2 n f x1 = some r) {sz : Nat} : Met l yJ0_getBytes_840e7 wsJ0_getBytes_840e7 RM_J0_getBytes_840e7_w (va_Pc [.ref r0, .ref s1, .int x1, .int 0] (gqEB G D cA [(r0, .inr (0, [.ref r1, .int 0, .int h1, .int h2])), (r1, .inl (cA 1, n2, .inl f2)), (s1, .inl (cA 1, n, .inl f))] sz)) (gqQ D (fun as => none) (fun as => [(r0, .inr (0, [.ref r1, .int 0, .int h1, .int h2])), (r1, .inl (cA 1, n2, .inl f2)), (s1, .inl (cA 1, n, .inl r))]) (va_A [(r0, .inr (0, [.ref r1, .int 0, .int h1, .int h2])), (r1, .inl (cA 1, n2, .inl f2)), (s1, .inl (cA 1, n, .inl f))] sz)) 0 0 (va_A [(r0, .inr (0, [.ref r1, .int 0, .int h1, .int h2])), (r1, .inl (cA 1, n2, .inl f2)), (s1, .inl (cA 1, n, .inl f))] sz) := by
  refine gqE_ofW (cc := cJ0_getBytes_840e7) (maxL := 4) (ret := none) (by decide) rfl (Nat.le_of_ble_eq_true rfl) (fun p e s m args below meth c ls Q A hx hb hml hts hfc hmn hK hP hD hS hA hEV hl hend => ?_)
  have hfc : s.vm.findClass RJ0 = some m.cls := hfc
  have hl : lv_has ls 4 [(0, .ref r0), (1, .ref s1), (2, .int x1), (3, .int 0)] := hl
  have h := hr
  clear hr
  unfold SJ0_getBytes_840e7_w at h
  refine lv_aload_n hx hb dJ0_getBytes_840e7_0 rfl (lv_at hl 0 rfl) ?_
  obtain ⟨o1, ho1, h⟩ := lt_i h
  refine rqE_V (G := G) (v := (some (.int 0))) (As := []) (rest := []) (wc := [(r0, .inr (0, [.ref r1, .int 0, .int h1, .int h2])), (r1, .inl (cA 1, n2, .inl f2))]) ⟨hx, hb, hml, hfc, hts⟩ hK hP hS hEV (kJ0_coder_7d493_w l D cA G r0 r1 h1 h2 n2 f2 ho1) (cwV 0 hts gJ0_getBytes_840e7_J0_coder_7d493 rfl rfl rfl (by decide +kernel) ⟨(Nat.le_of_ble_eq_true rfl), (Nat.le_of_ble_eq_true rfl)⟩) [0, 1] rfl 0 0 rfl rfl rfl rfl rfl rfl hl.1 (Nat.le_of_ble_eq_true rfl) dJ0_getBytes_840e7_1 ⟨(Nat.zero_le _), (Nat.zero_le _)⟩ ?_
  refine lv_iload_n hx hb dJ0_getBytes_840e7_4 rfl (lv_at hl 3 rfl) ?_
  refine lv_icmp_ne (tgt := 28) hx hb dJ0_getBytes_840e7_5 (by decide) (fun c => absurd (by decide) c) (fun _ => ?_)
  refine lv_aload_n hx hb dJ0_getBytes_840e7_8 rfl (lv_at hl 0 rfl) ?_
  refine va_get (D := D) (ci := 0) (v := .ref r1) (C := RJ0) (T := TJ0) (N := 4) hx hb hts iJ0_getBytes_840e7_J0 hfc hK hP 0 rfl rfl 0 (by decide) (hts (.fieldLink RJ0 9 "java/lang/String" "value" "[B") (List.mem_of_getElem? (i := 1) rfl)) (fun _ h9 => h9) rfl dJ0_getBytes_840e7_9 ?_
  refine lv_iconst (v := 0) hx hb dJ0_getBytes_840e7_12 (by decide) ?_
  refine lv_aload_n hx hb dJ0_getBytes_840e7_13 rfl (lv_at hl 1 rfl) ?_
  refine lv_iload_n hx hb dJ0_getBytes_840e7_14 rfl (lv_at hl 2 rfl) ?_
  refine lv_iload_n hx hb dJ0_getBytes_840e7_15 rfl (lv_at hl 3 rfl) ?_
  refine lv_ishl hx hb dJ0_getBytes_840e7_16 ?_
  refine lv_topi' (x := x1 <<< (0 &&& 31)) (y := x1) (shl0 x1) ?_
  refine lv_aload_n hx hb dJ0_getBytes_840e7_17 rfl (lv_at hl 0 rfl) ?_
  refine va_get (D := D) (ci := 0) (v := .ref r1) (C := RJ0) (T := TJ0) (N := 4) hx hb hts iJ0_getBytes_840e7_J0 hfc hK hP 0 rfl rfl 0 (by decide) (hts (.fieldLink RJ0 9 "java/lang/String" "value" "[B") (List.mem_of_getElem? (i := 1) rfl)) (fun _ h9 => h9) rfl dJ0_getBytes_840e7_18 ?_
  refine va_alen (v := nI n2) hx hb hK hP 1 1 rfl rfl rfl dJ0_getBytes_840e7_21 ?_
  obtain ⟨g4, h⟩ := gd_i h
  refine va_copyi hx hb (hml.trans hl.1.symm) hfc (hts (.methodLink RJ0 212 arraycopyName) (List.mem_of_getElem? (i := 2) rfl)) (hts (.native arraycopyName) (List.mem_of_getElem? (i := 3) rfl)) (hts (.static arraycopyName) (List.mem_of_getElem? (i := 4) rfl)) (hts (.initialized "java/lang/System") (List.mem_of_getElem? (i := 5) rfl)) hK hP hD hS 1 2 1 1 rfl rfl rfl rfl rfl (by decide) g4.1 g4.2.1 g4.2.2.1 g4.2.2.2.1 g4.2.2.2.2 (Nat.le_of_ble_eq_true rfl) (Nat.le_of_ble_eq_true rfl) dJ0_getBytes_840e7_22 (fun H locs hP hD hS => ?_)
  have hP : va_P D vwCl [(r0, .inr (0, [.ref r1, .int 0, .int h1, .int h2])), (r1, .inl (cA 1, n2, .inl f2)), (s1, .inl (cA 1, n, .inl (va_cpy f2 f 0 (Int32.toNatClampNeg x1) (Int32.toNatClampNeg (nI n2)))))] H := hP
  have hD : va_D A [(r0, .inr (0, [.ref r1, .int 0, .int h1, .int h2])), (r1, .inl (cA 1, n2, .inl f2)), (s1, .inl (cA 1, n, .inl (va_cpy f2 f 0 (Int32.toNatClampNeg x1) (Int32.toNatClampNeg (nI n2)))))] := hD
  refine lv_goto (tgt := 43) hx hb dJ0_getBytes_840e7_25 (by decide) ?_
  have h := Option.some.inj h
  subst h
  exact hend (adr []) _ _ _ _ _ _ _ rfl rfl (rtn_v) hP hD hS dJ0_getBytes_840e7_43

noncomputable def SJ5_putStringAt_47b60 (k : Nat) (n : Nat) (f : Nat → Int32) (x1 : Int32) : Option (Nat → Int32) := lt_ (SJ5_inflateIfNeededFor_a7421) (fun o1 : Unit => bnd (SJ0_getBytes_840e7 k n f x1) (fun o3 : Nat → Int32 => some (o3)))
theorem iJ5_putStringAt_47b60_J4 : ∀ w ∈ wsJ40, w ∈ wsJ5_putStringAt_47b60 := fun _ h => List.mem_cons_of_mem _ (List.mem_append_left _ (List.mem_append_right _ h))
abbrev RM_J5_putStringAt_47b60 : Room := { frames := 2, cells := 0, slots := 0, locals := 43 }
set_option maxHeartbeats 4000000 in
theorem kJ5_putStringAt_47b60 (l : Launch) (D : va_G) (cA : Nat → ClassId) (G : eG) (s0 s1 : Nat) (k : Nat) (n : Nat) (f : Nat → Int32) (ml : Int32) (c0 : Int32) (x1 : Int32) (hk : k < 24) {r : Nat → Int32} (hr : SJ5_putStringAt_47b60 k n f x1 = some r) {sz : Nat} : Met l yJ5_putStringAt_47b60 wsJ5_putStringAt_47b60 RM_J5_putStringAt_47b60 (va_Pc [.ref s0, .int x1, .ref (G.1 k)] (gqEB G D cA [(s0, .inr (1, [.ref s1, .int 0, .int ml, .int c0])), (s1, .inl (cA 1, n, .inl f))] sz)) (gqQ D (fun as => none) (fun as => [(s0, .inr (1, [.ref s1, .int 0, .int ml, .int c0])), (s1, .inl (cA 1, n, .inl r))]) (va_A [(s0, .inr (1, [.ref s1, .int 0, .int ml, .int c0])), (s1, .inl (cA 1, n, .inl f))] sz)) 0 0 (va_A [(s0, .inr (1, [.ref s1, .int 0, .int ml, .int c0])), (s1, .inl (cA 1, n, .inl f))] sz) := by
  refine gqE_ofW (cc := cJ5_putStringAt_47b60) (maxL := 3) (ret := none) (by decide) rfl (Nat.le_of_ble_eq_true rfl) (fun p e s m args below meth c ls Q A hx hb hml hts hfc hmn hK hP hD hS hA hEV hl hend => ?_)
  have hfc : s.vm.findClass RJ5 = some m.cls := hfc
  have hl : lv_has ls 3 [(0, .ref s0), (1, .int x1), (2, .ref (G.1 k))] := hl
  have h := hr
  clear hr
  unfold SJ5_putStringAt_47b60 at h
  refine lv_aload_n hx hb dJ5_putStringAt_47b60_0 rfl (lv_at hl 0 rfl) ?_
  refine lv_aload_n hx hb dJ5_putStringAt_47b60_1 rfl (lv_at hl 2 rfl) ?_
  obtain ⟨o1, ho1, h⟩ := lt_i h
  refine rqE_U (G := G) (v := none) (As := [.ref (G.1 k)]) (rest := []) (wc := [(s0, .inr (1, [.ref s1, .int 0, .int ml, .int c0])), (s1, .inl (cA 1, n, .inl f))]) ⟨hx, hb, hml, hfc, hts⟩ hK hP hS hEV (kJ5_inflateIfNeededFor_a7421 l D cA G s0 s1 k n f ml c0 hk ho1) (va_cwU 1 hts gJ5_putStringAt_47b60_J5_inflateIfNeededFor_a7421_u397J4 rfl rfl rfl rfl (by decide +kernel) ⟨(Nat.le_of_ble_eq_true rfl), (Nat.le_of_ble_eq_true rfl)⟩) [0, 1] rfl 0 1 rfl rfl rfl rfl rfl rfl hl.1 (Nat.le_of_ble_eq_true rfl) dJ5_putStringAt_47b60_2 ⟨(Nat.zero_le _), (Nat.zero_le _)⟩ ?_
  refine lv_aload_n hx hb dJ5_putStringAt_47b60_5 rfl (lv_at hl 2 rfl) ?_
  refine lv_aload_n hx hb dJ5_putStringAt_47b60_6 rfl (lv_at hl 0 rfl) ?_
  refine va_get (D := D) (ci := 1) (v := .ref s1) (C := RJ4) (T := TJ4) (N := 4) hx hb hts iJ5_putStringAt_47b60_J4 hfc hK hP 0 rfl rfl 0 (by decide) (hts (.fieldLink RJ5 15 "java/lang/AbstractStringBuilder" "value" "[B") (List.mem_of_getElem? (i := 1) rfl)) (fun _ h9 => h9) rfl dJ5_putStringAt_47b60_7 ?_
  refine lv_iload_n hx hb dJ5_putStringAt_47b60_10 rfl (lv_at hl 1 rfl) ?_
  refine lv_aload_n hx hb dJ5_putStringAt_47b60_11 rfl (lv_at hl 0 rfl) ?_
  refine va_get (D := D) (ci := 1) (v := .int 0) (C := RJ4) (T := TJ4) (N := 4) hx hb hts iJ5_putStringAt_47b60_J4 hfc hK hP 0 rfl rfl 1 (by decide) (hts (.fieldLink RJ5 22 "java/lang/AbstractStringBuilder" "coder" "B") (List.mem_of_getElem? (i := 2) rfl)) (fun _ h9 => h9) rfl dJ5_putStringAt_47b60_12 ?_
  obtain ⟨o3, ho3, h⟩ := bnd_i h
  refine gqE_T (G := G) (v := (fun as => none)) (As := [.ref s1, .int x1, .int 0]) (rest := []) (wc := [(s1, .inl (cA 1, n, .inl f))]) (wr := [(s0, .inr (1, [.ref s1, .int 0, .int ml, .int c0]))]) (w1 := (fun as => [(s1, .inl (cA 1, n, .inl o3))])) (ws2 := (fun as => [(s0, .inr (1, [.ref s1, .int 0, .int ml, .int c0])), (s1, .inl (cA 1, n, .inl o3))])) (st1 := (fun as => [])) ⟨hx, hb, hml, hfc, hts⟩ hK hP hD hS hA hEV (kJ0_getBytes_840e7 l D cA G s1 k n f x1 hk ho3) (cwV 3 hts gJ5_putStringAt_47b60_J0_getBytes_840e7 rfl rfl rfl (by decide +kernel) ⟨(Nat.le_of_ble_eq_true rfl), (Nat.le_of_ble_eq_true rfl)⟩) [1] [0] [0, 1] rfl rfl rfl rfl (by decide) (fun _ => rfl) rfl hk rfl (fun _ => rfl) rfl hl.1 (Nat.le_of_ble_eq_true rfl) dJ5_putStringAt_47b60_15 ⟨(Nat.le_of_ble_eq_true rfl), (Nat.le_of_ble_eq_true rfl)⟩ (fun as4 H locs hP hD hS => ?_)
  have hP : va_P D vwCl [(s0, .inr (1, [.ref s1, .int 0, .int ml, .int c0])), (s1, .inl (cA 1, n, .inl o3))] H := hP
  have hD : va_D A [(s0, .inr (1, [.ref s1, .int 0, .int ml, .int c0])), (s1, .inl (cA 1, n, .inl o3))] := hD
  have h := Option.some.inj h
  subst h
  exact hend (adr []) _ _ _ _ _ _ _ rfl rfl (rtn_v) hP hD hS dJ5_putStringAt_47b60_18

noncomputable def SJ5_putStringAt_47b60_w (n : Nat) (f : Nat → Int32) (n2 : Nat) (f2 : Nat → Int32) (x1 : Int32) : Option (Nat → Int32) := lt_ (SJ5_inflateIfNeededFor_a7421_w) (fun o1 : Unit => bnd (SJ0_getBytes_840e7_w n2 f2 n f x1) (fun o3 : Nat → Int32 => some (o3)))
abbrev RM_J5_putStringAt_47b60_w : Room := { frames := 2, cells := 0, slots := 0, locals := 43 }
set_option maxHeartbeats 4000000 in
theorem kJ5_putStringAt_47b60_w (l : Launch) (D : va_G) (cA : Nat → ClassId) (G : eG) (s0 s1 r0 r1 : Nat) (n : Nat) (f : Nat → Int32) (ml : Int32) (c0 : Int32) (h1 : Int32) (h2 : Int32) (n2 : Nat) (f2 : Nat → Int32) (x1 : Int32) {r : Nat → Int32} (hr : SJ5_putStringAt_47b60_w n f n2 f2 x1 = some r) {sz : Nat} : Met l yJ5_putStringAt_47b60 wsJ5_putStringAt_47b60 RM_J5_putStringAt_47b60_w (va_Pc [.ref s0, .int x1, .ref r0] (gqEB G D cA [(s0, .inr (1, [.ref s1, .int 0, .int ml, .int c0])), (s1, .inl (cA 1, n, .inl f)), (r0, .inr (0, [.ref r1, .int 0, .int h1, .int h2])), (r1, .inl (cA 1, n2, .inl f2))] sz)) (gqQ D (fun as => none) (fun as => [(s0, .inr (1, [.ref s1, .int 0, .int ml, .int c0])), (s1, .inl (cA 1, n, .inl r)), (r0, .inr (0, [.ref r1, .int 0, .int h1, .int h2])), (r1, .inl (cA 1, n2, .inl f2))]) (va_A [(s0, .inr (1, [.ref s1, .int 0, .int ml, .int c0])), (s1, .inl (cA 1, n, .inl f)), (r0, .inr (0, [.ref r1, .int 0, .int h1, .int h2])), (r1, .inl (cA 1, n2, .inl f2))] sz)) 0 0 (va_A [(s0, .inr (1, [.ref s1, .int 0, .int ml, .int c0])), (s1, .inl (cA 1, n, .inl f)), (r0, .inr (0, [.ref r1, .int 0, .int h1, .int h2])), (r1, .inl (cA 1, n2, .inl f2))] sz) := by
  refine gqE_ofW (cc := cJ5_putStringAt_47b60) (maxL := 3) (ret := none) (by decide) rfl (Nat.le_of_ble_eq_true rfl) (fun p e s m args below meth c ls Q A hx hb hml hts hfc hmn hK hP hD hS hA hEV hl hend => ?_)
  have hfc : s.vm.findClass RJ5 = some m.cls := hfc
  have hl : lv_has ls 3 [(0, .ref s0), (1, .int x1), (2, .ref r0)] := hl
  have h := hr
  clear hr
  unfold SJ5_putStringAt_47b60_w at h
  refine lv_aload_n hx hb dJ5_putStringAt_47b60_0 rfl (lv_at hl 0 rfl) ?_
  refine lv_aload_n hx hb dJ5_putStringAt_47b60_1 rfl (lv_at hl 2 rfl) ?_
  obtain ⟨o1, ho1, h⟩ := lt_i h
  refine rqE_U (G := G) (v := none) (As := [.ref r0]) (rest := []) (wc := [(s0, .inr (1, [.ref s1, .int 0, .int ml, .int c0])), (s1, .inl (cA 1, n, .inl f)), (r0, .inr (0, [.ref r1, .int 0, .int h1, .int h2])), (r1, .inl (cA 1, n2, .inl f2))]) ⟨hx, hb, hml, hfc, hts⟩ hK hP hS hEV (kJ5_inflateIfNeededFor_a7421_w l D cA G s0 s1 r0 r1 n f ml c0 h1 h2 n2 f2 ho1) (va_cwU 1 hts gJ5_putStringAt_47b60_J5_inflateIfNeededFor_a7421_u397J4 rfl rfl rfl rfl (by decide +kernel) ⟨(Nat.le_of_ble_eq_true rfl), (Nat.le_of_ble_eq_true rfl)⟩) [0, 1, 2, 3] rfl 0 1 rfl rfl rfl rfl rfl rfl hl.1 (Nat.le_of_ble_eq_true rfl) dJ5_putStringAt_47b60_2 ⟨(Nat.zero_le _), (Nat.zero_le _)⟩ ?_
  refine lv_aload_n hx hb dJ5_putStringAt_47b60_5 rfl (lv_at hl 2 rfl) ?_
  refine lv_aload_n hx hb dJ5_putStringAt_47b60_6 rfl (lv_at hl 0 rfl) ?_
  refine va_get (D := D) (ci := 1) (v := .ref s1) (C := RJ4) (T := TJ4) (N := 4) hx hb hts iJ5_putStringAt_47b60_J4 hfc hK hP 0 rfl rfl 0 (by decide) (hts (.fieldLink RJ5 15 "java/lang/AbstractStringBuilder" "value" "[B") (List.mem_of_getElem? (i := 1) rfl)) (fun _ h9 => h9) rfl dJ5_putStringAt_47b60_7 ?_
  refine lv_iload_n hx hb dJ5_putStringAt_47b60_10 rfl (lv_at hl 1 rfl) ?_
  refine lv_aload_n hx hb dJ5_putStringAt_47b60_11 rfl (lv_at hl 0 rfl) ?_
  refine va_get (D := D) (ci := 1) (v := .int 0) (C := RJ4) (T := TJ4) (N := 4) hx hb hts iJ5_putStringAt_47b60_J4 hfc hK hP 0 rfl rfl 1 (by decide) (hts (.fieldLink RJ5 22 "java/lang/AbstractStringBuilder" "coder" "B") (List.mem_of_getElem? (i := 2) rfl)) (fun _ h9 => h9) rfl dJ5_putStringAt_47b60_12 ?_
  obtain ⟨o3, ho3, h⟩ := bnd_i h
  refine gqE_V (G := G) (v := (fun as => none)) (As := [.ref s1, .int x1, .int 0]) (rest := []) (wc := [(r0, .inr (0, [.ref r1, .int 0, .int h1, .int h2])), (r1, .inl (cA 1, n2, .inl f2)), (s1, .inl (cA 1, n, .inl f))]) (wr := [(s0, .inr (1, [.ref s1, .int 0, .int ml, .int c0]))]) (w1 := (fun as => [(r0, .inr (0, [.ref r1, .int 0, .int h1, .int h2])), (r1, .inl (cA 1, n2, .inl f2)), (s1, .inl (cA 1, n, .inl o3))])) (ws2 := (fun as => [(s0, .inr (1, [.ref s1, .int 0, .int ml, .int c0])), (s1, .inl (cA 1, n, .inl o3)), (r0, .inr (0, [.ref r1, .int 0, .int h1, .int h2])), (r1, .inl (cA 1, n2, .inl f2))])) (st1 := (fun as => [])) ⟨hx, hb, hml, hfc, hts⟩ hK hP hD hS hA hEV (kJ0_getBytes_840e7_w l D cA G r0 r1 s1 h1 h2 n2 f2 n f x1 ho3) (cwV 3 hts gJ5_putStringAt_47b60_J0_getBytes_840e7 rfl rfl rfl (by decide +kernel) ⟨(Nat.le_of_ble_eq_true rfl), (Nat.le_of_ble_eq_true rfl)⟩) [2, 3, 1] [0] [0, 3, 1, 2] rfl rfl rfl rfl (by decide) (fun _ => rfl) rfl 2 0 rfl rfl rfl rfl (fun _ => rfl) rfl hl.1 (Nat.le_of_ble_eq_true rfl) dJ5_putStringAt_47b60_15 ⟨(Nat.le_of_ble_eq_true rfl), (Nat.le_of_ble_eq_true rfl)⟩ (fun as4 H locs hP hD hS => ?_)
  have hP : va_P D vwCl [(s0, .inr (1, [.ref s1, .int 0, .int ml, .int c0])), (s1, .inl (cA 1, n, .inl o3)), (r0, .inr (0, [.ref r1, .int 0, .int h1, .int h2])), (r1, .inl (cA 1, n2, .inl f2))] H := hP
  have hD : va_D A [(s0, .inr (1, [.ref s1, .int 0, .int ml, .int c0])), (s1, .inl (cA 1, n, .inl o3)), (r0, .inr (0, [.ref r1, .int 0, .int h1, .int h2])), (r1, .inl (cA 1, n2, .inl f2))] := hD
  have h := Option.some.inj h
  subst h
  exact hend (adr []) _ _ _ _ _ _ _ rfl rfl (rtn_v) hP hD hS dJ5_putStringAt_47b60_18

noncomputable def SJ5_append_cf1ce (k : Nat) (n : Nat) (f : Nat → Int32) (c0 : Int32) : Option (Int32 × (Nat → Int32) × Nat) := bnd (SJ5_ensureCapacityInternal_d00df n f (c0 + (SJ0_length_8abf5 k))) (fun o2 : (Nat → Int32) × Nat => bnd (SJ5_putStringAt_47b60 k o2.2 o2.1 c0) (fun o4 : Nat → Int32 => lt_ (c0 + (SJ0_length_8abf5 k)) (fun t6 : Int32 => some ((t6, o4, o2.2)))))
theorem iJ5_append_cf1ce_J4 : ∀ w ∈ wsJ40, w ∈ wsJ5_append_cf1ce := fun _ h => List.mem_cons_of_mem _ (List.mem_append_left _ (List.mem_append_right _ h))
abbrev RM_J5_append_cf1ce : Room := { frames := 4, cells := 1, slots := 168, locals := 86 }
set_option maxHeartbeats 4000000 in
theorem kJ5_append_cf1ce (l : Launch) (D : va_G) (cA : Nat → ClassId) (G : eG) (s0 s1 : Nat) (k : Nat) (n : Nat) (f : Nat → Int32) (ml : Int32) (c0 : Int32) (hk : k < 24) {r : Int32 × (Nat → Int32) × Nat} (hr : SJ5_append_cf1ce k n f c0 = some r) {sz : Nat} : Met l yJ5_append_cf1ce wsJ5_append_cf1ce RM_J5_append_cf1ce (va_Pc [.ref s0, .ref (G.1 k)] (gqEB G D cA [(s0, .inr (1, [.ref s1, .int 0, .int ml, .int c0])), (s1, .inl (cA 1, n, .inl f))] sz)) (gqQ D (fun as => (some (.ref s0))) (fun as => [(s0, .inr (1, [.ref (as 0), .int 0, .int ml, .int r.1])), ((as 0), .inl (cA 1, r.2.2, .inl r.2.1))]) (va_A [(s0, .inr (1, [.ref s1, .int 0, .int ml, .int c0])), (s1, .inl (cA 1, n, .inl f))] sz)) 1 168 (va_A [(s0, .inr (1, [.ref s1, .int 0, .int ml, .int c0])), (s1, .inl (cA 1, n, .inl f))] sz) := by
  refine gqE_ofW (cc := cJ5_append_cf1ce) (maxL := 3) (ret := (some (.object "java/lang/AbstractStringBuilder"))) (by decide) rfl (Nat.le_of_ble_eq_true rfl) (fun p e s m args below meth c ls Q A hx hb hml hts hfc hmn hK hP hD hS hA hEV hl hend => ?_)
  have hfc : s.vm.findClass RJ5 = some m.cls := hfc
  have hl : lv_has ls 3 [(0, .ref s0), (1, .ref (G.1 k))] := hl
  have h := hr
  clear hr
  unfold SJ5_append_cf1ce at h
  refine lv_aload_n hx hb dJ5_append_cf1ce_0 rfl (lv_at hl 1 rfl) ?_
  refine lv_ifnonnull (tgt := 9) hx hb dJ5_append_cf1ce_1 (by decide) ?_
  refine lv_aload_n hx hb dJ5_append_cf1ce_9 rfl (lv_at hl 1 rfl) ?_
  refine rqE_T (G := G) (v := (some (.int (SJ0_length_8abf5 k)))) (As := []) (rest := []) (wc := []) ⟨hx, hb, hml, hfc, hts⟩ hK hP hS hEV (kJ0_length_8abf5 l D cA G k hk rfl) (cwV 0 hts gJ5_append_cf1ce_J0_length_8abf5 rfl rfl rfl (by decide +kernel) ⟨(Nat.le_of_ble_eq_true rfl), (Nat.le_of_ble_eq_true rfl)⟩) [] rfl hk rfl rfl rfl hl.1 (Nat.le_of_ble_eq_true rfl) dJ5_append_cf1ce_10 ⟨(Nat.zero_le _), (Nat.zero_le _)⟩ ?_
  refine lv_istore_n hx hb dJ5_append_cf1ce_13 rfl hl (Nat.le_of_ble_eq_true rfl) rfl (fun ls hl => ?_)
  have hl : lv_has ls 3 [(2, .int (SJ0_length_8abf5 k)), (0, .ref s0), (1, .ref (G.1 k))] := hl
  refine lv_aload_n hx hb dJ5_append_cf1ce_14 rfl (lv_at hl 1 rfl) ?_
  refine lv_aload_n hx hb dJ5_append_cf1ce_15 rfl (lv_at hl 1 rfl) ?_
  refine va_get (D := D) (ci := 1) (v := .int c0) (C := RJ4) (T := TJ4) (N := 4) hx hb hts iJ5_append_cf1ce_J4 hfc hK hP 0 rfl rfl 3 (by decide) (hts (.fieldLink RJ5 79 "java/lang/AbstractStringBuilder" "count" "I") (List.mem_of_getElem? (i := 1) rfl)) (fun _ h9 => h9) rfl dJ5_append_cf1ce_16 ?_
  refine lv_iload_n hx hb dJ5_append_cf1ce_19 rfl (lv_at hl 0 rfl) ?_
  refine lv_iadd hx hb dJ5_append_cf1ce_20 ?_
  obtain ⟨o2, ho2, h⟩ := bnd_i h
  refine gq_U (v := (fun as => none)) (As := [.int (c0 + (SJ0_length_8abf5 k))]) (rest := []) (wc := [(s0, .inr (1, [.ref s1, .int 0, .int ml, .int c0])), (s1, .inl (cA 1, n, .inl f))]) (wr := []) (w1 := (fun as => [(s0, .inr (1, [.ref (as 0), .int 0, .int ml, .int c0])), ((as 0), .inl (cA 1, o2.2, .inl o2.1))])) (ws2 := (fun as => [(s0, .inr (1, [.ref (as 0), .int 0, .int ml, .int c0])), ((as 0), .inl (cA 1, o2.2, .inl o2.1))])) (st1 := (fun as => [])) ⟨hx, hb, hml, hfc, hts⟩ hK hP hD hS hA (kJ5_ensureCapacityInternal_d00df l D cA s0 s1 n f ml c0 (c0 + (SJ0_length_8abf5 k)) ho2) (va_cwU 1 hts gJ5_append_cf1ce_J5_ensureCapacityInternal_d00df_u100J4 rfl rfl rfl rfl (by decide +kernel) ⟨(Nat.le_of_ble_eq_true rfl), (Nat.le_of_ble_eq_true rfl)⟩) [0, 1] [] [0, 1] rfl rfl rfl rfl (by decide) (fun _ => rfl) rfl 0 1 rfl rfl rfl rfl (fun _ => rfl) rfl hl.1 (Nat.le_of_ble_eq_true rfl) dJ5_append_cf1ce_21 ⟨(Nat.le_of_ble_eq_true rfl), (Nat.le_of_ble_eq_true rfl)⟩ (fun as3 H locs hP hD hS => ?_)
  have hP : va_P D vwCl [(s0, .inr (1, [.ref (as3 0), .int 0, .int ml, .int c0])), ((as3 0), .inl (cA 1, o2.2, .inl o2.1))] H := hP
  have hD : va_D A [(s0, .inr (1, [.ref (as3 0), .int 0, .int ml, .int c0])), ((as3 0), .inl (cA 1, o2.2, .inl o2.1))] := hD
  refine W.cs (cells' := 1) (slots' := 168) rfl rfl ?_
  refine lv_aload_n hx hb dJ5_append_cf1ce_24 rfl (lv_at hl 1 rfl) ?_
  refine lv_aload_n hx hb dJ5_append_cf1ce_25 rfl (lv_at hl 1 rfl) ?_
  refine va_get (D := D) (ci := 1) (v := .int c0) (C := RJ4) (T := TJ4) (N := 4) hx hb hts iJ5_append_cf1ce_J4 hfc hK hP 0 rfl rfl 3 (by decide) (hts (.fieldLink RJ5 79 "java/lang/AbstractStringBuilder" "count" "I") (List.mem_of_getElem? (i := 1) rfl)) (fun _ h9 => h9) rfl dJ5_append_cf1ce_26 ?_
  refine lv_aload_n hx hb dJ5_append_cf1ce_29 rfl (lv_at hl 2 rfl) ?_
  obtain ⟨o4, ho4, h⟩ := bnd_i h
  refine gqE_U (G := G) (v := (fun as => none)) (As := [.int c0, .ref (G.1 k)]) (rest := []) (wc := [(s0, .inr (1, [.ref (as3 0), .int 0, .int ml, .int c0])), ((as3 0), .inl (cA 1, o2.2, .inl o2.1))]) (wr := []) (w1 := (fun as => [(s0, .inr (1, [.ref (as3 0), .int 0, .int ml, .int c0])), ((as3 0), .inl (cA 1, o2.2, .inl o4))])) (ws2 := (fun as => [(s0, .inr (1, [.ref (as3 0), .int 0, .int ml, .int c0])), ((as3 0), .inl (cA 1, o2.2, .inl o4))])) (st1 := (fun as => [])) ⟨hx, hb, hml, hfc, hts⟩ hK hP hD hS hA hEV (kJ5_putStringAt_47b60 l D cA G s0 (as3 0) k o2.2 o2.1 ml c0 c0 hk ho4) (va_cwU 2 hts gJ5_append_cf1ce_J5_putStringAt_47b60_u208J4 rfl rfl rfl rfl (by decide +kernel) ⟨(Nat.le_of_ble_eq_true rfl), (Nat.le_of_ble_eq_true rfl)⟩) [0, 1] [] [0, 1] rfl rfl rfl rfl (by decide) (fun _ => rfl) rfl 0 1 rfl rfl rfl rfl (fun _ => rfl) rfl hl.1 (Nat.le_of_ble_eq_true rfl) dJ5_append_cf1ce_30 ⟨(Nat.le_of_ble_eq_true rfl), (Nat.le_of_ble_eq_true rfl)⟩ (fun as5 H locs hP hD hS => ?_)
  have hP : va_P D vwCl [(s0, .inr (1, [.ref (as3 0), .int 0, .int ml, .int c0])), ((as3 0), .inl (cA 1, o2.2, .inl o4))] H := hP
  have hD : va_D A [(s0, .inr (1, [.ref (as3 0), .int 0, .int ml, .int c0])), ((as3 0), .inl (cA 1, o2.2, .inl o4))] := hD
  refine lv_aload_n hx hb dJ5_append_cf1ce_33 rfl (lv_at hl 1 rfl) ?_
  refine lv_dup hx hb dJ5_append_cf1ce_34 rfl ?_
  refine va_get (D := D) (ci := 1) (v := .int c0) (C := RJ4) (T := TJ4) (N := 4) hx hb hts iJ5_append_cf1ce_J4 hfc hK hP 0 rfl rfl 3 (by decide) (hts (.fieldLink RJ5 79 "java/lang/AbstractStringBuilder" "count" "I") (List.mem_of_getElem? (i := 1) rfl)) (fun _ h9 => h9) rfl dJ5_append_cf1ce_35 ?_
  refine lv_iload_n hx hb dJ5_append_cf1ce_38 rfl (lv_at hl 0 rfl) ?_
  refine lv_iadd hx hb dJ5_append_cf1ce_39 ?_
  refine lv_topi (fun t6 et6 => ?_)
  have h := lt_e h _ et6
  refine va_put (D := D) (ci := 1) (v := .int t6) (ty := .int) (C := RJ4) (T := TJ4) (N := 4) hx hb hts iJ5_append_cf1ce_J4 tyJ4 tyJ4_ok nmJ4 hfc hK hP hD hS 0 rfl rfl 3 (by decide) (hts (.fieldLink RJ5 79 "java/lang/AbstractStringBuilder" "count" "I") (List.mem_of_getElem? (i := 1) rfl)) (fun _ h9 => h9) rfl (by decide +kernel) rfl rfl (Nat.le_of_ble_eq_true rfl) dJ5_append_cf1ce_40 (fun H locs hP hD hS => ?_)
  have hP : va_P D vwCl [(s0, .inr (1, [.ref (as3 0), .int 0, .int ml, .int t6])), ((as3 0), .inl (cA 1, o2.2, .inl o4))] H := hP
  have hD : va_D A [(s0, .inr (1, [.ref (as3 0), .int 0, .int ml, .int t6])), ((as3 0), .inl (cA 1, o2.2, .inl o4))] := hD
  refine lv_aload_n hx hb dJ5_append_cf1ce_43 rfl (lv_at hl 1 rfl) ?_
  have h := Option.some.inj h
  subst h
  refine W.widen (k := 1) (n := 168) (Nat.le_of_ble_eq_true rfl) (Nat.le_of_ble_eq_true rfl) ?_
  exact hend (adr [(as3 0)]) _ _ _ _ _ _ _ rfl rfl (rtn_a _ _) hP hD hS dJ5_append_cf1ce_44

noncomputable def SJ5_append_cf1ce_w (n : Nat) (f : Nat → Int32) (c0 : Int32) (n2 : Nat) (f2 : Nat → Int32) : Option (Int32 × (Nat → Int32) × Nat) := bnd (SJ5_ensureCapacityInternal_d00df n f (c0 + (SJ0_length_8abf5_w n2))) (fun o2 : (Nat → Int32) × Nat => bnd (SJ5_putStringAt_47b60_w o2.2 o2.1 n2 f2 c0) (fun o4 : Nat → Int32 => lt_ (c0 + (SJ0_length_8abf5_w n2)) (fun t6 : Int32 => some ((t6, o4, o2.2)))))
abbrev RM_J5_append_cf1ce_w : Room := { frames := 4, cells := 1, slots := 168, locals := 86 }
set_option maxHeartbeats 4000000 in
theorem kJ5_append_cf1ce_w (l : Launch) (D : va_G) (cA : Nat → ClassId) (G : eG) (s0 s1 r0 r1 : Nat) (n : Nat) (f : Nat → Int32) (ml : Int32) (c0 : Int32) (h1 : Int32) (h2 : Int32) (n2 : Nat) (f2 : Nat → Int32) {r : Int32 × (Nat → Int32) × Nat} (hr : SJ5_append_cf1ce_w n f c0 n2 f2 = some r) {sz : Nat} : Met l yJ5_append_cf1ce wsJ5_append_cf1ce RM_J5_append_cf1ce_w (va_Pc [.ref s0, .ref r0] (gqEB G D cA [(s0, .inr (1, [.ref s1, .int 0, .int ml, .int c0])), (s1, .inl (cA 1, n, .inl f)), (r0, .inr (0, [.ref r1, .int 0, .int h1, .int h2])), (r1, .inl (cA 1, n2, .inl f2))] sz)) (gqQ D (fun as => (some (.ref s0))) (fun as => [(s0, .inr (1, [.ref (as 0), .int 0, .int ml, .int r.1])), ((as 0), .inl (cA 1, r.2.2, .inl r.2.1)), (r0, .inr (0, [.ref r1, .int 0, .int h1, .int h2])), (r1, .inl (cA 1, n2, .inl f2))]) (va_A [(s0, .inr (1, [.ref s1, .int 0, .int ml, .int c0])), (s1, .inl (cA 1, n, .inl f)), (r0, .inr (0, [.ref r1, .int 0, .int h1, .int h2])), (r1, .inl (cA 1, n2, .inl f2))] sz)) 1 168 (va_A [(s0, .inr (1, [.ref s1, .int 0, .int ml, .int c0])), (s1, .inl (cA 1, n, .inl f)), (r0, .inr (0, [.ref r1, .int 0, .int h1, .int h2])), (r1, .inl (cA 1, n2, .inl f2))] sz) := by
  refine gqE_ofW (cc := cJ5_append_cf1ce) (maxL := 3) (ret := (some (.object "java/lang/AbstractStringBuilder"))) (by decide) rfl (Nat.le_of_ble_eq_true rfl) (fun p e s m args below meth c ls Q A hx hb hml hts hfc hmn hK hP hD hS hA hEV hl hend => ?_)
  have hfc : s.vm.findClass RJ5 = some m.cls := hfc
  have hl : lv_has ls 3 [(0, .ref s0), (1, .ref r0)] := hl
  have h := hr
  clear hr
  unfold SJ5_append_cf1ce_w at h
  refine lv_aload_n hx hb dJ5_append_cf1ce_0 rfl (lv_at hl 1 rfl) ?_
  refine lv_ifnonnull (tgt := 9) hx hb dJ5_append_cf1ce_1 (by decide) ?_
  refine lv_aload_n hx hb dJ5_append_cf1ce_9 rfl (lv_at hl 1 rfl) ?_
  refine rqE_V (G := G) (v := (some (.int (SJ0_length_8abf5_w n2)))) (As := []) (rest := []) (wc := [(r0, .inr (0, [.ref r1, .int 0, .int h1, .int h2])), (r1, .inl (cA 1, n2, .inl f2))]) ⟨hx, hb, hml, hfc, hts⟩ hK hP hS hEV (kJ0_length_8abf5_w l D cA G r0 r1 h1 h2 n2 f2 rfl) (cwV 0 hts gJ5_append_cf1ce_J0_length_8abf5 rfl rfl rfl (by decide +kernel) ⟨(Nat.le_of_ble_eq_true rfl), (Nat.le_of_ble_eq_true rfl)⟩) [2, 3] rfl 2 0 rfl rfl rfl rfl rfl rfl hl.1 (Nat.le_of_ble_eq_true rfl) dJ5_append_cf1ce_10 ⟨(Nat.zero_le _), (Nat.zero_le _)⟩ ?_
  refine lv_istore_n hx hb dJ5_append_cf1ce_13 rfl hl (Nat.le_of_ble_eq_true rfl) rfl (fun ls hl => ?_)
  have hl : lv_has ls 3 [(2, .int (SJ0_length_8abf5_w n2)), (0, .ref s0), (1, .ref r0)] := hl
  refine lv_aload_n hx hb dJ5_append_cf1ce_14 rfl (lv_at hl 1 rfl) ?_
  refine lv_aload_n hx hb dJ5_append_cf1ce_15 rfl (lv_at hl 1 rfl) ?_
  refine va_get (D := D) (ci := 1) (v := .int c0) (C := RJ4) (T := TJ4) (N := 4) hx hb hts iJ5_append_cf1ce_J4 hfc hK hP 0 rfl rfl 3 (by decide) (hts (.fieldLink RJ5 79 "java/lang/AbstractStringBuilder" "count" "I") (List.mem_of_getElem? (i := 1) rfl)) (fun _ h9 => h9) rfl dJ5_append_cf1ce_16 ?_
  refine lv_iload_n hx hb dJ5_append_cf1ce_19 rfl (lv_at hl 0 rfl) ?_
  refine lv_iadd hx hb dJ5_append_cf1ce_20 ?_
  obtain ⟨o2, ho2, h⟩ := bnd_i h
  refine gq_U (v := (fun as => none)) (As := [.int (c0 + (SJ0_length_8abf5_w n2))]) (rest := []) (wc := [(s0, .inr (1, [.ref s1, .int 0, .int ml, .int c0])), (s1, .inl (cA 1, n, .inl f))]) (wr := [(r0, .inr (0, [.ref r1, .int 0, .int h1, .int h2])), (r1, .inl (cA 1, n2, .inl f2))]) (w1 := (fun as => [(s0, .inr (1, [.ref (as 0), .int 0, .int ml, .int c0])), ((as 0), .inl (cA 1, o2.2, .inl o2.1))])) (ws2 := (fun as => [(s0, .inr (1, [.ref (as 0), .int 0, .int ml, .int c0])), ((as 0), .inl (cA 1, o2.2, .inl o2.1)), (r0, .inr (0, [.ref r1, .int 0, .int h1, .int h2])), (r1, .inl (cA 1, n2, .inl f2))])) (st1 := (fun as => [])) ⟨hx, hb, hml, hfc, hts⟩ hK hP hD hS hA (kJ5_ensureCapacityInternal_d00df l D cA s0 s1 n f ml c0 (c0 + (SJ0_length_8abf5_w n2)) ho2) (va_cwU 1 hts gJ5_append_cf1ce_J5_ensureCapacityInternal_d00df_u100J4 rfl rfl rfl rfl (by decide +kernel) ⟨(Nat.le_of_ble_eq_true rfl), (Nat.le_of_ble_eq_true rfl)⟩) [0, 1] [2, 3] [2, 3, 0, 1] rfl rfl rfl rfl (by decide) (fun _ => rfl) rfl 0 1 rfl rfl rfl rfl (fun _ => rfl) rfl hl.1 (Nat.le_of_ble_eq_true rfl) dJ5_append_cf1ce_21 ⟨(Nat.le_of_ble_eq_true rfl), (Nat.le_of_ble_eq_true rfl)⟩ (fun as3 H locs hP hD hS => ?_)
  have hP : va_P D vwCl [(s0, .inr (1, [.ref (as3 0), .int 0, .int ml, .int c0])), ((as3 0), .inl (cA 1, o2.2, .inl o2.1)), (r0, .inr (0, [.ref r1, .int 0, .int h1, .int h2])), (r1, .inl (cA 1, n2, .inl f2))] H := hP
  have hD : va_D A [(s0, .inr (1, [.ref (as3 0), .int 0, .int ml, .int c0])), ((as3 0), .inl (cA 1, o2.2, .inl o2.1)), (r0, .inr (0, [.ref r1, .int 0, .int h1, .int h2])), (r1, .inl (cA 1, n2, .inl f2))] := hD
  refine W.cs (cells' := 1) (slots' := 168) rfl rfl ?_
  refine lv_aload_n hx hb dJ5_append_cf1ce_24 rfl (lv_at hl 1 rfl) ?_
  refine lv_aload_n hx hb dJ5_append_cf1ce_25 rfl (lv_at hl 1 rfl) ?_
  refine va_get (D := D) (ci := 1) (v := .int c0) (C := RJ4) (T := TJ4) (N := 4) hx hb hts iJ5_append_cf1ce_J4 hfc hK hP 0 rfl rfl 3 (by decide) (hts (.fieldLink RJ5 79 "java/lang/AbstractStringBuilder" "count" "I") (List.mem_of_getElem? (i := 1) rfl)) (fun _ h9 => h9) rfl dJ5_append_cf1ce_26 ?_
  refine lv_aload_n hx hb dJ5_append_cf1ce_29 rfl (lv_at hl 2 rfl) ?_
  obtain ⟨o4, ho4, h⟩ := bnd_i h
  refine gqE_U (G := G) (v := (fun as => none)) (As := [.int c0, .ref r0]) (rest := []) (wc := [(s0, .inr (1, [.ref (as3 0), .int 0, .int ml, .int c0])), ((as3 0), .inl (cA 1, o2.2, .inl o2.1)), (r0, .inr (0, [.ref r1, .int 0, .int h1, .int h2])), (r1, .inl (cA 1, n2, .inl f2))]) (wr := []) (w1 := (fun as => [(s0, .inr (1, [.ref (as3 0), .int 0, .int ml, .int c0])), ((as3 0), .inl (cA 1, o2.2, .inl o4)), (r0, .inr (0, [.ref r1, .int 0, .int h1, .int h2])), (r1, .inl (cA 1, n2, .inl f2))])) (ws2 := (fun as => [(s0, .inr (1, [.ref (as3 0), .int 0, .int ml, .int c0])), ((as3 0), .inl (cA 1, o2.2, .inl o4)), (r0, .inr (0, [.ref r1, .int 0, .int h1, .int h2])), (r1, .inl (cA 1, n2, .inl f2))])) (st1 := (fun as => [])) ⟨hx, hb, hml, hfc, hts⟩ hK hP hD hS hA hEV (kJ5_putStringAt_47b60_w l D cA G s0 (as3 0) r0 r1 o2.2 o2.1 ml c0 h1 h2 n2 f2 c0 ho4) (va_cwU 2 hts gJ5_append_cf1ce_J5_putStringAt_47b60_u208J4 rfl rfl rfl rfl (by decide +kernel) ⟨(Nat.le_of_ble_eq_true rfl), (Nat.le_of_ble_eq_true rfl)⟩) [0, 1, 2, 3] [] [0, 1, 2, 3] rfl rfl rfl rfl (by decide) (fun _ => rfl) rfl 0 1 rfl rfl rfl rfl (fun _ => rfl) rfl hl.1 (Nat.le_of_ble_eq_true rfl) dJ5_append_cf1ce_30 ⟨(Nat.le_of_ble_eq_true rfl), (Nat.le_of_ble_eq_true rfl)⟩ (fun as5 H locs hP hD hS => ?_)
  have hP : va_P D vwCl [(s0, .inr (1, [.ref (as3 0), .int 0, .int ml, .int c0])), ((as3 0), .inl (cA 1, o2.2, .inl o4)), (r0, .inr (0, [.ref r1, .int 0, .int h1, .int h2])), (r1, .inl (cA 1, n2, .inl f2))] H := hP
  have hD : va_D A [(s0, .inr (1, [.ref (as3 0), .int 0, .int ml, .int c0])), ((as3 0), .inl (cA 1, o2.2, .inl o4)), (r0, .inr (0, [.ref r1, .int 0, .int h1, .int h2])), (r1, .inl (cA 1, n2, .inl f2))] := hD
  refine lv_aload_n hx hb dJ5_append_cf1ce_33 rfl (lv_at hl 1 rfl) ?_
  refine lv_dup hx hb dJ5_append_cf1ce_34 rfl ?_
  refine va_get (D := D) (ci := 1) (v := .int c0) (C := RJ4) (T := TJ4) (N := 4) hx hb hts iJ5_append_cf1ce_J4 hfc hK hP 0 rfl rfl 3 (by decide) (hts (.fieldLink RJ5 79 "java/lang/AbstractStringBuilder" "count" "I") (List.mem_of_getElem? (i := 1) rfl)) (fun _ h9 => h9) rfl dJ5_append_cf1ce_35 ?_
  refine lv_iload_n hx hb dJ5_append_cf1ce_38 rfl (lv_at hl 0 rfl) ?_
  refine lv_iadd hx hb dJ5_append_cf1ce_39 ?_
  refine lv_topi (fun t6 et6 => ?_)
  have h := lt_e h _ et6
  refine va_put (D := D) (ci := 1) (v := .int t6) (ty := .int) (C := RJ4) (T := TJ4) (N := 4) hx hb hts iJ5_append_cf1ce_J4 tyJ4 tyJ4_ok nmJ4 hfc hK hP hD hS 0 rfl rfl 3 (by decide) (hts (.fieldLink RJ5 79 "java/lang/AbstractStringBuilder" "count" "I") (List.mem_of_getElem? (i := 1) rfl)) (fun _ h9 => h9) rfl (by decide +kernel) rfl rfl (Nat.le_of_ble_eq_true rfl) dJ5_append_cf1ce_40 (fun H locs hP hD hS => ?_)
  have hP : va_P D vwCl [(s0, .inr (1, [.ref (as3 0), .int 0, .int ml, .int t6])), ((as3 0), .inl (cA 1, o2.2, .inl o4)), (r0, .inr (0, [.ref r1, .int 0, .int h1, .int h2])), (r1, .inl (cA 1, n2, .inl f2))] H := hP
  have hD : va_D A [(s0, .inr (1, [.ref (as3 0), .int 0, .int ml, .int t6])), ((as3 0), .inl (cA 1, o2.2, .inl o4)), (r0, .inr (0, [.ref r1, .int 0, .int h1, .int h2])), (r1, .inl (cA 1, n2, .inl f2))] := hD
  refine lv_aload_n hx hb dJ5_append_cf1ce_43 rfl (lv_at hl 1 rfl) ?_
  have h := Option.some.inj h
  subst h
  refine W.widen (k := 1) (n := 168) (Nat.le_of_ble_eq_true rfl) (Nat.le_of_ble_eq_true rfl) ?_
  exact hend (adr [(as3 0)]) _ _ _ _ _ _ _ rfl rfl (rtn_a _ _) hP hD hS dJ5_append_cf1ce_44

noncomputable def SJ4_append_15ec4 (k : Nat) (n : Nat) (f : Nat → Int32) (c0 : Int32) : Option (Int32 × (Nat → Int32) × Nat) := bnd (SJ5_append_cf1ce k n f c0) (fun o1 : Int32 × (Nat → Int32) × Nat => some ((o1.1, o1.2.1, o1.2.2)))
abbrev RM_J4_append_15ec4 : Room := { frames := 5, cells := 1, slots := 168, locals := 108 }
set_option maxHeartbeats 4000000 in
theorem kJ4_append_15ec4 (l : Launch) (D : va_G) (cA : Nat → ClassId) (G : eG) (s0 s1 : Nat) (k : Nat) (n : Nat) (f : Nat → Int32) (ml : Int32) (c0 : Int32) (hk : k < 24) {r : Int32 × (Nat → Int32) × Nat} (hr : SJ4_append_15ec4 k n f c0 = some r) {sz : Nat} : Met l yJ4_append_15ec4 wsJ4_append_15ec4 RM_J4_append_15ec4 (va_Pc [.ref s0, .ref (G.1 k)] (gqEB G D cA [(s0, .inr (1, [.ref s1, .int 0, .int ml, .int c0])), (s1, .inl (cA 1, n, .inl f))] sz)) (gqQ D (fun as => (some (.ref s0))) (fun as => [(s0, .inr (1, [.ref (as 0), .int 0, .int ml, .int r.1])), ((as 0), .inl (cA 1, r.2.2, .inl r.2.1))]) (va_A [(s0, .inr (1, [.ref s1, .int 0, .int ml, .int c0])), (s1, .inl (cA 1, n, .inl f))] sz)) 1 168 (va_A [(s0, .inr (1, [.ref s1, .int 0, .int ml, .int c0])), (s1, .inl (cA 1, n, .inl f))] sz) := by
  refine gqE_ofW (cc := cJ4_append_15ec4) (maxL := 2) (ret := (some (.object "java/lang/StringBuilder"))) (by decide) rfl (Nat.le_of_ble_eq_true rfl) (fun p e s m args below meth c ls Q A hx hb hml hts hfc hmn hK hP hD hS hA hEV hl hend => ?_)
  have hfc : s.vm.findClass RJ4 = some m.cls := hfc
  have hl : lv_has ls 2 [(0, .ref s0), (1, .ref (G.1 k))] := hl
  have h := hr
  clear hr
  unfold SJ4_append_15ec4 at h
  refine lv_aload_n hx hb dJ4_append_15ec4_0 rfl (lv_at hl 0 rfl) ?_
  refine lv_aload_n hx hb dJ4_append_15ec4_1 rfl (lv_at hl 1 rfl) ?_
  obtain ⟨o1, ho1, h⟩ := bnd_i h
  refine gqE_P (G := G) (v := (fun as => (some (.ref s0)))) (As := [.ref (G.1 k)]) (rest := []) (wc := [(s0, .inr (1, [.ref s1, .int 0, .int ml, .int c0])), (s1, .inl (cA 1, n, .inl f))]) (wr := []) (w1 := (fun as => [(s0, .inr (1, [.ref (as 0), .int 0, .int ml, .int o1.1])), ((as 0), .inl (cA 1, o1.2.2, .inl o1.2.1))])) (ws2 := (fun as => [(s0, .inr (1, [.ref (as 0), .int 0, .int ml, .int o1.1])), ((as 0), .inl (cA 1, o1.2.2, .inl o1.2.1))])) (st1 := (fun as => [.ref s0])) ⟨hx, hb, hml, hfc, hts⟩ hK hP hD hS hA hEV (kJ5_append_cf1ce l D cA G s0 s1 k n f ml c0 hk ho1) (va_cwSU 1 hts gJ4_append_15ec4_J5_append_cf1ce_s29 rfl rfl rfl (by decide +kernel) ⟨(Nat.le_of_ble_eq_true rfl), (Nat.le_of_ble_eq_true rfl)⟩) [0, 1] [] [0, 1] rfl rfl rfl rfl (by decide) (fun _ => rfl) rfl 0 1 rfl rfl rfl rfl (fun _ => rfl) rfl hl.1 (Nat.le_of_ble_eq_true rfl) dJ4_append_15ec4_2 ⟨(Nat.le_of_ble_eq_true rfl), (Nat.le_of_ble_eq_true rfl)⟩ (fun as2 H locs hP hD hS => ?_)
  have hP : va_P D vwCl [(s0, .inr (1, [.ref (as2 0), .int 0, .int ml, .int o1.1])), ((as2 0), .inl (cA 1, o1.2.2, .inl o1.2.1))] H := hP
  have hD : va_D A [(s0, .inr (1, [.ref (as2 0), .int 0, .int ml, .int o1.1])), ((as2 0), .inl (cA 1, o1.2.2, .inl o1.2.1))] := hD
  refine W.cs (cells' := 1) (slots' := 168) rfl rfl ?_
  refine lv_pop hx hb dJ4_append_15ec4_5 rfl ?_
  refine lv_aload_n hx hb dJ4_append_15ec4_6 rfl (lv_at hl 0 rfl) ?_
  have h := Option.some.inj h
  subst h
  refine W.widen (k := 1) (n := 168) (Nat.le_of_ble_eq_true rfl) (Nat.le_of_ble_eq_true rfl) ?_
  exact hend (adr [(as2 0)]) _ _ _ _ _ _ _ rfl rfl (rtn_a _ _) hP hD hS dJ4_append_15ec4_7

noncomputable def SJ4_append_15ec4_w (n : Nat) (f : Nat → Int32) (c0 : Int32) (n2 : Nat) (f2 : Nat → Int32) : Option (Int32 × (Nat → Int32) × Nat) := bnd (SJ5_append_cf1ce_w n f c0 n2 f2) (fun o1 : Int32 × (Nat → Int32) × Nat => some ((o1.1, o1.2.1, o1.2.2)))
abbrev RM_J4_append_15ec4_w : Room := { frames := 5, cells := 1, slots := 168, locals := 108 }
set_option maxHeartbeats 4000000 in
theorem kJ4_append_15ec4_w (l : Launch) (D : va_G) (cA : Nat → ClassId) (G : eG) (s0 s1 r0 r1 : Nat) (n : Nat) (f : Nat → Int32) (ml : Int32) (c0 : Int32) (h1 : Int32) (h2 : Int32) (n2 : Nat) (f2 : Nat → Int32) {r : Int32 × (Nat → Int32) × Nat} (hr : SJ4_append_15ec4_w n f c0 n2 f2 = some r) {sz : Nat} : Met l yJ4_append_15ec4 wsJ4_append_15ec4 RM_J4_append_15ec4_w (va_Pc [.ref s0, .ref r0] (gqEB G D cA [(s0, .inr (1, [.ref s1, .int 0, .int ml, .int c0])), (s1, .inl (cA 1, n, .inl f)), (r0, .inr (0, [.ref r1, .int 0, .int h1, .int h2])), (r1, .inl (cA 1, n2, .inl f2))] sz)) (gqQ D (fun as => (some (.ref s0))) (fun as => [(s0, .inr (1, [.ref (as 0), .int 0, .int ml, .int r.1])), ((as 0), .inl (cA 1, r.2.2, .inl r.2.1)), (r0, .inr (0, [.ref r1, .int 0, .int h1, .int h2])), (r1, .inl (cA 1, n2, .inl f2))]) (va_A [(s0, .inr (1, [.ref s1, .int 0, .int ml, .int c0])), (s1, .inl (cA 1, n, .inl f)), (r0, .inr (0, [.ref r1, .int 0, .int h1, .int h2])), (r1, .inl (cA 1, n2, .inl f2))] sz)) 1 168 (va_A [(s0, .inr (1, [.ref s1, .int 0, .int ml, .int c0])), (s1, .inl (cA 1, n, .inl f)), (r0, .inr (0, [.ref r1, .int 0, .int h1, .int h2])), (r1, .inl (cA 1, n2, .inl f2))] sz) := by
  refine gqE_ofW (cc := cJ4_append_15ec4) (maxL := 2) (ret := (some (.object "java/lang/StringBuilder"))) (by decide) rfl (Nat.le_of_ble_eq_true rfl) (fun p e s m args below meth c ls Q A hx hb hml hts hfc hmn hK hP hD hS hA hEV hl hend => ?_)
  have hfc : s.vm.findClass RJ4 = some m.cls := hfc
  have hl : lv_has ls 2 [(0, .ref s0), (1, .ref r0)] := hl
  have h := hr
  clear hr
  unfold SJ4_append_15ec4_w at h
  refine lv_aload_n hx hb dJ4_append_15ec4_0 rfl (lv_at hl 0 rfl) ?_
  refine lv_aload_n hx hb dJ4_append_15ec4_1 rfl (lv_at hl 1 rfl) ?_
  obtain ⟨o1, ho1, h⟩ := bnd_i h
  refine gqE_P (G := G) (v := (fun as => (some (.ref s0)))) (As := [.ref r0]) (rest := []) (wc := [(s0, .inr (1, [.ref s1, .int 0, .int ml, .int c0])), (s1, .inl (cA 1, n, .inl f)), (r0, .inr (0, [.ref r1, .int 0, .int h1, .int h2])), (r1, .inl (cA 1, n2, .inl f2))]) (wr := []) (w1 := (fun as => [(s0, .inr (1, [.ref (as 0), .int 0, .int ml, .int o1.1])), ((as 0), .inl (cA 1, o1.2.2, .inl o1.2.1)), (r0, .inr (0, [.ref r1, .int 0, .int h1, .int h2])), (r1, .inl (cA 1, n2, .inl f2))])) (ws2 := (fun as => [(s0, .inr (1, [.ref (as 0), .int 0, .int ml, .int o1.1])), ((as 0), .inl (cA 1, o1.2.2, .inl o1.2.1)), (r0, .inr (0, [.ref r1, .int 0, .int h1, .int h2])), (r1, .inl (cA 1, n2, .inl f2))])) (st1 := (fun as => [.ref s0])) ⟨hx, hb, hml, hfc, hts⟩ hK hP hD hS hA hEV (kJ5_append_cf1ce_w l D cA G s0 s1 r0 r1 n f ml c0 h1 h2 n2 f2 ho1) (va_cwSU 1 hts gJ4_append_15ec4_J5_append_cf1ce_s29 rfl rfl rfl (by decide +kernel) ⟨(Nat.le_of_ble_eq_true rfl), (Nat.le_of_ble_eq_true rfl)⟩) [0, 1, 2, 3] [] [0, 1, 2, 3] rfl rfl rfl rfl (by decide) (fun _ => rfl) rfl 0 1 rfl rfl rfl rfl (fun _ => rfl) rfl hl.1 (Nat.le_of_ble_eq_true rfl) dJ4_append_15ec4_2 ⟨(Nat.le_of_ble_eq_true rfl), (Nat.le_of_ble_eq_true rfl)⟩ (fun as2 H locs hP hD hS => ?_)
  have hP : va_P D vwCl [(s0, .inr (1, [.ref (as2 0), .int 0, .int ml, .int o1.1])), ((as2 0), .inl (cA 1, o1.2.2, .inl o1.2.1)), (r0, .inr (0, [.ref r1, .int 0, .int h1, .int h2])), (r1, .inl (cA 1, n2, .inl f2))] H := hP
  have hD : va_D A [(s0, .inr (1, [.ref (as2 0), .int 0, .int ml, .int o1.1])), ((as2 0), .inl (cA 1, o1.2.2, .inl o1.2.1)), (r0, .inr (0, [.ref r1, .int 0, .int h1, .int h2])), (r1, .inl (cA 1, n2, .inl f2))] := hD
  refine W.cs (cells' := 1) (slots' := 168) rfl rfl ?_
  refine lv_pop hx hb dJ4_append_15ec4_5 rfl ?_
  refine lv_aload_n hx hb dJ4_append_15ec4_6 rfl (lv_at hl 0 rfl) ?_
  have h := Option.some.inj h
  subst h
  refine W.widen (k := 1) (n := 168) (Nat.le_of_ble_eq_true rfl) (Nat.le_of_ble_eq_true rfl) ?_
  exact hend (adr [(as2 0)]) _ _ _ _ _ _ _ rfl rfl (rtn_a _ _) hP hD hS dJ4_append_15ec4_7

noncomputable def SJ7_checkLength_df160 (x0 : Int32) (x1 : Int32) : Option (Unit) := gd (x0 ≤ x1) (some (()))
abbrev RM_J7_checkLength_df160 : Room := { frames := 0, cells := 0, slots := 0, locals := 0 }
set_option maxHeartbeats 4000000 in
theorem kJ7_checkLength_df160 (l : Launch) (D : va_G) (cA : Nat → ClassId) (x0 : Int32) (x1 : Int32) {r : Unit} (hr : SJ7_checkLength_df160 x0 x1 = some r) : Met l yJ7_checkLength_df160 wsJ7_checkLength_df160 RM_J7_checkLength_df160 (va_Pc [.int x0, .int x1] (rqB D cA [])) (rqQ none) 0 0 (fun _ => False) := by
  refine rq_ofW (cc := cJ7_checkLength_df160) (maxL := 2) (ret := none) (by decide) rfl (Nat.le_of_ble_eq_true rfl) (fun p e s m args below meth c ls Q hx hb hml hts hfc hK hP hl hend => ?_)
  have hfc : s.vm.findClass RJ7 = some m.cls := hfc
  have hl : lv_has ls 2 [(0, .int x0), (1, .int x1)] := hl
  have h := hr
  clear hr
  unfold SJ7_checkLength_df160 at h
  refine lv_iload_n hx hb dJ7_checkLength_df160_0 rfl (lv_at hl 1 rfl) ?_
  refine lv_iload_n hx hb dJ7_checkLength_df160_1 rfl (lv_at hl 0 rfl) ?_
  obtain ⟨g2, h⟩ := gd_i h
  refine lv_icmp_ge (tgt := 37) hx hb dJ7_checkLength_df160_2 (by decide) (fun _ => ?_) (fun c => absurd g2 c)
  have h := Option.some.inj h
  subst h
  exact hend _ _ _ _ rfl (rtn_v) dJ7_checkLength_df160_37

noncomputable def SJ7_copyOfRangeByte_39247 (n : Nat) (f : Nat → Int32) (x1 : Int32) (x2 : Int32) : Option ((Nat → Int32) × Nat) := bnd (SJ7_checkLength_df160 x1 x2) (fun o1 : Unit => gd (¬ (x2 - x1) < 0 ∧ (Int32.toNatClampNeg (x2 - x1)) ≤ 168) (gd (¬ x1 < 0 ∧ ¬ (imin ((nI n) - x1) (x2 - x1)) < 0 ∧ Int32.toNatClampNeg x1 + Int32.toNatClampNeg (imin ((nI n) - x1) (x2 - x1)) ≤ n ∧ 0 + Int32.toNatClampNeg (imin ((nI n) - x1) (x2 - x1)) ≤ (Int32.toNatClampNeg (x2 - x1)) ∧ ∀ i9, i9 < Int32.toNatClampNeg (imin ((nI n) - x1) (x2 - x1)) → fits .byte (.int (f (Int32.toNatClampNeg x1 + i9))) = true) (some ((va_cpy f (fun _ => 0) (Int32.toNatClampNeg x1) 0 (Int32.toNatClampNeg (imin ((nI n) - x1) (x2 - x1))), (Int32.toNatClampNeg (x2 - x1)))))))
abbrev RM_J7_copyOfRangeByte_39247 : Room := { frames := 1, cells := 1, slots := 168, locals := 21 }
set_option maxHeartbeats 4000000 in
theorem kJ7_copyOfRangeByte_39247 (l : Launch) (D : va_G) (cA : Nat → ClassId) (G : eG) (s1 : Nat) (n : Nat) (f : Nat → Int32) (x1 : Int32) (x2 : Int32) (hn : n < 2147483648) {r : (Nat → Int32) × Nat} (hr : SJ7_copyOfRangeByte_39247 n f x1 x2 = some r) {sz : Nat} : Met l yJ7_copyOfRangeByte_39247 wsJ7_copyOfRangeByte_39247 RM_J7_copyOfRangeByte_39247 (va_Pc [.ref s1, .int x1, .int x2] (gqEB G D cA [(s1, .inl (cA 1, n, .inl f))] sz)) (gqQ D (fun as => (some (.ref (as 0)))) (fun as => [(s1, .inl (cA 1, n, .inl f)), ((as 0), .inl (cA 1, r.2, .inl r.1))]) (va_A [(s1, .inl (cA 1, n, .inl f))] sz)) 1 168 (va_A [(s1, .inl (cA 1, n, .inl f))] sz) := by
  refine gqE_ofW (cc := cJ7_copyOfRangeByte_39247) (maxL := 5) (ret := (some (.array .byte))) (by decide) rfl (Nat.le_of_ble_eq_true rfl) (fun p e s m args below meth c ls Q A hx hb hml hts hfc hmn hK hP hD hS hA hEV hl hend => ?_)
  have hfc : s.vm.findClass RJ7 = some m.cls := hfc
  have hl : lv_has ls 5 [(0, .ref s1), (1, .int x1), (2, .int x2)] := hl
  have h := hr
  clear hr
  unfold SJ7_copyOfRangeByte_39247 at h
  refine lv_iload_n hx hb dJ7_copyOfRangeByte_39247_0 rfl (lv_at hl 1 rfl) ?_
  refine lv_iload_n hx hb dJ7_copyOfRangeByte_39247_1 rfl (lv_at hl 2 rfl) ?_
  obtain ⟨o1, ho1, h⟩ := bnd_i h
  refine rq_S (v := none) (As := [.int x1, .int x2]) (rest := []) (wc := []) ⟨hx, hb, hml, hfc, hts⟩ hK hP (kJ7_checkLength_df160 l D cA x1 x2 ho1) (va_cwS 2 hts gJ7_copyOfRangeByte_39247_J7_checkLength_df160 rfl rfl rfl (by decide +kernel) ⟨(Nat.le_of_ble_eq_true rfl), (Nat.le_of_ble_eq_true rfl)⟩) [] rfl rfl rfl rfl hl.1 (Nat.le_of_ble_eq_true rfl) dJ7_copyOfRangeByte_39247_2 ⟨(Nat.zero_le _), (Nat.zero_le _)⟩ ?_
  refine lv_iload_n hx hb dJ7_copyOfRangeByte_39247_5 rfl (lv_at hl 2 rfl) ?_
  refine lv_iload_n hx hb dJ7_copyOfRangeByte_39247_6 rfl (lv_at hl 1 rfl) ?_
  refine lv_isub hx hb dJ7_copyOfRangeByte_39247_7 ?_
  refine lv_istore_n hx hb dJ7_copyOfRangeByte_39247_8 rfl hl (Nat.le_of_ble_eq_true rfl) rfl (fun ls hl => ?_)
  have hl : lv_has ls 5 [(3, .int (x2 - x1)), (0, .ref s1), (1, .int x1), (2, .int x2)] := hl
  refine lv_iload_n hx hb dJ7_copyOfRangeByte_39247_9 rfl (lv_at hl 0 rfl) ?_
  obtain ⟨g4, h⟩ := gd_i h
  refine gx_newa (atype := .byte) (a0 := ((Int32.toNatClampNeg (x2 - x1)), .inl (fun _ => 0))) hx hb (hts (.arrayClass .byte) (List.mem_of_getElem? (i := 1) rfl)) rfl hK hP hD hS hA 1 rfl (fun _ => rfl) g4.1 rfl (Nat.le_trans (Nat.mul_le_mul_right (componentBytes .byte) g4.2) (show 168 * componentBytes .byte ≤ 536870912 from (Nat.le_of_ble_eq_true rfl))) (Nat.le_of_ble_eq_true rfl) (Nat.le_trans (Nat.add_le_add_left g4.2 0) (show 0 + 168 ≤ RM_J7_copyOfRangeByte_39247.slots from (Nat.le_of_ble_eq_true rfl))) dJ7_copyOfRangeByte_39247_10 (fun q3 H hP hD hS => ?_)
  have hP : va_P D vwCl [(s1, .inl (cA 1, n, .inl f)), (q3, .inl (cA 1, (Int32.toNatClampNeg (x2 - x1)), .inl (fun _ => 0)))] H := hP
  have hD : va_D A [(s1, .inl (cA 1, n, .inl f)), (q3, .inl (cA 1, (Int32.toNatClampNeg (x2 - x1)), .inl (fun _ => 0)))] := hD
  refine W.widen (k := 1) (n := 168) (show 0 + 1 ≤ 1 from (Nat.le_of_ble_eq_true rfl)) (show 0 + (Int32.toNatClampNeg (x2 - x1)) ≤ 0 + 168 from Nat.add_le_add_left g4.2 0) ?_
  refine lv_astore hx hb dJ7_copyOfRangeByte_39247_12 hl (Nat.le_of_ble_eq_true rfl) rfl (fun ls hl => ?_)
  have hl : lv_has ls 5 [(4, .ref q3), (3, .int (x2 - x1)), (0, .ref s1), (1, .int x1), (2, .int x2)] := hl
  refine lv_aload_n hx hb dJ7_copyOfRangeByte_39247_14 rfl (lv_at hl 2 rfl) ?_
  refine lv_iload_n hx hb dJ7_copyOfRangeByte_39247_15 rfl (lv_at hl 3 rfl) ?_
  refine lv_aload hx hb dJ7_copyOfRangeByte_39247_16 (lv_at hl 0 rfl) ?_
  refine lv_iconst (v := 0) hx hb dJ7_copyOfRangeByte_39247_18 (by decide) ?_
  refine lv_aload_n hx hb dJ7_copyOfRangeByte_39247_19 rfl (lv_at hl 2 rfl) ?_
  refine va_alen (v := nI n) hx hb hK hP 0 1 rfl rfl rfl dJ7_copyOfRangeByte_39247_20 ?_
  refine lv_iload_n hx hb dJ7_copyOfRangeByte_39247_21 rfl (lv_at hl 3 rfl) ?_
  refine lv_isub hx hb dJ7_copyOfRangeByte_39247_22 ?_
  refine lv_iload_n hx hb dJ7_copyOfRangeByte_39247_23 rfl (lv_at hl 1 rfl) ?_
  refine va_mmin hx hb (hml.trans hl.1.symm) hfc (hts (.methodLink RJ7 304 Lib.Math.min.name) (List.mem_of_getElem? (i := 2) rfl)) (hts (.static Lib.Math.min.name) (List.mem_of_getElem? (i := 3) rfl)) (hts (.initialized "java/lang/Math") (List.mem_of_getElem? (i := 4) rfl)) (hts (.code Lib.Math.min.name Lib.Math.min.code 2 (some .int)) (List.mem_of_getElem? (i := 5) rfl)) (Nat.le_of_ble_eq_true rfl) (Nat.le_of_ble_eq_true rfl) (Nat.le_of_ble_eq_true rfl) (Nat.le_of_ble_eq_true rfl) dJ7_copyOfRangeByte_39247_24 ?_
  obtain ⟨g5, h⟩ := gd_i h
  refine va_copyi hx hb (hml.trans hl.1.symm) hfc (hts (.methodLink RJ7 150 arraycopyName) (List.mem_of_getElem? (i := 6) rfl)) (hts (.native arraycopyName) (List.mem_of_getElem? (i := 7) rfl)) (hts (.static arraycopyName) (List.mem_of_getElem? (i := 8) rfl)) (hts (.initialized "java/lang/System") (List.mem_of_getElem? (i := 9) rfl)) hK hP hD hS 0 1 1 1 rfl rfl rfl rfl rfl g5.1 (by decide) g5.2.1 g5.2.2.1 g5.2.2.2.1 g5.2.2.2.2 (Nat.le_of_ble_eq_true rfl) (Nat.le_of_ble_eq_true rfl) dJ7_copyOfRangeByte_39247_27 (fun H locs hP hD hS => ?_)
  have hP : va_P D vwCl [(s1, .inl (cA 1, n, .inl f)), (q3, .inl (cA 1, (Int32.toNatClampNeg (x2 - x1)), .inl (va_cpy f (fun _ => 0) (Int32.toNatClampNeg x1) 0 (Int32.toNatClampNeg (imin ((nI n) - x1) (x2 - x1))))))] H := hP
  have hD : va_D A [(s1, .inl (cA 1, n, .inl f)), (q3, .inl (cA 1, (Int32.toNatClampNeg (x2 - x1)), .inl (va_cpy f (fun _ => 0) (Int32.toNatClampNeg x1) 0 (Int32.toNatClampNeg (imin ((nI n) - x1) (x2 - x1))))))] := hD
  refine lv_aload hx hb dJ7_copyOfRangeByte_39247_30 (lv_at hl 0 rfl) ?_
  have h := Option.some.inj h
  subst h
  refine W.widen (k := 1) (n := 168) (Nat.le_of_ble_eq_true rfl) (Nat.le_of_ble_eq_true rfl) ?_
  exact hend (adr [q3]) _ _ _ _ _ _ _ rfl rfl (rtn_ar _ _) hP hD hS dJ7_copyOfRangeByte_39247_32

noncomputable def SJ7_copyOfRange_39247 (n : Nat) (f : Nat → Int32) (x1 : Int32) (x2 : Int32) : Option ((Nat → Int32) × Nat) := if x1 = 0 then (if x2 = (nI n) then (gd ((n ≤ 168) ∧ ∀ i9, i9 < n → fits .byte (.int (f i9)) = true) (some ((f, n)))) else (bnd (SJ7_copyOfRangeByte_39247 n f x1 x2) (fun o7 : (Nat → Int32) × Nat => some ((o7.1, o7.2))))) else (bnd (SJ7_copyOfRangeByte_39247 n f x1 x2) (fun o2 : (Nat → Int32) × Nat => some ((o2.1, o2.2))))
abbrev RM_J7_copyOfRange_39247 : Room := { frames := 2, cells := 1, slots := 168, locals := 45 }
set_option maxHeartbeats 4000000 in
theorem kJ7_copyOfRange_39247 (l : Launch) (D : va_G) (cA : Nat → ClassId) (G : eG) (s1 : Nat) (n : Nat) (f : Nat → Int32) (x1 : Int32) (x2 : Int32) (hn : n < 2147483648) {r : (Nat → Int32) × Nat} (hr : SJ7_copyOfRange_39247 n f x1 x2 = some r) {sz : Nat} : Met l yJ7_copyOfRange_39247 wsJ7_copyOfRange_39247 RM_J7_copyOfRange_39247 (va_Pc [.ref s1, .int x1, .int x2] (gqEB G D cA [(s1, .inl (cA 1, n, .inl f))] sz)) (gqQ D (fun as => (some (.ref (as 0)))) (fun as => [(s1, .inl (cA 1, n, .inl f)), ((as 0), .inl (cA 1, r.2, .inl r.1))]) (va_A [(s1, .inl (cA 1, n, .inl f))] sz)) 1 168 (va_A [(s1, .inl (cA 1, n, .inl f))] sz) := by
  refine gqE_ofW (cc := cJ7_copyOfRange_39247) (maxL := 3) (ret := (some (.array .byte))) (by decide) rfl (Nat.le_of_ble_eq_true rfl) (fun p e s m args below meth c ls Q A hx hb hml hts hfc hmn hK hP hD hS hA hEV hl hend => ?_)
  have hfc : s.vm.findClass RJ7 = some m.cls := hfc
  have hl : lv_has ls 3 [(0, .ref s1), (1, .int x1), (2, .int x2)] := hl
  have h := hr
  clear hr
  unfold SJ7_copyOfRange_39247 at h
  refine lv_iload_n hx hb dJ7_copyOfRange_39247_0 rfl (lv_at hl 1 rfl) ?_
  refine lv_if_ne (tgt := 10) hx hb dJ7_copyOfRange_39247_1 (by decide) (fun c1 => ?_) (fun c1 => ?_)
  · have h := ite_f c1 h
    refine lv_aload_n hx hb dJ7_copyOfRange_39247_10 rfl (lv_at hl 0 rfl) ?_
    refine lv_iload_n hx hb dJ7_copyOfRange_39247_11 rfl (lv_at hl 1 rfl) ?_
    refine lv_iload_n hx hb dJ7_copyOfRange_39247_12 rfl (lv_at hl 2 rfl) ?_
    obtain ⟨o2, ho2, h⟩ := bnd_i h
    refine gqE_S (G := G) (v := (fun as => (some (.ref (as 0))))) (As := [.ref s1, .int x1, .int x2]) (rest := []) (wc := [(s1, .inl (cA 1, n, .inl f))]) (wr := []) (w1 := (fun as => [(s1, .inl (cA 1, n, .inl f)), ((as 0), .inl (cA 1, o2.2, .inl o2.1))])) (ws2 := (fun as => [(s1, .inl (cA 1, n, .inl f)), ((as 0), .inl (cA 1, o2.2, .inl o2.1))])) (st1 := (fun as => [.ref (as 0)])) ⟨hx, hb, hml, hfc, hts⟩ hK hP hD hS hA hEV (kJ7_copyOfRangeByte_39247 l D cA G s1 n f x1 x2 hn ho2) (va_cwS 3 hts gJ7_copyOfRange_39247_J7_copyOfRangeByte_39247 rfl rfl rfl (by decide +kernel) ⟨(Nat.le_of_ble_eq_true rfl), (Nat.le_of_ble_eq_true rfl)⟩) [0] [] [0, 1] rfl rfl rfl rfl (by decide) (fun _ => rfl) rfl rfl (fun _ => rfl) rfl hl.1 (Nat.le_of_ble_eq_true rfl) dJ7_copyOfRange_39247_13 ⟨(Nat.le_of_ble_eq_true rfl), (Nat.le_of_ble_eq_true rfl)⟩ (fun as3 H locs hP hD hS => ?_)
    have hP : va_P D vwCl [(s1, .inl (cA 1, n, .inl f)), ((as3 0), .inl (cA 1, o2.2, .inl o2.1))] H := hP
    have hD : va_D A [(s1, .inl (cA 1, n, .inl f)), ((as3 0), .inl (cA 1, o2.2, .inl o2.1))] := hD
    refine W.cs (cells' := 1) (slots' := 168) rfl rfl ?_
    have h := Option.some.inj h
    subst h
    refine W.widen (k := 1) (n := 168) (Nat.le_of_ble_eq_true rfl) (Nat.le_of_ble_eq_true rfl) ?_
    exact hend (adr [(as3 0)]) _ _ _ _ _ _ _ rfl rfl (rtn_ar _ _) hP hD hS dJ7_copyOfRange_39247_16
  · have h := ite_t c1 h
    refine lv_iload_n hx hb dJ7_copyOfRange_39247_4 rfl (lv_at hl 2 rfl) ?_
    refine lv_aload_n hx hb dJ7_copyOfRange_39247_5 rfl (lv_at hl 0 rfl) ?_
    refine va_alen (v := nI n) hx hb hK hP 0 1 rfl rfl rfl dJ7_copyOfRange_39247_6 ?_
    refine lv_icmp_eq (tgt := 17) hx hb dJ7_copyOfRange_39247_7 (by decide) (fun c4 => ?_) (fun c4 => ?_)
    · have h := ite_t c4 h
      refine lv_aload_n hx hb dJ7_copyOfRange_39247_17 rfl (lv_at hl 0 rfl) ?_
      obtain ⟨g6, h⟩ := gd_i h
      refine va_clone hx hb (hml.trans hl.1.symm) hfc (hts (.methodLink RJ7 310 ⟨"[B", "clone", "()Ljava/lang/Object;"⟩) (List.mem_of_getElem? (i := 1) rfl)) (hts (.sameMethod "[B" "java/lang/Object" "clone" "()Ljava/lang/Object;") (List.mem_of_getElem? (i := 2) rfl)) (hts (.native ⟨"java/lang/Object", "clone", "()Ljava/lang/Object;"⟩) (List.mem_of_getElem? (i := 3) rfl)) (hts (.instanceMethod ⟨"java/lang/Object", "clone", "()Ljava/lang/Object;"⟩) (List.mem_of_getElem? (i := 4) rfl)) (hts (.selects "[B" ⟨"[B", "clone", "()Ljava/lang/Object;"⟩ ⟨"java/lang/Object", "clone", "()Ljava/lang/Object;"⟩) (List.mem_of_getElem? (i := 5) rfl)) hEV.2.2.2.2.2.2.2.2.2 hK hP hD hS hA 0 1 rfl rfl (hK.2 1 _ rfl).2 (va_fit g6.2) (Nat.le_of_ble_eq_true rfl) (Nat.le_of_ble_eq_true rfl) (Nat.le_of_ble_eq_true rfl) (Nat.le_trans (Nat.add_le_add_left g6.1 0) (show 0 + 168 ≤ RM_J7_copyOfRange_39247.slots from (Nat.le_of_ble_eq_true rfl))) dJ7_copyOfRange_39247_18 (fun q5 H hK9 hP hD hS => ?_)
      have hP : va_P D vwCl [(s1, .inl (cA 1, n, .inl f)), (q5, .inl (cA 1, n, .inl f))] H := hP
      have hD : va_D A [(s1, .inl (cA 1, n, .inl f)), (q5, .inl (cA 1, n, .inl f))] := hD
      refine W.widen (k := 1) (n := 168) (show 0 + 1 ≤ 1 from (Nat.le_of_ble_eq_true rfl)) (show 0 + n ≤ 0 + 168 from Nat.add_le_add_left g6.1 0) ?_
      refine va_castA hx hb hfc (hts (.classLink RJ7 311 "[B") (List.mem_of_getElem? (i := 6) rfl)) hP 1 rfl (hK.2 1 _ rfl).2 dJ7_copyOfRange_39247_21 ?_
      have h := Option.some.inj h
      subst h
      refine W.widen (k := 1) (n := 168) (Nat.le_of_ble_eq_true rfl) (Nat.le_of_ble_eq_true rfl) ?_
      exact hend (adr [q5]) _ _ _ _ _ _ _ rfl rfl (rtn_ar _ _) hP hD hS dJ7_copyOfRange_39247_24
    · have h := ite_f c4 h
      refine lv_aload_n hx hb dJ7_copyOfRange_39247_10 rfl (lv_at hl 0 rfl) ?_
      refine lv_iload_n hx hb dJ7_copyOfRange_39247_11 rfl (lv_at hl 1 rfl) ?_
      refine lv_iload_n hx hb dJ7_copyOfRange_39247_12 rfl (lv_at hl 2 rfl) ?_
      obtain ⟨o7, ho7, h⟩ := bnd_i h
      refine gqE_S (G := G) (v := (fun as => (some (.ref (as 0))))) (As := [.ref s1, .int x1, .int x2]) (rest := []) (wc := [(s1, .inl (cA 1, n, .inl f))]) (wr := []) (w1 := (fun as => [(s1, .inl (cA 1, n, .inl f)), ((as 0), .inl (cA 1, o7.2, .inl o7.1))])) (ws2 := (fun as => [(s1, .inl (cA 1, n, .inl f)), ((as 0), .inl (cA 1, o7.2, .inl o7.1))])) (st1 := (fun as => [.ref (as 0)])) ⟨hx, hb, hml, hfc, hts⟩ hK hP hD hS hA hEV (kJ7_copyOfRangeByte_39247 l D cA G s1 n f x1 x2 hn ho7) (va_cwS 3 hts gJ7_copyOfRange_39247_J7_copyOfRangeByte_39247 rfl rfl rfl (by decide +kernel) ⟨(Nat.le_of_ble_eq_true rfl), (Nat.le_of_ble_eq_true rfl)⟩) [0] [] [0, 1] rfl rfl rfl rfl (by decide) (fun _ => rfl) rfl rfl (fun _ => rfl) rfl hl.1 (Nat.le_of_ble_eq_true rfl) dJ7_copyOfRange_39247_13 ⟨(Nat.le_of_ble_eq_true rfl), (Nat.le_of_ble_eq_true rfl)⟩ (fun as8 H locs hP hD hS => ?_)
      have hP : va_P D vwCl [(s1, .inl (cA 1, n, .inl f)), ((as8 0), .inl (cA 1, o7.2, .inl o7.1))] H := hP
      have hD : va_D A [(s1, .inl (cA 1, n, .inl f)), ((as8 0), .inl (cA 1, o7.2, .inl o7.1))] := hD
      refine W.cs (cells' := 1) (slots' := 168) rfl rfl ?_
      have h := Option.some.inj h
      subst h
      refine W.widen (k := 1) (n := 168) (Nat.le_of_ble_eq_true rfl) (Nat.le_of_ble_eq_true rfl) ?_
      exact hend (adr [(as8 0)]) _ _ _ _ _ _ _ rfl rfl (rtn_ar _ _) hP hD hS dJ7_copyOfRange_39247_16

noncomputable def SJ5_getValue_6d5f1 : Unit := ()
theorem iJ5_getValue_6d5f1_J4 : ∀ w ∈ wsJ40, w ∈ wsJ5_getValue_6d5f1 := fun _ h => List.mem_cons_of_mem _ (List.mem_append_right _ h)
abbrev RM_J5_getValue_6d5f1 : Room := { frames := 0, cells := 0, slots := 0, locals := 0 }
set_option maxHeartbeats 4000000 in
theorem kJ5_getValue_6d5f1 (l : Launch) (D : va_G) (cA : Nat → ClassId) (s0 s1 : Nat) (n : Nat) (f : Nat → Int32) (ml : Int32) (c0 : Int32) {r : Unit} (hr : SJ5_getValue_6d5f1 = r) : Met l yJ5_getValue_6d5f1 wsJ5_getValue_6d5f1 RM_J5_getValue_6d5f1 (va_Pc [.ref s0] (rqB D cA [(s0, .inr (1, [.ref s1, .int 0, .int ml, .int c0])), (s1, .inl (cA 1, n, .inl f))])) (rqQ (some (.ref s1))) 0 0 (fun _ => False) := by
  refine rq_ofW (cc := cJ5_getValue_6d5f1) (maxL := 1) (ret := (some (.array .byte))) (by decide) rfl (Nat.le_of_ble_eq_true rfl) (fun p e s m args below meth c ls Q hx hb hml hts hfc hK hP hl hend => ?_)
  have hfc : s.vm.findClass RJ5 = some m.cls := hfc
  have hl : lv_has ls 1 [(0, .ref s0)] := hl
  have h := hr
  clear hr
  unfold SJ5_getValue_6d5f1 at h
  refine lv_aload_n hx hb dJ5_getValue_6d5f1_0 rfl (lv_at hl 0 rfl) ?_
  refine va_get (D := D) (ci := 1) (v := .ref s1) (C := RJ4) (T := TJ4) (N := 4) hx hb hts iJ5_getValue_6d5f1_J4 hfc hK hP 0 rfl rfl 0 (by decide) (hts (.fieldLink RJ5 15 "java/lang/AbstractStringBuilder" "value" "[B") (List.mem_of_getElem? (i := 1) rfl)) (fun _ h9 => h9) rfl dJ5_getValue_6d5f1_1 ?_
  subst h
  exact hend _ _ _ _ rfl (rtn_ar _ _) dJ5_getValue_6d5f1_4

noncomputable def SJ0_init_db425 (n : Nat) (f : Nat → Int32) (c0 : Int32) : Option ((Nat → Int32) × Nat) := lt_ (SJ5_getValue_6d5f1) (fun o1 : Unit => lt_ (SJ5_isLatin1_aae02) (fun o4 : Unit => bnd (SJ7_copyOfRange_39247 n f 0 (SJ4_length_8abf5 c0)) (fun o7 : (Nat → Int32) × Nat => some ((o7.1, o7.2)))))
theorem iJ0_init_db425_J0 : ∀ w ∈ wsJ00, w ∈ wsJ0_init_db425 := fun _ h => List.mem_cons_of_mem _ (List.mem_append_left _ (List.mem_append_right _ h))
abbrev RM_J0_init_db425 : Room := { frames := 3, cells := 1, slots := 168, locals := 68 }
set_option maxHeartbeats 4000000 in
theorem kJ0_init_db425 (l : Launch) (D : va_G) (cA : Nat → ClassId) (G : eG) (s0 s1 r0 : Nat) (n : Nat) (f : Nat → Int32) (ml : Int32) (c0 : Int32) (hn : n < 2147483648) {r : (Nat → Int32) × Nat} (hr : SJ0_init_db425 n f c0 = some r) {sz : Nat} : Met l yJ0_init_db425 wsJ0_init_db425 RM_J0_init_db425 (va_Pc [.ref r0, .ref s0, .null] (gqEB G D cA [(s0, .inr (1, [.ref s1, .int 0, .int ml, .int c0])), (s1, .inl (cA 1, n, .inl f)), (r0, .inr (0, [.null, .int 0, .int 0, .int 0]))] sz)) (gqQ D (fun as => none) (fun as => [(s0, .inr (1, [.ref s1, .int 0, .int ml, .int c0])), (s1, .inl (cA 1, n, .inl f)), (r0, .inr (0, [.ref (as 0), .int 0, .int 0, .int 0])), ((as 0), .inl (cA 1, r.2, .inl r.1))]) (va_A [(s0, .inr (1, [.ref s1, .int 0, .int ml, .int c0])), (s1, .inl (cA 1, n, .inl f)), (r0, .inr (0, [.null, .int 0, .int 0, .int 0]))] sz)) 1 168 (va_A [(s0, .inr (1, [.ref s1, .int 0, .int ml, .int c0])), (s1, .inl (cA 1, n, .inl f)), (r0, .inr (0, [.null, .int 0, .int 0, .int 0]))] sz) := by
  refine gqE_ofW (cc := cJ0_init_db425) (maxL := 5) (ret := none) (by decide) rfl (Nat.le_of_ble_eq_true rfl) (fun p e s m args below meth c ls Q A hx hb hml hts hfc hmn hK hP hD hS hA hEV hl hend => ?_)
  have hfc : s.vm.findClass RJ0 = some m.cls := hfc
  have hl : lv_has ls 5 [(0, .ref r0), (1, .ref s0), (2, .null)] := hl
  have h := hr
  clear hr
  unfold SJ0_init_db425 at h
  refine lv_aload_n hx hb dJ0_init_db425_0 rfl (lv_at hl 0 rfl) ?_
  refine W.objInit hx hb hfc (hts (.methodLink RJ0 1 objectInit) (List.mem_of_getElem? (i := 1) rfl)) (hts (.instanceMethod objectInit) (List.mem_of_getElem? (i := 2) rfl)) (hts (.code objectInit ⟨#[0xb1]⟩ 1 none) (List.mem_of_getElem? (i := 3) rfl)) rfl (by rw [hml]; exact hl.1) rfl dJ0_init_db425_1 (Nat.le_of_ble_eq_true rfl) (Nat.le_of_ble_eq_true rfl) ?_
  show W p l e RM_J0_init_db425 s m args below meth c _ _ 0 0 Q (F0 m 4 ls [])
  refine lv_aload_n hx hb dJ0_init_db425_4 rfl (lv_at hl 1 rfl) ?_
  obtain ⟨o1, ho1, h⟩ := lt_i h
  refine rq_U (v := (some (.ref s1))) (As := []) (rest := []) (wc := [(s0, .inr (1, [.ref s1, .int 0, .int ml, .int c0])), (s1, .inl (cA 1, n, .inl f))]) ⟨hx, hb, hml, hfc, hts⟩ hK hP (kJ5_getValue_6d5f1 l D cA s0 s1 n f ml c0 ho1) (va_cwU 0 hts gJ0_init_db425_J5_getValue_6d5f1_u552J4 rfl rfl rfl rfl (by decide +kernel) ⟨(Nat.le_of_ble_eq_true rfl), (Nat.le_of_ble_eq_true rfl)⟩) [0, 1] rfl 0 1 rfl rfl rfl rfl rfl rfl hl.1 (Nat.le_of_ble_eq_true rfl) dJ0_init_db425_5 ⟨(Nat.zero_le _), (Nat.zero_le _)⟩ ?_
  refine lv_astore_n hx hb dJ0_init_db425_8 rfl hl (Nat.le_of_ble_eq_true rfl) rfl (fun ls hl => ?_)
  have hl : lv_has ls 5 [(3, .ref s1), (0, .ref r0), (1, .ref s0), (2, .null)] := hl
  refine lv_aload_n hx hb dJ0_init_db425_9 rfl (lv_at hl 2 rfl) ?_
  refine rq_U (v := (some (.int (SJ4_length_8abf5 c0)))) (As := []) (rest := []) (wc := [(s0, .inr (1, [.ref s1, .int 0, .int ml, .int c0])), (s1, .inl (cA 1, n, .inl f))]) ⟨hx, hb, hml, hfc, hts⟩ hK hP (kJ4_length_8abf5 l D cA s0 s1 n f ml c0 rfl) (va_cwO 0 hts gJ0_init_db425_J4_length_8abf5_u549J4 rfl rfl rfl (List.mem_of_getElem? (i := 25) rfl) (by decide +kernel) ⟨(Nat.le_of_ble_eq_true rfl), (Nat.le_of_ble_eq_true rfl)⟩) [0, 1] rfl 0 1 rfl rfl rfl rfl rfl rfl hl.1 (Nat.le_of_ble_eq_true rfl) dJ0_init_db425_10 ⟨(Nat.zero_le _), (Nat.zero_le _)⟩ ?_
  refine lv_istore hx hb dJ0_init_db425_13 hl (Nat.le_of_ble_eq_true rfl) rfl (fun ls hl => ?_)
  have hl : lv_has ls 5 [(4, .int (SJ4_length_8abf5 c0)), (3, .ref s1), (0, .ref r0), (1, .ref s0), (2, .null)] := hl
  refine lv_aload_n hx hb dJ0_init_db425_15 rfl (lv_at hl 3 rfl) ?_
  obtain ⟨o4, ho4, h⟩ := lt_i h
  refine rqE_U (G := G) (v := (some (.int 1))) (As := []) (rest := []) (wc := [(s0, .inr (1, [.ref s1, .int 0, .int ml, .int c0])), (s1, .inl (cA 1, n, .inl f))]) ⟨hx, hb, hml, hfc, hts⟩ hK hP hS hEV (kJ5_isLatin1_aae02 l D cA G s0 s1 n f ml c0 ho4) (va_cwU 0 hts gJ0_init_db425_J5_isLatin1_aae02_u1047J4 rfl rfl rfl rfl (by decide +kernel) ⟨(Nat.le_of_ble_eq_true rfl), (Nat.le_of_ble_eq_true rfl)⟩) [0, 1] rfl 0 1 rfl rfl rfl rfl rfl rfl hl.1 (Nat.le_of_ble_eq_true rfl) dJ0_init_db425_16 ⟨(Nat.zero_le _), (Nat.zero_le _)⟩ ?_
  refine lv_if_eq (tgt := 41) hx hb dJ0_init_db425_19 (by decide) (fun c => absurd c (by decide)) (fun _ => ?_)
  refine lv_aload_n hx hb dJ0_init_db425_22 rfl (lv_at hl 2 rfl) ?_
  refine lv_iconst (v := 0) hx hb dJ0_init_db425_23 (by decide) ?_
  refine va_putF (D := D) (ci := 0) (v := .int 0) (ty := .byte) (C := RJ0) (T := TJ0) (N := 4) hx hb hts iJ0_init_db425_J0 tyJ0 tyJ0_ok nmJ0 hfc hK hP hD hS 2 rfl rfl 1 (by decide) (hts (.fieldLink RJ0 15 "java/lang/String" "coder" "B") (List.mem_of_getElem? (i := 4) rfl)) (fun _ h9 => h9) rfl hmn rfl (by decide +kernel) rfl rfl (Nat.le_of_ble_eq_true rfl) dJ0_init_db425_24 (fun H locs hP hD hS => ?_)
  have hP : va_P D vwCl [(s0, .inr (1, [.ref s1, .int 0, .int ml, .int c0])), (s1, .inl (cA 1, n, .inl f)), (r0, .inr (0, [.null, .int 0, .int 0, .int 0]))] H := hP
  have hD : va_D A [(s0, .inr (1, [.ref s1, .int 0, .int ml, .int c0])), (s1, .inl (cA 1, n, .inl f)), (r0, .inr (0, [.null, .int 0, .int 0, .int 0]))] := hD
  refine lv_aload_n hx hb dJ0_init_db425_27 rfl (lv_at hl 2 rfl) ?_
  refine lv_aload_n hx hb dJ0_init_db425_28 rfl (lv_at hl 1 rfl) ?_
  refine lv_iconst (v := 0) hx hb dJ0_init_db425_29 (by decide) ?_
  refine lv_iload hx hb dJ0_init_db425_30 (lv_at hl 0 rfl) ?_
  obtain ⟨o7, ho7, h⟩ := bnd_i h
  refine gqE_S (G := G) (v := (fun as => (some (.ref (as 0))))) (As := [.ref s1, .int 0, .int (SJ4_length_8abf5 c0)]) (rest := [.ref r0]) (wc := [(s1, .inl (cA 1, n, .inl f))]) (wr := [(s0, .inr (1, [.ref s1, .int 0, .int ml, .int c0])), (r0, .inr (0, [.null, .int 0, .int 0, .int 0]))]) (w1 := (fun as => [(s1, .inl (cA 1, n, .inl f)), ((as 0), .inl (cA 1, o7.2, .inl o7.1))])) (ws2 := (fun as => [(s0, .inr (1, [.ref s1, .int 0, .int ml, .int c0])), (s1, .inl (cA 1, n, .inl f)), (r0, .inr (0, [.null, .int 0, .int 0, .int 0])), ((as 0), .inl (cA 1, o7.2, .inl o7.1))])) (st1 := (fun as => [.ref (as 0), .ref r0])) ⟨hx, hb, hml, hfc, hts⟩ hK hP hD hS hA hEV (kJ7_copyOfRange_39247 l D cA G s1 n f 0 (SJ4_length_8abf5 c0) hn ho7) (va_cwS 3 hts gJ0_init_db425_J7_copyOfRange_39247 rfl rfl rfl (by decide +kernel) ⟨(Nat.le_of_ble_eq_true rfl), (Nat.le_of_ble_eq_true rfl)⟩) [1] [0, 2] [0, 2, 1, 3] rfl rfl rfl rfl (by decide) (fun _ => rfl) rfl rfl (fun _ => rfl) rfl hl.1 (Nat.le_of_ble_eq_true rfl) dJ0_init_db425_32 ⟨(Nat.le_of_ble_eq_true rfl), (Nat.le_of_ble_eq_true rfl)⟩ (fun as8 H locs hP hD hS => ?_)
  have hP : va_P D vwCl [(s0, .inr (1, [.ref s1, .int 0, .int ml, .int c0])), (s1, .inl (cA 1, n, .inl f)), (r0, .inr (0, [.null, .int 0, .int 0, .int 0])), ((as8 0), .inl (cA 1, o7.2, .inl o7.1))] H := hP
  have hD : va_D A [(s0, .inr (1, [.ref s1, .int 0, .int ml, .int c0])), (s1, .inl (cA 1, n, .inl f)), (r0, .inr (0, [.null, .int 0, .int 0, .int 0])), ((as8 0), .inl (cA 1, o7.2, .inl o7.1))] := hD
  refine W.cs (cells' := 1) (slots' := 168) rfl rfl ?_
  refine va_putF (D := D) (ci := 0) (v := .ref (as8 0)) (ty := (.array .byte)) (C := RJ0) (T := TJ0) (N := 4) hx hb hts iJ0_init_db425_J0 tyJ0 tyJ0_ok nmJ0 hfc hK hP hD hS 2 rfl rfl 0 (by decide) (hts (.fieldLink RJ0 9 "java/lang/String" "value" "[B") (List.mem_of_getElem? (i := 5) rfl)) (fun _ h9 => h9) rfl hmn rfl (by decide +kernel) rfl rfl (Nat.le_of_ble_eq_true rfl) dJ0_init_db425_35 (fun H locs hP hD hS => ?_)
  have hP : va_P D vwCl [(s0, .inr (1, [.ref s1, .int 0, .int ml, .int c0])), (s1, .inl (cA 1, n, .inl f)), (r0, .inr (0, [.ref (as8 0), .int 0, .int 0, .int 0])), ((as8 0), .inl (cA 1, o7.2, .inl o7.1))] H := hP
  have hD : va_D A [(s0, .inr (1, [.ref s1, .int 0, .int ml, .int c0])), (s1, .inl (cA 1, n, .inl f)), (r0, .inr (0, [.ref (as8 0), .int 0, .int 0, .int 0])), ((as8 0), .inl (cA 1, o7.2, .inl o7.1))] := hD
  refine lv_goto (tgt := 97) hx hb dJ0_init_db425_38 (by decide) ?_
  have h := Option.some.inj h
  subst h
  refine W.widen (k := 1) (n := 168) (Nat.le_of_ble_eq_true rfl) (Nat.le_of_ble_eq_true rfl) ?_
  exact hend (adr [(as8 0)]) _ _ _ _ _ _ _ rfl rfl (rtn_v) hP hD hS dJ0_init_db425_97

noncomputable def SJ0_init_81219 (n : Nat) (f : Nat → Int32) (c0 : Int32) : Option ((Nat → Int32) × Nat) := bnd (SJ0_init_db425 n f c0) (fun o1 : (Nat → Int32) × Nat => some ((o1.1, o1.2)))
abbrev RM_J0_init_81219 : Room := { frames := 4, cells := 1, slots := 168, locals := 92 }
set_option maxHeartbeats 4000000 in
theorem kJ0_init_81219 (l : Launch) (D : va_G) (cA : Nat → ClassId) (G : eG) (s0 s1 r0 : Nat) (n : Nat) (f : Nat → Int32) (ml : Int32) (c0 : Int32) (hn : n < 2147483648) {r : (Nat → Int32) × Nat} (hr : SJ0_init_81219 n f c0 = some r) {sz : Nat} : Met l yJ0_init_81219 wsJ0_init_81219 RM_J0_init_81219 (va_Pc [.ref r0, .ref s0] (gqEB G D cA [(s0, .inr (1, [.ref s1, .int 0, .int ml, .int c0])), (s1, .inl (cA 1, n, .inl f)), (r0, .inr (0, [.null, .int 0, .int 0, .int 0]))] sz)) (gqQ D (fun as => none) (fun as => [(s0, .inr (1, [.ref s1, .int 0, .int ml, .int c0])), (s1, .inl (cA 1, n, .inl f)), (r0, .inr (0, [.ref (as 0), .int 0, .int 0, .int 0])), ((as 0), .inl (cA 1, r.2, .inl r.1))]) (va_A [(s0, .inr (1, [.ref s1, .int 0, .int ml, .int c0])), (s1, .inl (cA 1, n, .inl f)), (r0, .inr (0, [.null, .int 0, .int 0, .int 0]))] sz)) 1 168 (va_A [(s0, .inr (1, [.ref s1, .int 0, .int ml, .int c0])), (s1, .inl (cA 1, n, .inl f)), (r0, .inr (0, [.null, .int 0, .int 0, .int 0]))] sz) := by
  refine gqE_ofW (cc := cJ0_init_81219) (maxL := 2) (ret := none) (by decide) rfl (Nat.le_of_ble_eq_true rfl) (fun p e s m args below meth c ls Q A hx hb hml hts hfc hmn hK hP hD hS hA hEV hl hend => ?_)
  have hfc : s.vm.findClass RJ0 = some m.cls := hfc
  have hl : lv_has ls 2 [(0, .ref r0), (1, .ref s0)] := hl
  have h := hr
  clear hr
  unfold SJ0_init_81219 at h
  refine lv_aload_n hx hb dJ0_init_81219_0 rfl (lv_at hl 0 rfl) ?_
  refine lv_aload_n hx hb dJ0_init_81219_1 rfl (lv_at hl 1 rfl) ?_
  refine lv_null hx hb dJ0_init_81219_2 ?_
  obtain ⟨o1, ho1, h⟩ := bnd_i h
  refine gqE_I (G := G) (As := [.ref s0, .null]) (rest := []) (wc := [(s0, .inr (1, [.ref s1, .int 0, .int ml, .int c0])), (s1, .inl (cA 1, n, .inl f)), (r0, .inr (0, [.null, .int 0, .int 0, .int 0]))]) (wr := []) (w1 := (fun as => [(s0, .inr (1, [.ref s1, .int 0, .int ml, .int c0])), (s1, .inl (cA 1, n, .inl f)), (r0, .inr (0, [.ref (as 0), .int 0, .int 0, .int 0])), ((as 0), .inl (cA 1, o1.2, .inl o1.1))])) (ws2 := (fun as => [(s0, .inr (1, [.ref s1, .int 0, .int ml, .int c0])), (s1, .inl (cA 1, n, .inl f)), (r0, .inr (0, [.ref (as 0), .int 0, .int 0, .int 0])), ((as 0), .inl (cA 1, o1.2, .inl o1.1))])) ⟨hx, hb, hml, hfc, hts⟩ hK hP hD hS hA hEV (kJ0_init_db425 l D cA G s0 s1 r0 n f ml c0 hn ho1) (cwI 2 hts gJ0_init_81219_J0_init_db425 rfl rfl rfl (hts (.initialized RJ0) (List.mem_of_getElem? (i := 3) rfl)) (hts (.methodLink RJ0 489 yJ0_init_db425) (List.mem_of_getElem? (i := 1) rfl)) (hts (.instanceMethod yJ0_init_db425) (List.mem_of_getElem? (i := 2) rfl)) rfl (by decide +kernel) ⟨(Nat.le_of_ble_eq_true rfl), (Nat.le_of_ble_eq_true rfl)⟩) [0, 1, 2] [] [0, 1, 2, 3] rfl rfl rfl rfl (by decide) (fun _ => rfl) rfl rfl rfl hl.1 (Nat.le_of_ble_eq_true rfl) dJ0_init_81219_3 ⟨(Nat.le_of_ble_eq_true rfl), (Nat.le_of_ble_eq_true rfl)⟩ (fun as2 H locs hP hD hS => ?_)
  have hP : va_P D vwCl [(s0, .inr (1, [.ref s1, .int 0, .int ml, .int c0])), (s1, .inl (cA 1, n, .inl f)), (r0, .inr (0, [.ref (as2 0), .int 0, .int 0, .int 0])), ((as2 0), .inl (cA 1, o1.2, .inl o1.1))] H := hP
  have hD : va_D A [(s0, .inr (1, [.ref s1, .int 0, .int ml, .int c0])), (s1, .inl (cA 1, n, .inl f)), (r0, .inr (0, [.ref (as2 0), .int 0, .int 0, .int 0])), ((as2 0), .inl (cA 1, o1.2, .inl o1.1))] := hD
  refine W.cs (cells' := 1) (slots' := 168) rfl rfl ?_
  have h := Option.some.inj h
  subst h
  refine W.widen (k := 1) (n := 168) (Nat.le_of_ble_eq_true rfl) (Nat.le_of_ble_eq_true rfl) ?_
  exact hend (adr [(as2 0)]) _ _ _ _ _ _ _ rfl rfl (rtn_v) hP hD hS dJ0_init_81219_6

noncomputable def SJ4_toString_0e30d (n : Nat) (f : Nat → Int32) (c0 : Int32) : Option ((Nat → Int32) × Nat) := bnd (SJ0_init_81219 n f c0) (fun o2 : (Nat → Int32) × Nat => some ((o2.1, o2.2)))
theorem iJ4_toString_0e30d_J0 : ∀ w ∈ wsJ00, w ∈ wsJ4_toString_0e30d := fun _ h => List.mem_cons_of_mem _ (List.mem_append_left _ (List.mem_append_right _ h))
theorem fsJ0 : ∀ j, j < 4 → defaultValue (tyJ0 j) = vp_V [.null, .int 0, .int 0, .int 0] j := by decide +kernel
abbrev RM_J4_toString_0e30d : Room := { frames := 5, cells := 2, slots := 172, locals := 114 }
set_option maxHeartbeats 4000000 in
theorem kJ4_toString_0e30d (l : Launch) (D : va_G) (cA : Nat → ClassId) (G : eG) (s0 s1 : Nat) (n : Nat) (f : Nat → Int32) (ml : Int32) (c0 : Int32) (hn : n < 2147483648) {r : (Nat → Int32) × Nat} (hr : SJ4_toString_0e30d n f c0 = some r) {sz : Nat} : Met l yJ4_toString_0e30d wsJ4_toString_0e30d RM_J4_toString_0e30d (va_Pc [.ref s0] (gqEB G D cA [(s0, .inr (1, [.ref s1, .int 0, .int ml, .int c0])), (s1, .inl (cA 1, n, .inl f))] sz)) (gqQ D (fun as => (some (.ref (as 0)))) (fun as => [(s0, .inr (1, [.ref s1, .int 0, .int ml, .int c0])), (s1, .inl (cA 1, n, .inl f)), ((as 0), .inr (0, [.ref (as 1), .int 0, .int 0, .int 0])), ((as 1), .inl (cA 1, r.2, .inl r.1))]) (va_A [(s0, .inr (1, [.ref s1, .int 0, .int ml, .int c0])), (s1, .inl (cA 1, n, .inl f))] sz)) 2 172 (va_A [(s0, .inr (1, [.ref s1, .int 0, .int ml, .int c0])), (s1, .inl (cA 1, n, .inl f))] sz) := by
  refine gqE_ofW (cc := cJ4_toString_0e30d) (maxL := 1) (ret := (some (.object "java/lang/String"))) (by decide) rfl (Nat.le_of_ble_eq_true rfl) (fun p e s m args below meth c ls Q A hx hb hml hts hfc hmn hK hP hD hS hA hEV hl hend => ?_)
  have hfc : s.vm.findClass RJ4 = some m.cls := hfc
  have hl : lv_has ls 1 [(0, .ref s0)] := hl
  have h := hr
  clear hr
  unfold SJ4_toString_0e30d at h
  refine va_new (ci := 0) (C := RJ0) (T := TJ0) (N := 4) (fs := [.null, .int 0, .int 0, .int 0]) hx hb hts iJ4_toString_0e30d_J0 tyJ0 tyJ0_ok hfc (hts (.classLink RJ4 18 RJ0) (List.mem_of_getElem? (i := 1) rfl)) (hts (.instantiable RJ0 4) (List.mem_of_getElem? (i := 2) rfl)) (hts (.initialized RJ0) (List.mem_of_getElem? (i := 3) rfl)) hK hP hD hS hA rfl (fun j hj => fsJ0 j hj) (Nat.le_of_ble_eq_true rfl) (Nat.le_of_ble_eq_true rfl) dJ4_toString_0e30d_0 (fun q1 H hP hD hS => ?_)
  have hP : va_P D vwCl [(s0, .inr (1, [.ref s1, .int 0, .int ml, .int c0])), (s1, .inl (cA 1, n, .inl f)), (q1, .inr (0, [.null, .int 0, .int 0, .int 0]))] H := hP
  have hD : va_D A [(s0, .inr (1, [.ref s1, .int 0, .int ml, .int c0])), (s1, .inl (cA 1, n, .inl f)), (q1, .inr (0, [.null, .int 0, .int 0, .int 0]))] := hD
  refine lv_dup hx hb dJ4_toString_0e30d_3 rfl ?_
  refine lv_aload_n hx hb dJ4_toString_0e30d_4 rfl (lv_at hl 0 rfl) ?_
  obtain ⟨o2, ho2, h⟩ := bnd_i h
  refine gqE_I (G := G) (As := [.ref s0]) (rest := [.ref q1]) (wc := [(s0, .inr (1, [.ref s1, .int 0, .int ml, .int c0])), (s1, .inl (cA 1, n, .inl f)), (q1, .inr (0, [.null, .int 0, .int 0, .int 0]))]) (wr := []) (w1 := (fun as => [(s0, .inr (1, [.ref s1, .int 0, .int ml, .int c0])), (s1, .inl (cA 1, n, .inl f)), (q1, .inr (0, [.ref (as 0), .int 0, .int 0, .int 0])), ((as 0), .inl (cA 1, o2.2, .inl o2.1))])) (ws2 := (fun as => [(s0, .inr (1, [.ref s1, .int 0, .int ml, .int c0])), (s1, .inl (cA 1, n, .inl f)), (q1, .inr (0, [.ref (as 0), .int 0, .int 0, .int 0])), ((as 0), .inl (cA 1, o2.2, .inl o2.1))])) ⟨hx, hb, hml, hfc, hts⟩ hK hP hD hS hA hEV (kJ0_init_81219 l D cA G s0 s1 q1 n f ml c0 hn ho2) (cwI 1 hts gJ4_toString_0e30d_J0_init_81219 rfl rfl rfl (hts (.initialized RJ0) (List.mem_of_getElem? (i := 3) rfl)) (hts (.methodLink RJ4 137 yJ0_init_81219) (List.mem_of_getElem? (i := 4) rfl)) (hts (.instanceMethod yJ0_init_81219) (List.mem_of_getElem? (i := 5) rfl)) rfl (by decide +kernel) ⟨(Nat.le_of_ble_eq_true rfl), (Nat.le_of_ble_eq_true rfl)⟩) [0, 1, 2] [] [0, 1, 2, 3] rfl rfl rfl rfl (by decide) (fun _ => rfl) rfl rfl rfl hl.1 (Nat.le_of_ble_eq_true rfl) dJ4_toString_0e30d_5 ⟨(Nat.le_of_ble_eq_true rfl), (Nat.le_of_ble_eq_true rfl)⟩ (fun as3 H locs hP hD hS => ?_)
  have hP : va_P D vwCl [(s0, .inr (1, [.ref s1, .int 0, .int ml, .int c0])), (s1, .inl (cA 1, n, .inl f)), (q1, .inr (0, [.ref (as3 0), .int 0, .int 0, .int 0])), ((as3 0), .inl (cA 1, o2.2, .inl o2.1))] H := hP
  have hD : va_D A [(s0, .inr (1, [.ref s1, .int 0, .int ml, .int c0])), (s1, .inl (cA 1, n, .inl f)), (q1, .inr (0, [.ref (as3 0), .int 0, .int 0, .int 0])), ((as3 0), .inl (cA 1, o2.2, .inl o2.1))] := hD
  refine W.cs (cells' := 2) (slots' := 172) rfl rfl ?_
  have h := Option.some.inj h
  subst h
  refine W.widen (k := 2) (n := 172) (Nat.le_of_ble_eq_true rfl) (Nat.le_of_ble_eq_true rfl) ?_
  exact hend (adr [q1, (as3 0)]) _ _ _ _ _ _ _ rfl rfl (rtn_a _ _) hP hD hS dJ4_toString_0e30d_8
