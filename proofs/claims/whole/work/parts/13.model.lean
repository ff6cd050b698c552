noncomputable def SX6_in (x0 : Int32) (x1 : Int32) (x2 : Int32) : Int32 := if x0 < x1 then (0) else (if x2 < x0 then (0) else (1))
abbrev RM_X6_in : Room := { frames := 0, cells := 0, slots := 0, locals := 0 }
set_option maxHeartbeats 4000000 in
theorem kX6_in (l : Launch) (D : va_G) (cA : Nat → ClassId) (x0 : Int32) (x1 : Int32) (x2 : Int32) {r : Int32} (hr : SX6_in x0 x1 x2 = r) : Met l yX6_in wsX6_in RM_X6_in (va_Pc [.int x0, .int x1, .int x2] (rqB D cA [])) (rqQ (some (.int r))) 0 0 (fun _ => False) := by
  refine rq_ofW (cc := cX6_in) (maxL := 3) (ret := (some .boolean)) (by decide) rfl (Nat.le_of_ble_eq_true rfl) (fun p e s m args below meth c ls Q hx hb hml hts hfc hK hP hl hend => ?_)
  have hfc : s.vm.findClass RX6 = some m.cls := hfc
  have hl : lv_has ls 3 [(0, .int x0), (1, .int x1), (2, .int x2)] := hl
  have h := hr
  clear hr
  unfold SX6_in at h
  refine lv_iload_n hx hb dX6_in_0 rfl (lv_at hl 0 rfl) ?_
  refine lv_iload_n hx hb dX6_in_1 rfl (lv_at hl 1 rfl) ?_
  refine lv_icmp_lt (tgt := 14) hx hb dX6_in_2 (by decide) (fun c1 => ?_) (fun c1 => ?_)
  · have h := ite_t c1 h
    refine lv_iconst (v := 0) hx hb dX6_in_14 (by decide) ?_
    subst h
    exact hend _ _ _ _ rfl (rtn_n (x := 0) rfl) dX6_in_15
  · have h := ite_f c1 h
    refine lv_iload_n hx hb dX6_in_5 rfl (lv_at hl 0 rfl) ?_
    refine lv_iload_n hx hb dX6_in_6 rfl (lv_at hl 2 rfl) ?_
    refine lv_icmp_gt (tgt := 14) hx hb dX6_in_7 (by decide) (fun c2 => ?_) (fun c2 => ?_)
    · have h := ite_t c2 h
      refine lv_iconst (v := 0) hx hb dX6_in_14 (by decide) ?_
      subst h
      exact hend _ _ _ _ rfl (rtn_n (x := 0) rfl) dX6_in_15
    · have h := ite_f c2 h
      refine lv_iconst (v := 1) hx hb dX6_in_10 (by decide) ?_
      refine lv_goto (tgt := 15) hx hb dX6_in_11 (by decide) ?_
      subst h
      exact hend _ _ _ _ rfl (rtn_n (x := 1) rfl) dX6_in_15
noncomputable def SX6_isPosition (x0 : Int32) : Option (Int32) := gd (narrow .boolean (.int (SX6_in x0 0 11)) = .int (SX6_in x0 0 11)) (some ((SX6_in x0 0 11)))
abbrev RM_X6_isPosition : Room := { frames := 1, cells := 0, slots := 0, locals := 22 }
set_option maxHeartbeats 4000000 in
theorem kX6_isPosition (l : Launch) (D : va_G) (cA : Nat → ClassId) (x0 : Int32) {r : Int32} (hr : SX6_isPosition x0 = some r) : Met l yX6_isPosition wsX6_isPosition RM_X6_isPosition (va_Pc [.int x0] (rqB D cA [])) (rqQ (some (.int r))) 0 0 (fun _ => False) := by
  refine rq_ofW (cc := cX6_isPosition) (maxL := 1) (ret := (some .boolean)) (by decide) rfl (Nat.le_of_ble_eq_true rfl) (fun p e s m args below meth c ls Q hx hb hml hts hfc hK hP hl hend => ?_)
  have hfc : s.vm.findClass RX6 = some m.cls := hfc
  have hl : lv_has ls 1 [(0, .int x0)] := hl
  have h := hr
  clear hr
  unfold SX6_isPosition at h
  refine lv_iload_n hx hb dX6_isPosition_0 rfl (lv_at hl 0 rfl) ?_
  refine lv_iconst (v := 0) hx hb dX6_isPosition_1 (by decide) ?_
  refine lv_bipush (v := 11) hx hb dX6_isPosition_2 (by decide) ?_
  refine rq_S (v := (some (.int (SX6_in x0 0 11)))) (As := [.int x0, .int 0, .int 11]) (rest := []) (wc := []) ⟨hx, hb, hml, hfc, hts⟩ hK hP (kX6_in l D cA x0 0 11 rfl) (va_cwS 3 hts gX6_isPosition_X6_in rfl rfl rfl (by decide +kernel) ⟨(Nat.le_of_ble_eq_true rfl), (Nat.le_of_ble_eq_true rfl)⟩) [] rfl rfl rfl rfl hl.1 (Nat.le_of_ble_eq_true rfl) dX6_isPosition_4 ⟨(Nat.zero_le _), (Nat.zero_le _)⟩ ?_
  obtain ⟨g1, h⟩ := gd_i h
  have h := Option.some.inj h
  subst h
  exact hend _ _ _ _ rfl (rtn_n g1) dX6_isPosition_7
noncomputable def SX6_far (x0 : Int32) (x1 : Int32) : Int32 := imin (iabs (x0 - x1)) (12 - (iabs (x0 - x1)))
abbrev RM_X6_far : Room := { frames := 1, cells := 0, slots := 0, locals := 13 }
set_option maxHeartbeats 4000000 in
theorem kX6_far (l : Launch) (D : va_G) (cA : Nat → ClassId) (x0 : Int32) (x1 : Int32) {r : Int32} (hr : SX6_far x0 x1 = r) : Met l yX6_far wsX6_far RM_X6_far (va_Pc [.int x0, .int x1] (rqB D cA [])) (rqQ (some (.int r))) 0 0 (fun _ => False) := by
  refine rq_ofW (cc := cX6_far) (maxL := 3) (ret := (some .int)) (by decide) rfl (Nat.le_of_ble_eq_true rfl) (fun p e s m args below meth c ls Q hx hb hml hts hfc hK hP hl hend => ?_)
  have hfc : s.vm.findClass RX6 = some m.cls := hfc
  have hl : lv_has ls 3 [(0, .int x0), (1, .int x1)] := hl
  have h := hr
  clear hr
  unfold SX6_far at h
  refine lv_iload_n hx hb dX6_far_0 rfl (lv_at hl 0 rfl) ?_
  refine lv_iload_n hx hb dX6_far_1 rfl (lv_at hl 1 rfl) ?_
  refine lv_isub hx hb dX6_far_2 ?_
  refine va_mabs hx hb (hml.trans hl.1.symm) hfc (hts (.methodLink RX6 70 Lib.Math.abs.name) (List.mem_of_getElem? (i := 1) rfl)) (hts (.static Lib.Math.abs.name) (List.mem_of_getElem? (i := 2) rfl)) (hts (.initialized "java/lang/Math") (List.mem_of_getElem? (i := 3) rfl)) (hts (.code Lib.Math.abs.name Lib.Math.abs.code 1 (some .int)) (List.mem_of_getElem? (i := 4) rfl)) (Nat.le_of_ble_eq_true rfl) (Nat.le_of_ble_eq_true rfl) (Nat.zero_le _) (Nat.zero_le _) dX6_far_3 ?_
  refine lv_istore_n hx hb dX6_far_6 rfl hl (Nat.le_of_ble_eq_true rfl) rfl (fun ls hl => ?_)
  have hl : lv_has ls 3 [(2, .int (iabs (x0 - x1))), (0, .int x0), (1, .int x1)] := hl
  refine lv_iload_n hx hb dX6_far_7 rfl (lv_at hl 0 rfl) ?_
  refine lv_bipush (v := 12) hx hb dX6_far_8 (by decide) ?_
  refine lv_iload_n hx hb dX6_far_10 rfl (lv_at hl 0 rfl) ?_
  refine lv_isub hx hb dX6_far_11 ?_
  refine va_mmin hx hb (hml.trans hl.1.symm) hfc (hts (.methodLink RX6 74 Lib.Math.min.name) (List.mem_of_getElem? (i := 5) rfl)) (hts (.static Lib.Math.min.name) (List.mem_of_getElem? (i := 6) rfl)) (hts (.initialized "java/lang/Math") (List.mem_of_getElem? (i := 3) rfl)) (hts (.code Lib.Math.min.name Lib.Math.min.code 2 (some .int)) (List.mem_of_getElem? (i := 7) rfl)) (Nat.le_of_ble_eq_true rfl) (Nat.le_of_ble_eq_true rfl) (Nat.zero_le _) (Nat.zero_le _) dX6_far_12 ?_
  subst h
  exact hend _ _ _ _ rfl (rtn_i _) dX6_far_15
noncomputable def SX6_thrown (v6 : Int32) : Int32 := v6
theorem iX6_thrown_X6 : ∀ w ∈ wsX60, w ∈ wsX6_thrown := fun _ h => List.mem_cons_of_mem _ (List.mem_append_right _ h)
abbrev RM_X6_thrown : Room := { frames := 0, cells := 0, slots := 0, locals := 0 }
set_option maxHeartbeats 4000000 in
theorem kX6_thrown (l : Launch) (D : va_G) (cA : Nat → ClassId) (m0 q0 q1 q2 q4 q7 q9 q15 : Nat) (v3 : Int32) (v5 : Int32) (v6 : Int32) (v8 : Int32) (v10 : Int32) (v11 : Int32) (v12 : Int32) (v13 : Int32) (v14 : Int32) (v16 : Int32) {r : Int32} (hr : SX6_thrown v6 = r) : Met l yX6_thrown wsX6_thrown RM_X6_thrown (va_Pc [.ref m0] (rqB D cA [(m0, .inr (10, [.ref q0, .ref q1, .ref q2, .int v3, .ref q4, .int v5, .int v6, .ref q7, .int v8, .ref q9, .int v10, .int v11, .int v12, .int v13, .int v14, .ref q15, .int v16]))])) (rqQ (some (.int r))) 0 0 (fun _ => False) := by
  refine rq_ofW (cc := cX6_thrown) (maxL := 1) (ret := (some .int)) (by decide) rfl (Nat.le_of_ble_eq_true rfl) (fun p e s m args below meth c ls Q hx hb hml hts hfc hK hP hl hend => ?_)
  have hfc : s.vm.findClass RX6 = some m.cls := hfc
  have hl : lv_has ls 1 [(0, .ref m0)] := hl
  have h := hr
  clear hr
  unfold SX6_thrown at h
  refine lv_aload_n hx hb dX6_thrown_0 rfl (lv_at hl 0 rfl) ?_
  refine va_get (D := D) (ci := 10) (v := .int v6) (C := RX6) (T := TX6) (N := 17) hx hb hts iX6_thrown_X6 hfc hK hP 0 rfl rfl 6 (by decide) (hts (.fieldLink RX6 39 "BathtubTidesModel" "thrown" "I") (List.mem_of_getElem? (i := 1) rfl)) (fun _ h9 => h9) rfl dX6_thrown_1 ?_
  subst h
  exact hend _ _ _ _ rfl (rtn_i _) dX6_thrown_4
noncomputable def SX6_fails (x1 : Int32) : Int32 × Int32 := (0, x1)
theorem iX6_fails_X6 : ∀ w ∈ wsX60, w ∈ wsX6_fails := fun _ h => List.mem_cons_of_mem _ (List.mem_append_right _ h)
abbrev RM_X6_fails : Room := { frames := 0, cells := 0, slots := 0, locals := 0 }
set_option maxHeartbeats 4000000 in
theorem kX6_fails (l : Launch) (D : va_G) (cA : Nat → ClassId) (m0 q0 q1 q2 q4 q7 q9 q15 : Nat) (v3 : Int32) (v5 : Int32) (v6 : Int32) (v8 : Int32) (v10 : Int32) (v11 : Int32) (v12 : Int32) (v13 : Int32) (v14 : Int32) (v16 : Int32) (x1 : Int32) {r : Int32 × Int32} (hr : SX6_fails x1 = r) {sz : Nat} : Met l yX6_fails wsX6_fails RM_X6_fails (va_Pc [.ref m0, .int x1] (gqB D cA [(m0, .inr (10, [.ref q0, .ref q1, .ref q2, .int v3, .ref q4, .int v5, .int v6, .ref q7, .int v8, .ref q9, .int v10, .int v11, .int v12, .int v13, .int v14, .ref q15, .int v16]))] sz)) (gqQ D (fun as => (some (.int r.1))) (fun as => [(m0, .inr (10, [.ref q0, .ref q1, .ref q2, .int v3, .ref q4, .int v5, .int r.2, .ref q7, .int v8, .ref q9, .int v10, .int v11, .int v12, .int v13, .int v14, .ref q15, .int v16]))]) (va_A [(m0, .inr (10, [.ref q0, .ref q1, .ref q2, .int v3, .ref q4, .int v5, .int v6, .ref q7, .int v8, .ref q9, .int v10, .int v11, .int v12, .int v13, .int v14, .ref q15, .int v16]))] sz)) 0 0 (va_A [(m0, .inr (10, [.ref q0, .ref q1, .ref q2, .int v3, .ref q4, .int v5, .int v6, .ref q7, .int v8, .ref q9, .int v10, .int v11, .int v12, .int v13, .int v14, .ref q15, .int v16]))] sz) := by
  refine gq_ofW (cc := cX6_fails) (maxL := 2) (ret := (some .int)) (by decide) rfl (Nat.le_of_ble_eq_true rfl) (fun p e s m args below meth c ls Q A hx hb hml hts hfc hmn hK hP hD hS hA hl hend => ?_)
  have hfc : s.vm.findClass RX6 = some m.cls := hfc
  have hl : lv_has ls 2 [(0, .ref m0), (1, .int x1)] := hl
  have h := hr
  clear hr
  unfold SX6_fails at h
  refine lv_aload_n hx hb dX6_fails_0 rfl (lv_at hl 0 rfl) ?_
  refine lv_iload_n hx hb dX6_fails_1 rfl (lv_at hl 1 rfl) ?_
  refine va_put (D := D) (ci := 10) (v := .int x1) (ty := .int) (C := RX6) (T := TX6) (N := 17) hx hb hts iX6_fails_X6 tyX6 tyX6_ok nmX6 hfc hK hP hD hS 0 rfl rfl 6 (by decide) (hts (.fieldLink RX6 39 "BathtubTidesModel" "thrown" "I") (List.mem_of_getElem? (i := 1) rfl)) (fun _ h9 => h9) rfl (by decide +kernel) rfl rfl (Nat.le_of_ble_eq_true rfl) dX6_fails_2 (fun H locs hP hD hS => ?_)
  have hP : va_P D vwCl [(m0, .inr (10, [.ref q0, .ref q1, .ref q2, .int v3, .ref q4, .int v5, .int x1, .ref q7, .int v8, .ref q9, .int v10, .int v11, .int v12, .int v13, .int v14, .ref q15, .int v16]))] H := hP
  have hD : va_D A [(m0, .inr (10, [.ref q0, .ref q1, .ref q2, .int v3, .ref q4, .int v5, .int x1, .ref q7, .int v8, .ref q9, .int v10, .int v11, .int v12, .int v13, .int v14, .ref q15, .int v16]))] := hD
  refine lv_iconst (v := 0) hx hb dX6_fails_5 (by decide) ?_
  subst h
  exact hend (adr []) _ _ _ _ _ _ _ rfl rfl (rtn_i _) hP hD hS dX6_fails_6
noncomputable def SX6_isThere (x1 : Int32) : Option (Int32 × Int32) := lt_ (if x1 = 0 then (1) else (0)) (fun o2 : Int32 => gd (narrow .boolean (.int x1) = .int x1) (some ((x1, o2))))
theorem iX6_isThere_X6 : ∀ w ∈ wsX60, w ∈ wsX6_isThere := fun _ h => List.mem_cons_of_mem _ (List.mem_append_right _ h)
abbrev RM_X6_isThere : Room := { frames := 0, cells := 0, slots := 0, locals := 0 }
set_option maxHeartbeats 4000000 in
theorem kX6_isThere (l : Launch) (D : va_G) (cA : Nat → ClassId) (m0 q0 q1 q2 q4 q7 q9 q15 : Nat) (v3 : Int32) (v5 : Int32) (v6 : Int32) (v8 : Int32) (v10 : Int32) (v11 : Int32) (v12 : Int32) (v13 : Int32) (v14 : Int32) (v16 : Int32) (x1 : Int32) {r : Int32 × Int32} (hr : SX6_isThere x1 = some r) {sz : Nat} : Met l yX6_isThere wsX6_isThere RM_X6_isThere (va_Pc [.ref m0, .int x1] (gqB D cA [(m0, .inr (10, [.ref q0, .ref q1, .ref q2, .int v3, .ref q4, .int v5, .int v6, .ref q7, .int v8, .ref q9, .int v10, .int v11, .int v12, .int v13, .int v14, .ref q15, .int v16]))] sz)) (gqQ D (fun as => (some (.int r.1))) (fun as => [(m0, .inr (10, [.ref q0, .ref q1, .ref q2, .int v3, .ref q4, .int v5, .int r.2, .ref q7, .int v8, .ref q9, .int v10, .int v11, .int v12, .int v13, .int v14, .ref q15, .int v16]))]) (va_A [(m0, .inr (10, [.ref q0, .ref q1, .ref q2, .int v3, .ref q4, .int v5, .int v6, .ref q7, .int v8, .ref q9, .int v10, .int v11, .int v12, .int v13, .int v14, .ref q15, .int v16]))] sz)) 0 0 (va_A [(m0, .inr (10, [.ref q0, .ref q1, .ref q2, .int v3, .ref q4, .int v5, .int v6, .ref q7, .int v8, .ref q9, .int v10, .int v11, .int v12, .int v13, .int v14, .ref q15, .int v16]))] sz) := by
  refine gq_ofW (cc := cX6_isThere) (maxL := 2) (ret := (some .boolean)) (by decide) rfl (Nat.le_of_ble_eq_true rfl) (fun p e s m args below meth c ls Q A hx hb hml hts hfc hmn hK hP hD hS hA hl hend => ?_)
  have hfc : s.vm.findClass RX6 = some m.cls := hfc
  have hl : lv_has ls 2 [(0, .ref m0), (1, .int x1)] := hl
  have h := hr
  clear hr
  unfold SX6_isThere at h
  refine lv_aload_n hx hb dX6_isThere_0 rfl (lv_at hl 0 rfl) ?_
  refine lv_iload_n hx hb dX6_isThere_1 rfl (lv_at hl 1 rfl) ?_
  obtain ⟨o2, ho2, h⟩ := lt_i h
  have ko2 : ∀ (ls : Array Slot) (H : Heap) (locs : List Loc), lv_has ls 2 [(0, .ref m0), (1, .int x1)] → va_P D vwCl [(m0, .inr (10, [.ref q0, .ref q1, .ref q2, .int v3, .ref q4, .int v5, .int v6, .ref q7, .int v8, .ref q9, .int v10, .int v11, .int v12, .int v13, .int v14, .ref q15, .int v16]))] H → va_D A [(m0, .inr (10, [.ref q0, .ref q1, .ref q2, .int v3, .ref q4, .int v5, .int v6, .ref q7, .int v8, .ref q9, .int v10, .int v11, .int v12, .int v13, .int v14, .ref q15, .int v16]))] → va_S A s.heap H locs → W p l e RM_X6_isThere s m args below meth c H locs 0 0 Q (F0 m 10 ls [.int o2, .ref m0]) := by
    intro ls H locs hl hP hD hS
    refine va_put (D := D) (ci := 10) (v := .int o2) (ty := .int) (C := RX6) (T := TX6) (N := 17) hx hb hts iX6_isThere_X6 tyX6 tyX6_ok nmX6 hfc hK hP hD hS 0 rfl rfl 6 (by decide) (hts (.fieldLink RX6 39 "BathtubTidesModel" "thrown" "I") (List.mem_of_getElem? (i := 1) rfl)) (fun _ h9 => h9) rfl (by decide +kernel) rfl rfl (Nat.le_of_ble_eq_true rfl) dX6_isThere_10 (fun H locs hP hD hS => ?_)
    have hP : va_P D vwCl [(m0, .inr (10, [.ref q0, .ref q1, .ref q2, .int v3, .ref q4, .int v5, .int o2, .ref q7, .int v8, .ref q9, .int v10, .int v11, .int v12, .int v13, .int v14, .ref q15, .int v16]))] H := hP
    have hD : va_D A [(m0, .inr (10, [.ref q0, .ref q1, .ref q2, .int v3, .ref q4, .int v5, .int o2, .ref q7, .int v8, .ref q9, .int v10, .int v11, .int v12, .int v13, .int v14, .ref q15, .int v16]))] := hD
    refine lv_iload_n hx hb dX6_isThere_13 rfl (lv_at hl 1 rfl) ?_
    obtain ⟨g3, h⟩ := gd_i h
    have h := Option.some.inj h
    subst h
    exact hend (adr []) _ _ _ _ _ _ _ rfl rfl (rtn_n g3) hP hD hS dX6_isThere_14
  clear h
  have h := ho2
  clear ho2
  refine lv_if_eq (tgt := 9) hx hb dX6_isThere_2 (by decide) (fun c1 => ?_) (fun c1 => ?_)
  · have h := ite_t c1 h
    refine lv_iconst (v := 1) hx hb dX6_isThere_9 (by decide) ?_
    subst h
    exact ko2 _ _ _ (lv_sub hl [0, 1] rfl) hP hD hS
  · have h := ite_f c1 h
    refine lv_iconst (v := 0) hx hb dX6_isThere_5 (by decide) ?_
    refine lv_goto (tgt := 10) hx hb dX6_isThere_6 (by decide) ?_
    subst h
    exact ko2 _ _ _ (lv_sub hl [0, 1] rfl) hP hD hS
noncomputable def SX6_keep (ss : Nat → Int32) (bb : Nat → Int32) : (Nat → Int32) × Int32 := (va_cpy ss bb 0 0 60, 0)
theorem iX6_keep_X6 : ∀ w ∈ wsX60, w ∈ wsX6_keep := fun _ h => List.mem_cons_of_mem _ (List.mem_append_right _ h)
abbrev RM_X6_keep : Room := { frames := 1, cells := 0, slots := 0, locals := 18 }
set_option maxHeartbeats 4000000 in
theorem kX6_keep (l : Launch) (D : va_G) (cA : Nat → ClassId) (m0 q0 q1 q2 q4 q7 q9 q15 : Nat) (v3 : Int32) (v5 : Int32) (v6 : Int32) (v8 : Int32) (v10 : Int32) (v11 : Int32) (v12 : Int32) (v13 : Int32) (v14 : Int32) (v16 : Int32) (ss : Nat → Int32) (bb : Nat → Int32) {r : (Nat → Int32) × Int32} (hr : SX6_keep ss bb = r) {sz : Nat} : Met l yX6_keep wsX6_keep RM_X6_keep (va_Pc [.ref m0] (gqB D cA [(m0, .inr (10, [.ref q0, .ref q1, .ref q2, .int v3, .ref q4, .int v5, .int v6, .ref q7, .int v8, .ref q9, .int v10, .int v11, .int v12, .int v13, .int v14, .ref q15, .int v16])), (q0, .inl (cA 0, 60, .inl ss)), (q1, .inl (cA 0, 60, .inl bb))] sz)) (gqQ D (fun as => none) (fun as => [(m0, .inr (10, [.ref q0, .ref q1, .ref q2, .int v3, .ref q4, .int v5, .int r.2, .ref q7, .int v8, .ref q9, .int v10, .int v11, .int v12, .int v13, .int v14, .ref q15, .int v16])), (q0, .inl (cA 0, 60, .inl ss)), (q1, .inl (cA 0, 60, .inl r.1))]) (va_A [(m0, .inr (10, [.ref q0, .ref q1, .ref q2, .int v3, .ref q4, .int v5, .int v6, .ref q7, .int v8, .ref q9, .int v10, .int v11, .int v12, .int v13, .int v14, .ref q15, .int v16])), (q0, .inl (cA 0, 60, .inl ss)), (q1, .inl (cA 0, 60, .inl bb))] sz)) 0 0 (va_A [(m0, .inr (10, [.ref q0, .ref q1, .ref q2, .int v3, .ref q4, .int v5, .int v6, .ref q7, .int v8, .ref q9, .int v10, .int v11, .int v12, .int v13, .int v14, .ref q15, .int v16])), (q0, .inl (cA 0, 60, .inl ss)), (q1, .inl (cA 0, 60, .inl bb))] sz) := by
  refine gq_ofW (cc := cX6_keep) (maxL := 1) (ret := none) (by decide) rfl (Nat.le_of_ble_eq_true rfl) (fun p e s m args below meth c ls Q A hx hb hml hts hfc hmn hK hP hD hS hA hl hend => ?_)
  have hfc : s.vm.findClass RX6 = some m.cls := hfc
  have hl : lv_has ls 1 [(0, .ref m0)] := hl
  have h := hr
  clear hr
  unfold SX6_keep at h
  refine lv_aload_n hx hb dX6_keep_0 rfl (lv_at hl 0 rfl) ?_
  refine lv_iconst (v := 0) hx hb dX6_keep_1 (by decide) ?_
  refine va_put (D := D) (ci := 10) (v := .int 0) (ty := .int) (C := RX6) (T := TX6) (N := 17) hx hb hts iX6_keep_X6 tyX6 tyX6_ok nmX6 hfc hK hP hD hS 0 rfl rfl 6 (by decide) (hts (.fieldLink RX6 39 "BathtubTidesModel" "thrown" "I") (List.mem_of_getElem? (i := 1) rfl)) (fun _ h9 => h9) rfl (by decide +kernel) rfl rfl (Nat.le_of_ble_eq_true rfl) dX6_keep_2 (fun H locs hP hD hS => ?_)
  have hP : va_P D vwCl [(m0, .inr (10, [.ref q0, .ref q1, .ref q2, .int v3, .ref q4, .int v5, .int 0, .ref q7, .int v8, .ref q9, .int v10, .int v11, .int v12, .int v13, .int v14, .ref q15, .int v16])), (q0, .inl (cA 0, 60, .inl ss)), (q1, .inl (cA 0, 60, .inl bb))] H := hP
  have hD : va_D A [(m0, .inr (10, [.ref q0, .ref q1, .ref q2, .int v3, .ref q4, .int v5, .int 0, .ref q7, .int v8, .ref q9, .int v10, .int v11, .int v12, .int v13, .int v14, .ref q15, .int v16])), (q0, .inl (cA 0, 60, .inl ss)), (q1, .inl (cA 0, 60, .inl bb))] := hD
  refine lv_aload_n hx hb dX6_keep_5 rfl (lv_at hl 0 rfl) ?_
  refine va_get (D := D) (ci := 10) (v := .ref q0) (C := RX6) (T := TX6) (N := 17) hx hb hts iX6_keep_X6 hfc hK hP 0 rfl rfl 0 (by decide) (hts (.fieldLink RX6 9 "BathtubTidesModel" "s" "[I") (List.mem_of_getElem? (i := 2) rfl)) (fun _ h9 => h9) rfl dX6_keep_6 ?_
  refine lv_iconst (v := 0) hx hb dX6_keep_9 (by decide) ?_
  refine lv_aload_n hx hb dX6_keep_10 rfl (lv_at hl 0 rfl) ?_
  refine va_get (D := D) (ci := 10) (v := .ref q1) (C := RX6) (T := TX6) (N := 17) hx hb hts iX6_keep_X6 hfc hK hP 0 rfl rfl 1 (by decide) (hts (.fieldLink RX6 13 "BathtubTidesModel" "before" "[I") (List.mem_of_getElem? (i := 3) rfl)) (fun _ h9 => h9) rfl dX6_keep_11 ?_
  refine lv_iconst (v := 0) hx hb dX6_keep_14 (by decide) ?_
  refine lv_bipush (v := 60) hx hb dX6_keep_15 (by decide) ?_
  refine va_copyi hx hb (hml.trans hl.1.symm) hfc (hts (.methodLink RX6 42 arraycopyName) (List.mem_of_getElem? (i := 4) rfl)) (hts (.native arraycopyName) (List.mem_of_getElem? (i := 5) rfl)) (hts (.static arraycopyName) (List.mem_of_getElem? (i := 6) rfl)) (hts (.initialized "java/lang/System") (List.mem_of_getElem? (i := 7) rfl)) hK hP hD hS 1 2 0 0 rfl rfl rfl rfl rfl (by decide) (by decide) (by decide) (by decide) (by decide) (fun _ _ => rfl) (Nat.le_of_ble_eq_true rfl) (Nat.le_of_ble_eq_true rfl) dX6_keep_17 (fun H locs hP hD hS => ?_)
  have hP : va_P D vwCl [(m0, .inr (10, [.ref q0, .ref q1, .ref q2, .int v3, .ref q4, .int v5, .int 0, .ref q7, .int v8, .ref q9, .int v10, .int v11, .int v12, .int v13, .int v14, .ref q15, .int v16])), (q0, .inl (cA 0, 60, .inl ss)), (q1, .inl (cA 0, 60, .inl (va_cpy ss bb 0 0 60)))] H := hP
  have hD : va_D A [(m0, .inr (10, [.ref q0, .ref q1, .ref q2, .int v3, .ref q4, .int v5, .int 0, .ref q7, .int v8, .ref q9, .int v10, .int v11, .int v12, .int v13, .int v14, .ref q15, .int v16])), (q0, .inl (cA 0, 60, .inl ss)), (q1, .inl (cA 0, 60, .inl (va_cpy ss bb 0 0 60)))] := hD
  subst h
  exact hend (adr []) _ _ _ _ _ _ _ rfl rfl (rtn_v) hP hD hS dX6_keep_20
noncomputable def SX6_ends (v5 : Int32) (v6 : Int32) (ss : Nat → Int32) (bb : Nat → Int32) (pp : Nat → Int32) (x1 : Int32) : Option (Int32 × (Nat → Int32) × (Nat → Int32) × Int32) := if v6 ≤ 0 then (lt_ (if v5 = 8 then ((v5 - 1, va_cpy pp pp 60 0 420)) else ((v5, pp))) (fun o3 : Int32 × (Nat → Int32) => gd (¬ (60 * o3.1) < 0 ∧ Int32.toNatClampNeg (60 * o3.1) + 60 ≤ 480) (some ((x1, ss, va_cpy bb o3.2 0 (Int32.toNatClampNeg (60 * o3.1)) 60, o3.1 + 1))))) else (some ((0, va_cpy bb ss 0 0 60, pp, v5)))
theorem iX6_ends_X6 : ∀ w ∈ wsX60, w ∈ wsX6_ends := fun _ h => List.mem_cons_of_mem _ (List.mem_append_right _ h)
abbrev RM_X6_ends : Room := { frames := 1, cells := 0, slots := 0, locals := 18 }
set_option maxHeartbeats 4000000 in
theorem kX6_ends (l : Launch) (D : va_G) (cA : Nat → ClassId) (m0 q0 q1 q2 q4 q7 q9 q15 : Nat) (v3 : Int32) (v5 : Int32) (v6 : Int32) (v8 : Int32) (v10 : Int32) (v11 : Int32) (v12 : Int32) (v13 : Int32) (v14 : Int32) (v16 : Int32) (ss : Nat → Int32) (bb : Nat → Int32) (pp : Nat → Int32) (x1 : Int32) {r : Int32 × (Nat → Int32) × (Nat → Int32) × Int32} (hr : SX6_ends v5 v6 ss bb pp x1 = some r) {sz : Nat} : Met l yX6_ends wsX6_ends RM_X6_ends (va_Pc [.ref m0, .int x1] (gqB D cA [(m0, .inr (10, [.ref q0, .ref q1, .ref q2, .int v3, .ref q4, .int v5, .int v6, .ref q7, .int v8, .ref q9, .int v10, .int v11, .int v12, .int v13, .int v14, .ref q15, .int v16])), (q0, .inl (cA 0, 60, .inl ss)), (q1, .inl (cA 0, 60, .inl bb)), (q4, .inl (cA 0, 480, .inl pp))] sz)) (gqQ D (fun as => (some (.int r.1))) (fun as => [(m0, .inr (10, [.ref q0, .ref q1, .ref q2, .int v3, .ref q4, .int r.2.2.2, .int v6, .ref q7, .int v8, .ref q9, .int v10, .int v11, .int v12, .int v13, .int v14, .ref q15, .int v16])), (q0, .inl (cA 0, 60, .inl r.2.1)), (q1, .inl (cA 0, 60, .inl bb)), (q4, .inl (cA 0, 480, .inl r.2.2.1))]) (va_A [(m0, .inr (10, [.ref q0, .ref q1, .ref q2, .int v3, .ref q4, .int v5, .int v6, .ref q7, .int v8, .ref q9, .int v10, .int v11, .int v12, .int v13, .int v14, .ref q15, .int v16])), (q0, .inl (cA 0, 60, .inl ss)), (q1, .inl (cA 0, 60, .inl bb)), (q4, .inl (cA 0, 480, .inl pp))] sz)) 0 0 (va_A [(m0, .inr (10, [.ref q0, .ref q1, .ref q2, .int v3, .ref q4, .int v5, .int v6, .ref q7, .int v8, .ref q9, .int v10, .int v11, .int v12, .int v13, .int v14, .ref q15, .int v16])), (q0, .inl (cA 0, 60, .inl ss)), (q1, .inl (cA 0, 60, .inl bb)), (q4, .inl (cA 0, 480, .inl pp))] sz) := by
  refine gq_ofW (cc := cX6_ends) (maxL := 2) (ret := (some .int)) (by decide) rfl (Nat.le_of_ble_eq_true rfl) (fun p e s m args below meth c ls Q A hx hb hml hts hfc hmn hK hP hD hS hA hl hend => ?_)
  have hfc : s.vm.findClass RX6 = some m.cls := hfc
  have hl : lv_has ls 2 [(0, .ref m0), (1, .int x1)] := hl
  have h := hr
  clear hr
  unfold SX6_ends at h
  refine lv_aload_n hx hb dX6_ends_0 rfl (lv_at hl 0 rfl) ?_
  refine va_get (D := D) (ci := 10) (v := .int v6) (C := RX6) (T := TX6) (N := 17) hx hb hts iX6_ends_X6 hfc hK hP 0 rfl rfl 6 (by decide) (hts (.fieldLink RX6 39 "BathtubTidesModel" "thrown" "I") (List.mem_of_getElem? (i := 1) rfl)) (fun _ h9 => h9) rfl dX6_ends_1 ?_
  refine lv_if_le (tgt := 24) hx hb dX6_ends_4 (by decide) (fun c1 => ?_) (fun c1 => ?_)
  · have h := ite_t c1 h
    refine lv_aload_n hx hb dX6_ends_24 rfl (lv_at hl 0 rfl) ?_
    refine va_get (D := D) (ci := 10) (v := .int v5) (C := RX6) (T := TX6) (N := 17) hx hb hts iX6_ends_X6 hfc hK hP 0 rfl rfl 5 (by decide) (hts (.fieldLink RX6 48 "BathtubTidesModel" "pastMany" "I") (List.mem_of_getElem? (i := 8) rfl)) (fun _ h9 => h9) rfl dX6_ends_25 ?_
    refine lv_bipush (v := 8) hx hb dX6_ends_28 (by decide) ?_
    obtain ⟨o3, ho3, h⟩ := lt_i h
    have ko3 : ∀ (ls : Array Slot) (H : Heap) (locs : List Loc), lv_has ls 2 [(0, .ref m0), (1, .int x1)] → va_P D vwCl [(m0, .inr (10, [.ref q0, .ref q1, .ref q2, .int v3, .ref q4, .int o3.1, .int v6, .ref q7, .int v8, .ref q9, .int v10, .int v11, .int v12, .int v13, .int v14, .ref q15, .int v16])), (q0, .inl (cA 0, 60, .inl ss)), (q1, .inl (cA 0, 60, .inl bb)), (q4, .inl (cA 0, 480, .inl o3.2))] H → va_D A [(m0, .inr (10, [.ref q0, .ref q1, .ref q2, .int v3, .ref q4, .int o3.1, .int v6, .ref q7, .int v8, .ref q9, .int v10, .int v11, .int v12, .int v13, .int v14, .ref q15, .int v16])), (q0, .inl (cA 0, 60, .inl ss)), (q1, .inl (cA 0, 60, .inl bb)), (q4, .inl (cA 0, 480, .inl o3.2))] → va_S A s.heap H locs → W p l e RM_X6_ends s m args below meth c H locs 0 0 Q (F0 m 60 ls []) := by
      intro ls H locs hl hP hD hS
      refine lv_aload_n hx hb dX6_ends_60 rfl (lv_at hl 0 rfl) ?_
      refine va_get (D := D) (ci := 10) (v := .ref q1) (C := RX6) (T := TX6) (N := 17) hx hb hts iX6_ends_X6 hfc hK hP 0 rfl rfl 1 (by decide) (hts (.fieldLink RX6 13 "BathtubTidesModel" "before" "[I") (List.mem_of_getElem? (i := 2) rfl)) (fun _ h9 => h9) rfl dX6_ends_61 ?_
      refine lv_iconst (v := 0) hx hb dX6_ends_64 (by decide) ?_
      refine lv_aload_n hx hb dX6_ends_65 rfl (lv_at hl 0 rfl) ?_
      refine va_get (D := D) (ci := 10) (v := .ref q4) (C := RX6) (T := TX6) (N := 17) hx hb hts iX6_ends_X6 hfc hK hP 0 rfl rfl 4 (by decide) (hts (.fieldLink RX6 19 "BathtubTidesModel" "past" "[I") (List.mem_of_getElem? (i := 9) rfl)) (fun _ h9 => h9) rfl dX6_ends_66 ?_
      refine lv_bipush (v := 60) hx hb dX6_ends_69 (by decide) ?_
      refine lv_aload_n hx hb dX6_ends_71 rfl (lv_at hl 0 rfl) ?_
      refine va_get (D := D) (ci := 10) (v := .int o3.1) (C := RX6) (T := TX6) (N := 17) hx hb hts iX6_ends_X6 hfc hK hP 0 rfl rfl 5 (by decide) (hts (.fieldLink RX6 48 "BathtubTidesModel" "pastMany" "I") (List.mem_of_getElem? (i := 8) rfl)) (fun _ h9 => h9) rfl dX6_ends_72 ?_
      refine lv_imul hx hb dX6_ends_75 ?_
      refine lv_bipush (v := 60) hx hb dX6_ends_76 (by decide) ?_
      obtain ⟨g4, h⟩ := gd_i h
      refine va_copyi hx hb (hml.trans hl.1.symm) hfc (hts (.methodLink RX6 42 arraycopyName) (List.mem_of_getElem? (i := 4) rfl)) (hts (.native arraycopyName) (List.mem_of_getElem? (i := 5) rfl)) (hts (.static arraycopyName) (List.mem_of_getElem? (i := 6) rfl)) (hts (.initialized "java/lang/System") (List.mem_of_getElem? (i := 7) rfl)) hK hP hD hS 2 3 0 0 rfl rfl rfl rfl rfl (by decide) g4.1 (by decide) (by decide) g4.2 (fun _ _ => rfl) (Nat.le_of_ble_eq_true rfl) (Nat.le_of_ble_eq_true rfl) dX6_ends_78 (fun H locs hP hD hS => ?_)
      have hP : va_P D vwCl [(m0, .inr (10, [.ref q0, .ref q1, .ref q2, .int v3, .ref q4, .int o3.1, .int v6, .ref q7, .int v8, .ref q9, .int v10, .int v11, .int v12, .int v13, .int v14, .ref q15, .int v16])), (q0, .inl (cA 0, 60, .inl ss)), (q1, .inl (cA 0, 60, .inl bb)), (q4, .inl (cA 0, 480, .inl (va_cpy bb o3.2 0 (Int32.toNatClampNeg (60 * o3.1)) 60)))] H := hP
      have hD : va_D A [(m0, .inr (10, [.ref q0, .ref q1, .ref q2, .int v3, .ref q4, .int o3.1, .int v6, .ref q7, .int v8, .ref q9, .int v10, .int v11, .int v12, .int v13, .int v14, .ref q15, .int v16])), (q0, .inl (cA 0, 60, .inl ss)), (q1, .inl (cA 0, 60, .inl bb)), (q4, .inl (cA 0, 480, .inl (va_cpy bb o3.2 0 (Int32.toNatClampNeg (60 * o3.1)) 60)))] := hD
      refine lv_aload_n hx hb dX6_ends_81 rfl (lv_at hl 0 rfl) ?_
      refine lv_dup hx hb dX6_ends_82 rfl ?_
      refine va_get (D := D) (ci := 10) (v := .int o3.1) (C := RX6) (T := TX6) (N := 17) hx hb hts iX6_ends_X6 hfc hK hP 0 rfl rfl 5 (by decide) (hts (.fieldLink RX6 48 "BathtubTidesModel" "pastMany" "I") (List.mem_of_getElem? (i := 8) rfl)) (fun _ h9 => h9) rfl dX6_ends_83 ?_
      refine lv_iconst (v := 1) hx hb dX6_ends_86 (by decide) ?_
      refine lv_iadd hx hb dX6_ends_87 ?_
      refine va_put (D := D) (ci := 10) (v := .int (o3.1 + 1)) (ty := .int) (C := RX6) (T := TX6) (N := 17) hx hb hts iX6_ends_X6 tyX6 tyX6_ok nmX6 hfc hK hP hD hS 0 rfl rfl 5 (by decide) (hts (.fieldLink RX6 48 "BathtubTidesModel" "pastMany" "I") (List.mem_of_getElem? (i := 8) rfl)) (fun _ h9 => h9) rfl (by decide +kernel) rfl rfl (Nat.le_of_ble_eq_true rfl) dX6_ends_88 (fun H locs hP hD hS => ?_)
      have hP : va_P D vwCl [(m0, .inr (10, [.ref q0, .ref q1, .ref q2, .int v3, .ref q4, .int (o3.1 + 1), .int v6, .ref q7, .int v8, .ref q9, .int v10, .int v11, .int v12, .int v13, .int v14, .ref q15, .int v16])), (q0, .inl (cA 0, 60, .inl ss)), (q1, .inl (cA 0, 60, .inl bb)), (q4, .inl (cA 0, 480, .inl (va_cpy bb o3.2 0 (Int32.toNatClampNeg (60 * o3.1)) 60)))] H := hP
      have hD : va_D A [(m0, .inr (10, [.ref q0, .ref q1, .ref q2, .int v3, .ref q4, .int (o3.1 + 1), .int v6, .ref q7, .int v8, .ref q9, .int v10, .int v11, .int v12, .int v13, .int v14, .ref q15, .int v16])), (q0, .inl (cA 0, 60, .inl ss)), (q1, .inl (cA 0, 60, .inl bb)), (q4, .inl (cA 0, 480, .inl (va_cpy bb o3.2 0 (Int32.toNatClampNeg (60 * o3.1)) 60)))] := hD
      refine lv_iload_n hx hb dX6_ends_91 rfl (lv_at hl 1 rfl) ?_
      have h := Option.some.inj h
      subst h
      exact hend (adr []) _ _ _ _ _ _ _ rfl rfl (rtn_i _) hP hD hS dX6_ends_92
    clear h
    have h := ho3
    clear ho3
    refine lv_icmp_ne (tgt := 60) hx hb dX6_ends_30 (by decide) (fun c2 => ?_) (fun c2 => ?_)
    · have h := ite_f c2 h
      subst h
      exact ko3 _ _ _ (lv_sub hl [0, 1] rfl) hP hD hS
    · have h := ite_t c2 h
      refine lv_aload_n hx hb dX6_ends_33 rfl (lv_at hl 0 rfl) ?_
      refine va_get (D := D) (ci := 10) (v := .ref q4) (C := RX6) (T := TX6) (N := 17) hx hb hts iX6_ends_X6 hfc hK hP 0 rfl rfl 4 (by decide) (hts (.fieldLink RX6 19 "BathtubTidesModel" "past" "[I") (List.mem_of_getElem? (i := 9) rfl)) (fun _ h9 => h9) rfl dX6_ends_34 ?_
      refine lv_bipush (v := 60) hx hb dX6_ends_37 (by decide) ?_
      refine lv_aload_n hx hb dX6_ends_39 rfl (lv_at hl 0 rfl) ?_
      refine va_get (D := D) (ci := 10) (v := .ref q4) (C := RX6) (T := TX6) (N := 17) hx hb hts iX6_ends_X6 hfc hK hP 0 rfl rfl 4 (by decide) (hts (.fieldLink RX6 19 "BathtubTidesModel" "past" "[I") (List.mem_of_getElem? (i := 9) rfl)) (fun _ h9 => h9) rfl dX6_ends_40 ?_
      refine lv_iconst (v := 0) hx hb dX6_ends_43 (by decide) ?_
      refine lv_sipush (v := 420) hx hb dX6_ends_44 (by decide) ?_
      refine va_copyi hx hb (hml.trans hl.1.symm) hfc (hts (.methodLink RX6 42 arraycopyName) (List.mem_of_getElem? (i := 4) rfl)) (hts (.native arraycopyName) (List.mem_of_getElem? (i := 5) rfl)) (hts (.static arraycopyName) (List.mem_of_getElem? (i := 6) rfl)) (hts (.initialized "java/lang/System") (List.mem_of_getElem? (i := 7) rfl)) hK hP hD hS 3 3 0 0 rfl rfl rfl rfl rfl (by decide) (by decide) (by decide) (by decide) (by decide) (fun _ _ => rfl) (Nat.le_of_ble_eq_true rfl) (Nat.le_of_ble_eq_true rfl) dX6_ends_47 (fun H locs hP hD hS => ?_)
      have hP : va_P D vwCl [(m0, .inr (10, [.ref q0, .ref q1, .ref q2, .int v3, .ref q4, .int v5, .int v6, .ref q7, .int v8, .ref q9, .int v10, .int v11, .int v12, .int v13, .int v14, .ref q15, .int v16])), (q0, .inl (cA 0, 60, .inl ss)), (q1, .inl (cA 0, 60, .inl bb)), (q4, .inl (cA 0, 480, .inl (va_cpy pp pp 60 0 420)))] H := hP
      have hD : va_D A [(m0, .inr (10, [.ref q0, .ref q1, .ref q2, .int v3, .ref q4, .int v5, .int v6, .ref q7, .int v8, .ref q9, .int v10, .int v11, .int v12, .int v13, .int v14, .ref q15, .int v16])), (q0, .inl (cA 0, 60, .inl ss)), (q1, .inl (cA 0, 60, .inl bb)), (q4, .inl (cA 0, 480, .inl (va_cpy pp pp 60 0 420)))] := hD
      refine lv_aload_n hx hb dX6_ends_50 rfl (lv_at hl 0 rfl) ?_
      refine lv_dup hx hb dX6_ends_51 rfl ?_
      refine va_get (D := D) (ci := 10) (v := .int v5) (C := RX6) (T := TX6) (N := 17) hx hb hts iX6_ends_X6 hfc hK hP 0 rfl rfl 5 (by decide) (hts (.fieldLink RX6 48 "BathtubTidesModel" "pastMany" "I") (List.mem_of_getElem? (i := 8) rfl)) (fun _ h9 => h9) rfl dX6_ends_52 ?_
      refine lv_iconst (v := 1) hx hb dX6_ends_55 (by decide) ?_
      refine lv_isub hx hb dX6_ends_56 ?_
      refine va_put (D := D) (ci := 10) (v := .int (v5 - 1)) (ty := .int) (C := RX6) (T := TX6) (N := 17) hx hb hts iX6_ends_X6 tyX6 tyX6_ok nmX6 hfc hK hP hD hS 0 rfl rfl 5 (by decide) (hts (.fieldLink RX6 48 "BathtubTidesModel" "pastMany" "I") (List.mem_of_getElem? (i := 8) rfl)) (fun _ h9 => h9) rfl (by decide +kernel) rfl rfl (Nat.le_of_ble_eq_true rfl) dX6_ends_57 (fun H locs hP hD hS => ?_)
      have hP : va_P D vwCl [(m0, .inr (10, [.ref q0, .ref q1, .ref q2, .int v3, .ref q4, .int (v5 - 1), .int v6, .ref q7, .int v8, .ref q9, .int v10, .int v11, .int v12, .int v13, .int v14, .ref q15, .int v16])), (q0, .inl (cA 0, 60, .inl ss)), (q1, .inl (cA 0, 60, .inl bb)), (q4, .inl (cA 0, 480, .inl (va_cpy pp pp 60 0 420)))] H := hP
      have hD : va_D A [(m0, .inr (10, [.ref q0, .ref q1, .ref q2, .int v3, .ref q4, .int (v5 - 1), .int v6, .ref q7, .int v8, .ref q9, .int v10, .int v11, .int v12, .int v13, .int v14, .ref q15, .int v16])), (q0, .inl (cA 0, 60, .inl ss)), (q1, .inl (cA 0, 60, .inl bb)), (q4, .inl (cA 0, 480, .inl (va_cpy pp pp 60 0 420)))] := hD
      subst h
      exact ko3 _ _ _ (lv_sub hl [0, 1] rfl) hP hD hS
  · have h := ite_f c1 h
    refine lv_aload_n hx hb dX6_ends_7 rfl (lv_at hl 0 rfl) ?_
    refine va_get (D := D) (ci := 10) (v := .ref q1) (C := RX6) (T := TX6) (N := 17) hx hb hts iX6_ends_X6 hfc hK hP 0 rfl rfl 1 (by decide) (hts (.fieldLink RX6 13 "BathtubTidesModel" "before" "[I") (List.mem_of_getElem? (i := 2) rfl)) (fun _ h9 => h9) rfl dX6_ends_8 ?_
    refine lv_iconst (v := 0) hx hb dX6_ends_11 (by decide) ?_
    refine lv_aload_n hx hb dX6_ends_12 rfl (lv_at hl 0 rfl) ?_
    refine va_get (D := D) (ci := 10) (v := .ref q0) (C := RX6) (T := TX6) (N := 17) hx hb hts iX6_ends_X6 hfc hK hP 0 rfl rfl 0 (by decide) (hts (.fieldLink RX6 9 "BathtubTidesModel" "s" "[I") (List.mem_of_getElem? (i := 3) rfl)) (fun _ h9 => h9) rfl dX6_ends_13 ?_
    refine lv_iconst (v := 0) hx hb dX6_ends_16 (by decide) ?_
    refine lv_bipush (v := 60) hx hb dX6_ends_17 (by decide) ?_
    refine va_copyi hx hb (hml.trans hl.1.symm) hfc (hts (.methodLink RX6 42 arraycopyName) (List.mem_of_getElem? (i := 4) rfl)) (hts (.native arraycopyName) (List.mem_of_getElem? (i := 5) rfl)) (hts (.static arraycopyName) (List.mem_of_getElem? (i := 6) rfl)) (hts (.initialized "java/lang/System") (List.mem_of_getElem? (i := 7) rfl)) hK hP hD hS 2 1 0 0 rfl rfl rfl rfl rfl (by decide) (by decide) (by decide) (by decide) (by decide) (fun _ _ => rfl) (Nat.le_of_ble_eq_true rfl) (Nat.le_of_ble_eq_true rfl) dX6_ends_19 (fun H locs hP hD hS => ?_)
    have hP : va_P D vwCl [(m0, .inr (10, [.ref q0, .ref q1, .ref q2, .int v3, .ref q4, .int v5, .int v6, .ref q7, .int v8, .ref q9, .int v10, .int v11, .int v12, .int v13, .int v14, .ref q15, .int v16])), (q0, .inl (cA 0, 60, .inl (va_cpy bb ss 0 0 60))), (q1, .inl (cA 0, 60, .inl bb)), (q4, .inl (cA 0, 480, .inl pp))] H := hP
    have hD : va_D A [(m0, .inr (10, [.ref q0, .ref q1, .ref q2, .int v3, .ref q4, .int v5, .int v6, .ref q7, .int v8, .ref q9, .int v10, .int v11, .int v12, .int v13, .int v14, .ref q15, .int v16])), (q0, .inl (cA 0, 60, .inl (va_cpy bb ss 0 0 60))), (q1, .inl (cA 0, 60, .inl bb)), (q4, .inl (cA 0, 480, .inl pp))] := hD
    refine lv_iconst (v := 0) hx hb dX6_ends_22 (by decide) ?_
    have h := Option.some.inj h
    subst h
    exact hend (adr []) _ _ _ _ _ _ _ rfl rfl (rtn_i _) hP hD hS dX6_ends_23
noncomputable def SX6_isMoon (ss : Nat → Int32) (x1 : Int32) : Option (Int32) := gd (narrow .boolean (.int (SX6_in x1 0 ((ss 0) - 1))) = .int (SX6_in x1 0 ((ss 0) - 1))) (some ((SX6_in x1 0 ((ss 0) - 1))))
theorem iX6_isMoon_X6 : ∀ w ∈ wsX60, w ∈ wsX6_isMoon := fun _ h => List.mem_cons_of_mem _ (List.mem_append_left _ (List.mem_append_right _ h))
abbrev RM_X6_isMoon : Room := { frames := 1, cells := 0, slots := 0, locals := 22 }
set_option maxHeartbeats 4000000 in
theorem kX6_isMoon (l : Launch) (D : va_G) (cA : Nat → ClassId) (m0 q0 q1 q2 q4 q7 q9 q15 : Nat) (v3 : Int32) (v5 : Int32) (v6 : Int32) (v8 : Int32) (v10 : Int32) (v11 : Int32) (v12 : Int32) (v13 : Int32) (v14 : Int32) (v16 : Int32) (ss : Nat → Int32) (x1 : Int32) {r : Int32} (hr : SX6_isMoon ss x1 = some r) : Met l yX6_isMoon wsX6_isMoon RM_X6_isMoon (va_Pc [.ref m0, .int x1] (rqB D cA [(m0, .inr (10, [.ref q0, .ref q1, .ref q2, .int v3, .ref q4, .int v5, .int v6, .ref q7, .int v8, .ref q9, .int v10, .int v11, .int v12, .int v13, .int v14, .ref q15, .int v16])), (q0, .inl (cA 0, 60, .inl ss))])) (rqQ (some (.int r))) 0 0 (fun _ => False) := by
  refine rq_ofW (cc := cX6_isMoon) (maxL := 2) (ret := (some .boolean)) (by decide) rfl (Nat.le_of_ble_eq_true rfl) (fun p e s m args below meth c ls Q hx hb hml hts hfc hK hP hl hend => ?_)
  have hfc : s.vm.findClass RX6 = some m.cls := hfc
  have hl : lv_has ls 2 [(0, .ref m0), (1, .int x1)] := hl
  have h := hr
  clear hr
  unfold SX6_isMoon at h
  refine lv_iload_n hx hb dX6_isMoon_0 rfl (lv_at hl 1 rfl) ?_
  refine lv_iconst (v := 0) hx hb dX6_isMoon_1 (by decide) ?_
  refine lv_aload_n hx hb dX6_isMoon_2 rfl (lv_at hl 0 rfl) ?_
  refine va_get (D := D) (ci := 10) (v := .ref q0) (C := RX6) (T := TX6) (N := 17) hx hb hts iX6_isMoon_X6 hfc hK hP 0 rfl rfl 0 (by decide) (hts (.fieldLink RX6 9 "BathtubTidesModel" "s" "[I") (List.mem_of_getElem? (i := 1) rfl)) (fun _ h9 => h9) rfl dX6_isMoon_3 ?_
  refine lv_iconst (v := 0) hx hb dX6_isMoon_6 (by decide) ?_
  refine va_iald hx hb hK hP 1 0 rfl rfl (vin _ _ (by decide)) dX6_isMoon_7 ?_
  refine lv_iconst (v := 1) hx hb dX6_isMoon_8 (by decide) ?_
  refine lv_isub hx hb dX6_isMoon_9 ?_
  refine rq_S (v := (some (.int (SX6_in x1 0 ((ss 0) - 1))))) (As := [.int x1, .int 0, .int ((ss 0) - 1)]) (rest := []) (wc := []) ⟨hx, hb, hml, hfc, hts⟩ hK hP (kX6_in l D cA x1 0 ((ss 0) - 1) rfl) (va_cwS 3 hts gX6_isMoon_X6_in rfl rfl rfl (by decide +kernel) ⟨(Nat.le_of_ble_eq_true rfl), (Nat.le_of_ble_eq_true rfl)⟩) [] rfl rfl rfl rfl hl.1 (Nat.le_of_ble_eq_true rfl) dX6_isMoon_10 ⟨(Nat.zero_le _), (Nat.zero_le _)⟩ ?_
  obtain ⟨g1, h⟩ := gd_i h
  have h := Option.some.inj h
  subst h
  exact hend _ _ _ _ rfl (rtn_n g1) dX6_isMoon_13
noncomputable def SX6_isTowel (ss : Nat → Int32) (x1 : Int32) : Option (Int32) := gd (narrow .boolean (.int (SX6_in x1 0 ((ss 1) - 1))) = .int (SX6_in x1 0 ((ss 1) - 1))) (some ((SX6_in x1 0 ((ss 1) - 1))))
theorem iX6_isTowel_X6 : ∀ w ∈ wsX60, w ∈ wsX6_isTowel := fun _ h => List.mem_cons_of_mem _ (List.mem_append_left _ (List.mem_append_right _ h))
abbrev RM_X6_isTowel : Room := { frames := 1, cells := 0, slots := 0, locals := 22 }
set_option maxHeartbeats 4000000 in
theorem kX6_isTowel (l : Launch) (D : va_G) (cA : Nat → ClassId) (m0 q0 q1 q2 q4 q7 q9 q15 : Nat) (v3 : Int32) (v5 : Int32) (v6 : Int32) (v8 : Int32) (v10 : Int32) (v11 : Int32) (v12 : Int32) (v13 : Int32) (v14 : Int32) (v16 : Int32) (ss : Nat → Int32) (x1 : Int32) {r : Int32} (hr : SX6_isTowel ss x1 = some r) : Met l yX6_isTowel wsX6_isTowel RM_X6_isTowel (va_Pc [.ref m0, .int x1] (rqB D cA [(m0, .inr (10, [.ref q0, .ref q1, .ref q2, .int v3, .ref q4, .int v5, .int v6, .ref q7, .int v8, .ref q9, .int v10, .int v11, .int v12, .int v13, .int v14, .ref q15, .int v16])), (q0, .inl (cA 0, 60, .inl ss))])) (rqQ (some (.int r))) 0 0 (fun _ => False) := by
  refine rq_ofW (cc := cX6_isTowel) (maxL := 2) (ret := (some .boolean)) (by decide) rfl (Nat.le_of_ble_eq_true rfl) (fun p e s m args below meth c ls Q hx hb hml hts hfc hK hP hl hend => ?_)
  have hfc : s.vm.findClass RX6 = some m.cls := hfc
  have hl : lv_has ls 2 [(0, .ref m0), (1, .int x1)] := hl
  have h := hr
  clear hr
  unfold SX6_isTowel at h
  refine lv_iload_n hx hb dX6_isTowel_0 rfl (lv_at hl 1 rfl) ?_
  refine lv_iconst (v := 0) hx hb dX6_isTowel_1 (by decide) ?_
  refine lv_aload_n hx hb dX6_isTowel_2 rfl (lv_at hl 0 rfl) ?_
  refine va_get (D := D) (ci := 10) (v := .ref q0) (C := RX6) (T := TX6) (N := 17) hx hb hts iX6_isTowel_X6 hfc hK hP 0 rfl rfl 0 (by decide) (hts (.fieldLink RX6 9 "BathtubTidesModel" "s" "[I") (List.mem_of_getElem? (i := 1) rfl)) (fun _ h9 => h9) rfl dX6_isTowel_3 ?_
  refine lv_iconst (v := 1) hx hb dX6_isTowel_6 (by decide) ?_
  refine va_iald hx hb hK hP 1 0 rfl rfl (vin _ _ (by decide)) dX6_isTowel_7 ?_
  refine lv_iconst (v := 1) hx hb dX6_isTowel_8 (by decide) ?_
  refine lv_isub hx hb dX6_isTowel_9 ?_
  refine rq_S (v := (some (.int (SX6_in x1 0 ((ss 1) - 1))))) (As := [.int x1, .int 0, .int ((ss 1) - 1)]) (rest := []) (wc := []) ⟨hx, hb, hml, hfc, hts⟩ hK hP (kX6_in l D cA x1 0 ((ss 1) - 1) rfl) (va_cwS 3 hts gX6_isTowel_X6_in rfl rfl rfl (by decide +kernel) ⟨(Nat.le_of_ble_eq_true rfl), (Nat.le_of_ble_eq_true rfl)⟩) [] rfl rfl rfl rfl hl.1 (Nat.le_of_ble_eq_true rfl) dX6_isTowel_10 ⟨(Nat.zero_le _), (Nat.zero_le _)⟩ ?_
  obtain ⟨g1, h⟩ := gd_i h
  have h := Option.some.inj h
  subst h
  exact hend _ _ _ _ rfl (rtn_n g1) dX6_isTowel_13
noncomputable def SX6_ofMoon (ss : Nat → Int32) (x1 : Int32) (x2 : Int32) : Option (Int32) := gd (vp_in ((19 + (5 * x1)) + x2) 60) (some (ss (Int32.toNatClampNeg ((19 + (5 * x1)) + x2))))
theorem iX6_ofMoon_X6 : ∀ w ∈ wsX60, w ∈ wsX6_ofMoon := fun _ h => List.mem_cons_of_mem _ (List.mem_append_left _ (List.mem_append_right _ h))
abbrev RM_X6_ofMoon : Room := { frames := 0, cells := 0, slots := 0, locals := 0 }
set_option maxHeartbeats 4000000 in
theorem kX6_ofMoon (l : Launch) (D : va_G) (cA : Nat → ClassId) (m0 q0 q1 q2 q4 q7 q9 q15 : Nat) (v3 : Int32) (v5 : Int32) (v6 : Int32) (v8 : Int32) (v10 : Int32) (v11 : Int32) (v12 : Int32) (v13 : Int32) (v14 : Int32) (v16 : Int32) (ss : Nat → Int32) (x1 : Int32) (x2 : Int32) {r : Int32} (hr : SX6_ofMoon ss x1 x2 = some r) : Met l yX6_ofMoon wsX6_ofMoon RM_X6_ofMoon (va_Pc [.ref m0, .int x1, .int x2] (rqB D cA [(m0, .inr (10, [.ref q0, .ref q1, .ref q2, .int v3, .ref q4, .int v5, .int v6, .ref q7, .int v8, .ref q9, .int v10, .int v11, .int v12, .int v13, .int v14, .ref q15, .int v16])), (q0, .inl (cA 0, 60, .inl ss))])) (rqQ (some (.int r))) 0 0 (fun _ => False) := by
  refine rq_ofW (cc := cX6_ofMoon) (maxL := 3) (ret := (some .int)) (by decide) rfl (Nat.le_of_ble_eq_true rfl) (fun p e s m args below meth c ls Q hx hb hml hts hfc hK hP hl hend => ?_)
  have hfc : s.vm.findClass RX6 = some m.cls := hfc
  have hl : lv_has ls 3 [(0, .ref m0), (1, .int x1), (2, .int x2)] := hl
  have h := hr
  clear hr
  unfold SX6_ofMoon at h
  refine lv_aload_n hx hb dX6_ofMoon_0 rfl (lv_at hl 0 rfl) ?_
  refine va_get (D := D) (ci := 10) (v := .ref q0) (C := RX6) (T := TX6) (N := 17) hx hb hts iX6_ofMoon_X6 hfc hK hP 0 rfl rfl 0 (by decide) (hts (.fieldLink RX6 9 "BathtubTidesModel" "s" "[I") (List.mem_of_getElem? (i := 1) rfl)) (fun _ h9 => h9) rfl dX6_ofMoon_1 ?_
  refine lv_bipush (v := 19) hx hb dX6_ofMoon_4 (by decide) ?_
  refine lv_iconst (v := 5) hx hb dX6_ofMoon_6 (by decide) ?_
  refine lv_iload_n hx hb dX6_ofMoon_7 rfl (lv_at hl 1 rfl) ?_
  refine lv_imul hx hb dX6_ofMoon_8 ?_
  refine lv_iadd hx hb dX6_ofMoon_9 ?_
  refine lv_iload_n hx hb dX6_ofMoon_10 rfl (lv_at hl 2 rfl) ?_
  refine lv_iadd hx hb dX6_ofMoon_11 ?_
  obtain ⟨g1, h⟩ := gd_i h
  refine va_iald hx hb hK hP 1 0 rfl rfl g1 dX6_ofMoon_12 ?_
  have h := Option.some.inj h
  subst h
  exact hend _ _ _ _ rfl (rtn_i _) dX6_ofMoon_13
noncomputable def SX6_ageIn (ss : Nat → Int32) (x1 : Int32) (x2 : Int32) : Option (Int32) := bnd (SX6_ofMoon ss x1 4) (fun o1 : Int32 => some (((ss 2) + x2) - o1))
theorem iX6_ageIn_X6 : ∀ w ∈ wsX60, w ∈ wsX6_ageIn := fun _ h => List.mem_cons_of_mem _ (List.mem_append_left _ (List.mem_append_right _ h))
abbrev RM_X6_ageIn : Room := { frames := 1, cells := 0, slots := 0, locals := 23 }
set_option maxHeartbeats 4000000 in
theorem kX6_ageIn (l : Launch) (D : va_G) (cA : Nat → ClassId) (m0 q0 q1 q2 q4 q7 q9 q15 : Nat) (v3 : Int32) (v5 : Int32) (v6 : Int32) (v8 : Int32) (v10 : Int32) (v11 : Int32) (v12 : Int32) (v13 : Int32) (v14 : Int32) (v16 : Int32) (ss : Nat → Int32) (x1 : Int32) (x2 : Int32) {r : Int32} (hr : SX6_ageIn ss x1 x2 = some r) : Met l yX6_ageIn wsX6_ageIn RM_X6_ageIn (va_Pc [.ref m0, .int x1, .int x2] (rqB D cA [(m0, .inr (10, [.ref q0, .ref q1, .ref q2, .int v3, .ref q4, .int v5, .int v6, .ref q7, .int v8, .ref q9, .int v10, .int v11, .int v12, .int v13, .int v14, .ref q15, .int v16])), (q0, .inl (cA 0, 60, .inl ss))])) (rqQ (some (.int r))) 0 0 (fun _ => False) := by
  refine rq_ofW (cc := cX6_ageIn) (maxL := 3) (ret := (some .int)) (by decide) rfl (Nat.le_of_ble_eq_true rfl) (fun p e s m args below meth c ls Q hx hb hml hts hfc hK hP hl hend => ?_)
  have hfc : s.vm.findClass RX6 = some m.cls := hfc
  have hl : lv_has ls 3 [(0, .ref m0), (1, .int x1), (2, .int x2)] := hl
  have h := hr
  clear hr
  unfold SX6_ageIn at h
  refine lv_aload_n hx hb dX6_ageIn_0 rfl (lv_at hl 0 rfl) ?_
  refine va_get (D := D) (ci := 10) (v := .ref q0) (C := RX6) (T := TX6) (N := 17) hx hb hts iX6_ageIn_X6 hfc hK hP 0 rfl rfl 0 (by decide) (hts (.fieldLink RX6 9 "BathtubTidesModel" "s" "[I") (List.mem_of_getElem? (i := 1) rfl)) (fun _ h9 => h9) rfl dX6_ageIn_1 ?_
  refine lv_iconst (v := 2) hx hb dX6_ageIn_4 (by decide) ?_
  refine va_iald hx hb hK hP 1 0 rfl rfl (vin _ _ (by decide)) dX6_ageIn_5 ?_
  refine lv_iload_n hx hb dX6_ageIn_6 rfl (lv_at hl 2 rfl) ?_
  refine lv_iadd hx hb dX6_ageIn_7 ?_
  refine lv_aload_n hx hb dX6_ageIn_8 rfl (lv_at hl 0 rfl) ?_
  refine lv_iload_n hx hb dX6_ageIn_9 rfl (lv_at hl 1 rfl) ?_
  refine lv_iconst (v := 4) hx hb dX6_ageIn_10 (by decide) ?_
  obtain ⟨o1, ho1, h⟩ := bnd_i h
  refine rq_V (v := (some (.int o1))) (As := [.int x1, .int 4]) (rest := [.int ((ss 2) + x2)]) (wc := [(m0, .inr (10, [.ref q0, .ref q1, .ref q2, .int v3, .ref q4, .int v5, .int v6, .ref q7, .int v8, .ref q9, .int v10, .int v11, .int v12, .int v13, .int v14, .ref q15, .int v16])), (q0, .inl (cA 0, 60, .inl ss))]) ⟨hx, hb, hml, hfc, hts⟩ hK hP (kX6_ofMoon l D cA m0 q0 q1 q2 q4 q7 q9 q15 v3 v5 v6 v8 v10 v11 v12 v13 v14 v16 ss x1 4 ho1) (cwV 2 hts gX6_ageIn_X6_ofMoon rfl rfl rfl (by decide +kernel) ⟨(Nat.le_of_ble_eq_true rfl), (Nat.le_of_ble_eq_true rfl)⟩) [0, 1] rfl 0 10 rfl rfl rfl rfl rfl rfl hl.1 (Nat.le_of_ble_eq_true rfl) dX6_ageIn_11 ⟨(Nat.zero_le _), (Nat.zero_le _)⟩ ?_
  refine lv_isub hx hb dX6_ageIn_14 ?_
  have h := Option.some.inj h
  subst h
  exact hend _ _ _ _ rfl (rtn_i _) dX6_ageIn_15
noncomputable def SX6_placeIn (ss : Nat → Int32) (x1 : Int32) (x2 : Int32) : Option (Int32) := bnd (SX6_ofMoon ss x1 2) (fun o1 : Int32 => bnd (SX6_ageIn ss x1 x2) (fun o2 : Int32 => bnd (SX6_ofMoon ss x1 3) (fun o3 : Int32 => gd (¬ o3 = 0) (some (irm (o1 + (o2 / o3)) 12)))))
abbrev RM_X6_placeIn : Room := { frames := 2, cells := 0, slots := 0, locals := 46 }
set_option maxHeartbeats 4000000 in
theorem kX6_placeIn (l : Launch) (D : va_G) (cA : Nat → ClassId) (m0 q0 q1 q2 q4 q7 q9 q15 : Nat) (v3 : Int32) (v5 : Int32) (v6 : Int32) (v8 : Int32) (v10 : Int32) (v11 : Int32) (v12 : Int32) (v13 : Int32) (v14 : Int32) (v16 : Int32) (ss : Nat → Int32) (x1 : Int32) (x2 : Int32) {r : Int32} (hr : SX6_placeIn ss x1 x2 = some r) : Met l yX6_placeIn wsX6_placeIn RM_X6_placeIn (va_Pc [.ref m0, .int x1, .int x2] (rqB D cA [(m0, .inr (10, [.ref q0, .ref q1, .ref q2, .int v3, .ref q4, .int v5, .int v6, .ref q7, .int v8, .ref q9, .int v10, .int v11, .int v12, .int v13, .int v14, .ref q15, .int v16])), (q0, .inl (cA 0, 60, .inl ss))])) (rqQ (some (.int r))) 0 0 (fun _ => False) := by
  refine rq_ofW (cc := cX6_placeIn) (maxL := 3) (ret := (some .int)) (by decide) rfl (Nat.le_of_ble_eq_true rfl) (fun p e s m args below meth c ls Q hx hb hml hts hfc hK hP hl hend => ?_)
  have hfc : s.vm.findClass RX6 = some m.cls := hfc
  have hl : lv_has ls 3 [(0, .ref m0), (1, .int x1), (2, .int x2)] := hl
  have h := hr
  clear hr
  unfold SX6_placeIn at h
  refine lv_aload_n hx hb dX6_placeIn_0 rfl (lv_at hl 0 rfl) ?_
  refine lv_iload_n hx hb dX6_placeIn_1 rfl (lv_at hl 1 rfl) ?_
  refine lv_iconst (v := 2) hx hb dX6_placeIn_2 (by decide) ?_
  obtain ⟨o1, ho1, h⟩ := bnd_i h
  refine rq_V (v := (some (.int o1))) (As := [.int x1, .int 2]) (rest := []) (wc := [(m0, .inr (10, [.ref q0, .ref q1, .ref q2, .int v3, .ref q4, .int v5, .int v6, .ref q7, .int v8, .ref q9, .int v10, .int v11, .int v12, .int v13, .int v14, .ref q15, .int v16])), (q0, .inl (cA 0, 60, .inl ss))]) ⟨hx, hb, hml, hfc, hts⟩ hK hP (kX6_ofMoon l D cA m0 q0 q1 q2 q4 q7 q9 q15 v3 v5 v6 v8 v10 v11 v12 v13 v14 v16 ss x1 2 ho1) (cwV 2 hts gX6_placeIn_X6_ofMoon rfl rfl rfl (by decide +kernel) ⟨(Nat.le_of_ble_eq_true rfl), (Nat.le_of_ble_eq_true rfl)⟩) [0, 1] rfl 0 10 rfl rfl rfl rfl rfl rfl hl.1 (Nat.le_of_ble_eq_true rfl) dX6_placeIn_3 ⟨(Nat.zero_le _), (Nat.zero_le _)⟩ ?_
  refine lv_aload_n hx hb dX6_placeIn_6 rfl (lv_at hl 0 rfl) ?_
  refine lv_iload_n hx hb dX6_placeIn_7 rfl (lv_at hl 1 rfl) ?_
  refine lv_iload_n hx hb dX6_placeIn_8 rfl (lv_at hl 2 rfl) ?_
  obtain ⟨o2, ho2, h⟩ := bnd_i h
  refine rq_V (v := (some (.int o2))) (As := [.int x1, .int x2]) (rest := [.int o1]) (wc := [(m0, .inr (10, [.ref q0, .ref q1, .ref q2, .int v3, .ref q4, .int v5, .int v6, .ref q7, .int v8, .ref q9, .int v10, .int v11, .int v12, .int v13, .int v14, .ref q15, .int v16])), (q0, .inl (cA 0, 60, .inl ss))]) ⟨hx, hb, hml, hfc, hts⟩ hK hP (kX6_ageIn l D cA m0 q0 q1 q2 q4 q7 q9 q15 v3 v5 v6 v8 v10 v11 v12 v13 v14 v16 ss x1 x2 ho2) (cwV 2 hts gX6_placeIn_X6_ageIn rfl rfl rfl (by decide +kernel) ⟨(Nat.le_of_ble_eq_true rfl), (Nat.le_of_ble_eq_true rfl)⟩) [0, 1] rfl 0 10 rfl rfl rfl rfl rfl rfl hl.1 (Nat.le_of_ble_eq_true rfl) dX6_placeIn_9 ⟨(Nat.zero_le _), (Nat.zero_le _)⟩ ?_
  refine lv_aload_n hx hb dX6_placeIn_12 rfl (lv_at hl 0 rfl) ?_
  refine lv_iload_n hx hb dX6_placeIn_13 rfl (lv_at hl 1 rfl) ?_
  refine lv_iconst (v := 3) hx hb dX6_placeIn_14 (by decide) ?_
  obtain ⟨o3, ho3, h⟩ := bnd_i h
  refine rq_V (v := (some (.int o3))) (As := [.int x1, .int 3]) (rest := [.int o2, .int o1]) (wc := [(m0, .inr (10, [.ref q0, .ref q1, .ref q2, .int v3, .ref q4, .int v5, .int v6, .ref q7, .int v8, .ref q9, .int v10, .int v11, .int v12, .int v13, .int v14, .ref q15, .int v16])), (q0, .inl (cA 0, 60, .inl ss))]) ⟨hx, hb, hml, hfc, hts⟩ hK hP (kX6_ofMoon l D cA m0 q0 q1 q2 q4 q7 q9 q15 v3 v5 v6 v8 v10 v11 v12 v13 v14 v16 ss x1 3 ho3) (cwV 2 hts gX6_placeIn_X6_ofMoon rfl rfl rfl (by decide +kernel) ⟨(Nat.le_of_ble_eq_true rfl), (Nat.le_of_ble_eq_true rfl)⟩) [0, 1] rfl 0 10 rfl rfl rfl rfl rfl rfl hl.1 (Nat.le_of_ble_eq_true rfl) dX6_placeIn_15 ⟨(Nat.zero_le _), (Nat.zero_le _)⟩ ?_
  obtain ⟨g4, h⟩ := gd_i h
  refine lv_idiv hx hb dX6_placeIn_18 g4 ?_
  refine lv_iadd hx hb dX6_placeIn_19 ?_
  refine lv_bipush (v := 12) hx hb dX6_placeIn_20 (by decide) ?_
  refine lv_irem hx hb dX6_placeIn_22 (by decide) ?_
  have h := Option.some.inj h
  subst h
  exact hend _ _ _ _ rfl (rtn_i _) dX6_placeIn_23
noncomputable def SX6_massIn (ss : Nat → Int32) (x1 : Int32) (x2 : Int32) : Option (Int32) := bnd (SX6_ofMoon ss x1 1) (fun o1 : Int32 => bnd (SX6_ageIn ss x1 x2) (fun o2 : Int32 => bnd (SX6_ofMoon ss x1 0) (fun o3 : Int32 => if o3 = 0 then (some (o1)) else (if o3 = 1 then (some (imax 0 (o1 - (o2 / 10)))) else (if (irm o2 2) = 0 then (some (o1)) else (some (o1 / 2)))))))
abbrev RM_X6_massIn : Room := { frames := 2, cells := 0, slots := 0, locals := 45 }
set_option maxHeartbeats 4000000 in
theorem kX6_massIn (l : Launch) (D : va_G) (cA : Nat → ClassId) (m0 q0 q1 q2 q4 q7 q9 q15 : Nat) (v3 : Int32) (v5 : Int32) (v6 : Int32) (v8 : Int32) (v10 : Int32) (v11 : Int32) (v12 : Int32) (v13 : Int32) (v14 : Int32) (v16 : Int32) (ss : Nat → Int32) (x1 : Int32) (x2 : Int32) {r : Int32} (hr : SX6_massIn ss x1 x2 = some r) : Met l yX6_massIn wsX6_massIn RM_X6_massIn (va_Pc [.ref m0, .int x1, .int x2] (rqB D cA [(m0, .inr (10, [.ref q0, .ref q1, .ref q2, .int v3, .ref q4, .int v5, .int v6, .ref q7, .int v8, .ref q9, .int v10, .int v11, .int v12, .int v13, .int v14, .ref q15, .int v16])), (q0, .inl (cA 0, 60, .inl ss))])) (rqQ (some (.int r))) 0 0 (fun _ => False) := by
  refine rq_ofW (cc := cX6_massIn) (maxL := 5) (ret := (some .int)) (by decide) rfl (Nat.le_of_ble_eq_true rfl) (fun p e s m args below meth c ls Q hx hb hml hts hfc hK hP hl hend => ?_)
  have hfc : s.vm.findClass RX6 = some m.cls := hfc
  have hl : lv_has ls 5 [(0, .ref m0), (1, .int x1), (2, .int x2)] := hl
  have h := hr
  clear hr
  unfold SX6_massIn at h
  refine lv_aload_n hx hb dX6_massIn_0 rfl (lv_at hl 0 rfl) ?_
  refine lv_iload_n hx hb dX6_massIn_1 rfl (lv_at hl 1 rfl) ?_
  refine lv_iconst (v := 1) hx hb dX6_massIn_2 (by decide) ?_
  obtain ⟨o1, ho1, h⟩ := bnd_i h
  refine rq_V (v := (some (.int o1))) (As := [.int x1, .int 1]) (rest := []) (wc := [(m0, .inr (10, [.ref q0, .ref q1, .ref q2, .int v3, .ref q4, .int v5, .int v6, .ref q7, .int v8, .ref q9, .int v10, .int v11, .int v12, .int v13, .int v14, .ref q15, .int v16])), (q0, .inl (cA 0, 60, .inl ss))]) ⟨hx, hb, hml, hfc, hts⟩ hK hP (kX6_ofMoon l D cA m0 q0 q1 q2 q4 q7 q9 q15 v3 v5 v6 v8 v10 v11 v12 v13 v14 v16 ss x1 1 ho1) (cwV 2 hts gX6_massIn_X6_ofMoon rfl rfl rfl (by decide +kernel) ⟨(Nat.le_of_ble_eq_true rfl), (Nat.le_of_ble_eq_true rfl)⟩) [0, 1] rfl 0 10 rfl rfl rfl rfl rfl rfl hl.1 (Nat.le_of_ble_eq_true rfl) dX6_massIn_3 ⟨(Nat.zero_le _), (Nat.zero_le _)⟩ ?_
  refine lv_istore_n hx hb dX6_massIn_6 rfl hl (Nat.le_of_ble_eq_true rfl) rfl (fun ls hl => ?_)
  have hl : lv_has ls 5 [(3, .int o1), (0, .ref m0), (1, .int x1), (2, .int x2)] := hl
  refine lv_aload_n hx hb dX6_massIn_7 rfl (lv_at hl 1 rfl) ?_
  refine lv_iload_n hx hb dX6_massIn_8 rfl (lv_at hl 2 rfl) ?_
  refine lv_iload_n hx hb dX6_massIn_9 rfl (lv_at hl 3 rfl) ?_
  obtain ⟨o2, ho2, h⟩ := bnd_i h
  refine rq_V (v := (some (.int o2))) (As := [.int x1, .int x2]) (rest := []) (wc := [(m0, .inr (10, [.ref q0, .ref q1, .ref q2, .int v3, .ref q4, .int v5, .int v6, .ref q7, .int v8, .ref q9, .int v10, .int v11, .int v12, .int v13, .int v14, .ref q15, .int v16])), (q0, .inl (cA 0, 60, .inl ss))]) ⟨hx, hb, hml, hfc, hts⟩ hK hP (kX6_ageIn l D cA m0 q0 q1 q2 q4 q7 q9 q15 v3 v5 v6 v8 v10 v11 v12 v13 v14 v16 ss x1 x2 ho2) (cwV 2 hts gX6_massIn_X6_ageIn rfl rfl rfl (by decide +kernel) ⟨(Nat.le_of_ble_eq_true rfl), (Nat.le_of_ble_eq_true rfl)⟩) [0, 1] rfl 0 10 rfl rfl rfl rfl rfl rfl hl.1 (Nat.le_of_ble_eq_true rfl) dX6_massIn_10 ⟨(Nat.zero_le _), (Nat.zero_le _)⟩ ?_
  refine lv_istore hx hb dX6_massIn_13 hl (Nat.le_of_ble_eq_true rfl) rfl (fun ls hl => ?_)
  have hl : lv_has ls 5 [(4, .int o2), (3, .int o1), (0, .ref m0), (1, .int x1), (2, .int x2)] := hl
  refine lv_aload_n hx hb dX6_massIn_15 rfl (lv_at hl 2 rfl) ?_
  refine lv_iload_n hx hb dX6_massIn_16 rfl (lv_at hl 3 rfl) ?_
  refine lv_iconst (v := 0) hx hb dX6_massIn_17 (by decide) ?_
  obtain ⟨o3, ho3, h⟩ := bnd_i h
  refine rq_V (v := (some (.int o3))) (As := [.int x1, .int 0]) (rest := []) (wc := [(m0, .inr (10, [.ref q0, .ref q1, .ref q2, .int v3, .ref q4, .int v5, .int v6, .ref q7, .int v8, .ref q9, .int v10, .int v11, .int v12, .int v13, .int v14, .ref q15, .int v16])), (q0, .inl (cA 0, 60, .inl ss))]) ⟨hx, hb, hml, hfc, hts⟩ hK hP (kX6_ofMoon l D cA m0 q0 q1 q2 q4 q7 q9 q15 v3 v5 v6 v8 v10 v11 v12 v13 v14 v16 ss x1 0 ho3) (cwV 2 hts gX6_massIn_X6_ofMoon rfl rfl rfl (by decide +kernel) ⟨(Nat.le_of_ble_eq_true rfl), (Nat.le_of_ble_eq_true rfl)⟩) [0, 1] rfl 0 10 rfl rfl rfl rfl rfl rfl hl.1 (Nat.le_of_ble_eq_true rfl) dX6_massIn_18 ⟨(Nat.zero_le _), (Nat.zero_le _)⟩ ?_
  by_cases c4 : o3 = 0
  · have h := ite_t c4 h
    refine lv_lookup (off := 27) (tgt := 48) hx hb dX6_massIn_21 (by decide) (by rw [c4]; decide) (by decide) ?_
    refine lv_iload_n hx hb dX6_massIn_48 rfl (lv_at hl 1 rfl) ?_
    have h := Option.some.inj h
    subst h
    exact hend _ _ _ _ rfl (rtn_i _) dX6_massIn_49
  · have h := ite_f c4 h
    by_cases c5 : o3 = 1
    · have h := ite_t c5 h
      refine lv_lookup (off := 29) (tgt := 50) hx hb dX6_massIn_21 (by decide) (by rw [c5]; decide) (by decide) ?_
      refine lv_iconst (v := 0) hx hb dX6_massIn_50 (by decide) ?_
      refine lv_iload_n hx hb dX6_massIn_51 rfl (lv_at hl 1 rfl) ?_
      refine lv_iload hx hb dX6_massIn_52 (lv_at hl 0 rfl) ?_
      refine lv_bipush (v := 10) hx hb dX6_massIn_54 (by decide) ?_
      refine lv_idiv hx hb dX6_massIn_56 (by decide) ?_
      refine lv_isub hx hb dX6_massIn_57 ?_
      refine va_mmax hx hb (hml.trans hl.1.symm) hfc (hts (.methodLink RX6 62 Lib.Math.max.name) (List.mem_of_getElem? (i := 1) rfl)) (hts (.static Lib.Math.max.name) (List.mem_of_getElem? (i := 2) rfl)) (hts (.initialized "java/lang/Math") (List.mem_of_getElem? (i := 3) rfl)) (hts (.code Lib.Math.max.name Lib.Math.max.code 2 (some .int)) (List.mem_of_getElem? (i := 4) rfl)) (Nat.le_of_ble_eq_true rfl) (Nat.le_of_ble_eq_true rfl) (Nat.zero_le _) (Nat.zero_le _) dX6_massIn_58 ?_
      have h := Option.some.inj h
      subst h
      exact hend _ _ _ _ rfl (rtn_i _) dX6_massIn_61
    · have h := ite_f c5 h
      refine lv_lookup (off := 41) (tgt := 62) hx hb dX6_massIn_21 (by decide) ((lv_osw c4 (by decide)).trans ((lv_osw c5 (by decide)).trans rfl)) (by decide) ?_
      refine lv_iload hx hb dX6_massIn_62 (lv_at hl 0 rfl) ?_
      refine lv_iconst (v := 2) hx hb dX6_massIn_64 (by decide) ?_
      refine lv_irem hx hb dX6_massIn_65 (by decide) ?_
      refine lv_if_ne (tgt := 73) hx hb dX6_massIn_66 (by decide) (fun c6 => ?_) (fun c6 => ?_)
      · have h := ite_f c6 h
        refine lv_iload_n hx hb dX6_massIn_73 rfl (lv_at hl 1 rfl) ?_
        refine lv_iconst (v := 2) hx hb dX6_massIn_74 (by decide) ?_
        refine lv_idiv hx hb dX6_massIn_75 (by decide) ?_
        have h := Option.some.inj h
        subst h
        exact hend _ _ _ _ rfl (rtn_i _) dX6_massIn_76
      · have h := ite_t c6 h
        refine lv_iload_n hx hb dX6_massIn_69 rfl (lv_at hl 1 rfl) ?_
        refine lv_goto (tgt := 76) hx hb dX6_massIn_70 (by decide) ?_
        have h := Option.some.inj h
        subst h
        exact hend _ _ _ _ rfl (rtn_i _) dX6_massIn_76
noncomputable def SX6_isShaded (ss : Nat → Int32) (x1 : Int32) (x2 : Int32) : Option (Int32) := if (ss 6) < 0 then (some (0)) else (bnd (SX6_placeIn ss x1 x2) (fun o2 : Int32 => if (irm (o2 + 6) 12) = (ss 6) then (some (1)) else (some (0))))
theorem iX6_isShaded_X6 : ∀ w ∈ wsX60, w ∈ wsX6_isShaded := fun _ h => List.mem_cons_of_mem _ (List.mem_append_left _ (List.mem_append_left _ (List.mem_append_right _ h)))
abbrev RM_X6_isShaded : Room := { frames := 3, cells := 0, slots := 0, locals := 68 }
set_option maxHeartbeats 4000000 in
theorem kX6_isShaded (l : Launch) (D : va_G) (cA : Nat → ClassId) (m0 q0 q1 q2 q4 q7 q9 q15 : Nat) (v3 : Int32) (v5 : Int32) (v6 : Int32) (v8 : Int32) (v10 : Int32) (v11 : Int32) (v12 : Int32) (v13 : Int32) (v14 : Int32) (v16 : Int32) (ss : Nat → Int32) (x1 : Int32) (x2 : Int32) {r : Int32} (hr : SX6_isShaded ss x1 x2 = some r) : Met l yX6_isShaded wsX6_isShaded RM_X6_isShaded (va_Pc [.ref m0, .int x1, .int x2] (rqB D cA [(m0, .inr (10, [.ref q0, .ref q1, .ref q2, .int v3, .ref q4, .int v5, .int v6, .ref q7, .int v8, .ref q9, .int v10, .int v11, .int v12, .int v13, .int v14, .ref q15, .int v16])), (q0, .inl (cA 0, 60, .inl ss))])) (rqQ (some (.int r))) 0 0 (fun _ => False) := by
  refine rq_ofW (cc := cX6_isShaded) (maxL := 3) (ret := (some .boolean)) (by decide) rfl (Nat.le_of_ble_eq_true rfl) (fun p e s m args below meth c ls Q hx hb hml hts hfc hK hP hl hend => ?_)
  have hfc : s.vm.findClass RX6 = some m.cls := hfc
  have hl : lv_has ls 3 [(0, .ref m0), (1, .int x1), (2, .int x2)] := hl
  have h := hr
  clear hr
  unfold SX6_isShaded at h
  refine lv_aload_n hx hb dX6_isShaded_0 rfl (lv_at hl 0 rfl) ?_
  refine va_get (D := D) (ci := 10) (v := .ref q0) (C := RX6) (T := TX6) (N := 17) hx hb hts iX6_isShaded_X6 hfc hK hP 0 rfl rfl 0 (by decide) (hts (.fieldLink RX6 9 "BathtubTidesModel" "s" "[I") (List.mem_of_getElem? (i := 1) rfl)) (fun _ h9 => h9) rfl dX6_isShaded_1 ?_
  refine lv_bipush (v := 6) hx hb dX6_isShaded_4 (by decide) ?_
  refine va_iald hx hb hK hP 1 0 rfl rfl (vin _ _ (by decide)) dX6_isShaded_6 ?_
  refine lv_if_lt (tgt := 36) hx hb dX6_isShaded_7 (by decide) (fun c1 => ?_) (fun c1 => ?_)
  · have h := ite_t c1 h
    refine lv_iconst (v := 0) hx hb dX6_isShaded_36 (by decide) ?_
    have h := Option.some.inj h
    subst h
    exact hend _ _ _ _ rfl (rtn_n (x := 0) rfl) dX6_isShaded_37
  · have h := ite_f c1 h
    refine lv_aload_n hx hb dX6_isShaded_10 rfl (lv_at hl 0 rfl) ?_
    refine lv_iload_n hx hb dX6_isShaded_11 rfl (lv_at hl 1 rfl) ?_
    refine lv_iload_n hx hb dX6_isShaded_12 rfl (lv_at hl 2 rfl) ?_
    obtain ⟨o2, ho2, h⟩ := bnd_i h
    refine rq_V (v := (some (.int o2))) (As := [.int x1, .int x2]) (rest := []) (wc := [(m0, .inr (10, [.ref q0, .ref q1, .ref q2, .int v3, .ref q4, .int v5, .int v6, .ref q7, .int v8, .ref q9, .int v10, .int v11, .int v12, .int v13, .int v14, .ref q15, .int v16])), (q0, .inl (cA 0, 60, .inl ss))]) ⟨hx, hb, hml, hfc, hts⟩ hK hP (kX6_placeIn l D cA m0 q0 q1 q2 q4 q7 q9 q15 v3 v5 v6 v8 v10 v11 v12 v13 v14 v16 ss x1 x2 ho2) (cwV 2 hts gX6_isShaded_X6_placeIn rfl rfl rfl (by decide +kernel) ⟨(Nat.le_of_ble_eq_true rfl), (Nat.le_of_ble_eq_true rfl)⟩) [0, 1] rfl 0 10 rfl rfl rfl rfl rfl rfl hl.1 (Nat.le_of_ble_eq_true rfl) dX6_isShaded_13 ⟨(Nat.zero_le _), (Nat.zero_le _)⟩ ?_
    refine lv_bipush (v := 6) hx hb dX6_isShaded_16 (by decide) ?_
    refine lv_iadd hx hb dX6_isShaded_18 ?_
    refine lv_bipush (v := 12) hx hb dX6_isShaded_19 (by decide) ?_
    refine lv_irem hx hb dX6_isShaded_21 (by decide) ?_
    refine lv_aload_n hx hb dX6_isShaded_22 rfl (lv_at hl 0 rfl) ?_
    refine va_get (D := D) (ci := 10) (v := .ref q0) (C := RX6) (T := TX6) (N := 17) hx hb hts iX6_isShaded_X6 hfc hK hP 0 rfl rfl 0 (by decide) (hts (.fieldLink RX6 9 "BathtubTidesModel" "s" "[I") (List.mem_of_getElem? (i := 1) rfl)) (fun _ h9 => h9) rfl dX6_isShaded_23 ?_
    refine lv_bipush (v := 6) hx hb dX6_isShaded_26 (by decide) ?_
    refine va_iald hx hb hK hP 1 0 rfl rfl (vin _ _ (by decide)) dX6_isShaded_28 ?_
    refine lv_icmp_ne (tgt := 36) hx hb dX6_isShaded_29 (by decide) (fun c3 => ?_) (fun c3 => ?_)
    · have h := ite_f c3 h
      refine lv_iconst (v := 0) hx hb dX6_isShaded_36 (by decide) ?_
      have h := Option.some.inj h
      subst h
      exact hend _ _ _ _ rfl (rtn_n (x := 0) rfl) dX6_isShaded_37
    · have h := ite_t c3 h
      refine lv_iconst (v := 1) hx hb dX6_isShaded_32 (by decide) ?_
      refine lv_goto (tgt := 37) hx hb dX6_isShaded_33 (by decide) ?_
      have h := Option.some.inj h
      subst h
      exact hend _ _ _ _ rfl (rtn_n (x := 1) rfl) dX6_isShaded_37
noncomputable def LX6_tide_5 (ss : Nat → Int32) (x1 : Int32) (x2 : Int32) : Nat → Int32 → Int32 → Option (Int32)
  | 0, _, _ => none
  | fu + 1, x3_5, x4_5 => if (ss 0) ≤ x4_5 then (gd (vp_in (7 + x1) 60) (if (ss (Int32.toNatClampNeg (7 + x1))) = 1 then (some (x3_5 / 2)) else (some (x3_5)))) else (bnd (SX6_massIn ss x4_5 x2) (fun o4 : Int32 => bnd (SX6_placeIn ss x4_5 x2) (fun o5 : Int32 => lt_ (o4 * (3 - (SX6_far x1 o5))) (fun t6 : Int32 => bnd (SX6_isShaded ss x4_5 x2) (fun o7 : Int32 => lt_ (if o7 = 0 then (t6) else (0)) (fun o9 : Int32 => LX6_tide_5 ss x1 x2 fu (x3_5 + o9) (x4_5 + 1)))))))
noncomputable def SX6_tide (N : Nat) (ss : Nat → Int32) (x1 : Int32) (x2 : Int32) : Option (Int32) := LX6_tide_5 ss x1 x2 N 0 0
theorem iX6_tide_X6 : ∀ w ∈ wsX60, w ∈ wsX6_tide := fun _ h => List.mem_cons_of_mem _ (List.mem_append_left _ (List.mem_append_left _ (List.mem_append_right _ h)))
abbrev RM_X6_tide : Room := { frames := 4, cells := 0, slots := 0, locals := 91 }
set_option maxHeartbeats 4000000 in
theorem kX6_tide (l : Launch) (D : va_G) (cA : Nat → ClassId) (m0 q0 q1 q2 q4 q7 q9 q15 : Nat) (N : Nat) (v3 : Int32) (v5 : Int32) (v6 : Int32) (v8 : Int32) (v10 : Int32) (v11 : Int32) (v12 : Int32) (v13 : Int32) (v14 : Int32) (v16 : Int32) (ss : Nat → Int32) (x1 : Int32) (x2 : Int32) {r : Int32} (hr : SX6_tide N ss x1 x2 = some r) : Met l yX6_tide wsX6_tide RM_X6_tide (va_Pc [.ref m0, .int x1, .int x2] (rqB D cA [(m0, .inr (10, [.ref q0, .ref q1, .ref q2, .int v3, .ref q4, .int v5, .int v6, .ref q7, .int v8, .ref q9, .int v10, .int v11, .int v12, .int v13, .int v14, .ref q15, .int v16])), (q0, .inl (cA 0, 60, .inl ss))])) (rqQ (some (.int r))) 0 0 (fun _ => False) := by
  refine rq_ofW (cc := cX6_tide) (maxL := 6) (ret := (some .int)) (by decide) rfl (Nat.le_of_ble_eq_true rfl) (fun p e s m args below meth c ls Q hx hb hml hts hfc hK hP hl hend => ?_)
  have hfc : s.vm.findClass RX6 = some m.cls := hfc
  have hl : lv_has ls 6 [(0, .ref m0), (1, .int x1), (2, .int x2)] := hl
  have h := hr
  clear hr
  unfold SX6_tide at h
  refine lv_iconst (v := 0) hx hb dX6_tide_0 (by decide) ?_
  refine lv_istore_n hx hb dX6_tide_1 rfl hl (Nat.le_of_ble_eq_true rfl) rfl (fun ls hl => ?_)
  have hl : lv_has ls 6 [(3, .int 0), (0, .ref m0), (1, .int x1), (2, .int x2)] := hl
  refine lv_iconst (v := 0) hx hb dX6_tide_2 (by decide) ?_
  refine lv_istore hx hb dX6_tide_3 hl (Nat.le_of_ble_eq_true rfl) rfl (fun ls hl => ?_)
  have hl : lv_has ls 6 [(4, .int 0), (3, .int 0), (0, .ref m0), (1, .int x1), (2, .int x2)] := hl
  have hLX6_tide_5 : ∀ (fu : Nat) (x3_5 : Int32) (x4_5 : Int32) (ls : Array Slot), lv_has ls 6 [(0, .ref m0), (1, .int x1), (2, .int x2), (3, .int x3_5), (4, .int x4_5)] → LX6_tide_5 ss x1 x2 fu x3_5 x4_5 = some r → W p l e RM_X6_tide s m args below meth c s.heap [] 0 0 Q (F0 m 5 ls []) := by
    intro fu
    induction fu with
    | zero =>
      intro x3_5 x4_5 ls hl h
      rw [LX6_tide_5] at h
      exact nn h
    | succ fu ih =>
      intro x3_5 x4_5 ls hl h
      rw [LX6_tide_5] at h
      refine lv_iload hx hb dX6_tide_5 (lv_at hl 4 rfl) ?_
      refine lv_aload_n hx hb dX6_tide_7 rfl (lv_at hl 0 rfl) ?_
      refine va_get (D := D) (ci := 10) (v := .ref q0) (C := RX6) (T := TX6) (N := 17) hx hb hts iX6_tide_X6 hfc hK hP 0 rfl rfl 0 (by decide) (hts (.fieldLink RX6 9 "BathtubTidesModel" "s" "[I") (List.mem_of_getElem? (i := 1) rfl)) (fun _ h9 => h9) rfl dX6_tide_8 ?_
      refine lv_iconst (v := 0) hx hb dX6_tide_11 (by decide) ?_
      refine va_iald hx hb hK hP 1 0 rfl rfl (vin _ _ (by decide)) dX6_tide_12 ?_
      refine lv_icmp_ge (tgt := 64) hx hb dX6_tide_13 (by decide) (fun c1 => ?_) (fun c1 => ?_)
      · have h := ite_t c1 h
        refine lv_aload_n hx hb dX6_tide_64 rfl (lv_at hl 0 rfl) ?_
        refine va_get (D := D) (ci := 10) (v := .ref q0) (C := RX6) (T := TX6) (N := 17) hx hb hts iX6_tide_X6 hfc hK hP 0 rfl rfl 0 (by decide) (hts (.fieldLink RX6 9 "BathtubTidesModel" "s" "[I") (List.mem_of_getElem? (i := 1) rfl)) (fun _ h9 => h9) rfl dX6_tide_65 ?_
        refine lv_bipush (v := 7) hx hb dX6_tide_68 (by decide) ?_
        refine lv_iload_n hx hb dX6_tide_70 rfl (lv_at hl 1 rfl) ?_
        refine lv_iadd hx hb dX6_tide_71 ?_
        obtain ⟨g2, h⟩ := gd_i h
        refine va_iald hx hb hK hP 1 0 rfl rfl g2 dX6_tide_72 ?_
        refine lv_iconst (v := 1) hx hb dX6_tide_73 (by decide) ?_
        refine lv_icmp_ne (tgt := 83) hx hb dX6_tide_74 (by decide) (fun c3 => ?_) (fun c3 => ?_)
        · have h := ite_f c3 h
          refine lv_iload_n hx hb dX6_tide_83 rfl (lv_at hl 3 rfl) ?_
          have h := Option.some.inj h
          subst h
          exact hend _ _ _ _ rfl (rtn_i _) dX6_tide_84
        · have h := ite_t c3 h
          refine lv_iload_n hx hb dX6_tide_77 rfl (lv_at hl 3 rfl) ?_
          refine lv_iconst (v := 2) hx hb dX6_tide_78 (by decide) ?_
          refine lv_idiv hx hb dX6_tide_79 (by decide) ?_
          refine lv_goto (tgt := 84) hx hb dX6_tide_80 (by decide) ?_
          have h := Option.some.inj h
          subst h
          exact hend _ _ _ _ rfl (rtn_i _) dX6_tide_84
      · have h := ite_f c1 h
        refine lv_aload_n hx hb dX6_tide_16 rfl (lv_at hl 0 rfl) ?_
        refine lv_iload hx hb dX6_tide_17 (lv_at hl 4 rfl) ?_
        refine lv_iload_n hx hb dX6_tide_19 rfl (lv_at hl 2 rfl) ?_
        obtain ⟨o4, ho4, h⟩ := bnd_i h
        refine rq_V (v := (some (.int o4))) (As := [.int x4_5, .int x2]) (rest := []) (wc := [(m0, .inr (10, [.ref q0, .ref q1, .ref q2, .int v3, .ref q4, .int v5, .int v6, .ref q7, .int v8, .ref q9, .int v10, .int v11, .int v12, .int v13, .int v14, .ref q15, .int v16])), (q0, .inl (cA 0, 60, .inl ss))]) ⟨hx, hb, hml, hfc, hts⟩ hK hP (kX6_massIn l D cA m0 q0 q1 q2 q4 q7 q9 q15 v3 v5 v6 v8 v10 v11 v12 v13 v14 v16 ss x4_5 x2 ho4) (cwV 2 hts gX6_tide_X6_massIn rfl rfl rfl (by decide +kernel) ⟨(Nat.le_of_ble_eq_true rfl), (Nat.le_of_ble_eq_true rfl)⟩) [0, 1] rfl 0 10 rfl rfl rfl rfl rfl rfl hl.1 (Nat.le_of_ble_eq_true rfl) dX6_tide_20 ⟨(Nat.zero_le _), (Nat.zero_le _)⟩ ?_
        refine lv_iconst (v := 3) hx hb dX6_tide_23 (by decide) ?_
        refine lv_iload_n hx hb dX6_tide_24 rfl (lv_at hl 1 rfl) ?_
        refine lv_aload_n hx hb dX6_tide_25 rfl (lv_at hl 0 rfl) ?_
        refine lv_iload hx hb dX6_tide_26 (lv_at hl 4 rfl) ?_
        refine lv_iload_n hx hb dX6_tide_28 rfl (lv_at hl 2 rfl) ?_
        obtain ⟨o5, ho5, h⟩ := bnd_i h
        refine rq_V (v := (some (.int o5))) (As := [.int x4_5, .int x2]) (rest := [.int x1, .int 3, .int o4]) (wc := [(m0, .inr (10, [.ref q0, .ref q1, .ref q2, .int v3, .ref q4, .int v5, .int v6, .ref q7, .int v8, .ref q9, .int v10, .int v11, .int v12, .int v13, .int v14, .ref q15, .int v16])), (q0, .inl (cA 0, 60, .inl ss))]) ⟨hx, hb, hml, hfc, hts⟩ hK hP (kX6_placeIn l D cA m0 q0 q1 q2 q4 q7 q9 q15 v3 v5 v6 v8 v10 v11 v12 v13 v14 v16 ss x4_5 x2 ho5) (cwV 2 hts gX6_tide_X6_placeIn rfl rfl rfl (by decide +kernel) ⟨(Nat.le_of_ble_eq_true rfl), (Nat.le_of_ble_eq_true rfl)⟩) [0, 1] rfl 0 10 rfl rfl rfl rfl rfl rfl hl.1 (Nat.le_of_ble_eq_true rfl) dX6_tide_29 ⟨(Nat.zero_le _), (Nat.zero_le _)⟩ ?_
        refine rq_S (v := (some (.int (SX6_far x1 o5)))) (As := [.int x1, .int o5]) (rest := [.int 3, .int o4]) (wc := []) ⟨hx, hb, hml, hfc, hts⟩ hK hP (kX6_far l D cA x1 o5 rfl) (va_cwS 2 hts gX6_tide_X6_far rfl rfl rfl (by decide +kernel) ⟨(Nat.le_of_ble_eq_true rfl), (Nat.le_of_ble_eq_true rfl)⟩) [] rfl rfl rfl rfl hl.1 (Nat.le_of_ble_eq_true rfl) dX6_tide_32 ⟨(Nat.zero_le _), (Nat.zero_le _)⟩ ?_
        refine lv_isub hx hb dX6_tide_35 ?_
        refine lv_imul hx hb dX6_tide_36 ?_
        refine lv_topi (fun t6 et6 => ?_)
        have h := lt_e h _ et6
        refine lv_istore hx hb dX6_tide_37 hl (Nat.le_of_ble_eq_true rfl) rfl (fun ls hl => ?_)
        have hl : lv_has ls 6 [(5, .int t6), (0, .ref m0), (1, .int x1), (2, .int x2), (3, .int x3_5), (4, .int x4_5)] := hl
        refine lv_iload_n hx hb dX6_tide_39 rfl (lv_at hl 4 rfl) ?_
        refine lv_aload_n hx hb dX6_tide_40 rfl (lv_at hl 1 rfl) ?_
        refine lv_iload hx hb dX6_tide_41 (lv_at hl 5 rfl) ?_
        refine lv_iload_n hx hb dX6_tide_43 rfl (lv_at hl 3 rfl) ?_
        obtain ⟨o7, ho7, h⟩ := bnd_i h
        refine rq_V (v := (some (.int o7))) (As := [.int x4_5, .int x2]) (rest := [.int x3_5]) (wc := [(m0, .inr (10, [.ref q0, .ref q1, .ref q2, .int v3, .ref q4, .int v5, .int v6, .ref q7, .int v8, .ref q9, .int v10, .int v11, .int v12, .int v13, .int v14, .ref q15, .int v16])), (q0, .inl (cA 0, 60, .inl ss))]) ⟨hx, hb, hml, hfc, hts⟩ hK hP (kX6_isShaded l D cA m0 q0 q1 q2 q4 q7 q9 q15 v3 v5 v6 v8 v10 v11 v12 v13 v14 v16 ss x4_5 x2 ho7) (cwV 2 hts gX6_tide_X6_isShaded rfl rfl rfl (by decide +kernel) ⟨(Nat.le_of_ble_eq_true rfl), (Nat.le_of_ble_eq_true rfl)⟩) [0, 1] rfl 0 10 rfl rfl rfl rfl rfl rfl hl.1 (Nat.le_of_ble_eq_true rfl) dX6_tide_44 ⟨(Nat.zero_le _), (Nat.zero_le _)⟩ ?_
        obtain ⟨o9, ho9, h⟩ := lt_i h
        have ko9 : ∀ (ls : Array Slot), lv_has ls 6 [(0, .ref m0), (1, .int x1), (2, .int x2), (3, .int x3_5), (4, .int x4_5), (5, .int t6)] → W p l e RM_X6_tide s m args below meth c s.heap [] 0 0 Q (F0 m 56 ls [.int o9, .int x3_5]) := by
          intro ls hl
          refine lv_iadd hx hb dX6_tide_56 ?_
          refine lv_istore_n hx hb dX6_tide_57 rfl hl (Nat.le_of_ble_eq_true rfl) rfl (fun ls hl => ?_)
          have hl : lv_has ls 6 [(3, .int (x3_5 + o9)), (0, .ref m0), (1, .int x1), (2, .int x2), (4, .int x4_5), (5, .int t6)] := hl
          refine lv_iinc (k := 4) (v := x4_5 + 1) hx hb dX6_tide_58 hl rfl (congrArg (fun z => x4_5 + z) lit1) (Nat.le_of_ble_eq_true rfl) rfl (fun ls hl => ?_)
          have hl : lv_has ls 6 [(4, .int (x4_5 + 1)), (3, .int (x3_5 + o9)), (0, .ref m0), (1, .int x1), (2, .int x2), (5, .int t6)] := hl
          refine lv_goto (tgt := 5) hx hb dX6_tide_61 (by decide) ?_
          exact ih (x3_5 + o9) (x4_5 + 1) _ (lv_sub hl [2, 3, 4, 1, 0] rfl) h
        clear h
        have h := ho9
        clear ho9
        refine lv_if_eq (tgt := 54) hx hb dX6_tide_47 (by decide) (fun c8 => ?_) (fun c8 => ?_)
        · have h := ite_t c8 h
          refine lv_iload hx hb dX6_tide_54 (lv_at hl 0 rfl) ?_
          subst h
          exact ko9 _ (lv_sub hl [1, 2, 3, 4, 5, 0] rfl)
        · have h := ite_f c8 h
          refine lv_iconst (v := 0) hx hb dX6_tide_50 (by decide) ?_
          refine lv_goto (tgt := 56) hx hb dX6_tide_51 (by decide) ?_
          subst h
          exact ko9 _ (lv_sub hl [1, 2, 3, 4, 5, 0] rfl)
  exact hLX6_tide_5 N 0 0 _ (lv_sub hl [2, 3, 4, 1, 0] rfl) h
noncomputable def SX6_level (N : Nat) (ss : Nat → Int32) (x1 : Int32) : Option (Int32) := bnd (SX6_tide N ss x1 0) (fun o1 : Int32 => some (imax 0 ((ss 3) + o1)))
theorem iX6_level_X6 : ∀ w ∈ wsX60, w ∈ wsX6_level := fun _ h => List.mem_cons_of_mem _ (List.mem_append_left _ (List.mem_append_left _ (List.mem_append_right _ h)))
abbrev RM_X6_level : Room := { frames := 5, cells := 0, slots := 0, locals := 118 }
set_option maxHeartbeats 4000000 in
theorem kX6_level (l : Launch) (D : va_G) (cA : Nat → ClassId) (m0 q0 q1 q2 q4 q7 q9 q15 : Nat) (N : Nat) (v3 : Int32) (v5 : Int32) (v6 : Int32) (v8 : Int32) (v10 : Int32) (v11 : Int32) (v12 : Int32) (v13 : Int32) (v14 : Int32) (v16 : Int32) (ss : Nat → Int32) (x1 : Int32) {r : Int32} (hr : SX6_level N ss x1 = some r) : Met l yX6_level wsX6_level RM_X6_level (va_Pc [.ref m0, .int x1] (rqB D cA [(m0, .inr (10, [.ref q0, .ref q1, .ref q2, .int v3, .ref q4, .int v5, .int v6, .ref q7, .int v8, .ref q9, .int v10, .int v11, .int v12, .int v13, .int v14, .ref q15, .int v16])), (q0, .inl (cA 0, 60, .inl ss))])) (rqQ (some (.int r))) 0 0 (fun _ => False) := by
  refine rq_ofW (cc := cX6_level) (maxL := 2) (ret := (some .int)) (by decide) rfl (Nat.le_of_ble_eq_true rfl) (fun p e s m args below meth c ls Q hx hb hml hts hfc hK hP hl hend => ?_)
  have hfc : s.vm.findClass RX6 = some m.cls := hfc
  have hl : lv_has ls 2 [(0, .ref m0), (1, .int x1)] := hl
  have h := hr
  clear hr
  unfold SX6_level at h
  refine lv_iconst (v := 0) hx hb dX6_level_0 (by decide) ?_
  refine lv_aload_n hx hb dX6_level_1 rfl (lv_at hl 0 rfl) ?_
  refine va_get (D := D) (ci := 10) (v := .ref q0) (C := RX6) (T := TX6) (N := 17) hx hb hts iX6_level_X6 hfc hK hP 0 rfl rfl 0 (by decide) (hts (.fieldLink RX6 9 "BathtubTidesModel" "s" "[I") (List.mem_of_getElem? (i := 1) rfl)) (fun _ h9 => h9) rfl dX6_level_2 ?_
  refine lv_iconst (v := 3) hx hb dX6_level_5 (by decide) ?_
  refine va_iald hx hb hK hP 1 0 rfl rfl (vin _ _ (by decide)) dX6_level_6 ?_
  refine lv_aload_n hx hb dX6_level_7 rfl (lv_at hl 0 rfl) ?_
  refine lv_iload_n hx hb dX6_level_8 rfl (lv_at hl 1 rfl) ?_
  refine lv_iconst (v := 0) hx hb dX6_level_9 (by decide) ?_
  obtain ⟨o1, ho1, h⟩ := bnd_i h
  refine rq_V (v := (some (.int o1))) (As := [.int x1, .int 0]) (rest := [.int (ss 3), .int 0]) (wc := [(m0, .inr (10, [.ref q0, .ref q1, .ref q2, .int v3, .ref q4, .int v5, .int v6, .ref q7, .int v8, .ref q9, .int v10, .int v11, .int v12, .int v13, .int v14, .ref q15, .int v16])), (q0, .inl (cA 0, 60, .inl ss))]) ⟨hx, hb, hml, hfc, hts⟩ hK hP (kX6_tide l D cA m0 q0 q1 q2 q4 q7 q9 q15 N v3 v5 v6 v8 v10 v11 v12 v13 v14 v16 ss x1 0 ho1) (cwV 2 hts gX6_level_X6_tide rfl rfl rfl (by decide +kernel) ⟨(Nat.le_of_ble_eq_true rfl), (Nat.le_of_ble_eq_true rfl)⟩) [0, 1] rfl 0 10 rfl rfl rfl rfl rfl rfl hl.1 (Nat.le_of_ble_eq_true rfl) dX6_level_10 ⟨(Nat.zero_le _), (Nat.zero_le _)⟩ ?_
  refine lv_iadd hx hb dX6_level_13 ?_
  refine va_mmax hx hb (hml.trans hl.1.symm) hfc (hts (.methodLink RX6 62 Lib.Math.max.name) (List.mem_of_getElem? (i := 2) rfl)) (hts (.static Lib.Math.max.name) (List.mem_of_getElem? (i := 3) rfl)) (hts (.initialized "java/lang/Math") (List.mem_of_getElem? (i := 4) rfl)) (hts (.code Lib.Math.max.name Lib.Math.max.code 2 (some .int)) (List.mem_of_getElem? (i := 5) rfl)) (Nat.le_of_ble_eq_true rfl) (Nat.le_of_ble_eq_true rfl) (Nat.zero_le _) (Nat.zero_le _) dX6_level_14 ?_
  have h := Option.some.inj h
  subst h
  exact hend _ _ _ _ rfl (rtn_i _) dX6_level_17
noncomputable def SX6_doAdd (v6 : Int32) (ss : Nat → Int32) (x1 : Int32) (x2 : Int32) (x3 : Int32) (x4 : Int32) : Option (Int32 × (Nat → Int32) × Int32) := if (SX6_in x2 1 6) = 0 then (lt_ (SX6_fails 1) (fun o2 : Int32 × Int32 => some ((o2.1, ss, o2.2)))) else (bnd (SX6_isPosition x3) (fun o3 : Int32 => if o3 = 0 then (lt_ (SX6_fails 1) (fun o5 : Int32 × Int32 => some ((o5.1, ss, o5.2)))) else (if (SX6_in x4 1 12) = 0 then (lt_ (SX6_fails 1) (fun o16 : Int32 × Int32 => some ((o16.1, ss, o16.2)))) else (if (ss 0) = 5 then (lt_ (SX6_fails 2) (fun o15 : Int32 × Int32 => some ((o15.1, ss, o15.2)))) else (gd (vp_in (19 + (5 * (ss 0))) 60) (gd (vp_in ((19 + (5 * (ss 0))) + 1) 60) (gd (vp_in ((19 + (5 * (ss 0))) + 2) 60) (gd (vp_in ((19 + (5 * (ss 0))) + 3) 60) (lt_ ((upd (upd (upd (upd ss (Int32.toNatClampNeg (19 + (5 * (ss 0)))) x1) (Int32.toNatClampNeg ((19 + (5 * (ss 0))) + 1)) x2) (Int32.toNatClampNeg ((19 + (5 * (ss 0))) + 2)) x3) (Int32.toNatClampNeg ((19 + (5 * (ss 0))) + 3)) x4) 2) (fun t12 : Int32 => gd (vp_in ((19 + (5 * (ss 0))) + 4) 60) (lt_ (((upd (upd (upd (upd (upd ss (Int32.toNatClampNeg (19 + (5 * (ss 0)))) x1) (Int32.toNatClampNeg ((19 + (5 * (ss 0))) + 1)) x2) (Int32.toNatClampNeg ((19 + (5 * (ss 0))) + 2)) x3) (Int32.toNatClampNeg ((19 + (5 * (ss 0))) + 3)) x4) (Int32.toNatClampNeg ((19 + (5 * (ss 0))) + 4)) t12) 0) + 1) (fun t14 : Int32 => some ((ss 0, upd (upd (upd (upd (upd (upd ss (Int32.toNatClampNeg (19 + (5 * (ss 0)))) x1) (Int32.toNatClampNeg ((19 + (5 * (ss 0))) + 1)) x2) (Int32.toNatClampNeg ((19 + (5 * (ss 0))) + 2)) x3) (Int32.toNatClampNeg ((19 + (5 * (ss 0))) + 3)) x4) (Int32.toNatClampNeg ((19 + (5 * (ss 0))) + 4)) t12) 0 t14, v6))))))))))))))
theorem iX6_doAdd_X6 : ∀ w ∈ wsX60, w ∈ wsX6_doAdd := fun _ h => List.mem_cons_of_mem _ (List.mem_append_left _ (List.mem_append_right _ h))
abbrev RM_X6_doAdd : Room := { frames := 2, cells := 0, slots := 0, locals := 42 }
set_option maxHeartbeats 4000000 in
theorem kX6_doAdd (l : Launch) (D : va_G) (cA : Nat → ClassId) (m0 q0 q1 q2 q4 q7 q9 q15 : Nat) (v3 : Int32) (v5 : Int32) (v6 : Int32) (v8 : Int32) (v10 : Int32) (v11 : Int32) (v12 : Int32) (v13 : Int32) (v14 : Int32) (v16 : Int32) (ss : Nat → Int32) (x1 : Int32) (x2 : Int32) (x3 : Int32) (x4 : Int32) {r : Int32 × (Nat → Int32) × Int32} (hr : SX6_doAdd v6 ss x1 x2 x3 x4 = some r) {sz : Nat} : Met l yX6_doAdd wsX6_doAdd RM_X6_doAdd (va_Pc [.ref m0, .int x1, .int x2, .int x3, .int x4] (gqB D cA [(m0, .inr (10, [.ref q0, .ref q1, .ref q2, .int v3, .ref q4, .int v5, .int v6, .ref q7, .int v8, .ref q9, .int v10, .int v11, .int v12, .int v13, .int v14, .ref q15, .int v16])), (q0, .inl (cA 0, 60, .inl ss))] sz)) (gqQ D (fun as => (some (.int r.1))) (fun as => [(m0, .inr (10, [.ref q0, .ref q1, .ref q2, .int v3, .ref q4, .int v5, .int r.2.2, .ref q7, .int v8, .ref q9, .int v10, .int v11, .int v12, .int v13, .int v14, .ref q15, .int v16])), (q0, .inl (cA 0, 60, .inl r.2.1))]) (va_A [(m0, .inr (10, [.ref q0, .ref q1, .ref q2, .int v3, .ref q4, .int v5, .int v6, .ref q7, .int v8, .ref q9, .int v10, .int v11, .int v12, .int v13, .int v14, .ref q15, .int v16])), (q0, .inl (cA 0, 60, .inl ss))] sz)) 0 0 (va_A [(m0, .inr (10, [.ref q0, .ref q1, .ref q2, .int v3, .ref q4, .int v5, .int v6, .ref q7, .int v8, .ref q9, .int v10, .int v11, .int v12, .int v13, .int v14, .ref q15, .int v16])), (q0, .inl (cA 0, 60, .inl ss))] sz) := by
  refine gq_ofW (cc := cX6_doAdd) (maxL := 7) (ret := (some .int)) (by decide) rfl (Nat.le_of_ble_eq_true rfl) (fun p e s m args below meth c ls Q A hx hb hml hts hfc hmn hK hP hD hS hA hl hend => ?_)
  have hfc : s.vm.findClass RX6 = some m.cls := hfc
  have hl : lv_has ls 7 [(0, .ref m0), (1, .int x1), (2, .int x2), (3, .int x3), (4, .int x4)] := hl
  have h := hr
  clear hr
  unfold SX6_doAdd at h
  refine lv_aload_n hx hb dX6_doAdd_0 rfl (lv_at hl 0 rfl) ?_
  refine va_get (D := D) (ci := 10) (v := .ref q0) (C := RX6) (T := TX6) (N := 17) hx hb hts iX6_doAdd_X6 hfc hK hP 0 rfl rfl 0 (by decide) (hts (.fieldLink RX6 9 "BathtubTidesModel" "s" "[I") (List.mem_of_getElem? (i := 1) rfl)) (fun _ h9 => h9) rfl dX6_doAdd_1 ?_
  refine lv_iconst (v := 0) hx hb dX6_doAdd_4 (by decide) ?_
  refine va_iald hx hb hK hP 1 0 rfl rfl (vin _ _ (by decide)) dX6_doAdd_5 ?_
  refine lv_istore hx hb dX6_doAdd_6 hl (Nat.le_of_ble_eq_true rfl) rfl (fun ls hl => ?_)
  have hl : lv_has ls 7 [(5, .int (ss 0)), (0, .ref m0), (1, .int x1), (2, .int x2), (3, .int x3), (4, .int x4)] := hl
  refine lv_iload_n hx hb dX6_doAdd_8 rfl (lv_at hl 3 rfl) ?_
  refine lv_iconst (v := 1) hx hb dX6_doAdd_9 (by decide) ?_
  refine lv_bipush (v := 6) hx hb dX6_doAdd_10 (by decide) ?_
  refine rq_S (v := (some (.int (SX6_in x2 1 6)))) (As := [.int x2, .int 1, .int 6]) (rest := []) (wc := []) ⟨hx, hb, hml, hfc, hts⟩ hK hP (kX6_in l D cA x2 1 6 rfl) (va_cwS 3 hts gX6_doAdd_X6_in rfl rfl rfl (by decide +kernel) ⟨(Nat.le_of_ble_eq_true rfl), (Nat.le_of_ble_eq_true rfl)⟩) [] rfl rfl rfl rfl hl.1 (Nat.le_of_ble_eq_true rfl) dX6_doAdd_12 ⟨(Nat.zero_le _), (Nat.zero_le _)⟩ ?_
  refine lv_if_eq (tgt := 36) hx hb dX6_doAdd_15 (by decide) (fun c1 => ?_) (fun c1 => ?_)
  · have h := ite_t c1 h
    refine lv_aload_n hx hb dX6_doAdd_36 rfl (lv_at hl 1 rfl) ?_
    refine lv_iconst (v := 1) hx hb dX6_doAdd_37 (by decide) ?_
    obtain ⟨o2, ho2, h⟩ := lt_i h
    refine gq_V (v := (fun as => (some (.int o2.1)))) (As := [.int 1]) (rest := []) (wc := [(m0, .inr (10, [.ref q0, .ref q1, .ref q2, .int v3, .ref q4, .int v5, .int v6, .ref q7, .int v8, .ref q9, .int v10, .int v11, .int v12, .int v13, .int v14, .ref q15, .int v16]))]) (wr := [(q0, .inl (cA 0, 60, .inl ss))]) (w1 := (fun as => [(m0, .inr (10, [.ref q0, .ref q1, .ref q2, .int v3, .ref q4, .int v5, .int o2.2, .ref q7, .int v8, .ref q9, .int v10, .int v11, .int v12, .int v13, .int v14, .ref q15, .int v16]))])) (ws2 := (fun as => [(m0, .inr (10, [.ref q0, .ref q1, .ref q2, .int v3, .ref q4, .int v5, .int o2.2, .ref q7, .int v8, .ref q9, .int v10, .int v11, .int v12, .int v13, .int v14, .ref q15, .int v16])), (q0, .inl (cA 0, 60, .inl ss))])) (st1 := (fun as => [.int o2.1])) ⟨hx, hb, hml, hfc, hts⟩ hK hP hD hS hA (kX6_fails l D cA m0 q0 q1 q2 q4 q7 q9 q15 v3 v5 v6 v8 v10 v11 v12 v13 v14 v16 1 ho2) (cwV 1 hts gX6_doAdd_X6_fails rfl rfl rfl (by decide +kernel) ⟨(Nat.le_of_ble_eq_true rfl), (Nat.le_of_ble_eq_true rfl)⟩) [0] [1] [1, 0] rfl rfl rfl rfl (by decide) (fun _ => rfl) rfl 0 10 rfl rfl rfl rfl (fun _ => rfl) rfl hl.1 (Nat.le_of_ble_eq_true rfl) dX6_doAdd_38 ⟨(Nat.zero_le _), (Nat.zero_le _)⟩ (fun as H locs hP hD hS => ?_)
    have hP : va_P D vwCl [(m0, .inr (10, [.ref q0, .ref q1, .ref q2, .int v3, .ref q4, .int v5, .int o2.2, .ref q7, .int v8, .ref q9, .int v10, .int v11, .int v12, .int v13, .int v14, .ref q15, .int v16])), (q0, .inl (cA 0, 60, .inl ss))] H := hP
    have hD : va_D A [(m0, .inr (10, [.ref q0, .ref q1, .ref q2, .int v3, .ref q4, .int v5, .int o2.2, .ref q7, .int v8, .ref q9, .int v10, .int v11, .int v12, .int v13, .int v14, .ref q15, .int v16])), (q0, .inl (cA 0, 60, .inl ss))] := hD
    have h := Option.some.inj h
    subst h
    exact hend (adr []) _ _ _ _ _ _ _ rfl rfl (rtn_i _) hP hD hS dX6_doAdd_41
  · have h := ite_f c1 h
    refine lv_iload_n hx hb dX6_doAdd_18 rfl (lv_at hl 4 rfl) ?_
    obtain ⟨o3, ho3, h⟩ := bnd_i h
    refine rq_S (v := (some (.int o3))) (As := [.int x3]) (rest := []) (wc := []) ⟨hx, hb, hml, hfc, hts⟩ hK hP (kX6_isPosition l D cA x3 ho3) (va_cwS 1 hts gX6_doAdd_X6_isPosition rfl rfl rfl (by decide +kernel) ⟨(Nat.le_of_ble_eq_true rfl), (Nat.le_of_ble_eq_true rfl)⟩) [] rfl rfl rfl rfl hl.1 (Nat.le_of_ble_eq_true rfl) dX6_doAdd_19 ⟨(Nat.zero_le _), (Nat.zero_le _)⟩ ?_
    refine lv_if_eq (tgt := 36) hx hb dX6_doAdd_22 (by decide) (fun c4 => ?_) (fun c4 => ?_)
    · have h := ite_t c4 h
      refine lv_aload_n hx hb dX6_doAdd_36 rfl (lv_at hl 1 rfl) ?_
      refine lv_iconst (v := 1) hx hb dX6_doAdd_37 (by decide) ?_
      obtain ⟨o5, ho5, h⟩ := lt_i h
      refine gq_V (v := (fun as => (some (.int o5.1)))) (As := [.int 1]) (rest := []) (wc := [(m0, .inr (10, [.ref q0, .ref q1, .ref q2, .int v3, .ref q4, .int v5, .int v6, .ref q7, .int v8, .ref q9, .int v10, .int v11, .int v12, .int v13, .int v14, .ref q15, .int v16]))]) (wr := [(q0, .inl (cA 0, 60, .inl ss))]) (w1 := (fun as => [(m0, .inr (10, [.ref q0, .ref q1, .ref q2, .int v3, .ref q4, .int v5, .int o5.2, .ref q7, .int v8, .ref q9, .int v10, .int v11, .int v12, .int v13, .int v14, .ref q15, .int v16]))])) (ws2 := (fun as => [(m0, .inr (10, [.ref q0, .ref q1, .ref q2, .int v3, .ref q4, .int v5, .int o5.2, .ref q7, .int v8, .ref q9, .int v10, .int v11, .int v12, .int v13, .int v14, .ref q15, .int v16])), (q0, .inl (cA 0, 60, .inl ss))])) (st1 := (fun as => [.int o5.1])) ⟨hx, hb, hml, hfc, hts⟩ hK hP hD hS hA (kX6_fails l D cA m0 q0 q1 q2 q4 q7 q9 q15 v3 v5 v6 v8 v10 v11 v12 v13 v14 v16 1 ho5) (cwV 1 hts gX6_doAdd_X6_fails rfl rfl rfl (by decide +kernel) ⟨(Nat.le_of_ble_eq_true rfl), (Nat.le_of_ble_eq_true rfl)⟩) [0] [1] [1, 0] rfl rfl rfl rfl (by decide) (fun _ => rfl) rfl 0 10 rfl rfl rfl rfl (fun _ => rfl) rfl hl.1 (Nat.le_of_ble_eq_true rfl) dX6_doAdd_38 ⟨(Nat.zero_le _), (Nat.zero_le _)⟩ (fun as H locs hP hD hS => ?_)
      have hP : va_P D vwCl [(m0, .inr (10, [.ref q0, .ref q1, .ref q2, .int v3, .ref q4, .int v5, .int o5.2, .ref q7, .int v8, .ref q9, .int v10, .int v11, .int v12, .int v13, .int v14, .ref q15, .int v16])), (q0, .inl (cA 0, 60, .inl ss))] H := hP
      have hD : va_D A [(m0, .inr (10, [.ref q0, .ref q1, .ref q2, .int v3, .ref q4, .int v5, .int o5.2, .ref q7, .int v8, .ref q9, .int v10, .int v11, .int v12, .int v13, .int v14, .ref q15, .int v16])), (q0, .inl (cA 0, 60, .inl ss))] := hD
      have h := Option.some.inj h
      subst h
      exact hend (adr []) _ _ _ _ _ _ _ rfl rfl (rtn_i _) hP hD hS dX6_doAdd_41
    · have h := ite_f c4 h
      refine lv_iload hx hb dX6_doAdd_25 (lv_at hl 5 rfl) ?_
      refine lv_iconst (v := 1) hx hb dX6_doAdd_27 (by decide) ?_
      refine lv_bipush (v := 12) hx hb dX6_doAdd_28 (by decide) ?_
      refine rq_S (v := (some (.int (SX6_in x4 1 12)))) (As := [.int x4, .int 1, .int 12]) (rest := []) (wc := []) ⟨hx, hb, hml, hfc, hts⟩ hK hP (kX6_in l D cA x4 1 12 rfl) (va_cwS 3 hts gX6_doAdd_X6_in rfl rfl rfl (by decide +kernel) ⟨(Nat.le_of_ble_eq_true rfl), (Nat.le_of_ble_eq_true rfl)⟩) [] rfl rfl rfl rfl hl.1 (Nat.le_of_ble_eq_true rfl) dX6_doAdd_30 ⟨(Nat.zero_le _), (Nat.zero_le _)⟩ ?_
      refine lv_if_ne (tgt := 42) hx hb dX6_doAdd_33 (by decide) (fun c6 => ?_) (fun c6 => ?_)
      · have h := ite_f c6 h
        refine lv_iload hx hb dX6_doAdd_42 (lv_at hl 0 rfl) ?_
        refine lv_iconst (v := 5) hx hb dX6_doAdd_44 (by decide) ?_
        refine lv_icmp_ne (tgt := 54) hx hb dX6_doAdd_45 (by decide) (fun c7 => ?_) (fun c7 => ?_)
        · have h := ite_f c7 h
          refine lv_bipush (v := 19) hx hb dX6_doAdd_54 (by decide) ?_
          refine lv_iconst (v := 5) hx hb dX6_doAdd_56 (by decide) ?_
          refine lv_iload hx hb dX6_doAdd_57 (lv_at hl 0 rfl) ?_
          refine lv_imul hx hb dX6_doAdd_59 ?_
          refine lv_iadd hx hb dX6_doAdd_60 ?_
          refine lv_istore hx hb dX6_doAdd_61 hl (Nat.le_of_ble_eq_true rfl) rfl (fun ls hl => ?_)
          have hl : lv_has ls 7 [(6, .int (19 + (5 * (ss 0)))), (5, .int (ss 0)), (0, .ref m0), (1, .int x1), (2, .int x2), (3, .int x3), (4, .int x4)] := hl
          refine lv_aload_n hx hb dX6_doAdd_63 rfl (lv_at hl 2 rfl) ?_
          refine va_get (D := D) (ci := 10) (v := .ref q0) (C := RX6) (T := TX6) (N := 17) hx hb hts iX6_doAdd_X6 hfc hK hP 0 rfl rfl 0 (by decide) (hts (.fieldLink RX6 9 "BathtubTidesModel" "s" "[I") (List.mem_of_getElem? (i := 1) rfl)) (fun _ h9 => h9) rfl dX6_doAdd_64 ?_
          refine lv_iload hx hb dX6_doAdd_67 (lv_at hl 0 rfl) ?_
          refine lv_iload_n hx hb dX6_doAdd_69 rfl (lv_at hl 3 rfl) ?_
          obtain ⟨g8, h⟩ := gd_i h
          refine va_iast hx hb hK hP hD hS 1 0 rfl rfl g8 dX6_doAdd_70 (fun H locs hP hD hS => ?_)
          have hP : va_P D vwCl [(m0, .inr (10, [.ref q0, .ref q1, .ref q2, .int v3, .ref q4, .int v5, .int v6, .ref q7, .int v8, .ref q9, .int v10, .int v11, .int v12, .int v13, .int v14, .ref q15, .int v16])), (q0, .inl (cA 0, 60, .inl (upd ss (Int32.toNatClampNeg (19 + (5 * (ss 0)))) x1)))] H := hP
          have hD : va_D A [(m0, .inr (10, [.ref q0, .ref q1, .ref q2, .int v3, .ref q4, .int v5, .int v6, .ref q7, .int v8, .ref q9, .int v10, .int v11, .int v12, .int v13, .int v14, .ref q15, .int v16])), (q0, .inl (cA 0, 60, .inl (upd ss (Int32.toNatClampNeg (19 + (5 * (ss 0)))) x1)))] := hD
          refine lv_aload_n hx hb dX6_doAdd_71 rfl (lv_at hl 2 rfl) ?_
          refine va_get (D := D) (ci := 10) (v := .ref q0) (C := RX6) (T := TX6) (N := 17) hx hb hts iX6_doAdd_X6 hfc hK hP 0 rfl rfl 0 (by decide) (hts (.fieldLink RX6 9 "BathtubTidesModel" "s" "[I") (List.mem_of_getElem? (i := 1) rfl)) (fun _ h9 => h9) rfl dX6_doAdd_72 ?_
          refine lv_iload hx hb dX6_doAdd_75 (lv_at hl 0 rfl) ?_
          refine lv_iconst (v := 1) hx hb dX6_doAdd_77 (by decide) ?_
          refine lv_iadd hx hb dX6_doAdd_78 ?_
          refine lv_iload_n hx hb dX6_doAdd_79 rfl (lv_at hl 4 rfl) ?_
          obtain ⟨g9, h⟩ := gd_i h
          refine va_iast hx hb hK hP hD hS 1 0 rfl rfl g9 dX6_doAdd_80 (fun H locs hP hD hS => ?_)
          have hP : va_P D vwCl [(m0, .inr (10, [.ref q0, .ref q1, .ref q2, .int v3, .ref q4, .int v5, .int v6, .ref q7, .int v8, .ref q9, .int v10, .int v11, .int v12, .int v13, .int v14, .ref q15, .int v16])), (q0, .inl (cA 0, 60, .inl (upd (upd ss (Int32.toNatClampNeg (19 + (5 * (ss 0)))) x1) (Int32.toNatClampNeg ((19 + (5 * (ss 0))) + 1)) x2)))] H := hP
          have hD : va_D A [(m0, .inr (10, [.ref q0, .ref q1, .ref q2, .int v3, .ref q4, .int v5, .int v6, .ref q7, .int v8, .ref q9, .int v10, .int v11, .int v12, .int v13, .int v14, .ref q15, .int v16])), (q0, .inl (cA 0, 60, .inl (upd (upd ss (Int32.toNatClampNeg (19 + (5 * (ss 0)))) x1) (Int32.toNatClampNeg ((19 + (5 * (ss 0))) + 1)) x2)))] := hD
          refine lv_aload_n hx hb dX6_doAdd_81 rfl (lv_at hl 2 rfl) ?_
          refine va_get (D := D) (ci := 10) (v := .ref q0) (C := RX6) (T := TX6) (N := 17) hx hb hts iX6_doAdd_X6 hfc hK hP 0 rfl rfl 0 (by decide) (hts (.fieldLink RX6 9 "BathtubTidesModel" "s" "[I") (List.mem_of_getElem? (i := 1) rfl)) (fun _ h9 => h9) rfl dX6_doAdd_82 ?_
          refine lv_iload hx hb dX6_doAdd_85 (lv_at hl 0 rfl) ?_
          refine lv_iconst (v := 2) hx hb dX6_doAdd_87 (by decide) ?_
          refine lv_iadd hx hb dX6_doAdd_88 ?_
          refine lv_iload_n hx hb dX6_doAdd_89 rfl (lv_at hl 5 rfl) ?_
          obtain ⟨g10, h⟩ := gd_i h
          refine va_iast hx hb hK hP hD hS 1 0 rfl rfl g10 dX6_doAdd_90 (fun H locs hP hD hS => ?_)
          have hP : va_P D vwCl [(m0, .inr (10, [.ref q0, .ref q1, .ref q2, .int v3, .ref q4, .int v5, .int v6, .ref q7, .int v8, .ref q9, .int v10, .int v11, .int v12, .int v13, .int v14, .ref q15, .int v16])), (q0, .inl (cA 0, 60, .inl (upd (upd (upd ss (Int32.toNatClampNeg (19 + (5 * (ss 0)))) x1) (Int32.toNatClampNeg ((19 + (5 * (ss 0))) + 1)) x2) (Int32.toNatClampNeg ((19 + (5 * (ss 0))) + 2)) x3)))] H := hP
          have hD : va_D A [(m0, .inr (10, [.ref q0, .ref q1, .ref q2, .int v3, .ref q4, .int v5, .int v6, .ref q7, .int v8, .ref q9, .int v10, .int v11, .int v12, .int v13, .int v14, .ref q15, .int v16])), (q0, .inl (cA 0, 60, .inl (upd (upd (upd ss (Int32.toNatClampNeg (19 + (5 * (ss 0)))) x1) (Int32.toNatClampNeg ((19 + (5 * (ss 0))) + 1)) x2) (Int32.toNatClampNeg ((19 + (5 * (ss 0))) + 2)) x3)))] := hD
          refine lv_aload_n hx hb dX6_doAdd_91 rfl (lv_at hl 2 rfl) ?_
          refine va_get (D := D) (ci := 10) (v := .ref q0) (C := RX6) (T := TX6) (N := 17) hx hb hts iX6_doAdd_X6 hfc hK hP 0 rfl rfl 0 (by decide) (hts (.fieldLink RX6 9 "BathtubTidesModel" "s" "[I") (List.mem_of_getElem? (i := 1) rfl)) (fun _ h9 => h9) rfl dX6_doAdd_92 ?_
          refine lv_iload hx hb dX6_doAdd_95 (lv_at hl 0 rfl) ?_
          refine lv_iconst (v := 3) hx hb dX6_doAdd_97 (by decide) ?_
          refine lv_iadd hx hb dX6_doAdd_98 ?_
          refine lv_iload hx hb dX6_doAdd_99 (lv_at hl 6 rfl) ?_
          obtain ⟨g11, h⟩ := gd_i h
          refine va_iast hx hb hK hP hD hS 1 0 rfl rfl g11 dX6_doAdd_101 (fun H locs hP hD hS => ?_)
          have hP : va_P D vwCl [(m0, .inr (10, [.ref q0, .ref q1, .ref q2, .int v3, .ref q4, .int v5, .int v6, .ref q7, .int v8, .ref q9, .int v10, .int v11, .int v12, .int v13, .int v14, .ref q15, .int v16])), (q0, .inl (cA 0, 60, .inl (upd (upd (upd (upd ss (Int32.toNatClampNeg (19 + (5 * (ss 0)))) x1) (Int32.toNatClampNeg ((19 + (5 * (ss 0))) + 1)) x2) (Int32.toNatClampNeg ((19 + (5 * (ss 0))) + 2)) x3) (Int32.toNatClampNeg ((19 + (5 * (ss 0))) + 3)) x4)))] H := hP
          have hD : va_D A [(m0, .inr (10, [.ref q0, .ref q1, .ref q2, .int v3, .ref q4, .int v5, .int v6, .ref q7, .int v8, .ref q9, .int v10, .int v11, .int v12, .int v13, .int v14, .ref q15, .int v16])), (q0, .inl (cA 0, 60, .inl (upd (upd (upd (upd ss (Int32.toNatClampNeg (19 + (5 * (ss 0)))) x1) (Int32.toNatClampNeg ((19 + (5 * (ss 0))) + 1)) x2) (Int32.toNatClampNeg ((19 + (5 * (ss 0))) + 2)) x3) (Int32.toNatClampNeg ((19 + (5 * (ss 0))) + 3)) x4)))] := hD
          refine lv_aload_n hx hb dX6_doAdd_102 rfl (lv_at hl 2 rfl) ?_
          refine va_get (D := D) (ci := 10) (v := .ref q0) (C := RX6) (T := TX6) (N := 17) hx hb hts iX6_doAdd_X6 hfc hK hP 0 rfl rfl 0 (by decide) (hts (.fieldLink RX6 9 "BathtubTidesModel" "s" "[I") (List.mem_of_getElem? (i := 1) rfl)) (fun _ h9 => h9) rfl dX6_doAdd_103 ?_
          refine lv_iload hx hb dX6_doAdd_106 (lv_at hl 0 rfl) ?_
          refine lv_iconst (v := 4) hx hb dX6_doAdd_108 (by decide) ?_
          refine lv_iadd hx hb dX6_doAdd_109 ?_
          refine lv_aload_n hx hb dX6_doAdd_110 rfl (lv_at hl 2 rfl) ?_
          refine va_get (D := D) (ci := 10) (v := .ref q0) (C := RX6) (T := TX6) (N := 17) hx hb hts iX6_doAdd_X6 hfc hK hP 0 rfl rfl 0 (by decide) (hts (.fieldLink RX6 9 "BathtubTidesModel" "s" "[I") (List.mem_of_getElem? (i := 1) rfl)) (fun _ h9 => h9) rfl dX6_doAdd_111 ?_
          refine lv_iconst (v := 2) hx hb dX6_doAdd_114 (by decide) ?_
          refine va_iald hx hb hK hP 1 0 rfl rfl (vin _ _ (by decide)) dX6_doAdd_115 ?_
          refine lv_topi (fun t12 et12 => ?_)
          have h := lt_e h _ et12
          obtain ⟨g13, h⟩ := gd_i h
          refine va_iast hx hb hK hP hD hS 1 0 rfl rfl g13 dX6_doAdd_116 (fun H locs hP hD hS => ?_)
          have hP : va_P D vwCl [(m0, .inr (10, [.ref q0, .ref q1, .ref q2, .int v3, .ref q4, .int v5, .int v6, .ref q7, .int v8, .ref q9, .int v10, .int v11, .int v12, .int v13, .int v14, .ref q15, .int v16])), (q0, .inl (cA 0, 60, .inl (upd (upd (upd (upd (upd ss (Int32.toNatClampNeg (19 + (5 * (ss 0)))) x1) (Int32.toNatClampNeg ((19 + (5 * (ss 0))) + 1)) x2) (Int32.toNatClampNeg ((19 + (5 * (ss 0))) + 2)) x3) (Int32.toNatClampNeg ((19 + (5 * (ss 0))) + 3)) x4) (Int32.toNatClampNeg ((19 + (5 * (ss 0))) + 4)) t12)))] H := hP
          have hD : va_D A [(m0, .inr (10, [.ref q0, .ref q1, .ref q2, .int v3, .ref q4, .int v5, .int v6, .ref q7, .int v8, .ref q9, .int v10, .int v11, .int v12, .int v13, .int v14, .ref q15, .int v16])), (q0, .inl (cA 0, 60, .inl (upd (upd (upd (upd (upd ss (Int32.toNatClampNeg (19 + (5 * (ss 0)))) x1) (Int32.toNatClampNeg ((19 + (5 * (ss 0))) + 1)) x2) (Int32.toNatClampNeg ((19 + (5 * (ss 0))) + 2)) x3) (Int32.toNatClampNeg ((19 + (5 * (ss 0))) + 3)) x4) (Int32.toNatClampNeg ((19 + (5 * (ss 0))) + 4)) t12)))] := hD
          refine lv_aload_n hx hb dX6_doAdd_117 rfl (lv_at hl 2 rfl) ?_
          refine va_get (D := D) (ci := 10) (v := .ref q0) (C := RX6) (T := TX6) (N := 17) hx hb hts iX6_doAdd_X6 hfc hK hP 0 rfl rfl 0 (by decide) (hts (.fieldLink RX6 9 "BathtubTidesModel" "s" "[I") (List.mem_of_getElem? (i := 1) rfl)) (fun _ h9 => h9) rfl dX6_doAdd_118 ?_
          refine lv_iconst (v := 0) hx hb dX6_doAdd_121 (by decide) ?_
          refine lv_dup2_11 hx hb dX6_doAdd_122 rfl rfl ?_
          refine va_iald hx hb hK hP 1 0 rfl rfl (vin _ _ (by decide)) dX6_doAdd_123 ?_
          refine lv_iconst (v := 1) hx hb dX6_doAdd_124 (by decide) ?_
          refine lv_iadd hx hb dX6_doAdd_125 ?_
          refine lv_topi (fun t14 et14 => ?_)
          have h := lt_e h _ et14
          refine va_iast hx hb hK hP hD hS 1 0 rfl rfl (vin _ _ (by decide)) dX6_doAdd_126 (fun H locs hP hD hS => ?_)
          have hP : va_P D vwCl [(m0, .inr (10, [.ref q0, .ref q1, .ref q2, .int v3, .ref q4, .int v5, .int v6, .ref q7, .int v8, .ref q9, .int v10, .int v11, .int v12, .int v13, .int v14, .ref q15, .int v16])), (q0, .inl (cA 0, 60, .inl (upd (upd (upd (upd (upd (upd ss (Int32.toNatClampNeg (19 + (5 * (ss 0)))) x1) (Int32.toNatClampNeg ((19 + (5 * (ss 0))) + 1)) x2) (Int32.toNatClampNeg ((19 + (5 * (ss 0))) + 2)) x3) (Int32.toNatClampNeg ((19 + (5 * (ss 0))) + 3)) x4) (Int32.toNatClampNeg ((19 + (5 * (ss 0))) + 4)) t12) 0 t14)))] H := hP
          have hD : va_D A [(m0, .inr (10, [.ref q0, .ref q1, .ref q2, .int v3, .ref q4, .int v5, .int v6, .ref q7, .int v8, .ref q9, .int v10, .int v11, .int v12, .int v13, .int v14, .ref q15, .int v16])), (q0, .inl (cA 0, 60, .inl (upd (upd (upd (upd (upd (upd ss (Int32.toNatClampNeg (19 + (5 * (ss 0)))) x1) (Int32.toNatClampNeg ((19 + (5 * (ss 0))) + 1)) x2) (Int32.toNatClampNeg ((19 + (5 * (ss 0))) + 2)) x3) (Int32.toNatClampNeg ((19 + (5 * (ss 0))) + 3)) x4) (Int32.toNatClampNeg ((19 + (5 * (ss 0))) + 4)) t12) 0 t14)))] := hD
          refine lv_iload hx hb dX6_doAdd_127 (lv_at hl 1 rfl) ?_
          have h := Option.some.inj h
          subst h
          exact hend (adr []) _ _ _ _ _ _ _ rfl rfl (rtn_i _) hP hD hS dX6_doAdd_129
        · have h := ite_t c7 h
          refine lv_aload_n hx hb dX6_doAdd_48 rfl (lv_at hl 1 rfl) ?_
          refine lv_iconst (v := 2) hx hb dX6_doAdd_49 (by decide) ?_
          obtain ⟨o15, ho15, h⟩ := lt_i h
          refine gq_V (v := (fun as => (some (.int o15.1)))) (As := [.int 2]) (rest := []) (wc := [(m0, .inr (10, [.ref q0, .ref q1, .ref q2, .int v3, .ref q4, .int v5, .int v6, .ref q7, .int v8, .ref q9, .int v10, .int v11, .int v12, .int v13, .int v14, .ref q15, .int v16]))]) (wr := [(q0, .inl (cA 0, 60, .inl ss))]) (w1 := (fun as => [(m0, .inr (10, [.ref q0, .ref q1, .ref q2, .int v3, .ref q4, .int v5, .int o15.2, .ref q7, .int v8, .ref q9, .int v10, .int v11, .int v12, .int v13, .int v14, .ref q15, .int v16]))])) (ws2 := (fun as => [(m0, .inr (10, [.ref q0, .ref q1, .ref q2, .int v3, .ref q4, .int v5, .int o15.2, .ref q7, .int v8, .ref q9, .int v10, .int v11, .int v12, .int v13, .int v14, .ref q15, .int v16])), (q0, .inl (cA 0, 60, .inl ss))])) (st1 := (fun as => [.int o15.1])) ⟨hx, hb, hml, hfc, hts⟩ hK hP hD hS hA (kX6_fails l D cA m0 q0 q1 q2 q4 q7 q9 q15 v3 v5 v6 v8 v10 v11 v12 v13 v14 v16 2 ho15) (cwV 1 hts gX6_doAdd_X6_fails rfl rfl rfl (by decide +kernel) ⟨(Nat.le_of_ble_eq_true rfl), (Nat.le_of_ble_eq_true rfl)⟩) [0] [1] [1, 0] rfl rfl rfl rfl (by decide) (fun _ => rfl) rfl 0 10 rfl rfl rfl rfl (fun _ => rfl) rfl hl.1 (Nat.le_of_ble_eq_true rfl) dX6_doAdd_50 ⟨(Nat.zero_le _), (Nat.zero_le _)⟩ (fun as H locs hP hD hS => ?_)
          have hP : va_P D vwCl [(m0, .inr (10, [.ref q0, .ref q1, .ref q2, .int v3, .ref q4, .int v5, .int o15.2, .ref q7, .int v8, .ref q9, .int v10, .int v11, .int v12, .int v13, .int v14, .ref q15, .int v16])), (q0, .inl (cA 0, 60, .inl ss))] H := hP
          have hD : va_D A [(m0, .inr (10, [.ref q0, .ref q1, .ref q2, .int v3, .ref q4, .int v5, .int o15.2, .ref q7, .int v8, .ref q9, .int v10, .int v11, .int v12, .int v13, .int v14, .ref q15, .int v16])), (q0, .inl (cA 0, 60, .inl ss))] := hD
          have h := Option.some.inj h
          subst h
          exact hend (adr []) _ _ _ _ _ _ _ rfl rfl (rtn_i _) hP hD hS dX6_doAdd_53
      · have h := ite_t c6 h
        refine lv_aload_n hx hb dX6_doAdd_36 rfl (lv_at hl 1 rfl) ?_
        refine lv_iconst (v := 1) hx hb dX6_doAdd_37 (by decide) ?_
        obtain ⟨o16, ho16, h⟩ := lt_i h
        refine gq_V (v := (fun as => (some (.int o16.1)))) (As := [.int 1]) (rest := []) (wc := [(m0, .inr (10, [.ref q0, .ref q1, .ref q2, .int v3, .ref q4, .int v5, .int v6, .ref q7, .int v8, .ref q9, .int v10, .int v11, .int v12, .int v13, .int v14, .ref q15, .int v16]))]) (wr := [(q0, .inl (cA 0, 60, .inl ss))]) (w1 := (fun as => [(m0, .inr (10, [.ref q0, .ref q1, .ref q2, .int v3, .ref q4, .int v5, .int o16.2, .ref q7, .int v8, .ref q9, .int v10, .int v11, .int v12, .int v13, .int v14, .ref q15, .int v16]))])) (ws2 := (fun as => [(m0, .inr (10, [.ref q0, .ref q1, .ref q2, .int v3, .ref q4, .int v5, .int o16.2, .ref q7, .int v8, .ref q9, .int v10, .int v11, .int v12, .int v13, .int v14, .ref q15, .int v16])), (q0, .inl (cA 0, 60, .inl ss))])) (st1 := (fun as => [.int o16.1])) ⟨hx, hb, hml, hfc, hts⟩ hK hP hD hS hA (kX6_fails l D cA m0 q0 q1 q2 q4 q7 q9 q15 v3 v5 v6 v8 v10 v11 v12 v13 v14 v16 1 ho16) (cwV 1 hts gX6_doAdd_X6_fails rfl rfl rfl (by decide +kernel) ⟨(Nat.le_of_ble_eq_true rfl), (Nat.le_of_ble_eq_true rfl)⟩) [0] [1] [1, 0] rfl rfl rfl rfl (by decide) (fun _ => rfl) rfl 0 10 rfl rfl rfl rfl (fun _ => rfl) rfl hl.1 (Nat.le_of_ble_eq_true rfl) dX6_doAdd_38 ⟨(Nat.zero_le _), (Nat.zero_le _)⟩ (fun as H locs hP hD hS => ?_)
        have hP : va_P D vwCl [(m0, .inr (10, [.ref q0, .ref q1, .ref q2, .int v3, .ref q4, .int v5, .int o16.2, .ref q7, .int v8, .ref q9, .int v10, .int v11, .int v12, .int v13, .int v14, .ref q15, .int v16])), (q0, .inl (cA 0, 60, .inl ss))] H := hP
        have hD : va_D A [(m0, .inr (10, [.ref q0, .ref q1, .ref q2, .int v3, .ref q4, .int v5, .int o16.2, .ref q7, .int v8, .ref q9, .int v10, .int v11, .int v12, .int v13, .int v14, .ref q15, .int v16])), (q0, .inl (cA 0, 60, .inl ss))] := hD
        have h := Option.some.inj h
        subst h
        exact hend (adr []) _ _ _ _ _ _ _ rfl rfl (rtn_i _) hP hD hS dX6_doAdd_41
noncomputable def SX6_addHardMoon (v5 : Int32) (ss : Nat → Int32) (bb : Nat → Int32) (pp : Nat → Int32) (x1 : Int32) (x2 : Int32) (x3 : Int32) : Option (Int32 × (Nat → Int32) × (Nat → Int32) × (Nat → Int32) × Int32 × Int32) := lt_ (SX6_keep ss bb) (fun o1 : (Nat → Int32) × Int32 => bnd (SX6_doAdd o1.2 ss 0 x1 x2 x3) (fun o2 : Int32 × (Nat → Int32) × Int32 => bnd (SX6_ends v5 o2.2.2 o2.2.1 o1.1 pp o2.1) (fun o3 : Int32 × (Nat → Int32) × (Nat → Int32) × Int32 => some ((o3.1, o3.2.1, o1.1, o3.2.2.1, o3.2.2.2, o2.2.2)))))
abbrev RM_X6_addHardMoon : Room := { frames := 3, cells := 0, slots := 0, locals := 69 }
set_option maxHeartbeats 4000000 in
theorem kX6_addHardMoon (l : Launch) (D : va_G) (cA : Nat → ClassId) (m0 q0 q1 q2 q4 q7 q9 q15 : Nat) (v3 : Int32) (v5 : Int32) (v6 : Int32) (v8 : Int32) (v10 : Int32) (v11 : Int32) (v12 : Int32) (v13 : Int32) (v14 : Int32) (v16 : Int32) (ss : Nat → Int32) (bb : Nat → Int32) (pp : Nat → Int32) (x1 : Int32) (x2 : Int32) (x3 : Int32) {r : Int32 × (Nat → Int32) × (Nat → Int32) × (Nat → Int32) × Int32 × Int32} (hr : SX6_addHardMoon v5 ss bb pp x1 x2 x3 = some r) {sz : Nat} : Met l yX6_addHardMoon wsX6_addHardMoon RM_X6_addHardMoon (va_Pc [.ref m0, .int x1, .int x2, .int x3] (gqB D cA [(m0, .inr (10, [.ref q0, .ref q1, .ref q2, .int v3, .ref q4, .int v5, .int v6, .ref q7, .int v8, .ref q9, .int v10, .int v11, .int v12, .int v13, .int v14, .ref q15, .int v16])), (q0, .inl (cA 0, 60, .inl ss)), (q1, .inl (cA 0, 60, .inl bb)), (q4, .inl (cA 0, 480, .inl pp))] sz)) (gqQ D (fun as => (some (.int r.1))) (fun as => [(m0, .inr (10, [.ref q0, .ref q1, .ref q2, .int v3, .ref q4, .int r.2.2.2.2.1, .int r.2.2.2.2.2, .ref q7, .int v8, .ref q9, .int v10, .int v11, .int v12, .int v13, .int v14, .ref q15, .int v16])), (q0, .inl (cA 0, 60, .inl r.2.1)), (q1, .inl (cA 0, 60, .inl r.2.2.1)), (q4, .inl (cA 0, 480, .inl r.2.2.2.1))]) (va_A [(m0, .inr (10, [.ref q0, .ref q1, .ref q2, .int v3, .ref q4, .int v5, .int v6, .ref q7, .int v8, .ref q9, .int v10, .int v11, .int v12, .int v13, .int v14, .ref q15, .int v16])), (q0, .inl (cA 0, 60, .inl ss)), (q1, .inl (cA 0, 60, .inl bb)), (q4, .inl (cA 0, 480, .inl pp))] sz)) 0 0 (va_A [(m0, .inr (10, [.ref q0, .ref q1, .ref q2, .int v3, .ref q4, .int v5, .int v6, .ref q7, .int v8, .ref q9, .int v10, .int v11, .int v12, .int v13, .int v14, .ref q15, .int v16])), (q0, .inl (cA 0, 60, .inl ss)), (q1, .inl (cA 0, 60, .inl bb)), (q4, .inl (cA 0, 480, .inl pp))] sz) := by
  refine gq_ofW (cc := cX6_addHardMoon) (maxL := 4) (ret := (some .int)) (by decide) rfl (Nat.le_of_ble_eq_true rfl) (fun p e s m args below meth c ls Q A hx hb hml hts hfc hmn hK hP hD hS hA hl hend => ?_)
  have hfc : s.vm.findClass RX6 = some m.cls := hfc
  have hl : lv_has ls 4 [(0, .ref m0), (1, .int x1), (2, .int x2), (3, .int x3)] := hl
  have h := hr
  clear hr
  unfold SX6_addHardMoon at h
  refine lv_aload_n hx hb dX6_addHardMoon_0 rfl (lv_at hl 0 rfl) ?_
  obtain ⟨o1, ho1, h⟩ := lt_i h
  refine gq_V (v := (fun as => none)) (As := []) (rest := []) (wc := [(m0, .inr (10, [.ref q0, .ref q1, .ref q2, .int v3, .ref q4, .int v5, .int v6, .ref q7, .int v8, .ref q9, .int v10, .int v11, .int v12, .int v13, .int v14, .ref q15, .int v16])), (q0, .inl (cA 0, 60, .inl ss)), (q1, .inl (cA 0, 60, .inl bb))]) (wr := [(q4, .inl (cA 0, 480, .inl pp))]) (w1 := (fun as => [(m0, .inr (10, [.ref q0, .ref q1, .ref q2, .int v3, .ref q4, .int v5, .int o1.2, .ref q7, .int v8, .ref q9, .int v10, .int v11, .int v12, .int v13, .int v14, .ref q15, .int v16])), (q0, .inl (cA 0, 60, .inl ss)), (q1, .inl (cA 0, 60, .inl o1.1))])) (ws2 := (fun as => [(m0, .inr (10, [.ref q0, .ref q1, .ref q2, .int v3, .ref q4, .int v5, .int o1.2, .ref q7, .int v8, .ref q9, .int v10, .int v11, .int v12, .int v13, .int v14, .ref q15, .int v16])), (q0, .inl (cA 0, 60, .inl ss)), (q1, .inl (cA 0, 60, .inl o1.1)), (q4, .inl (cA 0, 480, .inl pp))])) (st1 := (fun as => [])) ⟨hx, hb, hml, hfc, hts⟩ hK hP hD hS hA (kX6_keep l D cA m0 q0 q1 q2 q4 q7 q9 q15 v3 v5 v6 v8 v10 v11 v12 v13 v14 v16 ss bb ho1) (cwV 0 hts gX6_addHardMoon_X6_keep rfl rfl rfl (by decide +kernel) ⟨(Nat.le_of_ble_eq_true rfl), (Nat.le_of_ble_eq_true rfl)⟩) [0, 1, 2] [3] [1, 2, 3, 0] rfl rfl rfl rfl (by decide) (fun _ => rfl) rfl 0 10 rfl rfl rfl rfl (fun _ => rfl) rfl hl.1 (Nat.le_of_ble_eq_true rfl) dX6_addHardMoon_1 ⟨(Nat.zero_le _), (Nat.zero_le _)⟩ (fun as H locs hP hD hS => ?_)
  have hP : va_P D vwCl [(m0, .inr (10, [.ref q0, .ref q1, .ref q2, .int v3, .ref q4, .int v5, .int o1.2, .ref q7, .int v8, .ref q9, .int v10, .int v11, .int v12, .int v13, .int v14, .ref q15, .int v16])), (q0, .inl (cA 0, 60, .inl ss)), (q1, .inl (cA 0, 60, .inl o1.1)), (q4, .inl (cA 0, 480, .inl pp))] H := hP
  have hD : va_D A [(m0, .inr (10, [.ref q0, .ref q1, .ref q2, .int v3, .ref q4, .int v5, .int o1.2, .ref q7, .int v8, .ref q9, .int v10, .int v11, .int v12, .int v13, .int v14, .ref q15, .int v16])), (q0, .inl (cA 0, 60, .inl ss)), (q1, .inl (cA 0, 60, .inl o1.1)), (q4, .inl (cA 0, 480, .inl pp))] := hD
  refine lv_aload_n hx hb dX6_addHardMoon_4 rfl (lv_at hl 0 rfl) ?_
  refine lv_aload_n hx hb dX6_addHardMoon_5 rfl (lv_at hl 0 rfl) ?_
  refine lv_iconst (v := 0) hx hb dX6_addHardMoon_6 (by decide) ?_
  refine lv_iload_n hx hb dX6_addHardMoon_7 rfl (lv_at hl 1 rfl) ?_
  refine lv_iload_n hx hb dX6_addHardMoon_8 rfl (lv_at hl 2 rfl) ?_
  refine lv_iload_n hx hb dX6_addHardMoon_9 rfl (lv_at hl 3 rfl) ?_
  obtain ⟨o2, ho2, h⟩ := bnd_i h
  refine gq_V (v := (fun as => (some (.int o2.1)))) (As := [.int 0, .int x1, .int x2, .int x3]) (rest := [.ref m0]) (wc := [(m0, .inr (10, [.ref q0, .ref q1, .ref q2, .int v3, .ref q4, .int v5, .int o1.2, .ref q7, .int v8, .ref q9, .int v10, .int v11, .int v12, .int v13, .int v14, .ref q15, .int v16])), (q0, .inl (cA 0, 60, .inl ss))]) (wr := [(q1, .inl (cA 0, 60, .inl o1.1)), (q4, .inl (cA 0, 480, .inl pp))]) (w1 := (fun as => [(m0, .inr (10, [.ref q0, .ref q1, .ref q2, .int v3, .ref q4, .int v5, .int o2.2.2, .ref q7, .int v8, .ref q9, .int v10, .int v11, .int v12, .int v13, .int v14, .ref q15, .int v16])), (q0, .inl (cA 0, 60, .inl o2.2.1))])) (ws2 := (fun as => [(m0, .inr (10, [.ref q0, .ref q1, .ref q2, .int v3, .ref q4, .int v5, .int o2.2.2, .ref q7, .int v8, .ref q9, .int v10, .int v11, .int v12, .int v13, .int v14, .ref q15, .int v16])), (q0, .inl (cA 0, 60, .inl o2.2.1)), (q1, .inl (cA 0, 60, .inl o1.1)), (q4, .inl (cA 0, 480, .inl pp))])) (st1 := (fun as => [.int o2.1, .ref m0])) ⟨hx, hb, hml, hfc, hts⟩ hK hP hD hS hA (kX6_doAdd l D cA m0 q0 q1 q2 q4 q7 q9 q15 v3 v5 o1.2 v8 v10 v11 v12 v13 v14 v16 ss 0 x1 x2 x3 ho2) (cwV 4 hts gX6_addHardMoon_X6_doAdd rfl rfl rfl (by decide +kernel) ⟨(Nat.le_of_ble_eq_true rfl), (Nat.le_of_ble_eq_true rfl)⟩) [0, 1] [2, 3] [2, 3, 0, 1] rfl rfl rfl rfl (by decide) (fun _ => rfl) rfl 0 10 rfl rfl rfl rfl (fun _ => rfl) rfl hl.1 (Nat.le_of_ble_eq_true rfl) dX6_addHardMoon_10 ⟨(Nat.zero_le _), (Nat.zero_le _)⟩ (fun as H locs hP hD hS => ?_)
  have hP : va_P D vwCl [(m0, .inr (10, [.ref q0, .ref q1, .ref q2, .int v3, .ref q4, .int v5, .int o2.2.2, .ref q7, .int v8, .ref q9, .int v10, .int v11, .int v12, .int v13, .int v14, .ref q15, .int v16])), (q0, .inl (cA 0, 60, .inl o2.2.1)), (q1, .inl (cA 0, 60, .inl o1.1)), (q4, .inl (cA 0, 480, .inl pp))] H := hP
  have hD : va_D A [(m0, .inr (10, [.ref q0, .ref q1, .ref q2, .int v3, .ref q4, .int v5, .int o2.2.2, .ref q7, .int v8, .ref q9, .int v10, .int v11, .int v12, .int v13, .int v14, .ref q15, .int v16])), (q0, .inl (cA 0, 60, .inl o2.2.1)), (q1, .inl (cA 0, 60, .inl o1.1)), (q4, .inl (cA 0, 480, .inl pp))] := hD
  obtain ⟨o3, ho3, h⟩ := bnd_i h
  refine gq_V (v := (fun as => (some (.int o3.1)))) (As := [.int o2.1]) (rest := []) (wc := [(m0, .inr (10, [.ref q0, .ref q1, .ref q2, .int v3, .ref q4, .int v5, .int o2.2.2, .ref q7, .int v8, .ref q9, .int v10, .int v11, .int v12, .int v13, .int v14, .ref q15, .int v16])), (q0, .inl (cA 0, 60, .inl o2.2.1)), (q1, .inl (cA 0, 60, .inl o1.1)), (q4, .inl (cA 0, 480, .inl pp))]) (wr := []) (w1 := (fun as => [(m0, .inr (10, [.ref q0, .ref q1, .ref q2, .int v3, .ref q4, .int o3.2.2.2, .int o2.2.2, .ref q7, .int v8, .ref q9, .int v10, .int v11, .int v12, .int v13, .int v14, .ref q15, .int v16])), (q0, .inl (cA 0, 60, .inl o3.2.1)), (q1, .inl (cA 0, 60, .inl o1.1)), (q4, .inl (cA 0, 480, .inl o3.2.2.1))])) (ws2 := (fun as => [(m0, .inr (10, [.ref q0, .ref q1, .ref q2, .int v3, .ref q4, .int o3.2.2.2, .int o2.2.2, .ref q7, .int v8, .ref q9, .int v10, .int v11, .int v12, .int v13, .int v14, .ref q15, .int v16])), (q0, .inl (cA 0, 60, .inl o3.2.1)), (q1, .inl (cA 0, 60, .inl o1.1)), (q4, .inl (cA 0, 480, .inl o3.2.2.1))])) (st1 := (fun as => [.int o3.1])) ⟨hx, hb, hml, hfc, hts⟩ hK hP hD hS hA (kX6_ends l D cA m0 q0 q1 q2 q4 q7 q9 q15 v3 v5 o2.2.2 v8 v10 v11 v12 v13 v14 v16 o2.2.1 o1.1 pp o2.1 ho3) (cwV 1 hts gX6_addHardMoon_X6_ends rfl rfl rfl (by decide +kernel) ⟨(Nat.le_of_ble_eq_true rfl), (Nat.le_of_ble_eq_true rfl)⟩) [0, 1, 2, 3] [] [0, 1, 2, 3] rfl rfl rfl rfl (by decide) (fun _ => rfl) rfl 0 10 rfl rfl rfl rfl (fun _ => rfl) rfl hl.1 (Nat.le_of_ble_eq_true rfl) dX6_addHardMoon_13 ⟨(Nat.zero_le _), (Nat.zero_le _)⟩ (fun as H locs hP hD hS => ?_)
  have hP : va_P D vwCl [(m0, .inr (10, [.ref q0, .ref q1, .ref q2, .int v3, .ref q4, .int o3.2.2.2, .int o2.2.2, .ref q7, .int v8, .ref q9, .int v10, .int v11, .int v12, .int v13, .int v14, .ref q15, .int v16])), (q0, .inl (cA 0, 60, .inl o3.2.1)), (q1, .inl (cA 0, 60, .inl o1.1)), (q4, .inl (cA 0, 480, .inl o3.2.2.1))] H := hP
  have hD : va_D A [(m0, .inr (10, [.ref q0, .ref q1, .ref q2, .int v3, .ref q4, .int o3.2.2.2, .int o2.2.2, .ref q7, .int v8, .ref q9, .int v10, .int v11, .int v12, .int v13, .int v14, .ref q15, .int v16])), (q0, .inl (cA 0, 60, .inl o3.2.1)), (q1, .inl (cA 0, 60, .inl o1.1)), (q4, .inl (cA 0, 480, .inl o3.2.2.1))] := hD
  have h := Option.some.inj h
  subst h
  exact hend (adr []) _ _ _ _ _ _ _ rfl rfl (rtn_i _) hP hD hS dX6_addHardMoon_16
noncomputable def SX6_addSoftMoon (v5 : Int32) (ss : Nat → Int32) (bb : Nat → Int32) (pp : Nat → Int32) (x1 : Int32) (x2 : Int32) (x3 : Int32) : Option (Int32 × (Nat → Int32) × (Nat → Int32) × (Nat → Int32) × Int32 × Int32) := lt_ (SX6_keep ss bb) (fun o1 : (Nat → Int32) × Int32 => bnd (SX6_doAdd o1.2 ss 1 x1 x2 x3) (fun o2 : Int32 × (Nat → Int32) × Int32 => bnd (SX6_ends v5 o2.2.2 o2.2.1 o1.1 pp o2.1) (fun o3 : Int32 × (Nat → Int32) × (Nat → Int32) × Int32 => some ((o3.1, o3.2.1, o1.1, o3.2.2.1, o3.2.2.2, o2.2.2)))))
abbrev RM_X6_addSoftMoon : Room := { frames := 3, cells := 0, slots := 0, locals := 69 }
set_option maxHeartbeats 4000000 in
theorem kX6_addSoftMoon (l : Launch) (D : va_G) (cA : Nat → ClassId) (m0 q0 q1 q2 q4 q7 q9 q15 : Nat) (v3 : Int32) (v5 : Int32) (v6 : Int32) (v8 : Int32) (v10 : Int32) (v11 : Int32) (v12 : Int32) (v13 : Int32) (v14 : Int32) (v16 : Int32) (ss : Nat → Int32) (bb : Nat → Int32) (pp : Nat → Int32) (x1 : Int32) (x2 : Int32) (x3 : Int32) {r : Int32 × (Nat → Int32) × (Nat → Int32) × (Nat → Int32) × Int32 × Int32} (hr : SX6_addSoftMoon v5 ss bb pp x1 x2 x3 = some r) {sz : Nat} : Met l yX6_addSoftMoon wsX6_addSoftMoon RM_X6_addSoftMoon (va_Pc [.ref m0, .int x1, .int x2, .int x3] (gqB D cA [(m0, .inr (10, [.ref q0, .ref q1, .ref q2, .int v3, .ref q4, .int v5, .int v6, .ref q7, .int v8, .ref q9, .int v10, .int v11, .int v12, .int v13, .int v14, .ref q15, .int v16])), (q0, .inl (cA 0, 60, .inl ss)), (q1, .inl (cA 0, 60, .inl bb)), (q4, .inl (cA 0, 480, .inl pp))] sz)) (gqQ D (fun as => (some (.int r.1))) (fun as => [(m0, .inr (10, [.ref q0, .ref q1, .ref q2, .int v3, .ref q4, .int r.2.2.2.2.1, .int r.2.2.2.2.2, .ref q7, .int v8, .ref q9, .int v10, .int v11, .int v12, .int v13, .int v14, .ref q15, .int v16])), (q0, .inl (cA 0, 60, .inl r.2.1)), (q1, .inl (cA 0, 60, .inl r.2.2.1)), (q4, .inl (cA 0, 480, .inl r.2.2.2.1))]) (va_A [(m0, .inr (10, [.ref q0, .ref q1, .ref q2, .int v3, .ref q4, .int v5, .int v6, .ref q7, .int v8, .ref q9, .int v10, .int v11, .int v12, .int v13, .int v14, .ref q15, .int v16])), (q0, .inl (cA 0, 60, .inl ss)), (q1, .inl (cA 0, 60, .inl bb)), (q4, .inl (cA 0, 480, .inl pp))] sz)) 0 0 (va_A [(m0, .inr (10, [.ref q0, .ref q1, .ref q2, .int v3, .ref q4, .int v5, .int v6, .ref q7, .int v8, .ref q9, .int v10, .int v11, .int v12, .int v13, .int v14, .ref q15, .int v16])), (q0, .inl (cA 0, 60, .inl ss)), (q1, .inl (cA 0, 60, .inl bb)), (q4, .inl (cA 0, 480, .inl pp))] sz) := by
  refine gq_ofW (cc := cX6_addSoftMoon) (maxL := 4) (ret := (some .int)) (by decide) rfl (Nat.le_of_ble_eq_true rfl) (fun p e s m args below meth c ls Q A hx hb hml hts hfc hmn hK hP hD hS hA hl hend => ?_)
  have hfc : s.vm.findClass RX6 = some m.cls := hfc
  have hl : lv_has ls 4 [(0, .ref m0), (1, .int x1), (2, .int x2), (3, .int x3)] := hl
  have h := hr
  clear hr
  unfold SX6_addSoftMoon at h
  refine lv_aload_n hx hb dX6_addSoftMoon_0 rfl (lv_at hl 0 rfl) ?_
  obtain ⟨o1, ho1, h⟩ := lt_i h
  refine gq_V (v := (fun as => none)) (As := []) (rest := []) (wc := [(m0, .inr (10, [.ref q0, .ref q1, .ref q2, .int v3, .ref q4, .int v5, .int v6, .ref q7, .int v8, .ref q9, .int v10, .int v11, .int v12, .int v13, .int v14, .ref q15, .int v16])), (q0, .inl (cA 0, 60, .inl ss)), (q1, .inl (cA 0, 60, .inl bb))]) (wr := [(q4, .inl (cA 0, 480, .inl pp))]) (w1 := (fun as => [(m0, .inr (10, [.ref q0, .ref q1, .ref q2, .int v3, .ref q4, .int v5, .int o1.2, .ref q7, .int v8, .ref q9, .int v10, .int v11, .int v12, .int v13, .int v14, .ref q15, .int v16])), (q0, .inl (cA 0, 60, .inl ss)), (q1, .inl (cA 0, 60, .inl o1.1))])) (ws2 := (fun as => [(m0, .inr (10, [.ref q0, .ref q1, .ref q2, .int v3, .ref q4, .int v5, .int o1.2, .ref q7, .int v8, .ref q9, .int v10, .int v11, .int v12, .int v13, .int v14, .ref q15, .int v16])), (q0, .inl (cA 0, 60, .inl ss)), (q1, .inl (cA 0, 60, .inl o1.1)), (q4, .inl (cA 0, 480, .inl pp))])) (st1 := (fun as => [])) ⟨hx, hb, hml, hfc, hts⟩ hK hP hD hS hA (kX6_keep l D cA m0 q0 q1 q2 q4 q7 q9 q15 v3 v5 v6 v8 v10 v11 v12 v13 v14 v16 ss bb ho1) (cwV 0 hts gX6_addSoftMoon_X6_keep rfl rfl rfl (by decide +kernel) ⟨(Nat.le_of_ble_eq_true rfl), (Nat.le_of_ble_eq_true rfl)⟩) [0, 1, 2] [3] [1, 2, 3, 0] rfl rfl rfl rfl (by decide) (fun _ => rfl) rfl 0 10 rfl rfl rfl rfl (fun _ => rfl) rfl hl.1 (Nat.le_of_ble_eq_true rfl) dX6_addSoftMoon_1 ⟨(Nat.zero_le _), (Nat.zero_le _)⟩ (fun as H locs hP hD hS => ?_)
  have hP : va_P D vwCl [(m0, .inr (10, [.ref q0, .ref q1, .ref q2, .int v3, .ref q4, .int v5, .int o1.2, .ref q7, .int v8, .ref q9, .int v10, .int v11, .int v12, .int v13, .int v14, .ref q15, .int v16])), (q0, .inl (cA 0, 60, .inl ss)), (q1, .inl (cA 0, 60, .inl o1.1)), (q4, .inl (cA 0, 480, .inl pp))] H := hP
  have hD : va_D A [(m0, .inr (10, [.ref q0, .ref q1, .ref q2, .int v3, .ref q4, .int v5, .int o1.2, .ref q7, .int v8, .ref q9, .int v10, .int v11, .int v12, .int v13, .int v14, .ref q15, .int v16])), (q0, .inl (cA 0, 60, .inl ss)), (q1, .inl (cA 0, 60, .inl o1.1)), (q4, .inl (cA 0, 480, .inl pp))] := hD
  refine lv_aload_n hx hb dX6_addSoftMoon_4 rfl (lv_at hl 0 rfl) ?_
  refine lv_aload_n hx hb dX6_addSoftMoon_5 rfl (lv_at hl 0 rfl) ?_
  refine lv_iconst (v := 1) hx hb dX6_addSoftMoon_6 (by decide) ?_
  refine lv_iload_n hx hb dX6_addSoftMoon_7 rfl (lv_at hl 1 rfl) ?_
  refine lv_iload_n hx hb dX6_addSoftMoon_8 rfl (lv_at hl 2 rfl) ?_
  refine lv_iload_n hx hb dX6_addSoftMoon_9 rfl (lv_at hl 3 rfl) ?_
  obtain ⟨o2, ho2, h⟩ := bnd_i h
  refine gq_V (v := (fun as => (some (.int o2.1)))) (As := [.int 1, .int x1, .int x2, .int x3]) (rest := [.ref m0]) (wc := [(m0, .inr (10, [.ref q0, .ref q1, .ref q2, .int v3, .ref q4, .int v5, .int o1.2, .ref q7, .int v8, .ref q9, .int v10, .int v11, .int v12, .int v13, .int v14, .ref q15, .int v16])), (q0, .inl (cA 0, 60, .inl ss))]) (wr := [(q1, .inl (cA 0, 60, .inl o1.1)), (q4, .inl (cA 0, 480, .inl pp))]) (w1 := (fun as => [(m0, .inr (10, [.ref q0, .ref q1, .ref q2, .int v3, .ref q4, .int v5, .int o2.2.2, .ref q7, .int v8, .ref q9, .int v10, .int v11, .int v12, .int v13, .int v14, .ref q15, .int v16])), (q0, .inl (cA 0, 60, .inl o2.2.1))])) (ws2 := (fun as => [(m0, .inr (10, [.ref q0, .ref q1, .ref q2, .int v3, .ref q4, .int v5, .int o2.2.2, .ref q7, .int v8, .ref q9, .int v10, .int v11, .int v12, .int v13, .int v14, .ref q15, .int v16])), (q0, .inl (cA 0, 60, .inl o2.2.1)), (q1, .inl (cA 0, 60, .inl o1.1)), (q4, .inl (cA 0, 480, .inl pp))])) (st1 := (fun as => [.int o2.1, .ref m0])) ⟨hx, hb, hml, hfc, hts⟩ hK hP hD hS hA (kX6_doAdd l D cA m0 q0 q1 q2 q4 q7 q9 q15 v3 v5 o1.2 v8 v10 v11 v12 v13 v14 v16 ss 1 x1 x2 x3 ho2) (cwV 4 hts gX6_addSoftMoon_X6_doAdd rfl rfl rfl (by decide +kernel) ⟨(Nat.le_of_ble_eq_true rfl), (Nat.le_of_ble_eq_true rfl)⟩) [0, 1] [2, 3] [2, 3, 0, 1] rfl rfl rfl rfl (by decide) (fun _ => rfl) rfl 0 10 rfl rfl rfl rfl (fun _ => rfl) rfl hl.1 (Nat.le_of_ble_eq_true rfl) dX6_addSoftMoon_10 ⟨(Nat.zero_le _), (Nat.zero_le _)⟩ (fun as H locs hP hD hS => ?_)
  have hP : va_P D vwCl [(m0, .inr (10, [.ref q0, .ref q1, .ref q2, .int v3, .ref q4, .int v5, .int o2.2.2, .ref q7, .int v8, .ref q9, .int v10, .int v11, .int v12, .int v13, .int v14, .ref q15, .int v16])), (q0, .inl (cA 0, 60, .inl o2.2.1)), (q1, .inl (cA 0, 60, .inl o1.1)), (q4, .inl (cA 0, 480, .inl pp))] H := hP
  have hD : va_D A [(m0, .inr (10, [.ref q0, .ref q1, .ref q2, .int v3, .ref q4, .int v5, .int o2.2.2, .ref q7, .int v8, .ref q9, .int v10, .int v11, .int v12, .int v13, .int v14, .ref q15, .int v16])), (q0, .inl (cA 0, 60, .inl o2.2.1)), (q1, .inl (cA 0, 60, .inl o1.1)), (q4, .inl (cA 0, 480, .inl pp))] := hD
  obtain ⟨o3, ho3, h⟩ := bnd_i h
  refine gq_V (v := (fun as => (some (.int o3.1)))) (As := [.int o2.1]) (rest := []) (wc := [(m0, .inr (10, [.ref q0, .ref q1, .ref q2, .int v3, .ref q4, .int v5, .int o2.2.2, .ref q7, .int v8, .ref q9, .int v10, .int v11, .int v12, .int v13, .int v14, .ref q15, .int v16])), (q0, .inl (cA 0, 60, .inl o2.2.1)), (q1, .inl (cA 0, 60, .inl o1.1)), (q4, .inl (cA 0, 480, .inl pp))]) (wr := []) (w1 := (fun as => [(m0, .inr (10, [.ref q0, .ref q1, .ref q2, .int v3, .ref q4, .int o3.2.2.2, .int o2.2.2, .ref q7, .int v8, .ref q9, .int v10, .int v11, .int v12, .int v13, .int v14, .ref q15, .int v16])), (q0, .inl (cA 0, 60, .inl o3.2.1)), (q1, .inl (cA 0, 60, .inl o1.1)), (q4, .inl (cA 0, 480, .inl o3.2.2.1))])) (ws2 := (fun as => [(m0, .inr (10, [.ref q0, .ref q1, .ref q2, .int v3, .ref q4, .int o3.2.2.2, .int o2.2.2, .ref q7, .int v8, .ref q9, .int v10, .int v11, .int v12, .int v13, .int v14, .ref q15, .int v16])), (q0, .inl (cA 0, 60, .inl o3.2.1)), (q1, .inl (cA 0, 60, .inl o1.1)), (q4, .inl (cA 0, 480, .inl o3.2.2.1))])) (st1 := (fun as => [.int o3.1])) ⟨hx, hb, hml, hfc, hts⟩ hK hP hD hS hA (kX6_ends l D cA m0 q0 q1 q2 q4 q7 q9 q15 v3 v5 o2.2.2 v8 v10 v11 v12 v13 v14 v16 o2.2.1 o1.1 pp o2.1 ho3) (cwV 1 hts gX6_addSoftMoon_X6_ends rfl rfl rfl (by decide +kernel) ⟨(Nat.le_of_ble_eq_true rfl), (Nat.le_of_ble_eq_true rfl)⟩) [0, 1, 2, 3] [] [0, 1, 2, 3] rfl rfl rfl rfl (by decide) (fun _ => rfl) rfl 0 10 rfl rfl rfl rfl (fun _ => rfl) rfl hl.1 (Nat.le_of_ble_eq_true rfl) dX6_addSoftMoon_13 ⟨(Nat.zero_le _), (Nat.zero_le _)⟩ (fun as H locs hP hD hS => ?_)
  have hP : va_P D vwCl [(m0, .inr (10, [.ref q0, .ref q1, .ref q2, .int v3, .ref q4, .int o3.2.2.2, .int o2.2.2, .ref q7, .int v8, .ref q9, .int v10, .int v11, .int v12, .int v13, .int v14, .ref q15, .int v16])), (q0, .inl (cA 0, 60, .inl o3.2.1)), (q1, .inl (cA 0, 60, .inl o1.1)), (q4, .inl (cA 0, 480, .inl o3.2.2.1))] H := hP
  have hD : va_D A [(m0, .inr (10, [.ref q0, .ref q1, .ref q2, .int v3, .ref q4, .int o3.2.2.2, .int o2.2.2, .ref q7, .int v8, .ref q9, .int v10, .int v11, .int v12, .int v13, .int v14, .ref q15, .int v16])), (q0, .inl (cA 0, 60, .inl o3.2.1)), (q1, .inl (cA 0, 60, .inl o1.1)), (q4, .inl (cA 0, 480, .inl o3.2.2.1))] := hD
  have h := Option.some.inj h
  subst h
  exact hend (adr []) _ _ _ _ _ _ _ rfl rfl (rtn_i _) hP hD hS dX6_addSoftMoon_16
noncomputable def SX6_addBubbleMoon (v5 : Int32) (ss : Nat → Int32) (bb : Nat → Int32) (pp : Nat → Int32) (x1 : Int32) (x2 : Int32) (x3 : Int32) : Option (Int32 × (Nat → Int32) × (Nat → Int32) × (Nat → Int32) × Int32 × Int32) := lt_ (SX6_keep ss bb) (fun o1 : (Nat → Int32) × Int32 => bnd (SX6_doAdd o1.2 ss 2 x1 x2 x3) (fun o2 : Int32 × (Nat → Int32) × Int32 => bnd (SX6_ends v5 o2.2.2 o2.2.1 o1.1 pp o2.1) (fun o3 : Int32 × (Nat → Int32) × (Nat → Int32) × Int32 => some ((o3.1, o3.2.1, o1.1, o3.2.2.1, o3.2.2.2, o2.2.2)))))
abbrev RM_X6_addBubbleMoon : Room := { frames := 3, cells := 0, slots := 0, locals := 69 }
set_option maxHeartbeats 4000000 in
theorem kX6_addBubbleMoon (l : Launch) (D : va_G) (cA : Nat → ClassId) (m0 q0 q1 q2 q4 q7 q9 q15 : Nat) (v3 : Int32) (v5 : Int32) (v6 : Int32) (v8 : Int32) (v10 : Int32) (v11 : Int32) (v12 : Int32) (v13 : Int32) (v14 : Int32) (v16 : Int32) (ss : Nat → Int32) (bb : Nat → Int32) (pp : Nat → Int32) (x1 : Int32) (x2 : Int32) (x3 : Int32) {r : Int32 × (Nat → Int32) × (Nat → Int32) × (Nat → Int32) × Int32 × Int32} (hr : SX6_addBubbleMoon v5 ss bb pp x1 x2 x3 = some r) {sz : Nat} : Met l yX6_addBubbleMoon wsX6_addBubbleMoon RM_X6_addBubbleMoon (va_Pc [.ref m0, .int x1, .int x2, .int x3] (gqB D cA [(m0, .inr (10, [.ref q0, .ref q1, .ref q2, .int v3, .ref q4, .int v5, .int v6, .ref q7, .int v8, .ref q9, .int v10, .int v11, .int v12, .int v13, .int v14, .ref q15, .int v16])), (q0, .inl (cA 0, 60, .inl ss)), (q1, .inl (cA 0, 60, .inl bb)), (q4, .inl (cA 0, 480, .inl pp))] sz)) (gqQ D (fun as => (some (.int r.1))) (fun as => [(m0, .inr (10, [.ref q0, .ref q1, .ref q2, .int v3, .ref q4, .int r.2.2.2.2.1, .int r.2.2.2.2.2, .ref q7, .int v8, .ref q9, .int v10, .int v11, .int v12, .int v13, .int v14, .ref q15, .int v16])), (q0, .inl (cA 0, 60, .inl r.2.1)), (q1, .inl (cA 0, 60, .inl r.2.2.1)), (q4, .inl (cA 0, 480, .inl r.2.2.2.1))]) (va_A [(m0, .inr (10, [.ref q0, .ref q1, .ref q2, .int v3, .ref q4, .int v5, .int v6, .ref q7, .int v8, .ref q9, .int v10, .int v11, .int v12, .int v13, .int v14, .ref q15, .int v16])), (q0, .inl (cA 0, 60, .inl ss)), (q1, .inl (cA 0, 60, .inl bb)), (q4, .inl (cA 0, 480, .inl pp))] sz)) 0 0 (va_A [(m0, .inr (10, [.ref q0, .ref q1, .ref q2, .int v3, .ref q4, .int v5, .int v6, .ref q7, .int v8, .ref q9, .int v10, .int v11, .int v12, .int v13, .int v14, .ref q15, .int v16])), (q0, .inl (cA 0, 60, .inl ss)), (q1, .inl (cA 0, 60, .inl bb)), (q4, .inl (cA 0, 480, .inl pp))] sz) := by
  refine gq_ofW (cc := cX6_addBubbleMoon) (maxL := 4) (ret := (some .int)) (by decide) rfl (Nat.le_of_ble_eq_true rfl) (fun p e s m args below meth c ls Q A hx hb hml hts hfc hmn hK hP hD hS hA hl hend => ?_)
  have hfc : s.vm.findClass RX6 = some m.cls := hfc
  have hl : lv_has ls 4 [(0, .ref m0), (1, .int x1), (2, .int x2), (3, .int x3)] := hl
  have h := hr
  clear hr
  unfold SX6_addBubbleMoon at h
  refine lv_aload_n hx hb dX6_addBubbleMoon_0 rfl (lv_at hl 0 rfl) ?_
  obtain ⟨o1, ho1, h⟩ := lt_i h
  refine gq_V (v := (fun as => none)) (As := []) (rest := []) (wc := [(m0, .inr (10, [.ref q0, .ref q1, .ref q2, .int v3, .ref q4, .int v5, .int v6, .ref q7, .int v8, .ref q9, .int v10, .int v11, .int v12, .int v13, .int v14, .ref q15, .int v16])), (q0, .inl (cA 0, 60, .inl ss)), (q1, .inl (cA 0, 60, .inl bb))]) (wr := [(q4, .inl (cA 0, 480, .inl pp))]) (w1 := (fun as => [(m0, .inr (10, [.ref q0, .ref q1, .ref q2, .int v3, .ref q4, .int v5, .int o1.2, .ref q7, .int v8, .ref q9, .int v10, .int v11, .int v12, .int v13, .int v14, .ref q15, .int v16])), (q0, .inl (cA 0, 60, .inl ss)), (q1, .inl (cA 0, 60, .inl o1.1))])) (ws2 := (fun as => [(m0, .inr (10, [.ref q0, .ref q1, .ref q2, .int v3, .ref q4, .int v5, .int o1.2, .ref q7, .int v8, .ref q9, .int v10, .int v11, .int v12, .int v13, .int v14, .ref q15, .int v16])), (q0, .inl (cA 0, 60, .inl ss)), (q1, .inl (cA 0, 60, .inl o1.1)), (q4, .inl (cA 0, 480, .inl pp))])) (st1 := (fun as => [])) ⟨hx, hb, hml, hfc, hts⟩ hK hP hD hS hA (kX6_keep l D cA m0 q0 q1 q2 q4 q7 q9 q15 v3 v5 v6 v8 v10 v11 v12 v13 v14 v16 ss bb ho1) (cwV 0 hts gX6_addBubbleMoon_X6_keep rfl rfl rfl (by decide +kernel) ⟨(Nat.le_of_ble_eq_true rfl), (Nat.le_of_ble_eq_true rfl)⟩) [0, 1, 2] [3] [1, 2, 3, 0] rfl rfl rfl rfl (by decide) (fun _ => rfl) rfl 0 10 rfl rfl rfl rfl (fun _ => rfl) rfl hl.1 (Nat.le_of_ble_eq_true rfl) dX6_addBubbleMoon_1 ⟨(Nat.zero_le _), (Nat.zero_le _)⟩ (fun as H locs hP hD hS => ?_)
  have hP : va_P D vwCl [(m0, .inr (10, [.ref q0, .ref q1, .ref q2, .int v3, .ref q4, .int v5, .int o1.2, .ref q7, .int v8, .ref q9, .int v10, .int v11, .int v12, .int v13, .int v14, .ref q15, .int v16])), (q0, .inl (cA 0, 60, .inl ss)), (q1, .inl (cA 0, 60, .inl o1.1)), (q4, .inl (cA 0, 480, .inl pp))] H := hP
  have hD : va_D A [(m0, .inr (10, [.ref q0, .ref q1, .ref q2, .int v3, .ref q4, .int v5, .int o1.2, .ref q7, .int v8, .ref q9, .int v10, .int v11, .int v12, .int v13, .int v14, .ref q15, .int v16])), (q0, .inl (cA 0, 60, .inl ss)), (q1, .inl (cA 0, 60, .inl o1.1)), (q4, .inl (cA 0, 480, .inl pp))] := hD
  refine lv_aload_n hx hb dX6_addBubbleMoon_4 rfl (lv_at hl 0 rfl) ?_
  refine lv_aload_n hx hb dX6_addBubbleMoon_5 rfl (lv_at hl 0 rfl) ?_
  refine lv_iconst (v := 2) hx hb dX6_addBubbleMoon_6 (by decide) ?_
  refine lv_iload_n hx hb dX6_addBubbleMoon_7 rfl (lv_at hl 1 rfl) ?_
  refine lv_iload_n hx hb dX6_addBubbleMoon_8 rfl (lv_at hl 2 rfl) ?_
  refine lv_iload_n hx hb dX6_addBubbleMoon_9 rfl (lv_at hl 3 rfl) ?_
  obtain ⟨o2, ho2, h⟩ := bnd_i h
  refine gq_V (v := (fun as => (some (.int o2.1)))) (As := [.int 2, .int x1, .int x2, .int x3]) (rest := [.ref m0]) (wc := [(m0, .inr (10, [.ref q0, .ref q1, .ref q2, .int v3, .ref q4, .int v5, .int o1.2, .ref q7, .int v8, .ref q9, .int v10, .int v11, .int v12, .int v13, .int v14, .ref q15, .int v16])), (q0, .inl (cA 0, 60, .inl ss))]) (wr := [(q1, .inl (cA 0, 60, .inl o1.1)), (q4, .inl (cA 0, 480, .inl pp))]) (w1 := (fun as => [(m0, .inr (10, [.ref q0, .ref q1, .ref q2, .int v3, .ref q4, .int v5, .int o2.2.2, .ref q7, .int v8, .ref q9, .int v10, .int v11, .int v12, .int v13, .int v14, .ref q15, .int v16])), (q0, .inl (cA 0, 60, .inl o2.2.1))])) (ws2 := (fun as => [(m0, .inr (10, [.ref q0, .ref q1, .ref q2, .int v3, .ref q4, .int v5, .int o2.2.2, .ref q7, .int v8, .ref q9, .int v10, .int v11, .int v12, .int v13, .int v14, .ref q15, .int v16])), (q0, .inl (cA 0, 60, .inl o2.2.1)), (q1, .inl (cA 0, 60, .inl o1.1)), (q4, .inl (cA 0, 480, .inl pp))])) (st1 := (fun as => [.int o2.1, .ref m0])) ⟨hx, hb, hml, hfc, hts⟩ hK hP hD hS hA (kX6_doAdd l D cA m0 q0 q1 q2 q4 q7 q9 q15 v3 v5 o1.2 v8 v10 v11 v12 v13 v14 v16 ss 2 x1 x2 x3 ho2) (cwV 4 hts gX6_addBubbleMoon_X6_doAdd rfl rfl rfl (by decide +kernel) ⟨(Nat.le_of_ble_eq_true rfl), (Nat.le_of_ble_eq_true rfl)⟩) [0, 1] [2, 3] [2, 3, 0, 1] rfl rfl rfl rfl (by decide) (fun _ => rfl) rfl 0 10 rfl rfl rfl rfl (fun _ => rfl) rfl hl.1 (Nat.le_of_ble_eq_true rfl) dX6_addBubbleMoon_10 ⟨(Nat.zero_le _), (Nat.zero_le _)⟩ (fun as H locs hP hD hS => ?_)
  have hP : va_P D vwCl [(m0, .inr (10, [.ref q0, .ref q1, .ref q2, .int v3, .ref q4, .int v5, .int o2.2.2, .ref q7, .int v8, .ref q9, .int v10, .int v11, .int v12, .int v13, .int v14, .ref q15, .int v16])), (q0, .inl (cA 0, 60, .inl o2.2.1)), (q1, .inl (cA 0, 60, .inl o1.1)), (q4, .inl (cA 0, 480, .inl pp))] H := hP
  have hD : va_D A [(m0, .inr (10, [.ref q0, .ref q1, .ref q2, .int v3, .ref q4, .int v5, .int o2.2.2, .ref q7, .int v8, .ref q9, .int v10, .int v11, .int v12, .int v13, .int v14, .ref q15, .int v16])), (q0, .inl (cA 0, 60, .inl o2.2.1)), (q1, .inl (cA 0, 60, .inl o1.1)), (q4, .inl (cA 0, 480, .inl pp))] := hD
  obtain ⟨o3, ho3, h⟩ := bnd_i h
  refine gq_V (v := (fun as => (some (.int o3.1)))) (As := [.int o2.1]) (rest := []) (wc := [(m0, .inr (10, [.ref q0, .ref q1, .ref q2, .int v3, .ref q4, .int v5, .int o2.2.2, .ref q7, .int v8, .ref q9, .int v10, .int v11, .int v12, .int v13, .int v14, .ref q15, .int v16])), (q0, .inl (cA 0, 60, .inl o2.2.1)), (q1, .inl (cA 0, 60, .inl o1.1)), (q4, .inl (cA 0, 480, .inl pp))]) (wr := []) (w1 := (fun as => [(m0, .inr (10, [.ref q0, .ref q1, .ref q2, .int v3, .ref q4, .int o3.2.2.2, .int o2.2.2, .ref q7, .int v8, .ref q9, .int v10, .int v11, .int v12, .int v13, .int v14, .ref q15, .int v16])), (q0, .inl (cA 0, 60, .inl o3.2.1)), (q1, .inl (cA 0, 60, .inl o1.1)), (q4, .inl (cA 0, 480, .inl o3.2.2.1))])) (ws2 := (fun as => [(m0, .inr (10, [.ref q0, .ref q1, .ref q2, .int v3, .ref q4, .int o3.2.2.2, .int o2.2.2, .ref q7, .int v8, .ref q9, .int v10, .int v11, .int v12, .int v13, .int v14, .ref q15, .int v16])), (q0, .inl (cA 0, 60, .inl o3.2.1)), (q1, .inl (cA 0, 60, .inl o1.1)), (q4, .inl (cA 0, 480, .inl o3.2.2.1))])) (st1 := (fun as => [.int o3.1])) ⟨hx, hb, hml, hfc, hts⟩ hK hP hD hS hA (kX6_ends l D cA m0 q0 q1 q2 q4 q7 q9 q15 v3 v5 o2.2.2 v8 v10 v11 v12 v13 v14 v16 o2.2.1 o1.1 pp o2.1 ho3) (cwV 1 hts gX6_addBubbleMoon_X6_ends rfl rfl rfl (by decide +kernel) ⟨(Nat.le_of_ble_eq_true rfl), (Nat.le_of_ble_eq_true rfl)⟩) [0, 1, 2, 3] [] [0, 1, 2, 3] rfl rfl rfl rfl (by decide) (fun _ => rfl) rfl 0 10 rfl rfl rfl rfl (fun _ => rfl) rfl hl.1 (Nat.le_of_ble_eq_true rfl) dX6_addBubbleMoon_13 ⟨(Nat.zero_le _), (Nat.zero_le _)⟩ (fun as H locs hP hD hS => ?_)
  have hP : va_P D vwCl [(m0, .inr (10, [.ref q0, .ref q1, .ref q2, .int v3, .ref q4, .int o3.2.2.2, .int o2.2.2, .ref q7, .int v8, .ref q9, .int v10, .int v11, .int v12, .int v13, .int v14, .ref q15, .int v16])), (q0, .inl (cA 0, 60, .inl o3.2.1)), (q1, .inl (cA 0, 60, .inl o1.1)), (q4, .inl (cA 0, 480, .inl o3.2.2.1))] H := hP
  have hD : va_D A [(m0, .inr (10, [.ref q0, .ref q1, .ref q2, .int v3, .ref q4, .int o3.2.2.2, .int o2.2.2, .ref q7, .int v8, .ref q9, .int v10, .int v11, .int v12, .int v13, .int v14, .ref q15, .int v16])), (q0, .inl (cA 0, 60, .inl o3.2.1)), (q1, .inl (cA 0, 60, .inl o1.1)), (q4, .inl (cA 0, 480, .inl o3.2.2.1))] := hD
  have h := Option.some.inj h
  subst h
  exact hend (adr []) _ _ _ _ _ _ _ rfl rfl (rtn_i _) hP hD hS dX6_addBubbleMoon_16
noncomputable def SX6_doRemoveMoon (v6 : Int32) (ss : Nat → Int32) (x1 : Int32) : Option (Int32 × (Nat → Int32) × Int32) := bnd (SX6_isMoon ss x1) (fun o1 : Int32 => if o1 = 0 then (lt_ (SX6_fails 1) (fun o4 : Int32 × Int32 => some ((o4.1, ss, o4.2)))) else (gd (¬ ((19 + (5 * x1)) + 5) < 0 ∧ ¬ (19 + (5 * x1)) < 0 ∧ ¬ (5 * (((ss 0) - 1) - x1)) < 0 ∧ Int32.toNatClampNeg ((19 + (5 * x1)) + 5) + Int32.toNatClampNeg (5 * (((ss 0) - 1) - x1)) ≤ 60 ∧ Int32.toNatClampNeg (19 + (5 * x1)) + Int32.toNatClampNeg (5 * (((ss 0) - 1) - x1)) ≤ 60) (some (((ss 0) - 1, upd (va_cpy ss ss (Int32.toNatClampNeg ((19 + (5 * x1)) + 5)) (Int32.toNatClampNeg (19 + (5 * x1))) (Int32.toNatClampNeg (5 * (((ss 0) - 1) - x1)))) 0 ((ss 0) - 1), v6)))))
theorem iX6_doRemoveMoon_X6 : ∀ w ∈ wsX60, w ∈ wsX6_doRemoveMoon := fun _ h => List.mem_cons_of_mem _ (List.mem_append_left _ (List.mem_append_right _ h))
abbrev RM_X6_doRemoveMoon : Room := { frames := 2, cells := 0, slots := 0, locals := 43 }
set_option maxHeartbeats 4000000 in
theorem kX6_doRemoveMoon (l : Launch) (D : va_G) (cA : Nat → ClassId) (m0 q0 q1 q2 q4 q7 q9 q15 : Nat) (v3 : Int32) (v5 : Int32) (v6 : Int32) (v8 : Int32) (v10 : Int32) (v11 : Int32) (v12 : Int32) (v13 : Int32) (v14 : Int32) (v16 : Int32) (ss : Nat → Int32) (x1 : Int32) {r : Int32 × (Nat → Int32) × Int32} (hr : SX6_doRemoveMoon v6 ss x1 = some r) {sz : Nat} : Met l yX6_doRemoveMoon wsX6_doRemoveMoon RM_X6_doRemoveMoon (va_Pc [.ref m0, .int x1] (gqB D cA [(m0, .inr (10, [.ref q0, .ref q1, .ref q2, .int v3, .ref q4, .int v5, .int v6, .ref q7, .int v8, .ref q9, .int v10, .int v11, .int v12, .int v13, .int v14, .ref q15, .int v16])), (q0, .inl (cA 0, 60, .inl ss))] sz)) (gqQ D (fun as => (some (.int r.1))) (fun as => [(m0, .inr (10, [.ref q0, .ref q1, .ref q2, .int v3, .ref q4, .int v5, .int r.2.2, .ref q7, .int v8, .ref q9, .int v10, .int v11, .int v12, .int v13, .int v14, .ref q15, .int v16])), (q0, .inl (cA 0, 60, .inl r.2.1))]) (va_A [(m0, .inr (10, [.ref q0, .ref q1, .ref q2, .int v3, .ref q4, .int v5, .int v6, .ref q7, .int v8, .ref q9, .int v10, .int v11, .int v12, .int v13, .int v14, .ref q15, .int v16])), (q0, .inl (cA 0, 60, .inl ss))] sz)) 0 0 (va_A [(m0, .inr (10, [.ref q0, .ref q1, .ref q2, .int v3, .ref q4, .int v5, .int v6, .ref q7, .int v8, .ref q9, .int v10, .int v11, .int v12, .int v13, .int v14, .ref q15, .int v16])), (q0, .inl (cA 0, 60, .inl ss))] sz) := by
  refine gq_ofW (cc := cX6_doRemoveMoon) (maxL := 4) (ret := (some .int)) (by decide) rfl (Nat.le_of_ble_eq_true rfl) (fun p e s m args below meth c ls Q A hx hb hml hts hfc hmn hK hP hD hS hA hl hend => ?_)
  have hfc : s.vm.findClass RX6 = some m.cls := hfc
  have hl : lv_has ls 4 [(0, .ref m0), (1, .int x1)] := hl
  have h := hr
  clear hr
  unfold SX6_doRemoveMoon at h
  refine lv_aload_n hx hb dX6_doRemoveMoon_0 rfl (lv_at hl 0 rfl) ?_
  refine lv_iload_n hx hb dX6_doRemoveMoon_1 rfl (lv_at hl 1 rfl) ?_
  obtain ⟨o1, ho1, h⟩ := bnd_i h
  refine rq_V (v := (some (.int o1))) (As := [.int x1]) (rest := []) (wc := [(m0, .inr (10, [.ref q0, .ref q1, .ref q2, .int v3, .ref q4, .int v5, .int v6, .ref q7, .int v8, .ref q9, .int v10, .int v11, .int v12, .int v13, .int v14, .ref q15, .int v16])), (q0, .inl (cA 0, 60, .inl ss))]) ⟨hx, hb, hml, hfc, hts⟩ hK hP (kX6_isMoon l D cA m0 q0 q1 q2 q4 q7 q9 q15 v3 v5 v6 v8 v10 v11 v12 v13 v14 v16 ss x1 ho1) (cwV 1 hts gX6_doRemoveMoon_X6_isMoon rfl rfl rfl (by decide +kernel) ⟨(Nat.le_of_ble_eq_true rfl), (Nat.le_of_ble_eq_true rfl)⟩) [0, 1] rfl 0 10 rfl rfl rfl rfl rfl rfl hl.1 (Nat.le_of_ble_eq_true rfl) dX6_doRemoveMoon_2 ⟨(Nat.zero_le _), (Nat.zero_le _)⟩ ?_
  refine lv_if_ne (tgt := 14) hx hb dX6_doRemoveMoon_5 (by decide) (fun c2 => ?_) (fun c2 => ?_)
  · have h := ite_f c2 h
    refine lv_aload_n hx hb dX6_doRemoveMoon_14 rfl (lv_at hl 0 rfl) ?_
    refine va_get (D := D) (ci := 10) (v := .ref q0) (C := RX6) (T := TX6) (N := 17) hx hb hts iX6_doRemoveMoon_X6 hfc hK hP 0 rfl rfl 0 (by decide) (hts (.fieldLink RX6 9 "BathtubTidesModel" "s" "[I") (List.mem_of_getElem? (i := 1) rfl)) (fun _ h9 => h9) rfl dX6_doRemoveMoon_15 ?_
    refine lv_iconst (v := 0) hx hb dX6_doRemoveMoon_18 (by decide) ?_
    refine va_iald hx hb hK hP 1 0 rfl rfl (vin _ _ (by decide)) dX6_doRemoveMoon_19 ?_
    refine lv_iconst (v := 1) hx hb dX6_doRemoveMoon_20 (by decide) ?_
    refine lv_isub hx hb dX6_doRemoveMoon_21 ?_
    refine lv_istore_n hx hb dX6_doRemoveMoon_22 rfl hl (Nat.le_of_ble_eq_true rfl) rfl (fun ls hl => ?_)
    have hl : lv_has ls 4 [(2, .int ((ss 0) - 1)), (0, .ref m0), (1, .int x1)] := hl
    refine lv_bipush (v := 19) hx hb dX6_doRemoveMoon_23 (by decide) ?_
    refine lv_iconst (v := 5) hx hb dX6_doRemoveMoon_25 (by decide) ?_
    refine lv_iload_n hx hb dX6_doRemoveMoon_26 rfl (lv_at hl 2 rfl) ?_
    refine lv_imul hx hb dX6_doRemoveMoon_27 ?_
    refine lv_iadd hx hb dX6_doRemoveMoon_28 ?_
    refine lv_istore_n hx hb dX6_doRemoveMoon_29 rfl hl (Nat.le_of_ble_eq_true rfl) rfl (fun ls hl => ?_)
    have hl : lv_has ls 4 [(3, .int (19 + (5 * x1))), (2, .int ((ss 0) - 1)), (0, .ref m0), (1, .int x1)] := hl
    refine lv_aload_n hx hb dX6_doRemoveMoon_30 rfl (lv_at hl 2 rfl) ?_
    refine va_get (D := D) (ci := 10) (v := .ref q0) (C := RX6) (T := TX6) (N := 17) hx hb hts iX6_doRemoveMoon_X6 hfc hK hP 0 rfl rfl 0 (by decide) (hts (.fieldLink RX6 9 "BathtubTidesModel" "s" "[I") (List.mem_of_getElem? (i := 1) rfl)) (fun _ h9 => h9) rfl dX6_doRemoveMoon_31 ?_
    refine lv_iload_n hx hb dX6_doRemoveMoon_34 rfl (lv_at hl 0 rfl) ?_
    refine lv_iconst (v := 5) hx hb dX6_doRemoveMoon_35 (by decide) ?_
    refine lv_iadd hx hb dX6_doRemoveMoon_36 ?_
    refine lv_aload_n hx hb dX6_doRemoveMoon_37 rfl (lv_at hl 2 rfl) ?_
    refine va_get (D := D) (ci := 10) (v := .ref q0) (C := RX6) (T := TX6) (N := 17) hx hb hts iX6_doRemoveMoon_X6 hfc hK hP 0 rfl rfl 0 (by decide) (hts (.fieldLink RX6 9 "BathtubTidesModel" "s" "[I") (List.mem_of_getElem? (i := 1) rfl)) (fun _ h9 => h9) rfl dX6_doRemoveMoon_38 ?_
    refine lv_iload_n hx hb dX6_doRemoveMoon_41 rfl (lv_at hl 0 rfl) ?_
    refine lv_iconst (v := 5) hx hb dX6_doRemoveMoon_42 (by decide) ?_
    refine lv_iload_n hx hb dX6_doRemoveMoon_43 rfl (lv_at hl 1 rfl) ?_
    refine lv_iload_n hx hb dX6_doRemoveMoon_44 rfl (lv_at hl 3 rfl) ?_
    refine lv_isub hx hb dX6_doRemoveMoon_45 ?_
    refine lv_imul hx hb dX6_doRemoveMoon_46 ?_
    obtain ⟨g3, h⟩ := gd_i h
    refine va_copyi hx hb (hml.trans hl.1.symm) hfc (hts (.methodLink RX6 42 arraycopyName) (List.mem_of_getElem? (i := 2) rfl)) (hts (.native arraycopyName) (List.mem_of_getElem? (i := 3) rfl)) (hts (.static arraycopyName) (List.mem_of_getElem? (i := 4) rfl)) (hts (.initialized "java/lang/System") (List.mem_of_getElem? (i := 5) rfl)) hK hP hD hS 1 1 0 0 rfl rfl rfl rfl rfl g3.1 g3.2.1 g3.2.2.1 g3.2.2.2.1 g3.2.2.2.2 (fun _ _ => rfl) (Nat.le_of_ble_eq_true rfl) (Nat.le_of_ble_eq_true rfl) dX6_doRemoveMoon_47 (fun H locs hP hD hS => ?_)
    have hP : va_P D vwCl [(m0, .inr (10, [.ref q0, .ref q1, .ref q2, .int v3, .ref q4, .int v5, .int v6, .ref q7, .int v8, .ref q9, .int v10, .int v11, .int v12, .int v13, .int v14, .ref q15, .int v16])), (q0, .inl (cA 0, 60, .inl (va_cpy ss ss (Int32.toNatClampNeg ((19 + (5 * x1)) + 5)) (Int32.toNatClampNeg (19 + (5 * x1))) (Int32.toNatClampNeg (5 * (((ss 0) - 1) - x1))))))] H := hP
    have hD : va_D A [(m0, .inr (10, [.ref q0, .ref q1, .ref q2, .int v3, .ref q4, .int v5, .int v6, .ref q7, .int v8, .ref q9, .int v10, .int v11, .int v12, .int v13, .int v14, .ref q15, .int v16])), (q0, .inl (cA 0, 60, .inl (va_cpy ss ss (Int32.toNatClampNeg ((19 + (5 * x1)) + 5)) (Int32.toNatClampNeg (19 + (5 * x1))) (Int32.toNatClampNeg (5 * (((ss 0) - 1) - x1))))))] := hD
    refine lv_aload_n hx hb dX6_doRemoveMoon_50 rfl (lv_at hl 2 rfl) ?_
    refine va_get (D := D) (ci := 10) (v := .ref q0) (C := RX6) (T := TX6) (N := 17) hx hb hts iX6_doRemoveMoon_X6 hfc hK hP 0 rfl rfl 0 (by decide) (hts (.fieldLink RX6 9 "BathtubTidesModel" "s" "[I") (List.mem_of_getElem? (i := 1) rfl)) (fun _ h9 => h9) rfl dX6_doRemoveMoon_51 ?_
    refine lv_iconst (v := 0) hx hb dX6_doRemoveMoon_54 (by decide) ?_
    refine lv_iload_n hx hb dX6_doRemoveMoon_55 rfl (lv_at hl 1 rfl) ?_
    refine va_iast hx hb hK hP hD hS 1 0 rfl rfl (vin _ _ (by decide)) dX6_doRemoveMoon_56 (fun H locs hP hD hS => ?_)
    have hP : va_P D vwCl [(m0, .inr (10, [.ref q0, .ref q1, .ref q2, .int v3, .ref q4, .int v5, .int v6, .ref q7, .int v8, .ref q9, .int v10, .int v11, .int v12, .int v13, .int v14, .ref q15, .int v16])), (q0, .inl (cA 0, 60, .inl (upd (va_cpy ss ss (Int32.toNatClampNeg ((19 + (5 * x1)) + 5)) (Int32.toNatClampNeg (19 + (5 * x1))) (Int32.toNatClampNeg (5 * (((ss 0) - 1) - x1)))) 0 ((ss 0) - 1))))] H := hP
    have hD : va_D A [(m0, .inr (10, [.ref q0, .ref q1, .ref q2, .int v3, .ref q4, .int v5, .int v6, .ref q7, .int v8, .ref q9, .int v10, .int v11, .int v12, .int v13, .int v14, .ref q15, .int v16])), (q0, .inl (cA 0, 60, .inl (upd (va_cpy ss ss (Int32.toNatClampNeg ((19 + (5 * x1)) + 5)) (Int32.toNatClampNeg (19 + (5 * x1))) (Int32.toNatClampNeg (5 * (((ss 0) - 1) - x1)))) 0 ((ss 0) - 1))))] := hD
    refine lv_iload_n hx hb dX6_doRemoveMoon_57 rfl (lv_at hl 1 rfl) ?_
    have h := Option.some.inj h
    subst h
    exact hend (adr []) _ _ _ _ _ _ _ rfl rfl (rtn_i _) hP hD hS dX6_doRemoveMoon_58
  · have h := ite_t c2 h
    refine lv_aload_n hx hb dX6_doRemoveMoon_8 rfl (lv_at hl 0 rfl) ?_
    refine lv_iconst (v := 1) hx hb dX6_doRemoveMoon_9 (by decide) ?_
    obtain ⟨o4, ho4, h⟩ := lt_i h
    refine gq_V (v := (fun as => (some (.int o4.1)))) (As := [.int 1]) (rest := []) (wc := [(m0, .inr (10, [.ref q0, .ref q1, .ref q2, .int v3, .ref q4, .int v5, .int v6, .ref q7, .int v8, .ref q9, .int v10, .int v11, .int v12, .int v13, .int v14, .ref q15, .int v16]))]) (wr := [(q0, .inl (cA 0, 60, .inl ss))]) (w1 := (fun as => [(m0, .inr (10, [.ref q0, .ref q1, .ref q2, .int v3, .ref q4, .int v5, .int o4.2, .ref q7, .int v8, .ref q9, .int v10, .int v11, .int v12, .int v13, .int v14, .ref q15, .int v16]))])) (ws2 := (fun as => [(m0, .inr (10, [.ref q0, .ref q1, .ref q2, .int v3, .ref q4, .int v5, .int o4.2, .ref q7, .int v8, .ref q9, .int v10, .int v11, .int v12, .int v13, .int v14, .ref q15, .int v16])), (q0, .inl (cA 0, 60, .inl ss))])) (st1 := (fun as => [.int o4.1])) ⟨hx, hb, hml, hfc, hts⟩ hK hP hD hS hA (kX6_fails l D cA m0 q0 q1 q2 q4 q7 q9 q15 v3 v5 v6 v8 v10 v11 v12 v13 v14 v16 1 ho4) (cwV 1 hts gX6_doRemoveMoon_X6_fails rfl rfl rfl (by decide +kernel) ⟨(Nat.le_of_ble_eq_true rfl), (Nat.le_of_ble_eq_true rfl)⟩) [0] [1] [1, 0] rfl rfl rfl rfl (by decide) (fun _ => rfl) rfl 0 10 rfl rfl rfl rfl (fun _ => rfl) rfl hl.1 (Nat.le_of_ble_eq_true rfl) dX6_doRemoveMoon_10 ⟨(Nat.zero_le _), (Nat.zero_le _)⟩ (fun as H locs hP hD hS => ?_)
    have hP : va_P D vwCl [(m0, .inr (10, [.ref q0, .ref q1, .ref q2, .int v3, .ref q4, .int v5, .int o4.2, .ref q7, .int v8, .ref q9, .int v10, .int v11, .int v12, .int v13, .int v14, .ref q15, .int v16])), (q0, .inl (cA 0, 60, .inl ss))] H := hP
    have hD : va_D A [(m0, .inr (10, [.ref q0, .ref q1, .ref q2, .int v3, .ref q4, .int v5, .int o4.2, .ref q7, .int v8, .ref q9, .int v10, .int v11, .int v12, .int v13, .int v14, .ref q15, .int v16])), (q0, .inl (cA 0, 60, .inl ss))] := hD
    have h := Option.some.inj h
    subst h
    exact hend (adr []) _ _ _ _ _ _ _ rfl rfl (rtn_i _) hP hD hS dX6_doRemoveMoon_13
noncomputable def SX6_removeMoon (v5 : Int32) (ss : Nat → Int32) (bb : Nat → Int32) (pp : Nat → Int32) (x1 : Int32) : Option (Int32 × (Nat → Int32) × (Nat → Int32) × (Nat → Int32) × Int32 × Int32) := lt_ (SX6_keep ss bb) (fun o1 : (Nat → Int32) × Int32 => bnd (SX6_doRemoveMoon o1.2 ss x1) (fun o2 : Int32 × (Nat → Int32) × Int32 => bnd (SX6_ends v5 o2.2.2 o2.2.1 o1.1 pp o2.1) (fun o3 : Int32 × (Nat → Int32) × (Nat → Int32) × Int32 => some ((o3.1, o3.2.1, o1.1, o3.2.2.1, o3.2.2.2, o2.2.2)))))
abbrev RM_X6_removeMoon : Room := { frames := 3, cells := 0, slots := 0, locals := 67 }
set_option maxHeartbeats 4000000 in
theorem kX6_removeMoon (l : Launch) (D : va_G) (cA : Nat → ClassId) (m0 q0 q1 q2 q4 q7 q9 q15 : Nat) (v3 : Int32) (v5 : Int32) (v6 : Int32) (v8 : Int32) (v10 : Int32) (v11 : Int32) (v12 : Int32) (v13 : Int32) (v14 : Int32) (v16 : Int32) (ss : Nat → Int32) (bb : Nat → Int32) (pp : Nat → Int32) (x1 : Int32) {r : Int32 × (Nat → Int32) × (Nat → Int32) × (Nat → Int32) × Int32 × Int32} (hr : SX6_removeMoon v5 ss bb pp x1 = some r) {sz : Nat} : Met l yX6_removeMoon wsX6_removeMoon RM_X6_removeMoon (va_Pc [.ref m0, .int x1] (gqB D cA [(m0, .inr (10, [.ref q0, .ref q1, .ref q2, .int v3, .ref q4, .int v5, .int v6, .ref q7, .int v8, .ref q9, .int v10, .int v11, .int v12, .int v13, .int v14, .ref q15, .int v16])), (q0, .inl (cA 0, 60, .inl ss)), (q1, .inl (cA 0, 60, .inl bb)), (q4, .inl (cA 0, 480, .inl pp))] sz)) (gqQ D (fun as => (some (.int r.1))) (fun as => [(m0, .inr (10, [.ref q0, .ref q1, .ref q2, .int v3, .ref q4, .int r.2.2.2.2.1, .int r.2.2.2.2.2, .ref q7, .int v8, .ref q9, .int v10, .int v11, .int v12, .int v13, .int v14, .ref q15, .int v16])), (q0, .inl (cA 0, 60, .inl r.2.1)), (q1, .inl (cA 0, 60, .inl r.2.2.1)), (q4, .inl (cA 0, 480, .inl r.2.2.2.1))]) (va_A [(m0, .inr (10, [.ref q0, .ref q1, .ref q2, .int v3, .ref q4, .int v5, .int v6, .ref q7, .int v8, .ref q9, .int v10, .int v11, .int v12, .int v13, .int v14, .ref q15, .int v16])), (q0, .inl (cA 0, 60, .inl ss)), (q1, .inl (cA 0, 60, .inl bb)), (q4, .inl (cA 0, 480, .inl pp))] sz)) 0 0 (va_A [(m0, .inr (10, [.ref q0, .ref q1, .ref q2, .int v3, .ref q4, .int v5, .int v6, .ref q7, .int v8, .ref q9, .int v10, .int v11, .int v12, .int v13, .int v14, .ref q15, .int v16])), (q0, .inl (cA 0, 60, .inl ss)), (q1, .inl (cA 0, 60, .inl bb)), (q4, .inl (cA 0, 480, .inl pp))] sz) := by
  refine gq_ofW (cc := cX6_removeMoon) (maxL := 2) (ret := (some .int)) (by decide) rfl (Nat.le_of_ble_eq_true rfl) (fun p e s m args below meth c ls Q A hx hb hml hts hfc hmn hK hP hD hS hA hl hend => ?_)
  have hfc : s.vm.findClass RX6 = some m.cls := hfc
  have hl : lv_has ls 2 [(0, .ref m0), (1, .int x1)] := hl
  have h := hr
  clear hr
  unfold SX6_removeMoon at h
  refine lv_aload_n hx hb dX6_removeMoon_0 rfl (lv_at hl 0 rfl) ?_
  obtain ⟨o1, ho1, h⟩ := lt_i h
  refine gq_V (v := (fun as => none)) (As := []) (rest := []) (wc := [(m0, .inr (10, [.ref q0, .ref q1, .ref q2, .int v3, .ref q4, .int v5, .int v6, .ref q7, .int v8, .ref q9, .int v10, .int v11, .int v12, .int v13, .int v14, .ref q15, .int v16])), (q0, .inl (cA 0, 60, .inl ss)), (q1, .inl (cA 0, 60, .inl bb))]) (wr := [(q4, .inl (cA 0, 480, .inl pp))]) (w1 := (fun as => [(m0, .inr (10, [.ref q0, .ref q1, .ref q2, .int v3, .ref q4, .int v5, .int o1.2, .ref q7, .int v8, .ref q9, .int v10, .int v11, .int v12, .int v13, .int v14, .ref q15, .int v16])), (q0, .inl (cA 0, 60, .inl ss)), (q1, .inl (cA 0, 60, .inl o1.1))])) (ws2 := (fun as => [(m0, .inr (10, [.ref q0, .ref q1, .ref q2, .int v3, .ref q4, .int v5, .int o1.2, .ref q7, .int v8, .ref q9, .int v10, .int v11, .int v12, .int v13, .int v14, .ref q15, .int v16])), (q0, .inl (cA 0, 60, .inl ss)), (q1, .inl (cA 0, 60, .inl o1.1)), (q4, .inl (cA 0, 480, .inl pp))])) (st1 := (fun as => [])) ⟨hx, hb, hml, hfc, hts⟩ hK hP hD hS hA (kX6_keep l D cA m0 q0 q1 q2 q4 q7 q9 q15 v3 v5 v6 v8 v10 v11 v12 v13 v14 v16 ss bb ho1) (cwV 0 hts gX6_removeMoon_X6_keep rfl rfl rfl (by decide +kernel) ⟨(Nat.le_of_ble_eq_true rfl), (Nat.le_of_ble_eq_true rfl)⟩) [0, 1, 2] [3] [1, 2, 3, 0] rfl rfl rfl rfl (by decide) (fun _ => rfl) rfl 0 10 rfl rfl rfl rfl (fun _ => rfl) rfl hl.1 (Nat.le_of_ble_eq_true rfl) dX6_removeMoon_1 ⟨(Nat.zero_le _), (Nat.zero_le _)⟩ (fun as H locs hP hD hS => ?_)
  have hP : va_P D vwCl [(m0, .inr (10, [.ref q0, .ref q1, .ref q2, .int v3, .ref q4, .int v5, .int o1.2, .ref q7, .int v8, .ref q9, .int v10, .int v11, .int v12, .int v13, .int v14, .ref q15, .int v16])), (q0, .inl (cA 0, 60, .inl ss)), (q1, .inl (cA 0, 60, .inl o1.1)), (q4, .inl (cA 0, 480, .inl pp))] H := hP
  have hD : va_D A [(m0, .inr (10, [.ref q0, .ref q1, .ref q2, .int v3, .ref q4, .int v5, .int o1.2, .ref q7, .int v8, .ref q9, .int v10, .int v11, .int v12, .int v13, .int v14, .ref q15, .int v16])), (q0, .inl (cA 0, 60, .inl ss)), (q1, .inl (cA 0, 60, .inl o1.1)), (q4, .inl (cA 0, 480, .inl pp))] := hD
  refine lv_aload_n hx hb dX6_removeMoon_4 rfl (lv_at hl 0 rfl) ?_
  refine lv_aload_n hx hb dX6_removeMoon_5 rfl (lv_at hl 0 rfl) ?_
  refine lv_iload_n hx hb dX6_removeMoon_6 rfl (lv_at hl 1 rfl) ?_
  obtain ⟨o2, ho2, h⟩ := bnd_i h
  refine gq_V (v := (fun as => (some (.int o2.1)))) (As := [.int x1]) (rest := [.ref m0]) (wc := [(m0, .inr (10, [.ref q0, .ref q1, .ref q2, .int v3, .ref q4, .int v5, .int o1.2, .ref q7, .int v8, .ref q9, .int v10, .int v11, .int v12, .int v13, .int v14, .ref q15, .int v16])), (q0, .inl (cA 0, 60, .inl ss))]) (wr := [(q1, .inl (cA 0, 60, .inl o1.1)), (q4, .inl (cA 0, 480, .inl pp))]) (w1 := (fun as => [(m0, .inr (10, [.ref q0, .ref q1, .ref q2, .int v3, .ref q4, .int v5, .int o2.2.2, .ref q7, .int v8, .ref q9, .int v10, .int v11, .int v12, .int v13, .int v14, .ref q15, .int v16])), (q0, .inl (cA 0, 60, .inl o2.2.1))])) (ws2 := (fun as => [(m0, .inr (10, [.ref q0, .ref q1, .ref q2, .int v3, .ref q4, .int v5, .int o2.2.2, .ref q7, .int v8, .ref q9, .int v10, .int v11, .int v12, .int v13, .int v14, .ref q15, .int v16])), (q0, .inl (cA 0, 60, .inl o2.2.1)), (q1, .inl (cA 0, 60, .inl o1.1)), (q4, .inl (cA 0, 480, .inl pp))])) (st1 := (fun as => [.int o2.1, .ref m0])) ⟨hx, hb, hml, hfc, hts⟩ hK hP hD hS hA (kX6_doRemoveMoon l D cA m0 q0 q1 q2 q4 q7 q9 q15 v3 v5 o1.2 v8 v10 v11 v12 v13 v14 v16 ss x1 ho2) (cwV 1 hts gX6_removeMoon_X6_doRemoveMoon rfl rfl rfl (by decide +kernel) ⟨(Nat.le_of_ble_eq_true rfl), (Nat.le_of_ble_eq_true rfl)⟩) [0, 1] [2, 3] [2, 3, 0, 1] rfl rfl rfl rfl (by decide) (fun _ => rfl) rfl 0 10 rfl rfl rfl rfl (fun _ => rfl) rfl hl.1 (Nat.le_of_ble_eq_true rfl) dX6_removeMoon_7 ⟨(Nat.zero_le _), (Nat.zero_le _)⟩ (fun as H locs hP hD hS => ?_)
  have hP : va_P D vwCl [(m0, .inr (10, [.ref q0, .ref q1, .ref q2, .int v3, .ref q4, .int v5, .int o2.2.2, .ref q7, .int v8, .ref q9, .int v10, .int v11, .int v12, .int v13, .int v14, .ref q15, .int v16])), (q0, .inl (cA 0, 60, .inl o2.2.1)), (q1, .inl (cA 0, 60, .inl o1.1)), (q4, .inl (cA 0, 480, .inl pp))] H := hP
  have hD : va_D A [(m0, .inr (10, [.ref q0, .ref q1, .ref q2, .int v3, .ref q4, .int v5, .int o2.2.2, .ref q7, .int v8, .ref q9, .int v10, .int v11, .int v12, .int v13, .int v14, .ref q15, .int v16])), (q0, .inl (cA 0, 60, .inl o2.2.1)), (q1, .inl (cA 0, 60, .inl o1.1)), (q4, .inl (cA 0, 480, .inl pp))] := hD
  obtain ⟨o3, ho3, h⟩ := bnd_i h
  refine gq_V (v := (fun as => (some (.int o3.1)))) (As := [.int o2.1]) (rest := []) (wc := [(m0, .inr (10, [.ref q0, .ref q1, .ref q2, .int v3, .ref q4, .int v5, .int o2.2.2, .ref q7, .int v8, .ref q9, .int v10, .int v11, .int v12, .int v13, .int v14, .ref q15, .int v16])), (q0, .inl (cA 0, 60, .inl o2.2.1)), (q1, .inl (cA 0, 60, .inl o1.1)), (q4, .inl (cA 0, 480, .inl pp))]) (wr := []) (w1 := (fun as => [(m0, .inr (10, [.ref q0, .ref q1, .ref q2, .int v3, .ref q4, .int o3.2.2.2, .int o2.2.2, .ref q7, .int v8, .ref q9, .int v10, .int v11, .int v12, .int v13, .int v14, .ref q15, .int v16])), (q0, .inl (cA 0, 60, .inl o3.2.1)), (q1, .inl (cA 0, 60, .inl o1.1)), (q4, .inl (cA 0, 480, .inl o3.2.2.1))])) (ws2 := (fun as => [(m0, .inr (10, [.ref q0, .ref q1, .ref q2, .int v3, .ref q4, .int o3.2.2.2, .int o2.2.2, .ref q7, .int v8, .ref q9, .int v10, .int v11, .int v12, .int v13, .int v14, .ref q15, .int v16])), (q0, .inl (cA 0, 60, .inl o3.2.1)), (q1, .inl (cA 0, 60, .inl o1.1)), (q4, .inl (cA 0, 480, .inl o3.2.2.1))])) (st1 := (fun as => [.int o3.1])) ⟨hx, hb, hml, hfc, hts⟩ hK hP hD hS hA (kX6_ends l D cA m0 q0 q1 q2 q4 q7 q9 q15 v3 v5 o2.2.2 v8 v10 v11 v12 v13 v14 v16 o2.2.1 o1.1 pp o2.1 ho3) (cwV 1 hts gX6_removeMoon_X6_ends rfl rfl rfl (by decide +kernel) ⟨(Nat.le_of_ble_eq_true rfl), (Nat.le_of_ble_eq_true rfl)⟩) [0, 1, 2, 3] [] [0, 1, 2, 3] rfl rfl rfl rfl (by decide) (fun _ => rfl) rfl 0 10 rfl rfl rfl rfl (fun _ => rfl) rfl hl.1 (Nat.le_of_ble_eq_true rfl) dX6_removeMoon_10 ⟨(Nat.zero_le _), (Nat.zero_le _)⟩ (fun as H locs hP hD hS => ?_)
  have hP : va_P D vwCl [(m0, .inr (10, [.ref q0, .ref q1, .ref q2, .int v3, .ref q4, .int o3.2.2.2, .int o2.2.2, .ref q7, .int v8, .ref q9, .int v10, .int v11, .int v12, .int v13, .int v14, .ref q15, .int v16])), (q0, .inl (cA 0, 60, .inl o3.2.1)), (q1, .inl (cA 0, 60, .inl o1.1)), (q4, .inl (cA 0, 480, .inl o3.2.2.1))] H := hP
  have hD : va_D A [(m0, .inr (10, [.ref q0, .ref q1, .ref q2, .int v3, .ref q4, .int o3.2.2.2, .int o2.2.2, .ref q7, .int v8, .ref q9, .int v10, .int v11, .int v12, .int v13, .int v14, .ref q15, .int v16])), (q0, .inl (cA 0, 60, .inl o3.2.1)), (q1, .inl (cA 0, 60, .inl o1.1)), (q4, .inl (cA 0, 480, .inl o3.2.2.1))] := hD
  have h := Option.some.inj h
  subst h
  exact hend (adr []) _ _ _ _ _ _ _ rfl rfl (rtn_i _) hP hD hS dX6_removeMoon_13
noncomputable def SX6_moonCount (ss : Nat → Int32) : Int32 × Int32 := (ss 0, 0)
theorem iX6_moonCount_X6 : ∀ w ∈ wsX60, w ∈ wsX6_moonCount := fun _ h => List.mem_cons_of_mem _ (List.mem_append_left _ (List.mem_append_right _ h))
abbrev RM_X6_moonCount : Room := { frames := 0, cells := 0, slots := 0, locals := 0 }
set_option maxHeartbeats 4000000 in
theorem kX6_moonCount (l : Launch) (D : va_G) (cA : Nat → ClassId) (m0 q0 q1 q2 q4 q7 q9 q15 : Nat) (v3 : Int32) (v5 : Int32) (v6 : Int32) (v8 : Int32) (v10 : Int32) (v11 : Int32) (v12 : Int32) (v13 : Int32) (v14 : Int32) (v16 : Int32) (ss : Nat → Int32) {r : Int32 × Int32} (hr : SX6_moonCount ss = r) {sz : Nat} : Met l yX6_moonCount wsX6_moonCount RM_X6_moonCount (va_Pc [.ref m0] (gqB D cA [(m0, .inr (10, [.ref q0, .ref q1, .ref q2, .int v3, .ref q4, .int v5, .int v6, .ref q7, .int v8, .ref q9, .int v10, .int v11, .int v12, .int v13, .int v14, .ref q15, .int v16])), (q0, .inl (cA 0, 60, .inl ss))] sz)) (gqQ D (fun as => (some (.int r.1))) (fun as => [(m0, .inr (10, [.ref q0, .ref q1, .ref q2, .int v3, .ref q4, .int v5, .int r.2, .ref q7, .int v8, .ref q9, .int v10, .int v11, .int v12, .int v13, .int v14, .ref q15, .int v16])), (q0, .inl (cA 0, 60, .inl ss))]) (va_A [(m0, .inr (10, [.ref q0, .ref q1, .ref q2, .int v3, .ref q4, .int v5, .int v6, .ref q7, .int v8, .ref q9, .int v10, .int v11, .int v12, .int v13, .int v14, .ref q15, .int v16])), (q0, .inl (cA 0, 60, .inl ss))] sz)) 0 0 (va_A [(m0, .inr (10, [.ref q0, .ref q1, .ref q2, .int v3, .ref q4, .int v5, .int v6, .ref q7, .int v8, .ref q9, .int v10, .int v11, .int v12, .int v13, .int v14, .ref q15, .int v16])), (q0, .inl (cA 0, 60, .inl ss))] sz) := by
  refine gq_ofW (cc := cX6_moonCount) (maxL := 1) (ret := (some .int)) (by decide) rfl (Nat.le_of_ble_eq_true rfl) (fun p e s m args below meth c ls Q A hx hb hml hts hfc hmn hK hP hD hS hA hl hend => ?_)
  have hfc : s.vm.findClass RX6 = some m.cls := hfc
  have hl : lv_has ls 1 [(0, .ref m0)] := hl
  have h := hr
  clear hr
  unfold SX6_moonCount at h
  refine lv_aload_n hx hb dX6_moonCount_0 rfl (lv_at hl 0 rfl) ?_
  refine lv_iconst (v := 0) hx hb dX6_moonCount_1 (by decide) ?_
  refine va_put (D := D) (ci := 10) (v := .int 0) (ty := .int) (C := RX6) (T := TX6) (N := 17) hx hb hts iX6_moonCount_X6 tyX6 tyX6_ok nmX6 hfc hK hP hD hS 0 rfl rfl 6 (by decide) (hts (.fieldLink RX6 39 "BathtubTidesModel" "thrown" "I") (List.mem_of_getElem? (i := 1) rfl)) (fun _ h9 => h9) rfl (by decide +kernel) rfl rfl (Nat.le_of_ble_eq_true rfl) dX6_moonCount_2 (fun H locs hP hD hS => ?_)
  have hP : va_P D vwCl [(m0, .inr (10, [.ref q0, .ref q1, .ref q2, .int v3, .ref q4, .int v5, .int 0, .ref q7, .int v8, .ref q9, .int v10, .int v11, .int v12, .int v13, .int v14, .ref q15, .int v16])), (q0, .inl (cA 0, 60, .inl ss))] H := hP
  have hD : va_D A [(m0, .inr (10, [.ref q0, .ref q1, .ref q2, .int v3, .ref q4, .int v5, .int 0, .ref q7, .int v8, .ref q9, .int v10, .int v11, .int v12, .int v13, .int v14, .ref q15, .int v16])), (q0, .inl (cA 0, 60, .inl ss))] := hD
  refine lv_aload_n hx hb dX6_moonCount_5 rfl (lv_at hl 0 rfl) ?_
  refine va_get (D := D) (ci := 10) (v := .ref q0) (C := RX6) (T := TX6) (N := 17) hx hb hts iX6_moonCount_X6 hfc hK hP 0 rfl rfl 0 (by decide) (hts (.fieldLink RX6 9 "BathtubTidesModel" "s" "[I") (List.mem_of_getElem? (i := 2) rfl)) (fun _ h9 => h9) rfl dX6_moonCount_6 ?_
  refine lv_iconst (v := 0) hx hb dX6_moonCount_9 (by decide) ?_
  refine va_iald hx hb hK hP 1 0 rfl rfl (vin _ _ (by decide)) dX6_moonCount_10 ?_
  subst h
  exact hend (adr []) _ _ _ _ _ _ _ rfl rfl (rtn_i _) hP hD hS dX6_moonCount_11
noncomputable def SX6_positionOf (ss : Nat → Int32) (x1 : Int32) : Option (Int32 × Int32) := bnd (SX6_isMoon ss x1) (fun o1 : Int32 => bnd (SX6_isThere o1) (fun o2 : Int32 × Int32 => if o2.1 = 0 then (some ((0, o2.2))) else (bnd (SX6_placeIn ss x1 0) (fun o4 : Int32 => some ((o4, o2.2))))))
abbrev RM_X6_positionOf : Room := { frames := 3, cells := 0, slots := 0, locals := 68 }
set_option maxHeartbeats 4000000 in
theorem kX6_positionOf (l : Launch) (D : va_G) (cA : Nat → ClassId) (m0 q0 q1 q2 q4 q7 q9 q15 : Nat) (v3 : Int32) (v5 : Int32) (v6 : Int32) (v8 : Int32) (v10 : Int32) (v11 : Int32) (v12 : Int32) (v13 : Int32) (v14 : Int32) (v16 : Int32) (ss : Nat → Int32) (x1 : Int32) {r : Int32 × Int32} (hr : SX6_positionOf ss x1 = some r) {sz : Nat} : Met l yX6_positionOf wsX6_positionOf RM_X6_positionOf (va_Pc [.ref m0, .int x1] (gqB D cA [(m0, .inr (10, [.ref q0, .ref q1, .ref q2, .int v3, .ref q4, .int v5, .int v6, .ref q7, .int v8, .ref q9, .int v10, .int v11, .int v12, .int v13, .int v14, .ref q15, .int v16])), (q0, .inl (cA 0, 60, .inl ss))] sz)) (gqQ D (fun as => (some (.int r.1))) (fun as => [(m0, .inr (10, [.ref q0, .ref q1, .ref q2, .int v3, .ref q4, .int v5, .int r.2, .ref q7, .int v8, .ref q9, .int v10, .int v11, .int v12, .int v13, .int v14, .ref q15, .int v16])), (q0, .inl (cA 0, 60, .inl ss))]) (va_A [(m0, .inr (10, [.ref q0, .ref q1, .ref q2, .int v3, .ref q4, .int v5, .int v6, .ref q7, .int v8, .ref q9, .int v10, .int v11, .int v12, .int v13, .int v14, .ref q15, .int v16])), (q0, .inl (cA 0, 60, .inl ss))] sz)) 0 0 (va_A [(m0, .inr (10, [.ref q0, .ref q1, .ref q2, .int v3, .ref q4, .int v5, .int v6, .ref q7, .int v8, .ref q9, .int v10, .int v11, .int v12, .int v13, .int v14, .ref q15, .int v16])), (q0, .inl (cA 0, 60, .inl ss))] sz) := by
  refine gq_ofW (cc := cX6_positionOf) (maxL := 2) (ret := (some .int)) (by decide) rfl (Nat.le_of_ble_eq_true rfl) (fun p e s m args below meth c ls Q A hx hb hml hts hfc hmn hK hP hD hS hA hl hend => ?_)
  have hfc : s.vm.findClass RX6 = some m.cls := hfc
  have hl : lv_has ls 2 [(0, .ref m0), (1, .int x1)] := hl
  have h := hr
  clear hr
  unfold SX6_positionOf at h
  refine lv_aload_n hx hb dX6_positionOf_0 rfl (lv_at hl 0 rfl) ?_
  refine lv_aload_n hx hb dX6_positionOf_1 rfl (lv_at hl 0 rfl) ?_
  refine lv_iload_n hx hb dX6_positionOf_2 rfl (lv_at hl 1 rfl) ?_
  obtain ⟨o1, ho1, h⟩ := bnd_i h
  refine rq_V (v := (some (.int o1))) (As := [.int x1]) (rest := [.ref m0]) (wc := [(m0, .inr (10, [.ref q0, .ref q1, .ref q2, .int v3, .ref q4, .int v5, .int v6, .ref q7, .int v8, .ref q9, .int v10, .int v11, .int v12, .int v13, .int v14, .ref q15, .int v16])), (q0, .inl (cA 0, 60, .inl ss))]) ⟨hx, hb, hml, hfc, hts⟩ hK hP (kX6_isMoon l D cA m0 q0 q1 q2 q4 q7 q9 q15 v3 v5 v6 v8 v10 v11 v12 v13 v14 v16 ss x1 ho1) (cwV 1 hts gX6_positionOf_X6_isMoon rfl rfl rfl (by decide +kernel) ⟨(Nat.le_of_ble_eq_true rfl), (Nat.le_of_ble_eq_true rfl)⟩) [0, 1] rfl 0 10 rfl rfl rfl rfl rfl rfl hl.1 (Nat.le_of_ble_eq_true rfl) dX6_positionOf_3 ⟨(Nat.zero_le _), (Nat.zero_le _)⟩ ?_
  obtain ⟨o2, ho2, h⟩ := bnd_i h
  refine gq_V (v := (fun as => (some (.int o2.1)))) (As := [.int o1]) (rest := []) (wc := [(m0, .inr (10, [.ref q0, .ref q1, .ref q2, .int v3, .ref q4, .int v5, .int v6, .ref q7, .int v8, .ref q9, .int v10, .int v11, .int v12, .int v13, .int v14, .ref q15, .int v16]))]) (wr := [(q0, .inl (cA 0, 60, .inl ss))]) (w1 := (fun as => [(m0, .inr (10, [.ref q0, .ref q1, .ref q2, .int v3, .ref q4, .int v5, .int o2.2, .ref q7, .int v8, .ref q9, .int v10, .int v11, .int v12, .int v13, .int v14, .ref q15, .int v16]))])) (ws2 := (fun as => [(m0, .inr (10, [.ref q0, .ref q1, .ref q2, .int v3, .ref q4, .int v5, .int o2.2, .ref q7, .int v8, .ref q9, .int v10, .int v11, .int v12, .int v13, .int v14, .ref q15, .int v16])), (q0, .inl (cA 0, 60, .inl ss))])) (st1 := (fun as => [.int o2.1])) ⟨hx, hb, hml, hfc, hts⟩ hK hP hD hS hA (kX6_isThere l D cA m0 q0 q1 q2 q4 q7 q9 q15 v3 v5 v6 v8 v10 v11 v12 v13 v14 v16 o1 ho2) (cwV 1 hts gX6_positionOf_X6_isThere rfl rfl rfl (by decide +kernel) ⟨(Nat.le_of_ble_eq_true rfl), (Nat.le_of_ble_eq_true rfl)⟩) [0] [1] [1, 0] rfl rfl rfl rfl (by decide) (fun _ => rfl) rfl 0 10 rfl rfl rfl rfl (fun _ => rfl) rfl hl.1 (Nat.le_of_ble_eq_true rfl) dX6_positionOf_6 ⟨(Nat.zero_le _), (Nat.zero_le _)⟩ (fun as H locs hP hD hS => ?_)
  have hP : va_P D vwCl [(m0, .inr (10, [.ref q0, .ref q1, .ref q2, .int v3, .ref q4, .int v5, .int o2.2, .ref q7, .int v8, .ref q9, .int v10, .int v11, .int v12, .int v13, .int v14, .ref q15, .int v16])), (q0, .inl (cA 0, 60, .inl ss))] H := hP
  have hD : va_D A [(m0, .inr (10, [.ref q0, .ref q1, .ref q2, .int v3, .ref q4, .int v5, .int o2.2, .ref q7, .int v8, .ref q9, .int v10, .int v11, .int v12, .int v13, .int v14, .ref q15, .int v16])), (q0, .inl (cA 0, 60, .inl ss))] := hD
  refine lv_if_eq (tgt := 21) hx hb dX6_positionOf_9 (by decide) (fun c3 => ?_) (fun c3 => ?_)
  · have h := ite_t c3 h
    refine lv_iconst (v := 0) hx hb dX6_positionOf_21 (by decide) ?_
    have h := Option.some.inj h
    subst h
    exact hend (adr []) _ _ _ _ _ _ _ rfl rfl (rtn_i _) hP hD hS dX6_positionOf_22
  · have h := ite_f c3 h
    refine lv_aload_n hx hb dX6_positionOf_12 rfl (lv_at hl 0 rfl) ?_
    refine lv_iload_n hx hb dX6_positionOf_13 rfl (lv_at hl 1 rfl) ?_
    refine lv_iconst (v := 0) hx hb dX6_positionOf_14 (by decide) ?_
    obtain ⟨o4, ho4, h⟩ := bnd_i h
    refine rq_V (v := (some (.int o4))) (As := [.int x1, .int 0]) (rest := []) (wc := [(m0, .inr (10, [.ref q0, .ref q1, .ref q2, .int v3, .ref q4, .int v5, .int o2.2, .ref q7, .int v8, .ref q9, .int v10, .int v11, .int v12, .int v13, .int v14, .ref q15, .int v16])), (q0, .inl (cA 0, 60, .inl ss))]) ⟨hx, hb, hml, hfc, hts⟩ hK hP (kX6_placeIn l D cA m0 q0 q1 q2 q4 q7 q9 q15 v3 v5 o2.2 v8 v10 v11 v12 v13 v14 v16 ss x1 0 ho4) (cwV 2 hts gX6_positionOf_X6_placeIn rfl rfl rfl (by decide +kernel) ⟨(Nat.le_of_ble_eq_true rfl), (Nat.le_of_ble_eq_true rfl)⟩) [0, 1] rfl 0 10 rfl rfl rfl rfl rfl rfl hl.1 (Nat.le_of_ble_eq_true rfl) dX6_positionOf_15 ⟨(Nat.zero_le _), (Nat.zero_le _)⟩ ?_
    refine lv_goto (tgt := 22) hx hb dX6_positionOf_18 (by decide) ?_
    have h := Option.some.inj h
    subst h
    exact hend (adr []) _ _ _ _ _ _ _ rfl rfl (rtn_i _) hP hD hS dX6_positionOf_22
noncomputable def SX6_massOf (ss : Nat → Int32) (x1 : Int32) : Option (Int32 × Int32) := bnd (SX6_isMoon ss x1) (fun o1 : Int32 => bnd (SX6_isThere o1) (fun o2 : Int32 × Int32 => if o2.1 = 0 then (some ((0, o2.2))) else (bnd (SX6_massIn ss x1 0) (fun o4 : Int32 => some ((o4, o2.2))))))
abbrev RM_X6_massOf : Room := { frames := 3, cells := 0, slots := 0, locals := 69 }
set_option maxHeartbeats 4000000 in
theorem kX6_massOf (l : Launch) (D : va_G) (cA : Nat → ClassId) (m0 q0 q1 q2 q4 q7 q9 q15 : Nat) (v3 : Int32) (v5 : Int32) (v6 : Int32) (v8 : Int32) (v10 : Int32) (v11 : Int32) (v12 : Int32) (v13 : Int32) (v14 : Int32) (v16 : Int32) (ss : Nat → Int32) (x1 : Int32) {r : Int32 × Int32} (hr : SX6_massOf ss x1 = some r) {sz : Nat} : Met l yX6_massOf wsX6_massOf RM_X6_massOf (va_Pc [.ref m0, .int x1] (gqB D cA [(m0, .inr (10, [.ref q0, .ref q1, .ref q2, .int v3, .ref q4, .int v5, .int v6, .ref q7, .int v8, .ref q9, .int v10, .int v11, .int v12, .int v13, .int v14, .ref q15, .int v16])), (q0, .inl (cA 0, 60, .inl ss))] sz)) (gqQ D (fun as => (some (.int r.1))) (fun as => [(m0, .inr (10, [.ref q0, .ref q1, .ref q2, .int v3, .ref q4, .int v5, .int r.2, .ref q7, .int v8, .ref q9, .int v10, .int v11, .int v12, .int v13, .int v14, .ref q15, .int v16])), (q0, .inl (cA 0, 60, .inl ss))]) (va_A [(m0, .inr (10, [.ref q0, .ref q1, .ref q2, .int v3, .ref q4, .int v5, .int v6, .ref q7, .int v8, .ref q9, .int v10, .int v11, .int v12, .int v13, .int v14, .ref q15, .int v16])), (q0, .inl (cA 0, 60, .inl ss))] sz)) 0 0 (va_A [(m0, .inr (10, [.ref q0, .ref q1, .ref q2, .int v3, .ref q4, .int v5, .int v6, .ref q7, .int v8, .ref q9, .int v10, .int v11, .int v12, .int v13, .int v14, .ref q15, .int v16])), (q0, .inl (cA 0, 60, .inl ss))] sz) := by
  refine gq_ofW (cc := cX6_massOf) (maxL := 2) (ret := (some .int)) (by decide) rfl (Nat.le_of_ble_eq_true rfl) (fun p e s m args below meth c ls Q A hx hb hml hts hfc hmn hK hP hD hS hA hl hend => ?_)
  have hfc : s.vm.findClass RX6 = some m.cls := hfc
  have hl : lv_has ls 2 [(0, .ref m0), (1, .int x1)] := hl
  have h := hr
  clear hr
  unfold SX6_massOf at h
  refine lv_aload_n hx hb dX6_massOf_0 rfl (lv_at hl 0 rfl) ?_
  refine lv_aload_n hx hb dX6_massOf_1 rfl (lv_at hl 0 rfl) ?_
  refine lv_iload_n hx hb dX6_massOf_2 rfl (lv_at hl 1 rfl) ?_
  obtain ⟨o1, ho1, h⟩ := bnd_i h
  refine rq_V (v := (some (.int o1))) (As := [.int x1]) (rest := [.ref m0]) (wc := [(m0, .inr (10, [.ref q0, .ref q1, .ref q2, .int v3, .ref q4, .int v5, .int v6, .ref q7, .int v8, .ref q9, .int v10, .int v11, .int v12, .int v13, .int v14, .ref q15, .int v16])), (q0, .inl (cA 0, 60, .inl ss))]) ⟨hx, hb, hml, hfc, hts⟩ hK hP (kX6_isMoon l D cA m0 q0 q1 q2 q4 q7 q9 q15 v3 v5 v6 v8 v10 v11 v12 v13 v14 v16 ss x1 ho1) (cwV 1 hts gX6_massOf_X6_isMoon rfl rfl rfl (by decide +kernel) ⟨(Nat.le_of_ble_eq_true rfl), (Nat.le_of_ble_eq_true rfl)⟩) [0, 1] rfl 0 10 rfl rfl rfl rfl rfl rfl hl.1 (Nat.le_of_ble_eq_true rfl) dX6_massOf_3 ⟨(Nat.zero_le _), (Nat.zero_le _)⟩ ?_
  obtain ⟨o2, ho2, h⟩ := bnd_i h
  refine gq_V (v := (fun as => (some (.int o2.1)))) (As := [.int o1]) (rest := []) (wc := [(m0, .inr (10, [.ref q0, .ref q1, .ref q2, .int v3, .ref q4, .int v5, .int v6, .ref q7, .int v8, .ref q9, .int v10, .int v11, .int v12, .int v13, .int v14, .ref q15, .int v16]))]) (wr := [(q0, .inl (cA 0, 60, .inl ss))]) (w1 := (fun as => [(m0, .inr (10, [.ref q0, .ref q1, .ref q2, .int v3, .ref q4, .int v5, .int o2.2, .ref q7, .int v8, .ref q9, .int v10, .int v11, .int v12, .int v13, .int v14, .ref q15, .int v16]))])) (ws2 := (fun as => [(m0, .inr (10, [.ref q0, .ref q1, .ref q2, .int v3, .ref q4, .int v5, .int o2.2, .ref q7, .int v8, .ref q9, .int v10, .int v11, .int v12, .int v13, .int v14, .ref q15, .int v16])), (q0, .inl (cA 0, 60, .inl ss))])) (st1 := (fun as => [.int o2.1])) ⟨hx, hb, hml, hfc, hts⟩ hK hP hD hS hA (kX6_isThere l D cA m0 q0 q1 q2 q4 q7 q9 q15 v3 v5 v6 v8 v10 v11 v12 v13 v14 v16 o1 ho2) (cwV 1 hts gX6_massOf_X6_isThere rfl rfl rfl (by decide +kernel) ⟨(Nat.le_of_ble_eq_true rfl), (Nat.le_of_ble_eq_true rfl)⟩) [0] [1] [1, 0] rfl rfl rfl rfl (by decide) (fun _ => rfl) rfl 0 10 rfl rfl rfl rfl (fun _ => rfl) rfl hl.1 (Nat.le_of_ble_eq_true rfl) dX6_massOf_6 ⟨(Nat.zero_le _), (Nat.zero_le _)⟩ (fun as H locs hP hD hS => ?_)
  have hP : va_P D vwCl [(m0, .inr (10, [.ref q0, .ref q1, .ref q2, .int v3, .ref q4, .int v5, .int o2.2, .ref q7, .int v8, .ref q9, .int v10, .int v11, .int v12, .int v13, .int v14, .ref q15, .int v16])), (q0, .inl (cA 0, 60, .inl ss))] H := hP
  have hD : va_D A [(m0, .inr (10, [.ref q0, .ref q1, .ref q2, .int v3, .ref q4, .int v5, .int o2.2, .ref q7, .int v8, .ref q9, .int v10, .int v11, .int v12, .int v13, .int v14, .ref q15, .int v16])), (q0, .inl (cA 0, 60, .inl ss))] := hD
  refine lv_if_eq (tgt := 21) hx hb dX6_massOf_9 (by decide) (fun c3 => ?_) (fun c3 => ?_)
  · have h := ite_t c3 h
    refine lv_iconst (v := 0) hx hb dX6_massOf_21 (by decide) ?_
    have h := Option.some.inj h
    subst h
    exact hend (adr []) _ _ _ _ _ _ _ rfl rfl (rtn_i _) hP hD hS dX6_massOf_22
  · have h := ite_f c3 h
    refine lv_aload_n hx hb dX6_massOf_12 rfl (lv_at hl 0 rfl) ?_
    refine lv_iload_n hx hb dX6_massOf_13 rfl (lv_at hl 1 rfl) ?_
    refine lv_iconst (v := 0) hx hb dX6_massOf_14 (by decide) ?_
    obtain ⟨o4, ho4, h⟩ := bnd_i h
    refine rq_V (v := (some (.int o4))) (As := [.int x1, .int 0]) (rest := []) (wc := [(m0, .inr (10, [.ref q0, .ref q1, .ref q2, .int v3, .ref q4, .int v5, .int o2.2, .ref q7, .int v8, .ref q9, .int v10, .int v11, .int v12, .int v13, .int v14, .ref q15, .int v16])), (q0, .inl (cA 0, 60, .inl ss))]) ⟨hx, hb, hml, hfc, hts⟩ hK hP (kX6_massIn l D cA m0 q0 q1 q2 q4 q7 q9 q15 v3 v5 o2.2 v8 v10 v11 v12 v13 v14 v16 ss x1 0 ho4) (cwV 2 hts gX6_massOf_X6_massIn rfl rfl rfl (by decide +kernel) ⟨(Nat.le_of_ble_eq_true rfl), (Nat.le_of_ble_eq_true rfl)⟩) [0, 1] rfl 0 10 rfl rfl rfl rfl rfl rfl hl.1 (Nat.le_of_ble_eq_true rfl) dX6_massOf_15 ⟨(Nat.zero_le _), (Nat.zero_le _)⟩ ?_
    refine lv_goto (tgt := 22) hx hb dX6_massOf_18 (by decide) ?_
    have h := Option.some.inj h
    subst h
    exact hend (adr []) _ _ _ _ _ _ _ rfl rfl (rtn_i _) hP hD hS dX6_massOf_22
noncomputable def SX6_ageOf (ss : Nat → Int32) (x1 : Int32) : Option (Int32 × Int32) := bnd (SX6_isMoon ss x1) (fun o1 : Int32 => bnd (SX6_isThere o1) (fun o2 : Int32 × Int32 => if o2.1 = 0 then (some ((0, o2.2))) else (bnd (SX6_ageIn ss x1 0) (fun o4 : Int32 => some ((o4, o2.2))))))
abbrev RM_X6_ageOf : Room := { frames := 2, cells := 0, slots := 0, locals := 45 }
set_option maxHeartbeats 4000000 in
theorem kX6_ageOf (l : Launch) (D : va_G) (cA : Nat → ClassId) (m0 q0 q1 q2 q4 q7 q9 q15 : Nat) (v3 : Int32) (v5 : Int32) (v6 : Int32) (v8 : Int32) (v10 : Int32) (v11 : Int32) (v12 : Int32) (v13 : Int32) (v14 : Int32) (v16 : Int32) (ss : Nat → Int32) (x1 : Int32) {r : Int32 × Int32} (hr : SX6_ageOf ss x1 = some r) {sz : Nat} : Met l yX6_ageOf wsX6_ageOf RM_X6_ageOf (va_Pc [.ref m0, .int x1] (gqB D cA [(m0, .inr (10, [.ref q0, .ref q1, .ref q2, .int v3, .ref q4, .int v5, .int v6, .ref q7, .int v8, .ref q9, .int v10, .int v11, .int v12, .int v13, .int v14, .ref q15, .int v16])), (q0, .inl (cA 0, 60, .inl ss))] sz)) (gqQ D (fun as => (some (.int r.1))) (fun as => [(m0, .inr (10, [.ref q0, .ref q1, .ref q2, .int v3, .ref q4, .int v5, .int r.2, .ref q7, .int v8, .ref q9, .int v10, .int v11, .int v12, .int v13, .int v14, .ref q15, .int v16])), (q0, .inl (cA 0, 60, .inl ss))]) (va_A [(m0, .inr (10, [.ref q0, .ref q1, .ref q2, .int v3, .ref q4, .int v5, .int v6, .ref q7, .int v8, .ref q9, .int v10, .int v11, .int v12, .int v13, .int v14, .ref q15, .int v16])), (q0, .inl (cA 0, 60, .inl ss))] sz)) 0 0 (va_A [(m0, .inr (10, [.ref q0, .ref q1, .ref q2, .int v3, .ref q4, .int v5, .int v6, .ref q7, .int v8, .ref q9, .int v10, .int v11, .int v12, .int v13, .int v14, .ref q15, .int v16])), (q0, .inl (cA 0, 60, .inl ss))] sz) := by
  refine gq_ofW (cc := cX6_ageOf) (maxL := 2) (ret := (some .int)) (by decide) rfl (Nat.le_of_ble_eq_true rfl) (fun p e s m args below meth c ls Q A hx hb hml hts hfc hmn hK hP hD hS hA hl hend => ?_)
  have hfc : s.vm.findClass RX6 = some m.cls := hfc
  have hl : lv_has ls 2 [(0, .ref m0), (1, .int x1)] := hl
  have h := hr
  clear hr
  unfold SX6_ageOf at h
  refine lv_aload_n hx hb dX6_ageOf_0 rfl (lv_at hl 0 rfl) ?_
  refine lv_aload_n hx hb dX6_ageOf_1 rfl (lv_at hl 0 rfl) ?_
  refine lv_iload_n hx hb dX6_ageOf_2 rfl (lv_at hl 1 rfl) ?_
  obtain ⟨o1, ho1, h⟩ := bnd_i h
  refine rq_V (v := (some (.int o1))) (As := [.int x1]) (rest := [.ref m0]) (wc := [(m0, .inr (10, [.ref q0, .ref q1, .ref q2, .int v3, .ref q4, .int v5, .int v6, .ref q7, .int v8, .ref q9, .int v10, .int v11, .int v12, .int v13, .int v14, .ref q15, .int v16])), (q0, .inl (cA 0, 60, .inl ss))]) ⟨hx, hb, hml, hfc, hts⟩ hK hP (kX6_isMoon l D cA m0 q0 q1 q2 q4 q7 q9 q15 v3 v5 v6 v8 v10 v11 v12 v13 v14 v16 ss x1 ho1) (cwV 1 hts gX6_ageOf_X6_isMoon rfl rfl rfl (by decide +kernel) ⟨(Nat.le_of_ble_eq_true rfl), (Nat.le_of_ble_eq_true rfl)⟩) [0, 1] rfl 0 10 rfl rfl rfl rfl rfl rfl hl.1 (Nat.le_of_ble_eq_true rfl) dX6_ageOf_3 ⟨(Nat.zero_le _), (Nat.zero_le _)⟩ ?_
  obtain ⟨o2, ho2, h⟩ := bnd_i h
  refine gq_V (v := (fun as => (some (.int o2.1)))) (As := [.int o1]) (rest := []) (wc := [(m0, .inr (10, [.ref q0, .ref q1, .ref q2, .int v3, .ref q4, .int v5, .int v6, .ref q7, .int v8, .ref q9, .int v10, .int v11, .int v12, .int v13, .int v14, .ref q15, .int v16]))]) (wr := [(q0, .inl (cA 0, 60, .inl ss))]) (w1 := (fun as => [(m0, .inr (10, [.ref q0, .ref q1, .ref q2, .int v3, .ref q4, .int v5, .int o2.2, .ref q7, .int v8, .ref q9, .int v10, .int v11, .int v12, .int v13, .int v14, .ref q15, .int v16]))])) (ws2 := (fun as => [(m0, .inr (10, [.ref q0, .ref q1, .ref q2, .int v3, .ref q4, .int v5, .int o2.2, .ref q7, .int v8, .ref q9, .int v10, .int v11, .int v12, .int v13, .int v14, .ref q15, .int v16])), (q0, .inl (cA 0, 60, .inl ss))])) (st1 := (fun as => [.int o2.1])) ⟨hx, hb, hml, hfc, hts⟩ hK hP hD hS hA (kX6_isThere l D cA m0 q0 q1 q2 q4 q7 q9 q15 v3 v5 v6 v8 v10 v11 v12 v13 v14 v16 o1 ho2) (cwV 1 hts gX6_ageOf_X6_isThere rfl rfl rfl (by decide +kernel) ⟨(Nat.le_of_ble_eq_true rfl), (Nat.le_of_ble_eq_true rfl)⟩) [0] [1] [1, 0] rfl rfl rfl rfl (by decide) (fun _ => rfl) rfl 0 10 rfl rfl rfl rfl (fun _ => rfl) rfl hl.1 (Nat.le_of_ble_eq_true rfl) dX6_ageOf_6 ⟨(Nat.zero_le _), (Nat.zero_le _)⟩ (fun as H locs hP hD hS => ?_)
  have hP : va_P D vwCl [(m0, .inr (10, [.ref q0, .ref q1, .ref q2, .int v3, .ref q4, .int v5, .int o2.2, .ref q7, .int v8, .ref q9, .int v10, .int v11, .int v12, .int v13, .int v14, .ref q15, .int v16])), (q0, .inl (cA 0, 60, .inl ss))] H := hP
  have hD : va_D A [(m0, .inr (10, [.ref q0, .ref q1, .ref q2, .int v3, .ref q4, .int v5, .int o2.2, .ref q7, .int v8, .ref q9, .int v10, .int v11, .int v12, .int v13, .int v14, .ref q15, .int v16])), (q0, .inl (cA 0, 60, .inl ss))] := hD
  refine lv_if_eq (tgt := 21) hx hb dX6_ageOf_9 (by decide) (fun c3 => ?_) (fun c3 => ?_)
  · have h := ite_t c3 h
    refine lv_iconst (v := 0) hx hb dX6_ageOf_21 (by decide) ?_
    have h := Option.some.inj h
    subst h
    exact hend (adr []) _ _ _ _ _ _ _ rfl rfl (rtn_i _) hP hD hS dX6_ageOf_22
  · have h := ite_f c3 h
    refine lv_aload_n hx hb dX6_ageOf_12 rfl (lv_at hl 0 rfl) ?_
    refine lv_iload_n hx hb dX6_ageOf_13 rfl (lv_at hl 1 rfl) ?_
    refine lv_iconst (v := 0) hx hb dX6_ageOf_14 (by decide) ?_
    obtain ⟨o4, ho4, h⟩ := bnd_i h
    refine rq_V (v := (some (.int o4))) (As := [.int x1, .int 0]) (rest := []) (wc := [(m0, .inr (10, [.ref q0, .ref q1, .ref q2, .int v3, .ref q4, .int v5, .int o2.2, .ref q7, .int v8, .ref q9, .int v10, .int v11, .int v12, .int v13, .int v14, .ref q15, .int v16])), (q0, .inl (cA 0, 60, .inl ss))]) ⟨hx, hb, hml, hfc, hts⟩ hK hP (kX6_ageIn l D cA m0 q0 q1 q2 q4 q7 q9 q15 v3 v5 o2.2 v8 v10 v11 v12 v13 v14 v16 ss x1 0 ho4) (cwV 2 hts gX6_ageOf_X6_ageIn rfl rfl rfl (by decide +kernel) ⟨(Nat.le_of_ble_eq_true rfl), (Nat.le_of_ble_eq_true rfl)⟩) [0, 1] rfl 0 10 rfl rfl rfl rfl rfl rfl hl.1 (Nat.le_of_ble_eq_true rfl) dX6_ageOf_15 ⟨(Nat.zero_le _), (Nat.zero_le _)⟩ ?_
    refine lv_goto (tgt := 22) hx hb dX6_ageOf_18 (by decide) ?_
    have h := Option.some.inj h
    subst h
    exact hend (adr []) _ _ _ _ _ _ _ rfl rfl (rtn_i _) hP hD hS dX6_ageOf_22
noncomputable def SX6_isHard (ss : Nat → Int32) (x1 : Int32) : Option (Int32 × Int32) := bnd (SX6_isMoon ss x1) (fun o1 : Int32 => bnd (SX6_isThere o1) (fun o2 : Int32 × Int32 => if o2.1 = 0 then (some ((0, o2.2))) else (bnd (SX6_ofMoon ss x1 0) (fun o4 : Int32 => if o4 = 0 then (some ((1, o2.2))) else (some ((0, o2.2)))))))
abbrev RM_X6_isHard : Room := { frames := 2, cells := 0, slots := 0, locals := 44 }
set_option maxHeartbeats 4000000 in
theorem kX6_isHard (l : Launch) (D : va_G) (cA : Nat → ClassId) (m0 q0 q1 q2 q4 q7 q9 q15 : Nat) (v3 : Int32) (v5 : Int32) (v6 : Int32) (v8 : Int32) (v10 : Int32) (v11 : Int32) (v12 : Int32) (v13 : Int32) (v14 : Int32) (v16 : Int32) (ss : Nat → Int32) (x1 : Int32) {r : Int32 × Int32} (hr : SX6_isHard ss x1 = some r) {sz : Nat} : Met l yX6_isHard wsX6_isHard RM_X6_isHard (va_Pc [.ref m0, .int x1] (gqB D cA [(m0, .inr (10, [.ref q0, .ref q1, .ref q2, .int v3, .ref q4, .int v5, .int v6, .ref q7, .int v8, .ref q9, .int v10, .int v11, .int v12, .int v13, .int v14, .ref q15, .int v16])), (q0, .inl (cA 0, 60, .inl ss))] sz)) (gqQ D (fun as => (some (.int r.1))) (fun as => [(m0, .inr (10, [.ref q0, .ref q1, .ref q2, .int v3, .ref q4, .int v5, .int r.2, .ref q7, .int v8, .ref q9, .int v10, .int v11, .int v12, .int v13, .int v14, .ref q15, .int v16])), (q0, .inl (cA 0, 60, .inl ss))]) (va_A [(m0, .inr (10, [.ref q0, .ref q1, .ref q2, .int v3, .ref q4, .int v5, .int v6, .ref q7, .int v8, .ref q9, .int v10, .int v11, .int v12, .int v13, .int v14, .ref q15, .int v16])), (q0, .inl (cA 0, 60, .inl ss))] sz)) 0 0 (va_A [(m0, .inr (10, [.ref q0, .ref q1, .ref q2, .int v3, .ref q4, .int v5, .int v6, .ref q7, .int v8, .ref q9, .int v10, .int v11, .int v12, .int v13, .int v14, .ref q15, .int v16])), (q0, .inl (cA 0, 60, .inl ss))] sz) := by
  refine gq_ofW (cc := cX6_isHard) (maxL := 2) (ret := (some .boolean)) (by decide) rfl (Nat.le_of_ble_eq_true rfl) (fun p e s m args below meth c ls Q A hx hb hml hts hfc hmn hK hP hD hS hA hl hend => ?_)
  have hfc : s.vm.findClass RX6 = some m.cls := hfc
  have hl : lv_has ls 2 [(0, .ref m0), (1, .int x1)] := hl
  have h := hr
  clear hr
  unfold SX6_isHard at h
  refine lv_aload_n hx hb dX6_isHard_0 rfl (lv_at hl 0 rfl) ?_
  refine lv_aload_n hx hb dX6_isHard_1 rfl (lv_at hl 0 rfl) ?_
  refine lv_iload_n hx hb dX6_isHard_2 rfl (lv_at hl 1 rfl) ?_
  obtain ⟨o1, ho1, h⟩ := bnd_i h
  refine rq_V (v := (some (.int o1))) (As := [.int x1]) (rest := [.ref m0]) (wc := [(m0, .inr (10, [.ref q0, .ref q1, .ref q2, .int v3, .ref q4, .int v5, .int v6, .ref q7, .int v8, .ref q9, .int v10, .int v11, .int v12, .int v13, .int v14, .ref q15, .int v16])), (q0, .inl (cA 0, 60, .inl ss))]) ⟨hx, hb, hml, hfc, hts⟩ hK hP (kX6_isMoon l D cA m0 q0 q1 q2 q4 q7 q9 q15 v3 v5 v6 v8 v10 v11 v12 v13 v14 v16 ss x1 ho1) (cwV 1 hts gX6_isHard_X6_isMoon rfl rfl rfl (by decide +kernel) ⟨(Nat.le_of_ble_eq_true rfl), (Nat.le_of_ble_eq_true rfl)⟩) [0, 1] rfl 0 10 rfl rfl rfl rfl rfl rfl hl.1 (Nat.le_of_ble_eq_true rfl) dX6_isHard_3 ⟨(Nat.zero_le _), (Nat.zero_le _)⟩ ?_
  obtain ⟨o2, ho2, h⟩ := bnd_i h
  refine gq_V (v := (fun as => (some (.int o2.1)))) (As := [.int o1]) (rest := []) (wc := [(m0, .inr (10, [.ref q0, .ref q1, .ref q2, .int v3, .ref q4, .int v5, .int v6, .ref q7, .int v8, .ref q9, .int v10, .int v11, .int v12, .int v13, .int v14, .ref q15, .int v16]))]) (wr := [(q0, .inl (cA 0, 60, .inl ss))]) (w1 := (fun as => [(m0, .inr (10, [.ref q0, .ref q1, .ref q2, .int v3, .ref q4, .int v5, .int o2.2, .ref q7, .int v8, .ref q9, .int v10, .int v11, .int v12, .int v13, .int v14, .ref q15, .int v16]))])) (ws2 := (fun as => [(m0, .inr (10, [.ref q0, .ref q1, .ref q2, .int v3, .ref q4, .int v5, .int o2.2, .ref q7, .int v8, .ref q9, .int v10, .int v11, .int v12, .int v13, .int v14, .ref q15, .int v16])), (q0, .inl (cA 0, 60, .inl ss))])) (st1 := (fun as => [.int o2.1])) ⟨hx, hb, hml, hfc, hts⟩ hK hP hD hS hA (kX6_isThere l D cA m0 q0 q1 q2 q4 q7 q9 q15 v3 v5 v6 v8 v10 v11 v12 v13 v14 v16 o1 ho2) (cwV 1 hts gX6_isHard_X6_isThere rfl rfl rfl (by decide +kernel) ⟨(Nat.le_of_ble_eq_true rfl), (Nat.le_of_ble_eq_true rfl)⟩) [0] [1] [1, 0] rfl rfl rfl rfl (by decide) (fun _ => rfl) rfl 0 10 rfl rfl rfl rfl (fun _ => rfl) rfl hl.1 (Nat.le_of_ble_eq_true rfl) dX6_isHard_6 ⟨(Nat.zero_le _), (Nat.zero_le _)⟩ (fun as H locs hP hD hS => ?_)
  have hP : va_P D vwCl [(m0, .inr (10, [.ref q0, .ref q1, .ref q2, .int v3, .ref q4, .int v5, .int o2.2, .ref q7, .int v8, .ref q9, .int v10, .int v11, .int v12, .int v13, .int v14, .ref q15, .int v16])), (q0, .inl (cA 0, 60, .inl ss))] H := hP
  have hD : va_D A [(m0, .inr (10, [.ref q0, .ref q1, .ref q2, .int v3, .ref q4, .int v5, .int o2.2, .ref q7, .int v8, .ref q9, .int v10, .int v11, .int v12, .int v13, .int v14, .ref q15, .int v16])), (q0, .inl (cA 0, 60, .inl ss))] := hD
  refine lv_if_eq (tgt := 25) hx hb dX6_isHard_9 (by decide) (fun c3 => ?_) (fun c3 => ?_)
  · have h := ite_t c3 h
    refine lv_iconst (v := 0) hx hb dX6_isHard_25 (by decide) ?_
    have h := Option.some.inj h
    subst h
    exact hend (adr []) _ _ _ _ _ _ _ rfl rfl (rtn_n (x := 0) rfl) hP hD hS dX6_isHard_26
  · have h := ite_f c3 h
    refine lv_aload_n hx hb dX6_isHard_12 rfl (lv_at hl 0 rfl) ?_
    refine lv_iload_n hx hb dX6_isHard_13 rfl (lv_at hl 1 rfl) ?_
    refine lv_iconst (v := 0) hx hb dX6_isHard_14 (by decide) ?_
    obtain ⟨o4, ho4, h⟩ := bnd_i h
    refine rq_V (v := (some (.int o4))) (As := [.int x1, .int 0]) (rest := []) (wc := [(m0, .inr (10, [.ref q0, .ref q1, .ref q2, .int v3, .ref q4, .int v5, .int o2.2, .ref q7, .int v8, .ref q9, .int v10, .int v11, .int v12, .int v13, .int v14, .ref q15, .int v16])), (q0, .inl (cA 0, 60, .inl ss))]) ⟨hx, hb, hml, hfc, hts⟩ hK hP (kX6_ofMoon l D cA m0 q0 q1 q2 q4 q7 q9 q15 v3 v5 o2.2 v8 v10 v11 v12 v13 v14 v16 ss x1 0 ho4) (cwV 2 hts gX6_isHard_X6_ofMoon rfl rfl rfl (by decide +kernel) ⟨(Nat.le_of_ble_eq_true rfl), (Nat.le_of_ble_eq_true rfl)⟩) [0, 1] rfl 0 10 rfl rfl rfl rfl rfl rfl hl.1 (Nat.le_of_ble_eq_true rfl) dX6_isHard_15 ⟨(Nat.zero_le _), (Nat.zero_le _)⟩ ?_
    refine lv_if_ne (tgt := 25) hx hb dX6_isHard_18 (by decide) (fun c5 => ?_) (fun c5 => ?_)
    · have h := ite_f c5 h
      refine lv_iconst (v := 0) hx hb dX6_isHard_25 (by decide) ?_
      have h := Option.some.inj h
      subst h
      exact hend (adr []) _ _ _ _ _ _ _ rfl rfl (rtn_n (x := 0) rfl) hP hD hS dX6_isHard_26
    · have h := ite_t c5 h
      refine lv_iconst (v := 1) hx hb dX6_isHard_21 (by decide) ?_
      refine lv_goto (tgt := 26) hx hb dX6_isHard_22 (by decide) ?_
      have h := Option.some.inj h
      subst h
      exact hend (adr []) _ _ _ _ _ _ _ rfl rfl (rtn_n (x := 1) rfl) hP hD hS dX6_isHard_26
noncomputable def SX6_isSoft (ss : Nat → Int32) (x1 : Int32) : Option (Int32 × Int32) := bnd (SX6_isMoon ss x1) (fun o1 : Int32 => bnd (SX6_isThere o1) (fun o2 : Int32 × Int32 => if o2.1 = 0 then (some ((0, o2.2))) else (bnd (SX6_ofMoon ss x1 0) (fun o4 : Int32 => if o4 = 1 then (some ((1, o2.2))) else (some ((0, o2.2)))))))
abbrev RM_X6_isSoft : Room := { frames := 2, cells := 0, slots := 0, locals := 44 }
set_option maxHeartbeats 4000000 in
theorem kX6_isSoft (l : Launch) (D : va_G) (cA : Nat → ClassId) (m0 q0 q1 q2 q4 q7 q9 q15 : Nat) (v3 : Int32) (v5 : Int32) (v6 : Int32) (v8 : Int32) (v10 : Int32) (v11 : Int32) (v12 : Int32) (v13 : Int32) (v14 : Int32) (v16 : Int32) (ss : Nat → Int32) (x1 : Int32) {r : Int32 × Int32} (hr : SX6_isSoft ss x1 = some r) {sz : Nat} : Met l yX6_isSoft wsX6_isSoft RM_X6_isSoft (va_Pc [.ref m0, .int x1] (gqB D cA [(m0, .inr (10, [.ref q0, .ref q1, .ref q2, .int v3, .ref q4, .int v5, .int v6, .ref q7, .int v8, .ref q9, .int v10, .int v11, .int v12, .int v13, .int v14, .ref q15, .int v16])), (q0, .inl (cA 0, 60, .inl ss))] sz)) (gqQ D (fun as => (some (.int r.1))) (fun as => [(m0, .inr (10, [.ref q0, .ref q1, .ref q2, .int v3, .ref q4, .int v5, .int r.2, .ref q7, .int v8, .ref q9, .int v10, .int v11, .int v12, .int v13, .int v14, .ref q15, .int v16])), (q0, .inl (cA 0, 60, .inl ss))]) (va_A [(m0, .inr (10, [.ref q0, .ref q1, .ref q2, .int v3, .ref q4, .int v5, .int v6, .ref q7, .int v8, .ref q9, .int v10, .int v11, .int v12, .int v13, .int v14, .ref q15, .int v16])), (q0, .inl (cA 0, 60, .inl ss))] sz)) 0 0 (va_A [(m0, .inr (10, [.ref q0, .ref q1, .ref q2, .int v3, .ref q4, .int v5, .int v6, .ref q7, .int v8, .ref q9, .int v10, .int v11, .int v12, .int v13, .int v14, .ref q15, .int v16])), (q0, .inl (cA 0, 60, .inl ss))] sz) := by
  refine gq_ofW (cc := cX6_isSoft) (maxL := 2) (ret := (some .boolean)) (by decide) rfl (Nat.le_of_ble_eq_true rfl) (fun p e s m args below meth c ls Q A hx hb hml hts hfc hmn hK hP hD hS hA hl hend => ?_)
  have hfc : s.vm.findClass RX6 = some m.cls := hfc
  have hl : lv_has ls 2 [(0, .ref m0), (1, .int x1)] := hl
  have h := hr
  clear hr
  unfold SX6_isSoft at h
  refine lv_aload_n hx hb dX6_isSoft_0 rfl (lv_at hl 0 rfl) ?_
  refine lv_aload_n hx hb dX6_isSoft_1 rfl (lv_at hl 0 rfl) ?_
  refine lv_iload_n hx hb dX6_isSoft_2 rfl (lv_at hl 1 rfl) ?_
  obtain ⟨o1, ho1, h⟩ := bnd_i h
  refine rq_V (v := (some (.int o1))) (As := [.int x1]) (rest := [.ref m0]) (wc := [(m0, .inr (10, [.ref q0, .ref q1, .ref q2, .int v3, .ref q4, .int v5, .int v6, .ref q7, .int v8, .ref q9, .int v10, .int v11, .int v12, .int v13, .int v14, .ref q15, .int v16])), (q0, .inl (cA 0, 60, .inl ss))]) ⟨hx, hb, hml, hfc, hts⟩ hK hP (kX6_isMoon l D cA m0 q0 q1 q2 q4 q7 q9 q15 v3 v5 v6 v8 v10 v11 v12 v13 v14 v16 ss x1 ho1) (cwV 1 hts gX6_isSoft_X6_isMoon rfl rfl rfl (by decide +kernel) ⟨(Nat.le_of_ble_eq_true rfl), (Nat.le_of_ble_eq_true rfl)⟩) [0, 1] rfl 0 10 rfl rfl rfl rfl rfl rfl hl.1 (Nat.le_of_ble_eq_true rfl) dX6_isSoft_3 ⟨(Nat.zero_le _), (Nat.zero_le _)⟩ ?_
  obtain ⟨o2, ho2, h⟩ := bnd_i h
  refine gq_V (v := (fun as => (some (.int o2.1)))) (As := [.int o1]) (rest := []) (wc := [(m0, .inr (10, [.ref q0, .ref q1, .ref q2, .int v3, .ref q4, .int v5, .int v6, .ref q7, .int v8, .ref q9, .int v10, .int v11, .int v12, .int v13, .int v14, .ref q15, .int v16]))]) (wr := [(q0, .inl (cA 0, 60, .inl ss))]) (w1 := (fun as => [(m0, .inr (10, [.ref q0, .ref q1, .ref q2, .int v3, .ref q4, .int v5, .int o2.2, .ref q7, .int v8, .ref q9, .int v10, .int v11, .int v12, .int v13, .int v14, .ref q15, .int v16]))])) (ws2 := (fun as => [(m0, .inr (10, [.ref q0, .ref q1, .ref q2, .int v3, .ref q4, .int v5, .int o2.2, .ref q7, .int v8, .ref q9, .int v10, .int v11, .int v12, .int v13, .int v14, .ref q15, .int v16])), (q0, .inl (cA 0, 60, .inl ss))])) (st1 := (fun as => [.int o2.1])) ⟨hx, hb, hml, hfc, hts⟩ hK hP hD hS hA (kX6_isThere l D cA m0 q0 q1 q2 q4 q7 q9 q15 v3 v5 v6 v8 v10 v11 v12 v13 v14 v16 o1 ho2) (cwV 1 hts gX6_isSoft_X6_isThere rfl rfl rfl (by decide +kernel) ⟨(Nat.le_of_ble_eq_true rfl), (Nat.le_of_ble_eq_true rfl)⟩) [0] [1] [1, 0] rfl rfl rfl rfl (by decide) (fun _ => rfl) rfl 0 10 rfl rfl rfl rfl (fun _ => rfl) rfl hl.1 (Nat.le_of_ble_eq_true rfl) dX6_isSoft_6 ⟨(Nat.zero_le _), (Nat.zero_le _)⟩ (fun as H locs hP hD hS => ?_)
  have hP : va_P D vwCl [(m0, .inr (10, [.ref q0, .ref q1, .ref q2, .int v3, .ref q4, .int v5, .int o2.2, .ref q7, .int v8, .ref q9, .int v10, .int v11, .int v12, .int v13, .int v14, .ref q15, .int v16])), (q0, .inl (cA 0, 60, .inl ss))] H := hP
  have hD : va_D A [(m0, .inr (10, [.ref q0, .ref q1, .ref q2, .int v3, .ref q4, .int v5, .int o2.2, .ref q7, .int v8, .ref q9, .int v10, .int v11, .int v12, .int v13, .int v14, .ref q15, .int v16])), (q0, .inl (cA 0, 60, .inl ss))] := hD
  refine lv_if_eq (tgt := 26) hx hb dX6_isSoft_9 (by decide) (fun c3 => ?_) (fun c3 => ?_)
  · have h := ite_t c3 h
    refine lv_iconst (v := 0) hx hb dX6_isSoft_26 (by decide) ?_
    have h := Option.some.inj h
    subst h
    exact hend (adr []) _ _ _ _ _ _ _ rfl rfl (rtn_n (x := 0) rfl) hP hD hS dX6_isSoft_27
  · have h := ite_f c3 h
    refine lv_aload_n hx hb dX6_isSoft_12 rfl (lv_at hl 0 rfl) ?_
    refine lv_iload_n hx hb dX6_isSoft_13 rfl (lv_at hl 1 rfl) ?_
    refine lv_iconst (v := 0) hx hb dX6_isSoft_14 (by decide) ?_
    obtain ⟨o4, ho4, h⟩ := bnd_i h
    refine rq_V (v := (some (.int o4))) (As := [.int x1, .int 0]) (rest := []) (wc := [(m0, .inr (10, [.ref q0, .ref q1, .ref q2, .int v3, .ref q4, .int v5, .int o2.2, .ref q7, .int v8, .ref q9, .int v10, .int v11, .int v12, .int v13, .int v14, .ref q15, .int v16])), (q0, .inl (cA 0, 60, .inl ss))]) ⟨hx, hb, hml, hfc, hts⟩ hK hP (kX6_ofMoon l D cA m0 q0 q1 q2 q4 q7 q9 q15 v3 v5 o2.2 v8 v10 v11 v12 v13 v14 v16 ss x1 0 ho4) (cwV 2 hts gX6_isSoft_X6_ofMoon rfl rfl rfl (by decide +kernel) ⟨(Nat.le_of_ble_eq_true rfl), (Nat.le_of_ble_eq_true rfl)⟩) [0, 1] rfl 0 10 rfl rfl rfl rfl rfl rfl hl.1 (Nat.le_of_ble_eq_true rfl) dX6_isSoft_15 ⟨(Nat.zero_le _), (Nat.zero_le _)⟩ ?_
    refine lv_iconst (v := 1) hx hb dX6_isSoft_18 (by decide) ?_
    refine lv_icmp_ne (tgt := 26) hx hb dX6_isSoft_19 (by decide) (fun c5 => ?_) (fun c5 => ?_)
    · have h := ite_f c5 h
      refine lv_iconst (v := 0) hx hb dX6_isSoft_26 (by decide) ?_
      have h := Option.some.inj h
      subst h
      exact hend (adr []) _ _ _ _ _ _ _ rfl rfl (rtn_n (x := 0) rfl) hP hD hS dX6_isSoft_27
    · have h := ite_t c5 h
      refine lv_iconst (v := 1) hx hb dX6_isSoft_22 (by decide) ?_
      refine lv_goto (tgt := 27) hx hb dX6_isSoft_23 (by decide) ?_
      have h := Option.some.inj h
      subst h
      exact hend (adr []) _ _ _ _ _ _ _ rfl rfl (rtn_n (x := 1) rfl) hP hD hS dX6_isSoft_27
noncomputable def SX6_isEclipsed (ss : Nat → Int32) (x1 : Int32) : Option (Int32 × Int32) := bnd (SX6_isMoon ss x1) (fun o1 : Int32 => bnd (SX6_isThere o1) (fun o2 : Int32 × Int32 => if o2.1 = 0 then (some ((0, o2.2))) else (bnd (SX6_isShaded ss x1 0) (fun o4 : Int32 => if o4 = 0 then (some ((0, o2.2))) else (some ((1, o2.2)))))))
abbrev RM_X6_isEclipsed : Room := { frames := 4, cells := 0, slots := 0, locals := 90 }
set_option maxHeartbeats 4000000 in
theorem kX6_isEclipsed (l : Launch) (D : va_G) (cA : Nat → ClassId) (m0 q0 q1 q2 q4 q7 q9 q15 : Nat) (v3 : Int32) (v5 : Int32) (v6 : Int32) (v8 : Int32) (v10 : Int32) (v11 : Int32) (v12 : Int32) (v13 : Int32) (v14 : Int32) (v16 : Int32) (ss : Nat → Int32) (x1 : Int32) {r : Int32 × Int32} (hr : SX6_isEclipsed ss x1 = some r) {sz : Nat} : Met l yX6_isEclipsed wsX6_isEclipsed RM_X6_isEclipsed (va_Pc [.ref m0, .int x1] (gqB D cA [(m0, .inr (10, [.ref q0, .ref q1, .ref q2, .int v3, .ref q4, .int v5, .int v6, .ref q7, .int v8, .ref q9, .int v10, .int v11, .int v12, .int v13, .int v14, .ref q15, .int v16])), (q0, .inl (cA 0, 60, .inl ss))] sz)) (gqQ D (fun as => (some (.int r.1))) (fun as => [(m0, .inr (10, [.ref q0, .ref q1, .ref q2, .int v3, .ref q4, .int v5, .int r.2, .ref q7, .int v8, .ref q9, .int v10, .int v11, .int v12, .int v13, .int v14, .ref q15, .int v16])), (q0, .inl (cA 0, 60, .inl ss))]) (va_A [(m0, .inr (10, [.ref q0, .ref q1, .ref q2, .int v3, .ref q4, .int v5, .int v6, .ref q7, .int v8, .ref q9, .int v10, .int v11, .int v12, .int v13, .int v14, .ref q15, .int v16])), (q0, .inl (cA 0, 60, .inl ss))] sz)) 0 0 (va_A [(m0, .inr (10, [.ref q0, .ref q1, .ref q2, .int v3, .ref q4, .int v5, .int v6, .ref q7, .int v8, .ref q9, .int v10, .int v11, .int v12, .int v13, .int v14, .ref q15, .int v16])), (q0, .inl (cA 0, 60, .inl ss))] sz) := by
  refine gq_ofW (cc := cX6_isEclipsed) (maxL := 2) (ret := (some .boolean)) (by decide) rfl (Nat.le_of_ble_eq_true rfl) (fun p e s m args below meth c ls Q A hx hb hml hts hfc hmn hK hP hD hS hA hl hend => ?_)
  have hfc : s.vm.findClass RX6 = some m.cls := hfc
  have hl : lv_has ls 2 [(0, .ref m0), (1, .int x1)] := hl
  have h := hr
  clear hr
  unfold SX6_isEclipsed at h
  refine lv_aload_n hx hb dX6_isEclipsed_0 rfl (lv_at hl 0 rfl) ?_
  refine lv_aload_n hx hb dX6_isEclipsed_1 rfl (lv_at hl 0 rfl) ?_
  refine lv_iload_n hx hb dX6_isEclipsed_2 rfl (lv_at hl 1 rfl) ?_
  obtain ⟨o1, ho1, h⟩ := bnd_i h
  refine rq_V (v := (some (.int o1))) (As := [.int x1]) (rest := [.ref m0]) (wc := [(m0, .inr (10, [.ref q0, .ref q1, .ref q2, .int v3, .ref q4, .int v5, .int v6, .ref q7, .int v8, .ref q9, .int v10, .int v11, .int v12, .int v13, .int v14, .ref q15, .int v16])), (q0, .inl (cA 0, 60, .inl ss))]) ⟨hx, hb, hml, hfc, hts⟩ hK hP (kX6_isMoon l D cA m0 q0 q1 q2 q4 q7 q9 q15 v3 v5 v6 v8 v10 v11 v12 v13 v14 v16 ss x1 ho1) (cwV 1 hts gX6_isEclipsed_X6_isMoon rfl rfl rfl (by decide +kernel) ⟨(Nat.le_of_ble_eq_true rfl), (Nat.le_of_ble_eq_true rfl)⟩) [0, 1] rfl 0 10 rfl rfl rfl rfl rfl rfl hl.1 (Nat.le_of_ble_eq_true rfl) dX6_isEclipsed_3 ⟨(Nat.zero_le _), (Nat.zero_le _)⟩ ?_
  obtain ⟨o2, ho2, h⟩ := bnd_i h
  refine gq_V (v := (fun as => (some (.int o2.1)))) (As := [.int o1]) (rest := []) (wc := [(m0, .inr (10, [.ref q0, .ref q1, .ref q2, .int v3, .ref q4, .int v5, .int v6, .ref q7, .int v8, .ref q9, .int v10, .int v11, .int v12, .int v13, .int v14, .ref q15, .int v16]))]) (wr := [(q0, .inl (cA 0, 60, .inl ss))]) (w1 := (fun as => [(m0, .inr (10, [.ref q0, .ref q1, .ref q2, .int v3, .ref q4, .int v5, .int o2.2, .ref q7, .int v8, .ref q9, .int v10, .int v11, .int v12, .int v13, .int v14, .ref q15, .int v16]))])) (ws2 := (fun as => [(m0, .inr (10, [.ref q0, .ref q1, .ref q2, .int v3, .ref q4, .int v5, .int o2.2, .ref q7, .int v8, .ref q9, .int v10, .int v11, .int v12, .int v13, .int v14, .ref q15, .int v16])), (q0, .inl (cA 0, 60, .inl ss))])) (st1 := (fun as => [.int o2.1])) ⟨hx, hb, hml, hfc, hts⟩ hK hP hD hS hA (kX6_isThere l D cA m0 q0 q1 q2 q4 q7 q9 q15 v3 v5 v6 v8 v10 v11 v12 v13 v14 v16 o1 ho2) (cwV 1 hts gX6_isEclipsed_X6_isThere rfl rfl rfl (by decide +kernel) ⟨(Nat.le_of_ble_eq_true rfl), (Nat.le_of_ble_eq_true rfl)⟩) [0] [1] [1, 0] rfl rfl rfl rfl (by decide) (fun _ => rfl) rfl 0 10 rfl rfl rfl rfl (fun _ => rfl) rfl hl.1 (Nat.le_of_ble_eq_true rfl) dX6_isEclipsed_6 ⟨(Nat.zero_le _), (Nat.zero_le _)⟩ (fun as H locs hP hD hS => ?_)
  have hP : va_P D vwCl [(m0, .inr (10, [.ref q0, .ref q1, .ref q2, .int v3, .ref q4, .int v5, .int o2.2, .ref q7, .int v8, .ref q9, .int v10, .int v11, .int v12, .int v13, .int v14, .ref q15, .int v16])), (q0, .inl (cA 0, 60, .inl ss))] H := hP
  have hD : va_D A [(m0, .inr (10, [.ref q0, .ref q1, .ref q2, .int v3, .ref q4, .int v5, .int o2.2, .ref q7, .int v8, .ref q9, .int v10, .int v11, .int v12, .int v13, .int v14, .ref q15, .int v16])), (q0, .inl (cA 0, 60, .inl ss))] := hD
  refine lv_if_eq (tgt := 25) hx hb dX6_isEclipsed_9 (by decide) (fun c3 => ?_) (fun c3 => ?_)
  · have h := ite_t c3 h
    refine lv_iconst (v := 0) hx hb dX6_isEclipsed_25 (by decide) ?_
    have h := Option.some.inj h
    subst h
    exact hend (adr []) _ _ _ _ _ _ _ rfl rfl (rtn_n (x := 0) rfl) hP hD hS dX6_isEclipsed_26
  · have h := ite_f c3 h
    refine lv_aload_n hx hb dX6_isEclipsed_12 rfl (lv_at hl 0 rfl) ?_
    refine lv_iload_n hx hb dX6_isEclipsed_13 rfl (lv_at hl 1 rfl) ?_
    refine lv_iconst (v := 0) hx hb dX6_isEclipsed_14 (by decide) ?_
    obtain ⟨o4, ho4, h⟩ := bnd_i h
    refine rq_V (v := (some (.int o4))) (As := [.int x1, .int 0]) (rest := []) (wc := [(m0, .inr (10, [.ref q0, .ref q1, .ref q2, .int v3, .ref q4, .int v5, .int o2.2, .ref q7, .int v8, .ref q9, .int v10, .int v11, .int v12, .int v13, .int v14, .ref q15, .int v16])), (q0, .inl (cA 0, 60, .inl ss))]) ⟨hx, hb, hml, hfc, hts⟩ hK hP (kX6_isShaded l D cA m0 q0 q1 q2 q4 q7 q9 q15 v3 v5 o2.2 v8 v10 v11 v12 v13 v14 v16 ss x1 0 ho4) (cwV 2 hts gX6_isEclipsed_X6_isShaded rfl rfl rfl (by decide +kernel) ⟨(Nat.le_of_ble_eq_true rfl), (Nat.le_of_ble_eq_true rfl)⟩) [0, 1] rfl 0 10 rfl rfl rfl rfl rfl rfl hl.1 (Nat.le_of_ble_eq_true rfl) dX6_isEclipsed_15 ⟨(Nat.zero_le _), (Nat.zero_le _)⟩ ?_
    refine lv_if_eq (tgt := 25) hx hb dX6_isEclipsed_18 (by decide) (fun c5 => ?_) (fun c5 => ?_)
    · have h := ite_t c5 h
      refine lv_iconst (v := 0) hx hb dX6_isEclipsed_25 (by decide) ?_
      have h := Option.some.inj h
      subst h
      exact hend (adr []) _ _ _ _ _ _ _ rfl rfl (rtn_n (x := 0) rfl) hP hD hS dX6_isEclipsed_26
    · have h := ite_f c5 h
      refine lv_iconst (v := 1) hx hb dX6_isEclipsed_21 (by decide) ?_
      refine lv_goto (tgt := 26) hx hb dX6_isEclipsed_22 (by decide) ?_
      have h := Option.some.inj h
      subst h
      exact hend (adr []) _ _ _ _ _ _ _ rfl rfl (rtn_n (x := 1) rfl) hP hD hS dX6_isEclipsed_26
noncomputable def LX6_toes_4 (ss : Nat → Int32) : Nat → Int32 → Int32 → Option (Int32)
  | 0, _, _ => none
  | fu + 1, x1_4, x2_4 => if 12 ≤ x2_4 then (some (x1_4)) else (gd (vp_in (7 + x2_4) 60) (lt_ (x1_4 + (ss (Int32.toNatClampNeg (7 + x2_4)))) (fun t3 : Int32 => LX6_toes_4 ss fu t3 (x2_4 + 1))))
noncomputable def SX6_toes (N : Nat) (ss : Nat → Int32) : Option (Int32) := LX6_toes_4 ss N 0 0
theorem iX6_toes_X6 : ∀ w ∈ wsX60, w ∈ wsX6_toes := fun _ h => List.mem_cons_of_mem _ (List.mem_append_left _ (List.mem_append_right _ h))
abbrev RM_X6_toes : Room := { frames := 0, cells := 0, slots := 0, locals := 0 }
set_option maxHeartbeats 4000000 in
theorem kX6_toes (l : Launch) (D : va_G) (cA : Nat → ClassId) (m0 q0 q1 q2 q4 q7 q9 q15 : Nat) (N : Nat) (v3 : Int32) (v5 : Int32) (v6 : Int32) (v8 : Int32) (v10 : Int32) (v11 : Int32) (v12 : Int32) (v13 : Int32) (v14 : Int32) (v16 : Int32) (ss : Nat → Int32) {r : Int32} (hr : SX6_toes N ss = some r) : Met l yX6_toes wsX6_toes RM_X6_toes (va_Pc [.ref m0] (rqB D cA [(m0, .inr (10, [.ref q0, .ref q1, .ref q2, .int v3, .ref q4, .int v5, .int v6, .ref q7, .int v8, .ref q9, .int v10, .int v11, .int v12, .int v13, .int v14, .ref q15, .int v16])), (q0, .inl (cA 0, 60, .inl ss))])) (rqQ (some (.int r))) 0 0 (fun _ => False) := by
  refine rq_ofW (cc := cX6_toes) (maxL := 3) (ret := (some .int)) (by decide) rfl (Nat.le_of_ble_eq_true rfl) (fun p e s m args below meth c ls Q hx hb hml hts hfc hK hP hl hend => ?_)
  have hfc : s.vm.findClass RX6 = some m.cls := hfc
  have hl : lv_has ls 3 [(0, .ref m0)] := hl
  have h := hr
  clear hr
  unfold SX6_toes at h
  refine lv_iconst (v := 0) hx hb dX6_toes_0 (by decide) ?_
  refine lv_istore_n hx hb dX6_toes_1 rfl hl (Nat.le_of_ble_eq_true rfl) rfl (fun ls hl => ?_)
  have hl : lv_has ls 3 [(1, .int 0), (0, .ref m0)] := hl
  refine lv_iconst (v := 0) hx hb dX6_toes_2 (by decide) ?_
  refine lv_istore_n hx hb dX6_toes_3 rfl hl (Nat.le_of_ble_eq_true rfl) rfl (fun ls hl => ?_)
  have hl : lv_has ls 3 [(2, .int 0), (1, .int 0), (0, .ref m0)] := hl
  have hLX6_toes_4 : ∀ (fu : Nat) (x1_4 : Int32) (x2_4 : Int32) (ls : Array Slot), lv_has ls 3 [(0, .ref m0), (1, .int x1_4), (2, .int x2_4)] → LX6_toes_4 ss fu x1_4 x2_4 = some r → W p l e RM_X6_toes s m args below meth c s.heap [] 0 0 Q (F0 m 4 ls []) := by
    intro fu
    induction fu with
    | zero =>
      intro x1_4 x2_4 ls hl h
      rw [LX6_toes_4] at h
      exact nn h
    | succ fu ih =>
      intro x1_4 x2_4 ls hl h
      rw [LX6_toes_4] at h
      refine lv_iload_n hx hb dX6_toes_4 rfl (lv_at hl 2 rfl) ?_
      refine lv_bipush (v := 12) hx hb dX6_toes_5 (by decide) ?_
      refine lv_icmp_ge (tgt := 28) hx hb dX6_toes_7 (by decide) (fun c1 => ?_) (fun c1 => ?_)
      · have h := ite_t c1 h
        refine lv_iload_n hx hb dX6_toes_28 rfl (lv_at hl 1 rfl) ?_
        have h := Option.some.inj h
        subst h
        exact hend _ _ _ _ rfl (rtn_i _) dX6_toes_29
      · have h := ite_f c1 h
        refine lv_iload_n hx hb dX6_toes_10 rfl (lv_at hl 1 rfl) ?_
        refine lv_aload_n hx hb dX6_toes_11 rfl (lv_at hl 0 rfl) ?_
        refine va_get (D := D) (ci := 10) (v := .ref q0) (C := RX6) (T := TX6) (N := 17) hx hb hts iX6_toes_X6 hfc hK hP 0 rfl rfl 0 (by decide) (hts (.fieldLink RX6 9 "BathtubTidesModel" "s" "[I") (List.mem_of_getElem? (i := 1) rfl)) (fun _ h9 => h9) rfl dX6_toes_12 ?_
        refine lv_bipush (v := 7) hx hb dX6_toes_15 (by decide) ?_
        refine lv_iload_n hx hb dX6_toes_17 rfl (lv_at hl 2 rfl) ?_
        refine lv_iadd hx hb dX6_toes_18 ?_
        obtain ⟨g2, h⟩ := gd_i h
        refine va_iald hx hb hK hP 1 0 rfl rfl g2 dX6_toes_19 ?_
        refine lv_iadd hx hb dX6_toes_20 ?_
        refine lv_topi (fun t3 et3 => ?_)
        have h := lt_e h _ et3
        refine lv_istore_n hx hb dX6_toes_21 rfl hl (Nat.le_of_ble_eq_true rfl) rfl (fun ls hl => ?_)
        have hl : lv_has ls 3 [(1, .int t3), (0, .ref m0), (2, .int x2_4)] := hl
        refine lv_iinc (k := 2) (v := x2_4 + 1) hx hb dX6_toes_22 hl rfl (congrArg (fun z => x2_4 + z) lit1) (Nat.le_of_ble_eq_true rfl) rfl (fun ls hl => ?_)
        have hl : lv_has ls 3 [(2, .int (x2_4 + 1)), (1, .int t3), (0, .ref m0)] := hl
        refine lv_goto (tgt := 4) hx hb dX6_toes_25 (by decide) ?_
        exact ih t3 (x2_4 + 1) _ (lv_sub hl [2, 1, 0] rfl) h
  exact hLX6_toes_4 N 0 0 _ (lv_sub hl [2, 1, 0] rfl) h
noncomputable def SX6_doPlaceToe (N : Nat) (v6 : Int32) (ss : Nat → Int32) (x1 : Int32) : Option (Int32 × (Nat → Int32) × Int32) := bnd (SX6_isPosition x1) (fun o1 : Int32 => if o1 = 0 then (lt_ (SX6_fails 1) (fun o11 : Int32 × Int32 => some ((o11.1, ss, o11.2)))) else (gd (vp_in (7 + x1) 60) (if (ss (Int32.toNatClampNeg (7 + x1))) = 1 then (lt_ (SX6_fails 2) (fun o5 : Int32 × Int32 => some ((o5.1, ss, o5.2)))) else (bnd (SX6_toes N ss) (fun o6 : Int32 => if o6 = 4 then (lt_ (SX6_fails 2) (fun o10 : Int32 × Int32 => some ((o10.1, ss, o10.2)))) else (gd (vp_in (7 + x1) 60) (bnd (SX6_toes N (upd ss (Int32.toNatClampNeg (7 + x1)) 1)) (fun o9 : Int32 => some ((o9, upd ss (Int32.toNatClampNeg (7 + x1)) 1, v6))))))))))
theorem iX6_doPlaceToe_X6 : ∀ w ∈ wsX60, w ∈ wsX6_doPlaceToe := fun _ h => List.mem_cons_of_mem _ (List.mem_append_left _ (List.mem_append_right _ h))
abbrev RM_X6_doPlaceToe : Room := { frames := 2, cells := 0, slots := 0, locals := 42 }
set_option maxHeartbeats 4000000 in
theorem kX6_doPlaceToe (l : Launch) (D : va_G) (cA : Nat → ClassId) (m0 q0 q1 q2 q4 q7 q9 q15 : Nat) (N : Nat) (v3 : Int32) (v5 : Int32) (v6 : Int32) (v8 : Int32) (v10 : Int32) (v11 : Int32) (v12 : Int32) (v13 : Int32) (v14 : Int32) (v16 : Int32) (ss : Nat → Int32) (x1 : Int32) {r : Int32 × (Nat → Int32) × Int32} (hr : SX6_doPlaceToe N v6 ss x1 = some r) {sz : Nat} : Met l yX6_doPlaceToe wsX6_doPlaceToe RM_X6_doPlaceToe (va_Pc [.ref m0, .int x1] (gqB D cA [(m0, .inr (10, [.ref q0, .ref q1, .ref q2, .int v3, .ref q4, .int v5, .int v6, .ref q7, .int v8, .ref q9, .int v10, .int v11, .int v12, .int v13, .int v14, .ref q15, .int v16])), (q0, .inl (cA 0, 60, .inl ss))] sz)) (gqQ D (fun as => (some (.int r.1))) (fun as => [(m0, .inr (10, [.ref q0, .ref q1, .ref q2, .int v3, .ref q4, .int v5, .int r.2.2, .ref q7, .int v8, .ref q9, .int v10, .int v11, .int v12, .int v13, .int v14, .ref q15, .int v16])), (q0, .inl (cA 0, 60, .inl r.2.1))]) (va_A [(m0, .inr (10, [.ref q0, .ref q1, .ref q2, .int v3, .ref q4, .int v5, .int v6, .ref q7, .int v8, .ref q9, .int v10, .int v11, .int v12, .int v13, .int v14, .ref q15, .int v16])), (q0, .inl (cA 0, 60, .inl ss))] sz)) 0 0 (va_A [(m0, .inr (10, [.ref q0, .ref q1, .ref q2, .int v3, .ref q4, .int v5, .int v6, .ref q7, .int v8, .ref q9, .int v10, .int v11, .int v12, .int v13, .int v14, .ref q15, .int v16])), (q0, .inl (cA 0, 60, .inl ss))] sz) := by
  refine gq_ofW (cc := cX6_doPlaceToe) (maxL := 2) (ret := (some .int)) (by decide) rfl (Nat.le_of_ble_eq_true rfl) (fun p e s m args below meth c ls Q A hx hb hml hts hfc hmn hK hP hD hS hA hl hend => ?_)
  have hfc : s.vm.findClass RX6 = some m.cls := hfc
  have hl : lv_has ls 2 [(0, .ref m0), (1, .int x1)] := hl
  have h := hr
  clear hr
  unfold SX6_doPlaceToe at h
  refine lv_iload_n hx hb dX6_doPlaceToe_0 rfl (lv_at hl 1 rfl) ?_
  obtain ⟨o1, ho1, h⟩ := bnd_i h
  refine rq_S (v := (some (.int o1))) (As := [.int x1]) (rest := []) (wc := []) ⟨hx, hb, hml, hfc, hts⟩ hK hP (kX6_isPosition l D cA x1 ho1) (va_cwS 1 hts gX6_doPlaceToe_X6_isPosition rfl rfl rfl (by decide +kernel) ⟨(Nat.le_of_ble_eq_true rfl), (Nat.le_of_ble_eq_true rfl)⟩) [] rfl rfl rfl rfl hl.1 (Nat.le_of_ble_eq_true rfl) dX6_doPlaceToe_1 ⟨(Nat.zero_le _), (Nat.zero_le _)⟩ ?_
  refine lv_if_ne (tgt := 13) hx hb dX6_doPlaceToe_4 (by decide) (fun c2 => ?_) (fun c2 => ?_)
  · have h := ite_f c2 h
    refine lv_aload_n hx hb dX6_doPlaceToe_13 rfl (lv_at hl 0 rfl) ?_
    refine va_get (D := D) (ci := 10) (v := .ref q0) (C := RX6) (T := TX6) (N := 17) hx hb hts iX6_doPlaceToe_X6 hfc hK hP 0 rfl rfl 0 (by decide) (hts (.fieldLink RX6 9 "BathtubTidesModel" "s" "[I") (List.mem_of_getElem? (i := 1) rfl)) (fun _ h9 => h9) rfl dX6_doPlaceToe_14 ?_
    refine lv_bipush (v := 7) hx hb dX6_doPlaceToe_17 (by decide) ?_
    refine lv_iload_n hx hb dX6_doPlaceToe_19 rfl (lv_at hl 1 rfl) ?_
    refine lv_iadd hx hb dX6_doPlaceToe_20 ?_
    obtain ⟨g3, h⟩ := gd_i h
    refine va_iald hx hb hK hP 1 0 rfl rfl g3 dX6_doPlaceToe_21 ?_
    refine lv_iconst (v := 1) hx hb dX6_doPlaceToe_22 (by decide) ?_
    refine lv_icmp_eq (tgt := 34) hx hb dX6_doPlaceToe_23 (by decide) (fun c4 => ?_) (fun c4 => ?_)
    · have h := ite_t c4 h
      refine lv_aload_n hx hb dX6_doPlaceToe_34 rfl (lv_at hl 0 rfl) ?_
      refine lv_iconst (v := 2) hx hb dX6_doPlaceToe_35 (by decide) ?_
      obtain ⟨o5, ho5, h⟩ := lt_i h
      refine gq_V (v := (fun as => (some (.int o5.1)))) (As := [.int 2]) (rest := []) (wc := [(m0, .inr (10, [.ref q0, .ref q1, .ref q2, .int v3, .ref q4, .int v5, .int v6, .ref q7, .int v8, .ref q9, .int v10, .int v11, .int v12, .int v13, .int v14, .ref q15, .int v16]))]) (wr := [(q0, .inl (cA 0, 60, .inl ss))]) (w1 := (fun as => [(m0, .inr (10, [.ref q0, .ref q1, .ref q2, .int v3, .ref q4, .int v5, .int o5.2, .ref q7, .int v8, .ref q9, .int v10, .int v11, .int v12, .int v13, .int v14, .ref q15, .int v16]))])) (ws2 := (fun as => [(m0, .inr (10, [.ref q0, .ref q1, .ref q2, .int v3, .ref q4, .int v5, .int o5.2, .ref q7, .int v8, .ref q9, .int v10, .int v11, .int v12, .int v13, .int v14, .ref q15, .int v16])), (q0, .inl (cA 0, 60, .inl ss))])) (st1 := (fun as => [.int o5.1])) ⟨hx, hb, hml, hfc, hts⟩ hK hP hD hS hA (kX6_fails l D cA m0 q0 q1 q2 q4 q7 q9 q15 v3 v5 v6 v8 v10 v11 v12 v13 v14 v16 2 ho5) (cwV 1 hts gX6_doPlaceToe_X6_fails rfl rfl rfl (by decide +kernel) ⟨(Nat.le_of_ble_eq_true rfl), (Nat.le_of_ble_eq_true rfl)⟩) [0] [1] [1, 0] rfl rfl rfl rfl (by decide) (fun _ => rfl) rfl 0 10 rfl rfl rfl rfl (fun _ => rfl) rfl hl.1 (Nat.le_of_ble_eq_true rfl) dX6_doPlaceToe_36 ⟨(Nat.zero_le _), (Nat.zero_le _)⟩ (fun as H locs hP hD hS => ?_)
      have hP : va_P D vwCl [(m0, .inr (10, [.ref q0, .ref q1, .ref q2, .int v3, .ref q4, .int v5, .int o5.2, .ref q7, .int v8, .ref q9, .int v10, .int v11, .int v12, .int v13, .int v14, .ref q15, .int v16])), (q0, .inl (cA 0, 60, .inl ss))] H := hP
      have hD : va_D A [(m0, .inr (10, [.ref q0, .ref q1, .ref q2, .int v3, .ref q4, .int v5, .int o5.2, .ref q7, .int v8, .ref q9, .int v10, .int v11, .int v12, .int v13, .int v14, .ref q15, .int v16])), (q0, .inl (cA 0, 60, .inl ss))] := hD
      have h := Option.some.inj h
      subst h
      exact hend (adr []) _ _ _ _ _ _ _ rfl rfl (rtn_i _) hP hD hS dX6_doPlaceToe_39
    · have h := ite_f c4 h
      refine lv_aload_n hx hb dX6_doPlaceToe_26 rfl (lv_at hl 0 rfl) ?_
      obtain ⟨o6, ho6, h⟩ := bnd_i h
      refine rq_V (v := (some (.int o6))) (As := []) (rest := []) (wc := [(m0, .inr (10, [.ref q0, .ref q1, .ref q2, .int v3, .ref q4, .int v5, .int v6, .ref q7, .int v8, .ref q9, .int v10, .int v11, .int v12, .int v13, .int v14, .ref q15, .int v16])), (q0, .inl (cA 0, 60, .inl ss))]) ⟨hx, hb, hml, hfc, hts⟩ hK hP (kX6_toes l D cA m0 q0 q1 q2 q4 q7 q9 q15 N v3 v5 v6 v8 v10 v11 v12 v13 v14 v16 ss ho6) (cwV 0 hts gX6_doPlaceToe_X6_toes rfl rfl rfl (by decide +kernel) ⟨(Nat.le_of_ble_eq_true rfl), (Nat.le_of_ble_eq_true rfl)⟩) [0, 1] rfl 0 10 rfl rfl rfl rfl rfl rfl hl.1 (Nat.le_of_ble_eq_true rfl) dX6_doPlaceToe_27 ⟨(Nat.zero_le _), (Nat.zero_le _)⟩ ?_
      refine lv_iconst (v := 4) hx hb dX6_doPlaceToe_30 (by decide) ?_
      refine lv_icmp_ne (tgt := 40) hx hb dX6_doPlaceToe_31 (by decide) (fun c7 => ?_) (fun c7 => ?_)
      · have h := ite_f c7 h
        refine lv_aload_n hx hb dX6_doPlaceToe_40 rfl (lv_at hl 0 rfl) ?_
        refine va_get (D := D) (ci := 10) (v := .ref q0) (C := RX6) (T := TX6) (N := 17) hx hb hts iX6_doPlaceToe_X6 hfc hK hP 0 rfl rfl 0 (by decide) (hts (.fieldLink RX6 9 "BathtubTidesModel" "s" "[I") (List.mem_of_getElem? (i := 1) rfl)) (fun _ h9 => h9) rfl dX6_doPlaceToe_41 ?_
        refine lv_bipush (v := 7) hx hb dX6_doPlaceToe_44 (by decide) ?_
        refine lv_iload_n hx hb dX6_doPlaceToe_46 rfl (lv_at hl 1 rfl) ?_
        refine lv_iadd hx hb dX6_doPlaceToe_47 ?_
        refine lv_iconst (v := 1) hx hb dX6_doPlaceToe_48 (by decide) ?_
        obtain ⟨g8, h⟩ := gd_i h
        refine va_iast hx hb hK hP hD hS 1 0 rfl rfl g8 dX6_doPlaceToe_49 (fun H locs hP hD hS => ?_)
        have hP : va_P D vwCl [(m0, .inr (10, [.ref q0, .ref q1, .ref q2, .int v3, .ref q4, .int v5, .int v6, .ref q7, .int v8, .ref q9, .int v10, .int v11, .int v12, .int v13, .int v14, .ref q15, .int v16])), (q0, .inl (cA 0, 60, .inl (upd ss (Int32.toNatClampNeg (7 + x1)) 1)))] H := hP
        have hD : va_D A [(m0, .inr (10, [.ref q0, .ref q1, .ref q2, .int v3, .ref q4, .int v5, .int v6, .ref q7, .int v8, .ref q9, .int v10, .int v11, .int v12, .int v13, .int v14, .ref q15, .int v16])), (q0, .inl (cA 0, 60, .inl (upd ss (Int32.toNatClampNeg (7 + x1)) 1)))] := hD
        refine lv_aload_n hx hb dX6_doPlaceToe_50 rfl (lv_at hl 0 rfl) ?_
        obtain ⟨o9, ho9, h⟩ := bnd_i h
        refine rq_V (v := (some (.int o9))) (As := []) (rest := []) (wc := [(m0, .inr (10, [.ref q0, .ref q1, .ref q2, .int v3, .ref q4, .int v5, .int v6, .ref q7, .int v8, .ref q9, .int v10, .int v11, .int v12, .int v13, .int v14, .ref q15, .int v16])), (q0, .inl (cA 0, 60, .inl (upd ss (Int32.toNatClampNeg (7 + x1)) 1)))]) ⟨hx, hb, hml, hfc, hts⟩ hK hP (kX6_toes l D cA m0 q0 q1 q2 q4 q7 q9 q15 N v3 v5 v6 v8 v10 v11 v12 v13 v14 v16 (upd ss (Int32.toNatClampNeg (7 + x1)) 1) ho9) (cwV 0 hts gX6_doPlaceToe_X6_toes rfl rfl rfl (by decide +kernel) ⟨(Nat.le_of_ble_eq_true rfl), (Nat.le_of_ble_eq_true rfl)⟩) [0, 1] rfl 0 10 rfl rfl rfl rfl rfl rfl hl.1 (Nat.le_of_ble_eq_true rfl) dX6_doPlaceToe_51 ⟨(Nat.zero_le _), (Nat.zero_le _)⟩ ?_
        have h := Option.some.inj h
        subst h
        exact hend (adr []) _ _ _ _ _ _ _ rfl rfl (rtn_i _) hP hD hS dX6_doPlaceToe_54
      · have h := ite_t c7 h
        refine lv_aload_n hx hb dX6_doPlaceToe_34 rfl (lv_at hl 0 rfl) ?_
        refine lv_iconst (v := 2) hx hb dX6_doPlaceToe_35 (by decide) ?_
        obtain ⟨o10, ho10, h⟩ := lt_i h
        refine gq_V (v := (fun as => (some (.int o10.1)))) (As := [.int 2]) (rest := []) (wc := [(m0, .inr (10, [.ref q0, .ref q1, .ref q2, .int v3, .ref q4, .int v5, .int v6, .ref q7, .int v8, .ref q9, .int v10, .int v11, .int v12, .int v13, .int v14, .ref q15, .int v16]))]) (wr := [(q0, .inl (cA 0, 60, .inl ss))]) (w1 := (fun as => [(m0, .inr (10, [.ref q0, .ref q1, .ref q2, .int v3, .ref q4, .int v5, .int o10.2, .ref q7, .int v8, .ref q9, .int v10, .int v11, .int v12, .int v13, .int v14, .ref q15, .int v16]))])) (ws2 := (fun as => [(m0, .inr (10, [.ref q0, .ref q1, .ref q2, .int v3, .ref q4, .int v5, .int o10.2, .ref q7, .int v8, .ref q9, .int v10, .int v11, .int v12, .int v13, .int v14, .ref q15, .int v16])), (q0, .inl (cA 0, 60, .inl ss))])) (st1 := (fun as => [.int o10.1])) ⟨hx, hb, hml, hfc, hts⟩ hK hP hD hS hA (kX6_fails l D cA m0 q0 q1 q2 q4 q7 q9 q15 v3 v5 v6 v8 v10 v11 v12 v13 v14 v16 2 ho10) (cwV 1 hts gX6_doPlaceToe_X6_fails rfl rfl rfl (by decide +kernel) ⟨(Nat.le_of_ble_eq_true rfl), (Nat.le_of_ble_eq_true rfl)⟩) [0] [1] [1, 0] rfl rfl rfl rfl (by decide) (fun _ => rfl) rfl 0 10 rfl rfl rfl rfl (fun _ => rfl) rfl hl.1 (Nat.le_of_ble_eq_true rfl) dX6_doPlaceToe_36 ⟨(Nat.zero_le _), (Nat.zero_le _)⟩ (fun as H locs hP hD hS => ?_)
        have hP : va_P D vwCl [(m0, .inr (10, [.ref q0, .ref q1, .ref q2, .int v3, .ref q4, .int v5, .int o10.2, .ref q7, .int v8, .ref q9, .int v10, .int v11, .int v12, .int v13, .int v14, .ref q15, .int v16])), (q0, .inl (cA 0, 60, .inl ss))] H := hP
        have hD : va_D A [(m0, .inr (10, [.ref q0, .ref q1, .ref q2, .int v3, .ref q4, .int v5, .int o10.2, .ref q7, .int v8, .ref q9, .int v10, .int v11, .int v12, .int v13, .int v14, .ref q15, .int v16])), (q0, .inl (cA 0, 60, .inl ss))] := hD
        have h := Option.some.inj h
        subst h
        exact hend (adr []) _ _ _ _ _ _ _ rfl rfl (rtn_i _) hP hD hS dX6_doPlaceToe_39
  · have h := ite_t c2 h
    refine lv_aload_n hx hb dX6_doPlaceToe_7 rfl (lv_at hl 0 rfl) ?_
    refine lv_iconst (v := 1) hx hb dX6_doPlaceToe_8 (by decide) ?_
    obtain ⟨o11, ho11, h⟩ := lt_i h
    refine gq_V (v := (fun as => (some (.int o11.1)))) (As := [.int 1]) (rest := []) (wc := [(m0, .inr (10, [.ref q0, .ref q1, .ref q2, .int v3, .ref q4, .int v5, .int v6, .ref q7, .int v8, .ref q9, .int v10, .int v11, .int v12, .int v13, .int v14, .ref q15, .int v16]))]) (wr := [(q0, .inl (cA 0, 60, .inl ss))]) (w1 := (fun as => [(m0, .inr (10, [.ref q0, .ref q1, .ref q2, .int v3, .ref q4, .int v5, .int o11.2, .ref q7, .int v8, .ref q9, .int v10, .int v11, .int v12, .int v13, .int v14, .ref q15, .int v16]))])) (ws2 := (fun as => [(m0, .inr (10, [.ref q0, .ref q1, .ref q2, .int v3, .ref q4, .int v5, .int o11.2, .ref q7, .int v8, .ref q9, .int v10, .int v11, .int v12, .int v13, .int v14, .ref q15, .int v16])), (q0, .inl (cA 0, 60, .inl ss))])) (st1 := (fun as => [.int o11.1])) ⟨hx, hb, hml, hfc, hts⟩ hK hP hD hS hA (kX6_fails l D cA m0 q0 q1 q2 q4 q7 q9 q15 v3 v5 v6 v8 v10 v11 v12 v13 v14 v16 1 ho11) (cwV 1 hts gX6_doPlaceToe_X6_fails rfl rfl rfl (by decide +kernel) ⟨(Nat.le_of_ble_eq_true rfl), (Nat.le_of_ble_eq_true rfl)⟩) [0] [1] [1, 0] rfl rfl rfl rfl (by decide) (fun _ => rfl) rfl 0 10 rfl rfl rfl rfl (fun _ => rfl) rfl hl.1 (Nat.le_of_ble_eq_true rfl) dX6_doPlaceToe_9 ⟨(Nat.zero_le _), (Nat.zero_le _)⟩ (fun as H locs hP hD hS => ?_)
    have hP : va_P D vwCl [(m0, .inr (10, [.ref q0, .ref q1, .ref q2, .int v3, .ref q4, .int v5, .int o11.2, .ref q7, .int v8, .ref q9, .int v10, .int v11, .int v12, .int v13, .int v14, .ref q15, .int v16])), (q0, .inl (cA 0, 60, .inl ss))] H := hP
    have hD : va_D A [(m0, .inr (10, [.ref q0, .ref q1, .ref q2, .int v3, .ref q4, .int v5, .int o11.2, .ref q7, .int v8, .ref q9, .int v10, .int v11, .int v12, .int v13, .int v14, .ref q15, .int v16])), (q0, .inl (cA 0, 60, .inl ss))] := hD
    have h := Option.some.inj h
    subst h
    exact hend (adr []) _ _ _ _ _ _ _ rfl rfl (rtn_i _) hP hD hS dX6_doPlaceToe_12
noncomputable def SX6_doRemoveToe (N : Nat) (v6 : Int32) (ss : Nat → Int32) (x1 : Int32) : Option (Int32 × (Nat → Int32) × Int32) := bnd (SX6_isPosition x1) (fun o1 : Int32 => if o1 = 0 then (lt_ (SX6_fails 1) (fun o8 : Int32 × Int32 => some ((o8.1, ss, o8.2)))) else (gd (vp_in (7 + x1) 60) (if (ss (Int32.toNatClampNeg (7 + x1))) = 0 then (lt_ (SX6_fails 2) (fun o7 : Int32 × Int32 => some ((o7.1, ss, o7.2)))) else (gd (vp_in (7 + x1) 60) (bnd (SX6_toes N (upd ss (Int32.toNatClampNeg (7 + x1)) 0)) (fun o6 : Int32 => some ((o6, upd ss (Int32.toNatClampNeg (7 + x1)) 0, v6))))))))
theorem iX6_doRemoveToe_X6 : ∀ w ∈ wsX60, w ∈ wsX6_doRemoveToe := fun _ h => List.mem_cons_of_mem _ (List.mem_append_left _ (List.mem_append_right _ h))
abbrev RM_X6_doRemoveToe : Room := { frames := 2, cells := 0, slots := 0, locals := 42 }
set_option maxHeartbeats 4000000 in
theorem kX6_doRemoveToe (l : Launch) (D : va_G) (cA : Nat → ClassId) (m0 q0 q1 q2 q4 q7 q9 q15 : Nat) (N : Nat) (v3 : Int32) (v5 : Int32) (v6 : Int32) (v8 : Int32) (v10 : Int32) (v11 : Int32) (v12 : Int32) (v13 : Int32) (v14 : Int32) (v16 : Int32) (ss : Nat → Int32) (x1 : Int32) {r : Int32 × (Nat → Int32) × Int32} (hr : SX6_doRemoveToe N v6 ss x1 = some r) {sz : Nat} : Met l yX6_doRemoveToe wsX6_doRemoveToe RM_X6_doRemoveToe (va_Pc [.ref m0, .int x1] (gqB D cA [(m0, .inr (10, [.ref q0, .ref q1, .ref q2, .int v3, .ref q4, .int v5, .int v6, .ref q7, .int v8, .ref q9, .int v10, .int v11, .int v12, .int v13, .int v14, .ref q15, .int v16])), (q0, .inl (cA 0, 60, .inl ss))] sz)) (gqQ D (fun as => (some (.int r.1))) (fun as => [(m0, .inr (10, [.ref q0, .ref q1, .ref q2, .int v3, .ref q4, .int v5, .int r.2.2, .ref q7, .int v8, .ref q9, .int v10, .int v11, .int v12, .int v13, .int v14, .ref q15, .int v16])), (q0, .inl (cA 0, 60, .inl r.2.1))]) (va_A [(m0, .inr (10, [.ref q0, .ref q1, .ref q2, .int v3, .ref q4, .int v5, .int v6, .ref q7, .int v8, .ref q9, .int v10, .int v11, .int v12, .int v13, .int v14, .ref q15, .int v16])), (q0, .inl (cA 0, 60, .inl ss))] sz)) 0 0 (va_A [(m0, .inr (10, [.ref q0, .ref q1, .ref q2, .int v3, .ref q4, .int v5, .int v6, .ref q7, .int v8, .ref q9, .int v10, .int v11, .int v12, .int v13, .int v14, .ref q15, .int v16])), (q0, .inl (cA 0, 60, .inl ss))] sz) := by
  refine gq_ofW (cc := cX6_doRemoveToe) (maxL := 2) (ret := (some .int)) (by decide) rfl (Nat.le_of_ble_eq_true rfl) (fun p e s m args below meth c ls Q A hx hb hml hts hfc hmn hK hP hD hS hA hl hend => ?_)
  have hfc : s.vm.findClass RX6 = some m.cls := hfc
  have hl : lv_has ls 2 [(0, .ref m0), (1, .int x1)] := hl
  have h := hr
  clear hr
  unfold SX6_doRemoveToe at h
  refine lv_iload_n hx hb dX6_doRemoveToe_0 rfl (lv_at hl 1 rfl) ?_
  obtain ⟨o1, ho1, h⟩ := bnd_i h
  refine rq_S (v := (some (.int o1))) (As := [.int x1]) (rest := []) (wc := []) ⟨hx, hb, hml, hfc, hts⟩ hK hP (kX6_isPosition l D cA x1 ho1) (va_cwS 1 hts gX6_doRemoveToe_X6_isPosition rfl rfl rfl (by decide +kernel) ⟨(Nat.le_of_ble_eq_true rfl), (Nat.le_of_ble_eq_true rfl)⟩) [] rfl rfl rfl rfl hl.1 (Nat.le_of_ble_eq_true rfl) dX6_doRemoveToe_1 ⟨(Nat.zero_le _), (Nat.zero_le _)⟩ ?_
  refine lv_if_ne (tgt := 13) hx hb dX6_doRemoveToe_4 (by decide) (fun c2 => ?_) (fun c2 => ?_)
  · have h := ite_f c2 h
    refine lv_aload_n hx hb dX6_doRemoveToe_13 rfl (lv_at hl 0 rfl) ?_
    refine va_get (D := D) (ci := 10) (v := .ref q0) (C := RX6) (T := TX6) (N := 17) hx hb hts iX6_doRemoveToe_X6 hfc hK hP 0 rfl rfl 0 (by decide) (hts (.fieldLink RX6 9 "BathtubTidesModel" "s" "[I") (List.mem_of_getElem? (i := 1) rfl)) (fun _ h9 => h9) rfl dX6_doRemoveToe_14 ?_
    refine lv_bipush (v := 7) hx hb dX6_doRemoveToe_17 (by decide) ?_
    refine lv_iload_n hx hb dX6_doRemoveToe_19 rfl (lv_at hl 1 rfl) ?_
    refine lv_iadd hx hb dX6_doRemoveToe_20 ?_
    obtain ⟨g3, h⟩ := gd_i h
    refine va_iald hx hb hK hP 1 0 rfl rfl g3 dX6_doRemoveToe_21 ?_
    refine lv_if_ne (tgt := 31) hx hb dX6_doRemoveToe_22 (by decide) (fun c4 => ?_) (fun c4 => ?_)
    · have h := ite_f c4 h
      refine lv_aload_n hx hb dX6_doRemoveToe_31 rfl (lv_at hl 0 rfl) ?_
      refine va_get (D := D) (ci := 10) (v := .ref q0) (C := RX6) (T := TX6) (N := 17) hx hb hts iX6_doRemoveToe_X6 hfc hK hP 0 rfl rfl 0 (by decide) (hts (.fieldLink RX6 9 "BathtubTidesModel" "s" "[I") (List.mem_of_getElem? (i := 1) rfl)) (fun _ h9 => h9) rfl dX6_doRemoveToe_32 ?_
      refine lv_bipush (v := 7) hx hb dX6_doRemoveToe_35 (by decide) ?_
      refine lv_iload_n hx hb dX6_doRemoveToe_37 rfl (lv_at hl 1 rfl) ?_
      refine lv_iadd hx hb dX6_doRemoveToe_38 ?_
      refine lv_iconst (v := 0) hx hb dX6_doRemoveToe_39 (by decide) ?_
      obtain ⟨g5, h⟩ := gd_i h
      refine va_iast hx hb hK hP hD hS 1 0 rfl rfl g5 dX6_doRemoveToe_40 (fun H locs hP hD hS => ?_)
      have hP : va_P D vwCl [(m0, .inr (10, [.ref q0, .ref q1, .ref q2, .int v3, .ref q4, .int v5, .int v6, .ref q7, .int v8, .ref q9, .int v10, .int v11, .int v12, .int v13, .int v14, .ref q15, .int v16])), (q0, .inl (cA 0, 60, .inl (upd ss (Int32.toNatClampNeg (7 + x1)) 0)))] H := hP
      have hD : va_D A [(m0, .inr (10, [.ref q0, .ref q1, .ref q2, .int v3, .ref q4, .int v5, .int v6, .ref q7, .int v8, .ref q9, .int v10, .int v11, .int v12, .int v13, .int v14, .ref q15, .int v16])), (q0, .inl (cA 0, 60, .inl (upd ss (Int32.toNatClampNeg (7 + x1)) 0)))] := hD
      refine lv_aload_n hx hb dX6_doRemoveToe_41 rfl (lv_at hl 0 rfl) ?_
      obtain ⟨o6, ho6, h⟩ := bnd_i h
      refine rq_V (v := (some (.int o6))) (As := []) (rest := []) (wc := [(m0, .inr (10, [.ref q0, .ref q1, .ref q2, .int v3, .ref q4, .int v5, .int v6, .ref q7, .int v8, .ref q9, .int v10, .int v11, .int v12, .int v13, .int v14, .ref q15, .int v16])), (q0, .inl (cA 0, 60, .inl (upd ss (Int32.toNatClampNeg (7 + x1)) 0)))]) ⟨hx, hb, hml, hfc, hts⟩ hK hP (kX6_toes l D cA m0 q0 q1 q2 q4 q7 q9 q15 N v3 v5 v6 v8 v10 v11 v12 v13 v14 v16 (upd ss (Int32.toNatClampNeg (7 + x1)) 0) ho6) (cwV 0 hts gX6_doRemoveToe_X6_toes rfl rfl rfl (by decide +kernel) ⟨(Nat.le_of_ble_eq_true rfl), (Nat.le_of_ble_eq_true rfl)⟩) [0, 1] rfl 0 10 rfl rfl rfl rfl rfl rfl hl.1 (Nat.le_of_ble_eq_true rfl) dX6_doRemoveToe_42 ⟨(Nat.zero_le _), (Nat.zero_le _)⟩ ?_
      have h := Option.some.inj h
      subst h
      exact hend (adr []) _ _ _ _ _ _ _ rfl rfl (rtn_i _) hP hD hS dX6_doRemoveToe_45
    · have h := ite_t c4 h
      refine lv_aload_n hx hb dX6_doRemoveToe_25 rfl (lv_at hl 0 rfl) ?_
      refine lv_iconst (v := 2) hx hb dX6_doRemoveToe_26 (by decide) ?_
      obtain ⟨o7, ho7, h⟩ := lt_i h
      refine gq_V (v := (fun as => (some (.int o7.1)))) (As := [.int 2]) (rest := []) (wc := [(m0, .inr (10, [.ref q0, .ref q1, .ref q2, .int v3, .ref q4, .int v5, .int v6, .ref q7, .int v8, .ref q9, .int v10, .int v11, .int v12, .int v13, .int v14, .ref q15, .int v16]))]) (wr := [(q0, .inl (cA 0, 60, .inl ss))]) (w1 := (fun as => [(m0, .inr (10, [.ref q0, .ref q1, .ref q2, .int v3, .ref q4, .int v5, .int o7.2, .ref q7, .int v8, .ref q9, .int v10, .int v11, .int v12, .int v13, .int v14, .ref q15, .int v16]))])) (ws2 := (fun as => [(m0, .inr (10, [.ref q0, .ref q1, .ref q2, .int v3, .ref q4, .int v5, .int o7.2, .ref q7, .int v8, .ref q9, .int v10, .int v11, .int v12, .int v13, .int v14, .ref q15, .int v16])), (q0, .inl (cA 0, 60, .inl ss))])) (st1 := (fun as => [.int o7.1])) ⟨hx, hb, hml, hfc, hts⟩ hK hP hD hS hA (kX6_fails l D cA m0 q0 q1 q2 q4 q7 q9 q15 v3 v5 v6 v8 v10 v11 v12 v13 v14 v16 2 ho7) (cwV 1 hts gX6_doRemoveToe_X6_fails rfl rfl rfl (by decide +kernel) ⟨(Nat.le_of_ble_eq_true rfl), (Nat.le_of_ble_eq_true rfl)⟩) [0] [1] [1, 0] rfl rfl rfl rfl (by decide) (fun _ => rfl) rfl 0 10 rfl rfl rfl rfl (fun _ => rfl) rfl hl.1 (Nat.le_of_ble_eq_true rfl) dX6_doRemoveToe_27 ⟨(Nat.zero_le _), (Nat.zero_le _)⟩ (fun as H locs hP hD hS => ?_)
      have hP : va_P D vwCl [(m0, .inr (10, [.ref q0, .ref q1, .ref q2, .int v3, .ref q4, .int v5, .int o7.2, .ref q7, .int v8, .ref q9, .int v10, .int v11, .int v12, .int v13, .int v14, .ref q15, .int v16])), (q0, .inl (cA 0, 60, .inl ss))] H := hP
      have hD : va_D A [(m0, .inr (10, [.ref q0, .ref q1, .ref q2, .int v3, .ref q4, .int v5, .int o7.2, .ref q7, .int v8, .ref q9, .int v10, .int v11, .int v12, .int v13, .int v14, .ref q15, .int v16])), (q0, .inl (cA 0, 60, .inl ss))] := hD
      have h := Option.some.inj h
      subst h
      exact hend (adr []) _ _ _ _ _ _ _ rfl rfl (rtn_i _) hP hD hS dX6_doRemoveToe_30
  · have h := ite_t c2 h
    refine lv_aload_n hx hb dX6_doRemoveToe_7 rfl (lv_at hl 0 rfl) ?_
    refine lv_iconst (v := 1) hx hb dX6_doRemoveToe_8 (by decide) ?_
    obtain ⟨o8, ho8, h⟩ := lt_i h
    refine gq_V (v := (fun as => (some (.int o8.1)))) (As := [.int 1]) (rest := []) (wc := [(m0, .inr (10, [.ref q0, .ref q1, .ref q2, .int v3, .ref q4, .int v5, .int v6, .ref q7, .int v8, .ref q9, .int v10, .int v11, .int v12, .int v13, .int v14, .ref q15, .int v16]))]) (wr := [(q0, .inl (cA 0, 60, .inl ss))]) (w1 := (fun as => [(m0, .inr (10, [.ref q0, .ref q1, .ref q2, .int v3, .ref q4, .int v5, .int o8.2, .ref q7, .int v8, .ref q9, .int v10, .int v11, .int v12, .int v13, .int v14, .ref q15, .int v16]))])) (ws2 := (fun as => [(m0, .inr (10, [.ref q0, .ref q1, .ref q2, .int v3, .ref q4, .int v5, .int o8.2, .ref q7, .int v8, .ref q9, .int v10, .int v11, .int v12, .int v13, .int v14, .ref q15, .int v16])), (q0, .inl (cA 0, 60, .inl ss))])) (st1 := (fun as => [.int o8.1])) ⟨hx, hb, hml, hfc, hts⟩ hK hP hD hS hA (kX6_fails l D cA m0 q0 q1 q2 q4 q7 q9 q15 v3 v5 v6 v8 v10 v11 v12 v13 v14 v16 1 ho8) (cwV 1 hts gX6_doRemoveToe_X6_fails rfl rfl rfl (by decide +kernel) ⟨(Nat.le_of_ble_eq_true rfl), (Nat.le_of_ble_eq_true rfl)⟩) [0] [1] [1, 0] rfl rfl rfl rfl (by decide) (fun _ => rfl) rfl 0 10 rfl rfl rfl rfl (fun _ => rfl) rfl hl.1 (Nat.le_of_ble_eq_true rfl) dX6_doRemoveToe_9 ⟨(Nat.zero_le _), (Nat.zero_le _)⟩ (fun as H locs hP hD hS => ?_)
    have hP : va_P D vwCl [(m0, .inr (10, [.ref q0, .ref q1, .ref q2, .int v3, .ref q4, .int v5, .int o8.2, .ref q7, .int v8, .ref q9, .int v10, .int v11, .int v12, .int v13, .int v14, .ref q15, .int v16])), (q0, .inl (cA 0, 60, .inl ss))] H := hP
    have hD : va_D A [(m0, .inr (10, [.ref q0, .ref q1, .ref q2, .int v3, .ref q4, .int v5, .int o8.2, .ref q7, .int v8, .ref q9, .int v10, .int v11, .int v12, .int v13, .int v14, .ref q15, .int v16])), (q0, .inl (cA 0, 60, .inl ss))] := hD
    have h := Option.some.inj h
    subst h
    exact hend (adr []) _ _ _ _ _ _ _ rfl rfl (rtn_i _) hP hD hS dX6_doRemoveToe_12
noncomputable def SX6_hasToe (ss : Nat → Int32) (x1 : Int32) : Option (Int32 × Int32) := bnd (SX6_isPosition x1) (fun o1 : Int32 => bnd (SX6_isThere o1) (fun o2 : Int32 × Int32 => if o2.1 = 0 then (some ((0, o2.2))) else (gd (vp_in (7 + x1) 60) (if (ss (Int32.toNatClampNeg (7 + x1))) = 1 then (some ((1, o2.2))) else (some ((0, o2.2)))))))
theorem iX6_hasToe_X6 : ∀ w ∈ wsX60, w ∈ wsX6_hasToe := fun _ h => List.mem_cons_of_mem _ (List.mem_append_left _ (List.mem_append_right _ h))
abbrev RM_X6_hasToe : Room := { frames := 2, cells := 0, slots := 0, locals := 43 }
set_option maxHeartbeats 4000000 in
theorem kX6_hasToe (l : Launch) (D : va_G) (cA : Nat → ClassId) (m0 q0 q1 q2 q4 q7 q9 q15 : Nat) (v3 : Int32) (v5 : Int32) (v6 : Int32) (v8 : Int32) (v10 : Int32) (v11 : Int32) (v12 : Int32) (v13 : Int32) (v14 : Int32) (v16 : Int32) (ss : Nat → Int32) (x1 : Int32) {r : Int32 × Int32} (hr : SX6_hasToe ss x1 = some r) {sz : Nat} : Met l yX6_hasToe wsX6_hasToe RM_X6_hasToe (va_Pc [.ref m0, .int x1] (gqB D cA [(m0, .inr (10, [.ref q0, .ref q1, .ref q2, .int v3, .ref q4, .int v5, .int v6, .ref q7, .int v8, .ref q9, .int v10, .int v11, .int v12, .int v13, .int v14, .ref q15, .int v16])), (q0, .inl (cA 0, 60, .inl ss))] sz)) (gqQ D (fun as => (some (.int r.1))) (fun as => [(m0, .inr (10, [.ref q0, .ref q1, .ref q2, .int v3, .ref q4, .int v5, .int r.2, .ref q7, .int v8, .ref q9, .int v10, .int v11, .int v12, .int v13, .int v14, .ref q15, .int v16])), (q0, .inl (cA 0, 60, .inl ss))]) (va_A [(m0, .inr (10, [.ref q0, .ref q1, .ref q2, .int v3, .ref q4, .int v5, .int v6, .ref q7, .int v8, .ref q9, .int v10, .int v11, .int v12, .int v13, .int v14, .ref q15, .int v16])), (q0, .inl (cA 0, 60, .inl ss))] sz)) 0 0 (va_A [(m0, .inr (10, [.ref q0, .ref q1, .ref q2, .int v3, .ref q4, .int v5, .int v6, .ref q7, .int v8, .ref q9, .int v10, .int v11, .int v12, .int v13, .int v14, .ref q15, .int v16])), (q0, .inl (cA 0, 60, .inl ss))] sz) := by
  refine gq_ofW (cc := cX6_hasToe) (maxL := 2) (ret := (some .boolean)) (by decide) rfl (Nat.le_of_ble_eq_true rfl) (fun p e s m args below meth c ls Q A hx hb hml hts hfc hmn hK hP hD hS hA hl hend => ?_)
  have hfc : s.vm.findClass RX6 = some m.cls := hfc
  have hl : lv_has ls 2 [(0, .ref m0), (1, .int x1)] := hl
  have h := hr
  clear hr
  unfold SX6_hasToe at h
  refine lv_aload_n hx hb dX6_hasToe_0 rfl (lv_at hl 0 rfl) ?_
  refine lv_iload_n hx hb dX6_hasToe_1 rfl (lv_at hl 1 rfl) ?_
  obtain ⟨o1, ho1, h⟩ := bnd_i h
  refine rq_S (v := (some (.int o1))) (As := [.int x1]) (rest := [.ref m0]) (wc := []) ⟨hx, hb, hml, hfc, hts⟩ hK hP (kX6_isPosition l D cA x1 ho1) (va_cwS 1 hts gX6_hasToe_X6_isPosition rfl rfl rfl (by decide +kernel) ⟨(Nat.le_of_ble_eq_true rfl), (Nat.le_of_ble_eq_true rfl)⟩) [] rfl rfl rfl rfl hl.1 (Nat.le_of_ble_eq_true rfl) dX6_hasToe_2 ⟨(Nat.zero_le _), (Nat.zero_le _)⟩ ?_
  obtain ⟨o2, ho2, h⟩ := bnd_i h
  refine gq_V (v := (fun as => (some (.int o2.1)))) (As := [.int o1]) (rest := []) (wc := [(m0, .inr (10, [.ref q0, .ref q1, .ref q2, .int v3, .ref q4, .int v5, .int v6, .ref q7, .int v8, .ref q9, .int v10, .int v11, .int v12, .int v13, .int v14, .ref q15, .int v16]))]) (wr := [(q0, .inl (cA 0, 60, .inl ss))]) (w1 := (fun as => [(m0, .inr (10, [.ref q0, .ref q1, .ref q2, .int v3, .ref q4, .int v5, .int o2.2, .ref q7, .int v8, .ref q9, .int v10, .int v11, .int v12, .int v13, .int v14, .ref q15, .int v16]))])) (ws2 := (fun as => [(m0, .inr (10, [.ref q0, .ref q1, .ref q2, .int v3, .ref q4, .int v5, .int o2.2, .ref q7, .int v8, .ref q9, .int v10, .int v11, .int v12, .int v13, .int v14, .ref q15, .int v16])), (q0, .inl (cA 0, 60, .inl ss))])) (st1 := (fun as => [.int o2.1])) ⟨hx, hb, hml, hfc, hts⟩ hK hP hD hS hA (kX6_isThere l D cA m0 q0 q1 q2 q4 q7 q9 q15 v3 v5 v6 v8 v10 v11 v12 v13 v14 v16 o1 ho2) (cwV 1 hts gX6_hasToe_X6_isThere rfl rfl rfl (by decide +kernel) ⟨(Nat.le_of_ble_eq_true rfl), (Nat.le_of_ble_eq_true rfl)⟩) [0] [1] [1, 0] rfl rfl rfl rfl (by decide) (fun _ => rfl) rfl 0 10 rfl rfl rfl rfl (fun _ => rfl) rfl hl.1 (Nat.le_of_ble_eq_true rfl) dX6_hasToe_5 ⟨(Nat.zero_le _), (Nat.zero_le _)⟩ (fun as H locs hP hD hS => ?_)
  have hP : va_P D vwCl [(m0, .inr (10, [.ref q0, .ref q1, .ref q2, .int v3, .ref q4, .int v5, .int o2.2, .ref q7, .int v8, .ref q9, .int v10, .int v11, .int v12, .int v13, .int v14, .ref q15, .int v16])), (q0, .inl (cA 0, 60, .inl ss))] H := hP
  have hD : va_D A [(m0, .inr (10, [.ref q0, .ref q1, .ref q2, .int v3, .ref q4, .int v5, .int o2.2, .ref q7, .int v8, .ref q9, .int v10, .int v11, .int v12, .int v13, .int v14, .ref q15, .int v16])), (q0, .inl (cA 0, 60, .inl ss))] := hD
  refine lv_if_eq (tgt := 28) hx hb dX6_hasToe_8 (by decide) (fun c3 => ?_) (fun c3 => ?_)
  · have h := ite_t c3 h
    refine lv_iconst (v := 0) hx hb dX6_hasToe_28 (by decide) ?_
    have h := Option.some.inj h
    subst h
    exact hend (adr []) _ _ _ _ _ _ _ rfl rfl (rtn_n (x := 0) rfl) hP hD hS dX6_hasToe_29
  · have h := ite_f c3 h
    refine lv_aload_n hx hb dX6_hasToe_11 rfl (lv_at hl 0 rfl) ?_
    refine va_get (D := D) (ci := 10) (v := .ref q0) (C := RX6) (T := TX6) (N := 17) hx hb hts iX6_hasToe_X6 hfc hK hP 0 rfl rfl 0 (by decide) (hts (.fieldLink RX6 9 "BathtubTidesModel" "s" "[I") (List.mem_of_getElem? (i := 1) rfl)) (fun _ h9 => h9) rfl dX6_hasToe_12 ?_
    refine lv_bipush (v := 7) hx hb dX6_hasToe_15 (by decide) ?_
    refine lv_iload_n hx hb dX6_hasToe_17 rfl (lv_at hl 1 rfl) ?_
    refine lv_iadd hx hb dX6_hasToe_18 ?_
    obtain ⟨g4, h⟩ := gd_i h
    refine va_iald hx hb hK hP 1 0 rfl rfl g4 dX6_hasToe_19 ?_
    refine lv_iconst (v := 1) hx hb dX6_hasToe_20 (by decide) ?_
    refine lv_icmp_ne (tgt := 28) hx hb dX6_hasToe_21 (by decide) (fun c5 => ?_) (fun c5 => ?_)
    · have h := ite_f c5 h
      refine lv_iconst (v := 0) hx hb dX6_hasToe_28 (by decide) ?_
      have h := Option.some.inj h
      subst h
      exact hend (adr []) _ _ _ _ _ _ _ rfl rfl (rtn_n (x := 0) rfl) hP hD hS dX6_hasToe_29
    · have h := ite_t c5 h
      refine lv_iconst (v := 1) hx hb dX6_hasToe_24 (by decide) ?_
      refine lv_goto (tgt := 29) hx hb dX6_hasToe_25 (by decide) ?_
      have h := Option.some.inj h
      subst h
      exact hend (adr []) _ _ _ _ _ _ _ rfl rfl (rtn_n (x := 1) rfl) hP hD hS dX6_hasToe_29
noncomputable def SX6_doInsertPlug (v6 : Int32) (ss : Nat → Int32) (x1 : Int32) : Option (Int32 × (Nat → Int32) × Int32) := bnd (SX6_isPosition x1) (fun o1 : Int32 => if o1 = 0 then (lt_ (SX6_fails 1) (fun o4 : Int32 × Int32 => some ((o4.1, ss, o4.2)))) else (if 0 ≤ (ss 6) then (some ((0, upd ss 6 x1, v6))) else (some ((1, upd ss 6 x1, v6)))))
theorem iX6_doInsertPlug_X6 : ∀ w ∈ wsX60, w ∈ wsX6_doInsertPlug := fun _ h => List.mem_cons_of_mem _ (List.mem_append_left _ (List.mem_append_right _ h))
abbrev RM_X6_doInsertPlug : Room := { frames := 2, cells := 0, slots := 0, locals := 42 }
set_option maxHeartbeats 4000000 in
theorem kX6_doInsertPlug (l : Launch) (D : va_G) (cA : Nat → ClassId) (m0 q0 q1 q2 q4 q7 q9 q15 : Nat) (v3 : Int32) (v5 : Int32) (v6 : Int32) (v8 : Int32) (v10 : Int32) (v11 : Int32) (v12 : Int32) (v13 : Int32) (v14 : Int32) (v16 : Int32) (ss : Nat → Int32) (x1 : Int32) {r : Int32 × (Nat → Int32) × Int32} (hr : SX6_doInsertPlug v6 ss x1 = some r) {sz : Nat} : Met l yX6_doInsertPlug wsX6_doInsertPlug RM_X6_doInsertPlug (va_Pc [.ref m0, .int x1] (gqB D cA [(m0, .inr (10, [.ref q0, .ref q1, .ref q2, .int v3, .ref q4, .int v5, .int v6, .ref q7, .int v8, .ref q9, .int v10, .int v11, .int v12, .int v13, .int v14, .ref q15, .int v16])), (q0, .inl (cA 0, 60, .inl ss))] sz)) (gqQ D (fun as => (some (.int r.1))) (fun as => [(m0, .inr (10, [.ref q0, .ref q1, .ref q2, .int v3, .ref q4, .int v5, .int r.2.2, .ref q7, .int v8, .ref q9, .int v10, .int v11, .int v12, .int v13, .int v14, .ref q15, .int v16])), (q0, .inl (cA 0, 60, .inl r.2.1))]) (va_A [(m0, .inr (10, [.ref q0, .ref q1, .ref q2, .int v3, .ref q4, .int v5, .int v6, .ref q7, .int v8, .ref q9, .int v10, .int v11, .int v12, .int v13, .int v14, .ref q15, .int v16])), (q0, .inl (cA 0, 60, .inl ss))] sz)) 0 0 (va_A [(m0, .inr (10, [.ref q0, .ref q1, .ref q2, .int v3, .ref q4, .int v5, .int v6, .ref q7, .int v8, .ref q9, .int v10, .int v11, .int v12, .int v13, .int v14, .ref q15, .int v16])), (q0, .inl (cA 0, 60, .inl ss))] sz) := by
  refine gq_ofW (cc := cX6_doInsertPlug) (maxL := 3) (ret := (some .int)) (by decide) rfl (Nat.le_of_ble_eq_true rfl) (fun p e s m args below meth c ls Q A hx hb hml hts hfc hmn hK hP hD hS hA hl hend => ?_)
  have hfc : s.vm.findClass RX6 = some m.cls := hfc
  have hl : lv_has ls 3 [(0, .ref m0), (1, .int x1)] := hl
  have h := hr
  clear hr
  unfold SX6_doInsertPlug at h
  refine lv_iload_n hx hb dX6_doInsertPlug_0 rfl (lv_at hl 1 rfl) ?_
  obtain ⟨o1, ho1, h⟩ := bnd_i h
  refine rq_S (v := (some (.int o1))) (As := [.int x1]) (rest := []) (wc := []) ⟨hx, hb, hml, hfc, hts⟩ hK hP (kX6_isPosition l D cA x1 ho1) (va_cwS 1 hts gX6_doInsertPlug_X6_isPosition rfl rfl rfl (by decide +kernel) ⟨(Nat.le_of_ble_eq_true rfl), (Nat.le_of_ble_eq_true rfl)⟩) [] rfl rfl rfl rfl hl.1 (Nat.le_of_ble_eq_true rfl) dX6_doInsertPlug_1 ⟨(Nat.zero_le _), (Nat.zero_le _)⟩ ?_
  refine lv_if_ne (tgt := 13) hx hb dX6_doInsertPlug_4 (by decide) (fun c2 => ?_) (fun c2 => ?_)
  · have h := ite_f c2 h
    refine lv_aload_n hx hb dX6_doInsertPlug_13 rfl (lv_at hl 0 rfl) ?_
    refine va_get (D := D) (ci := 10) (v := .ref q0) (C := RX6) (T := TX6) (N := 17) hx hb hts iX6_doInsertPlug_X6 hfc hK hP 0 rfl rfl 0 (by decide) (hts (.fieldLink RX6 9 "BathtubTidesModel" "s" "[I") (List.mem_of_getElem? (i := 1) rfl)) (fun _ h9 => h9) rfl dX6_doInsertPlug_14 ?_
    refine lv_bipush (v := 6) hx hb dX6_doInsertPlug_17 (by decide) ?_
    refine va_iald hx hb hK hP 1 0 rfl rfl (vin _ _ (by decide)) dX6_doInsertPlug_19 ?_
    refine lv_istore_n hx hb dX6_doInsertPlug_20 rfl hl (Nat.le_of_ble_eq_true rfl) rfl (fun ls hl => ?_)
    have hl : lv_has ls 3 [(2, .int (ss 6)), (0, .ref m0), (1, .int x1)] := hl
    refine lv_aload_n hx hb dX6_doInsertPlug_21 rfl (lv_at hl 1 rfl) ?_
    refine va_get (D := D) (ci := 10) (v := .ref q0) (C := RX6) (T := TX6) (N := 17) hx hb hts iX6_doInsertPlug_X6 hfc hK hP 0 rfl rfl 0 (by decide) (hts (.fieldLink RX6 9 "BathtubTidesModel" "s" "[I") (List.mem_of_getElem? (i := 1) rfl)) (fun _ h9 => h9) rfl dX6_doInsertPlug_22 ?_
    refine lv_bipush (v := 6) hx hb dX6_doInsertPlug_25 (by decide) ?_
    refine lv_iload_n hx hb dX6_doInsertPlug_27 rfl (lv_at hl 2 rfl) ?_
    refine va_iast hx hb hK hP hD hS 1 0 rfl rfl (vin _ _ (by decide)) dX6_doInsertPlug_28 (fun H locs hP hD hS => ?_)
    have hP : va_P D vwCl [(m0, .inr (10, [.ref q0, .ref q1, .ref q2, .int v3, .ref q4, .int v5, .int v6, .ref q7, .int v8, .ref q9, .int v10, .int v11, .int v12, .int v13, .int v14, .ref q15, .int v16])), (q0, .inl (cA 0, 60, .inl (upd ss 6 x1)))] H := hP
    have hD : va_D A [(m0, .inr (10, [.ref q0, .ref q1, .ref q2, .int v3, .ref q4, .int v5, .int v6, .ref q7, .int v8, .ref q9, .int v10, .int v11, .int v12, .int v13, .int v14, .ref q15, .int v16])), (q0, .inl (cA 0, 60, .inl (upd ss 6 x1)))] := hD
    refine lv_iload_n hx hb dX6_doInsertPlug_29 rfl (lv_at hl 0 rfl) ?_
    refine lv_if_ge (tgt := 37) hx hb dX6_doInsertPlug_30 (by decide) (fun c3 => ?_) (fun c3 => ?_)
    · have h := ite_t c3 h
      refine lv_iconst (v := 0) hx hb dX6_doInsertPlug_37 (by decide) ?_
      have h := Option.some.inj h
      subst h
      exact hend (adr []) _ _ _ _ _ _ _ rfl rfl (rtn_i _) hP hD hS dX6_doInsertPlug_38
    · have h := ite_f c3 h
      refine lv_iconst (v := 1) hx hb dX6_doInsertPlug_33 (by decide) ?_
      refine lv_goto (tgt := 38) hx hb dX6_doInsertPlug_34 (by decide) ?_
      have h := Option.some.inj h
      subst h
      exact hend (adr []) _ _ _ _ _ _ _ rfl rfl (rtn_i _) hP hD hS dX6_doInsertPlug_38
  · have h := ite_t c2 h
    refine lv_aload_n hx hb dX6_doInsertPlug_7 rfl (lv_at hl 0 rfl) ?_
    refine lv_iconst (v := 1) hx hb dX6_doInsertPlug_8 (by decide) ?_
    obtain ⟨o4, ho4, h⟩ := lt_i h
    refine gq_V (v := (fun as => (some (.int o4.1)))) (As := [.int 1]) (rest := []) (wc := [(m0, .inr (10, [.ref q0, .ref q1, .ref q2, .int v3, .ref q4, .int v5, .int v6, .ref q7, .int v8, .ref q9, .int v10, .int v11, .int v12, .int v13, .int v14, .ref q15, .int v16]))]) (wr := [(q0, .inl (cA 0, 60, .inl ss))]) (w1 := (fun as => [(m0, .inr (10, [.ref q0, .ref q1, .ref q2, .int v3, .ref q4, .int v5, .int o4.2, .ref q7, .int v8, .ref q9, .int v10, .int v11, .int v12, .int v13, .int v14, .ref q15, .int v16]))])) (ws2 := (fun as => [(m0, .inr (10, [.ref q0, .ref q1, .ref q2, .int v3, .ref q4, .int v5, .int o4.2, .ref q7, .int v8, .ref q9, .int v10, .int v11, .int v12, .int v13, .int v14, .ref q15, .int v16])), (q0, .inl (cA 0, 60, .inl ss))])) (st1 := (fun as => [.int o4.1])) ⟨hx, hb, hml, hfc, hts⟩ hK hP hD hS hA (kX6_fails l D cA m0 q0 q1 q2 q4 q7 q9 q15 v3 v5 v6 v8 v10 v11 v12 v13 v14 v16 1 ho4) (cwV 1 hts gX6_doInsertPlug_X6_fails rfl rfl rfl (by decide +kernel) ⟨(Nat.le_of_ble_eq_true rfl), (Nat.le_of_ble_eq_true rfl)⟩) [0] [1] [1, 0] rfl rfl rfl rfl (by decide) (fun _ => rfl) rfl 0 10 rfl rfl rfl rfl (fun _ => rfl) rfl hl.1 (Nat.le_of_ble_eq_true rfl) dX6_doInsertPlug_9 ⟨(Nat.zero_le _), (Nat.zero_le _)⟩ (fun as H locs hP hD hS => ?_)
    have hP : va_P D vwCl [(m0, .inr (10, [.ref q0, .ref q1, .ref q2, .int v3, .ref q4, .int v5, .int o4.2, .ref q7, .int v8, .ref q9, .int v10, .int v11, .int v12, .int v13, .int v14, .ref q15, .int v16])), (q0, .inl (cA 0, 60, .inl ss))] H := hP
    have hD : va_D A [(m0, .inr (10, [.ref q0, .ref q1, .ref q2, .int v3, .ref q4, .int v5, .int o4.2, .ref q7, .int v8, .ref q9, .int v10, .int v11, .int v12, .int v13, .int v14, .ref q15, .int v16])), (q0, .inl (cA 0, 60, .inl ss))] := hD
    have h := Option.some.inj h
    subst h
    exact hend (adr []) _ _ _ _ _ _ _ rfl rfl (rtn_i _) hP hD hS dX6_doInsertPlug_12
noncomputable def SX6_doPullPlug (v6 : Int32) (ss : Nat → Int32) : Int32 × (Nat → Int32) × Int32 := if 0 ≤ (ss 6) then ((ss 6, upd ss 6 (-1), v6)) else (lt_ (SX6_fails 1) (fun o2 : Int32 × Int32 => (o2.1, upd ss 6 (-1), o2.2)))
theorem iX6_doPullPlug_X6 : ∀ w ∈ wsX60, w ∈ wsX6_doPullPlug := fun _ h => List.mem_cons_of_mem _ (List.mem_append_left _ (List.mem_append_right _ h))
abbrev RM_X6_doPullPlug : Room := { frames := 1, cells := 0, slots := 0, locals := 21 }
set_option maxHeartbeats 4000000 in
theorem kX6_doPullPlug (l : Launch) (D : va_G) (cA : Nat → ClassId) (m0 q0 q1 q2 q4 q7 q9 q15 : Nat) (v3 : Int32) (v5 : Int32) (v6 : Int32) (v8 : Int32) (v10 : Int32) (v11 : Int32) (v12 : Int32) (v13 : Int32) (v14 : Int32) (v16 : Int32) (ss : Nat → Int32) {r : Int32 × (Nat → Int32) × Int32} (hr : SX6_doPullPlug v6 ss = r) {sz : Nat} : Met l yX6_doPullPlug wsX6_doPullPlug RM_X6_doPullPlug (va_Pc [.ref m0] (gqB D cA [(m0, .inr (10, [.ref q0, .ref q1, .ref q2, .int v3, .ref q4, .int v5, .int v6, .ref q7, .int v8, .ref q9, .int v10, .int v11, .int v12, .int v13, .int v14, .ref q15, .int v16])), (q0, .inl (cA 0, 60, .inl ss))] sz)) (gqQ D (fun as => (some (.int r.1))) (fun as => [(m0, .inr (10, [.ref q0, .ref q1, .ref q2, .int v3, .ref q4, .int v5, .int r.2.2, .ref q7, .int v8, .ref q9, .int v10, .int v11, .int v12, .int v13, .int v14, .ref q15, .int v16])), (q0, .inl (cA 0, 60, .inl r.2.1))]) (va_A [(m0, .inr (10, [.ref q0, .ref q1, .ref q2, .int v3, .ref q4, .int v5, .int v6, .ref q7, .int v8, .ref q9, .int v10, .int v11, .int v12, .int v13, .int v14, .ref q15, .int v16])), (q0, .inl (cA 0, 60, .inl ss))] sz)) 0 0 (va_A [(m0, .inr (10, [.ref q0, .ref q1, .ref q2, .int v3, .ref q4, .int v5, .int v6, .ref q7, .int v8, .ref q9, .int v10, .int v11, .int v12, .int v13, .int v14, .ref q15, .int v16])), (q0, .inl (cA 0, 60, .inl ss))] sz) := by
  refine gq_ofW (cc := cX6_doPullPlug) (maxL := 2) (ret := (some .int)) (by decide) rfl (Nat.le_of_ble_eq_true rfl) (fun p e s m args below meth c ls Q A hx hb hml hts hfc hmn hK hP hD hS hA hl hend => ?_)
  have hfc : s.vm.findClass RX6 = some m.cls := hfc
  have hl : lv_has ls 2 [(0, .ref m0)] := hl
  have h := hr
  clear hr
  unfold SX6_doPullPlug at h
  refine lv_aload_n hx hb dX6_doPullPlug_0 rfl (lv_at hl 0 rfl) ?_
  refine va_get (D := D) (ci := 10) (v := .ref q0) (C := RX6) (T := TX6) (N := 17) hx hb hts iX6_doPullPlug_X6 hfc hK hP 0 rfl rfl 0 (by decide) (hts (.fieldLink RX6 9 "BathtubTidesModel" "s" "[I") (List.mem_of_getElem? (i := 1) rfl)) (fun _ h9 => h9) rfl dX6_doPullPlug_1 ?_
  refine lv_bipush (v := 6) hx hb dX6_doPullPlug_4 (by decide) ?_
  refine va_iald hx hb hK hP 1 0 rfl rfl (vin _ _ (by decide)) dX6_doPullPlug_6 ?_
  refine lv_istore_n hx hb dX6_doPullPlug_7 rfl hl (Nat.le_of_ble_eq_true rfl) rfl (fun ls hl => ?_)
  have hl : lv_has ls 2 [(1, .int (ss 6)), (0, .ref m0)] := hl
  refine lv_aload_n hx hb dX6_doPullPlug_8 rfl (lv_at hl 1 rfl) ?_
  refine va_get (D := D) (ci := 10) (v := .ref q0) (C := RX6) (T := TX6) (N := 17) hx hb hts iX6_doPullPlug_X6 hfc hK hP 0 rfl rfl 0 (by decide) (hts (.fieldLink RX6 9 "BathtubTidesModel" "s" "[I") (List.mem_of_getElem? (i := 1) rfl)) (fun _ h9 => h9) rfl dX6_doPullPlug_9 ?_
  refine lv_bipush (v := 6) hx hb dX6_doPullPlug_12 (by decide) ?_
  refine lv_iconst (v := (-1)) hx hb dX6_doPullPlug_14 (by decide) ?_
  refine va_iast hx hb hK hP hD hS 1 0 rfl rfl (vin _ _ (by decide)) dX6_doPullPlug_15 (fun H locs hP hD hS => ?_)
  have hP : va_P D vwCl [(m0, .inr (10, [.ref q0, .ref q1, .ref q2, .int v3, .ref q4, .int v5, .int v6, .ref q7, .int v8, .ref q9, .int v10, .int v11, .int v12, .int v13, .int v14, .ref q15, .int v16])), (q0, .inl (cA 0, 60, .inl (upd ss 6 (-1))))] H := hP
  have hD : va_D A [(m0, .inr (10, [.ref q0, .ref q1, .ref q2, .int v3, .ref q4, .int v5, .int v6, .ref q7, .int v8, .ref q9, .int v10, .int v11, .int v12, .int v13, .int v14, .ref q15, .int v16])), (q0, .inl (cA 0, 60, .inl (upd ss 6 (-1))))] := hD
  refine lv_iload_n hx hb dX6_doPullPlug_16 rfl (lv_at hl 0 rfl) ?_
  refine lv_if_ge (tgt := 28) hx hb dX6_doPullPlug_17 (by decide) (fun c1 => ?_) (fun c1 => ?_)
  · have h := ite_t c1 h
    refine lv_iload_n hx hb dX6_doPullPlug_28 rfl (lv_at hl 0 rfl) ?_
    subst h
    exact hend (adr []) _ _ _ _ _ _ _ rfl rfl (rtn_i _) hP hD hS dX6_doPullPlug_29
  · have h := ite_f c1 h
    refine lv_aload_n hx hb dX6_doPullPlug_20 rfl (lv_at hl 1 rfl) ?_
    refine lv_iconst (v := 1) hx hb dX6_doPullPlug_21 (by decide) ?_
    obtain ⟨o2, ho2, h⟩ := lt_i h
    refine gq_V (v := (fun as => (some (.int o2.1)))) (As := [.int 1]) (rest := []) (wc := [(m0, .inr (10, [.ref q0, .ref q1, .ref q2, .int v3, .ref q4, .int v5, .int v6, .ref q7, .int v8, .ref q9, .int v10, .int v11, .int v12, .int v13, .int v14, .ref q15, .int v16]))]) (wr := [(q0, .inl (cA 0, 60, .inl (upd ss 6 (-1))))]) (w1 := (fun as => [(m0, .inr (10, [.ref q0, .ref q1, .ref q2, .int v3, .ref q4, .int v5, .int o2.2, .ref q7, .int v8, .ref q9, .int v10, .int v11, .int v12, .int v13, .int v14, .ref q15, .int v16]))])) (ws2 := (fun as => [(m0, .inr (10, [.ref q0, .ref q1, .ref q2, .int v3, .ref q4, .int v5, .int o2.2, .ref q7, .int v8, .ref q9, .int v10, .int v11, .int v12, .int v13, .int v14, .ref q15, .int v16])), (q0, .inl (cA 0, 60, .inl (upd ss 6 (-1))))])) (st1 := (fun as => [.int o2.1])) ⟨hx, hb, hml, hfc, hts⟩ hK hP hD hS hA (kX6_fails l D cA m0 q0 q1 q2 q4 q7 q9 q15 v3 v5 v6 v8 v10 v11 v12 v13 v14 v16 1 ho2) (cwV 1 hts gX6_doPullPlug_X6_fails rfl rfl rfl (by decide +kernel) ⟨(Nat.le_of_ble_eq_true rfl), (Nat.le_of_ble_eq_true rfl)⟩) [0] [1] [1, 0] rfl rfl rfl rfl (by decide) (fun _ => rfl) rfl 0 10 rfl rfl rfl rfl (fun _ => rfl) rfl hl.1 (Nat.le_of_ble_eq_true rfl) dX6_doPullPlug_22 ⟨(Nat.zero_le _), (Nat.zero_le _)⟩ (fun as H locs hP hD hS => ?_)
    have hP : va_P D vwCl [(m0, .inr (10, [.ref q0, .ref q1, .ref q2, .int v3, .ref q4, .int v5, .int o2.2, .ref q7, .int v8, .ref q9, .int v10, .int v11, .int v12, .int v13, .int v14, .ref q15, .int v16])), (q0, .inl (cA 0, 60, .inl (upd ss 6 (-1))))] H := hP
    have hD : va_D A [(m0, .inr (10, [.ref q0, .ref q1, .ref q2, .int v3, .ref q4, .int v5, .int o2.2, .ref q7, .int v8, .ref q9, .int v10, .int v11, .int v12, .int v13, .int v14, .ref q15, .int v16])), (q0, .inl (cA 0, 60, .inl (upd ss 6 (-1))))] := hD
    refine lv_goto (tgt := 29) hx hb dX6_doPullPlug_25 (by decide) ?_
    subst h
    exact hend (adr []) _ _ _ _ _ _ _ rfl rfl (rtn_i _) hP hD hS dX6_doPullPlug_29
noncomputable def SX6_plugPosition (ss : Nat → Int32) : Option (Int32 × Int32) := lt_ (if (ss 6) < 0 then (0) else (1)) (fun o2 : Int32 => bnd (SX6_isThere o2) (fun o3 : Int32 × Int32 => if o3.1 = 0 then (some ((0, o3.2))) else (some ((ss 6, o3.2)))))
theorem iX6_plugPosition_X6 : ∀ w ∈ wsX60, w ∈ wsX6_plugPosition := fun _ h => List.mem_cons_of_mem _ (List.mem_append_left _ (List.mem_append_right _ h))
abbrev RM_X6_plugPosition : Room := { frames := 1, cells := 0, slots := 0, locals := 21 }
set_option maxHeartbeats 4000000 in
theorem kX6_plugPosition (l : Launch) (D : va_G) (cA : Nat → ClassId) (m0 q0 q1 q2 q4 q7 q9 q15 : Nat) (v3 : Int32) (v5 : Int32) (v6 : Int32) (v8 : Int32) (v10 : Int32) (v11 : Int32) (v12 : Int32) (v13 : Int32) (v14 : Int32) (v16 : Int32) (ss : Nat → Int32) {r : Int32 × Int32} (hr : SX6_plugPosition ss = some r) {sz : Nat} : Met l yX6_plugPosition wsX6_plugPosition RM_X6_plugPosition (va_Pc [.ref m0] (gqB D cA [(m0, .inr (10, [.ref q0, .ref q1, .ref q2, .int v3, .ref q4, .int v5, .int v6, .ref q7, .int v8, .ref q9, .int v10, .int v11, .int v12, .int v13, .int v14, .ref q15, .int v16])), (q0, .inl (cA 0, 60, .inl ss))] sz)) (gqQ D (fun as => (some (.int r.1))) (fun as => [(m0, .inr (10, [.ref q0, .ref q1, .ref q2, .int v3, .ref q4, .int v5, .int r.2, .ref q7, .int v8, .ref q9, .int v10, .int v11, .int v12, .int v13, .int v14, .ref q15, .int v16])), (q0, .inl (cA 0, 60, .inl ss))]) (va_A [(m0, .inr (10, [.ref q0, .ref q1, .ref q2, .int v3, .ref q4, .int v5, .int v6, .ref q7, .int v8, .ref q9, .int v10, .int v11, .int v12, .int v13, .int v14, .ref q15, .int v16])), (q0, .inl (cA 0, 60, .inl ss))] sz)) 0 0 (va_A [(m0, .inr (10, [.ref q0, .ref q1, .ref q2, .int v3, .ref q4, .int v5, .int v6, .ref q7, .int v8, .ref q9, .int v10, .int v11, .int v12, .int v13, .int v14, .ref q15, .int v16])), (q0, .inl (cA 0, 60, .inl ss))] sz) := by
  refine gq_ofW (cc := cX6_plugPosition) (maxL := 1) (ret := (some .int)) (by decide) rfl (Nat.le_of_ble_eq_true rfl) (fun p e s m args below meth c ls Q A hx hb hml hts hfc hmn hK hP hD hS hA hl hend => ?_)
  have hfc : s.vm.findClass RX6 = some m.cls := hfc
  have hl : lv_has ls 1 [(0, .ref m0)] := hl
  have h := hr
  clear hr
  unfold SX6_plugPosition at h
  refine lv_aload_n hx hb dX6_plugPosition_0 rfl (lv_at hl 0 rfl) ?_
  refine lv_aload_n hx hb dX6_plugPosition_1 rfl (lv_at hl 0 rfl) ?_
  refine va_get (D := D) (ci := 10) (v := .ref q0) (C := RX6) (T := TX6) (N := 17) hx hb hts iX6_plugPosition_X6 hfc hK hP 0 rfl rfl 0 (by decide) (hts (.fieldLink RX6 9 "BathtubTidesModel" "s" "[I") (List.mem_of_getElem? (i := 1) rfl)) (fun _ h9 => h9) rfl dX6_plugPosition_2 ?_
  refine lv_bipush (v := 6) hx hb dX6_plugPosition_5 (by decide) ?_
  refine va_iald hx hb hK hP 1 0 rfl rfl (vin _ _ (by decide)) dX6_plugPosition_7 ?_
  obtain ⟨o2, ho2, h⟩ := lt_i h
  have ko2 : ∀ (ls : Array Slot) (H : Heap) (locs : List Loc), lv_has ls 1 [(0, .ref m0)] → va_P D vwCl [(m0, .inr (10, [.ref q0, .ref q1, .ref q2, .int v3, .ref q4, .int v5, .int v6, .ref q7, .int v8, .ref q9, .int v10, .int v11, .int v12, .int v13, .int v14, .ref q15, .int v16])), (q0, .inl (cA 0, 60, .inl ss))] H → va_D A [(m0, .inr (10, [.ref q0, .ref q1, .ref q2, .int v3, .ref q4, .int v5, .int v6, .ref q7, .int v8, .ref q9, .int v10, .int v11, .int v12, .int v13, .int v14, .ref q15, .int v16])), (q0, .inl (cA 0, 60, .inl ss))] → va_S A s.heap H locs → W p l e RM_X6_plugPosition s m args below meth c H locs 0 0 Q (F0 m 16 ls [.int o2, .ref m0]) := by
    intro ls H locs hl hP hD hS
    obtain ⟨o3, ho3, h⟩ := bnd_i h
    refine gq_V (v := (fun as => (some (.int o3.1)))) (As := [.int o2]) (rest := []) (wc := [(m0, .inr (10, [.ref q0, .ref q1, .ref q2, .int v3, .ref q4, .int v5, .int v6, .ref q7, .int v8, .ref q9, .int v10, .int v11, .int v12, .int v13, .int v14, .ref q15, .int v16]))]) (wr := [(q0, .inl (cA 0, 60, .inl ss))]) (w1 := (fun as => [(m0, .inr (10, [.ref q0, .ref q1, .ref q2, .int v3, .ref q4, .int v5, .int o3.2, .ref q7, .int v8, .ref q9, .int v10, .int v11, .int v12, .int v13, .int v14, .ref q15, .int v16]))])) (ws2 := (fun as => [(m0, .inr (10, [.ref q0, .ref q1, .ref q2, .int v3, .ref q4, .int v5, .int o3.2, .ref q7, .int v8, .ref q9, .int v10, .int v11, .int v12, .int v13, .int v14, .ref q15, .int v16])), (q0, .inl (cA 0, 60, .inl ss))])) (st1 := (fun as => [.int o3.1])) ⟨hx, hb, hml, hfc, hts⟩ hK hP hD hS hA (kX6_isThere l D cA m0 q0 q1 q2 q4 q7 q9 q15 v3 v5 v6 v8 v10 v11 v12 v13 v14 v16 o2 ho3) (cwV 1 hts gX6_plugPosition_X6_isThere rfl rfl rfl (by decide +kernel) ⟨(Nat.le_of_ble_eq_true rfl), (Nat.le_of_ble_eq_true rfl)⟩) [0] [1] [1, 0] rfl rfl rfl rfl (by decide) (fun _ => rfl) rfl 0 10 rfl rfl rfl rfl (fun _ => rfl) rfl hl.1 (Nat.le_of_ble_eq_true rfl) dX6_plugPosition_16 ⟨(Nat.zero_le _), (Nat.zero_le _)⟩ (fun as H locs hP hD hS => ?_)
    have hP : va_P D vwCl [(m0, .inr (10, [.ref q0, .ref q1, .ref q2, .int v3, .ref q4, .int v5, .int o3.2, .ref q7, .int v8, .ref q9, .int v10, .int v11, .int v12, .int v13, .int v14, .ref q15, .int v16])), (q0, .inl (cA 0, 60, .inl ss))] H := hP
    have hD : va_D A [(m0, .inr (10, [.ref q0, .ref q1, .ref q2, .int v3, .ref q4, .int v5, .int o3.2, .ref q7, .int v8, .ref q9, .int v10, .int v11, .int v12, .int v13, .int v14, .ref q15, .int v16])), (q0, .inl (cA 0, 60, .inl ss))] := hD
    refine lv_if_eq (tgt := 32) hx hb dX6_plugPosition_19 (by decide) (fun c4 => ?_) (fun c4 => ?_)
    · have h := ite_t c4 h
      refine lv_iconst (v := 0) hx hb dX6_plugPosition_32 (by decide) ?_
      have h := Option.some.inj h
      subst h
      exact hend (adr []) _ _ _ _ _ _ _ rfl rfl (rtn_i _) hP hD hS dX6_plugPosition_33
    · have h := ite_f c4 h
      refine lv_aload_n hx hb dX6_plugPosition_22 rfl (lv_at hl 0 rfl) ?_
      refine va_get (D := D) (ci := 10) (v := .ref q0) (C := RX6) (T := TX6) (N := 17) hx hb hts iX6_plugPosition_X6 hfc hK hP 0 rfl rfl 0 (by decide) (hts (.fieldLink RX6 9 "BathtubTidesModel" "s" "[I") (List.mem_of_getElem? (i := 1) rfl)) (fun _ h9 => h9) rfl dX6_plugPosition_23 ?_
      refine lv_bipush (v := 6) hx hb dX6_plugPosition_26 (by decide) ?_
      refine va_iald hx hb hK hP 1 0 rfl rfl (vin _ _ (by decide)) dX6_plugPosition_28 ?_
      refine lv_goto (tgt := 33) hx hb dX6_plugPosition_29 (by decide) ?_
      have h := Option.some.inj h
      subst h
      exact hend (adr []) _ _ _ _ _ _ _ rfl rfl (rtn_i _) hP hD hS dX6_plugPosition_33
  clear h
  have h := ho2
  clear ho2
  refine lv_if_lt (tgt := 15) hx hb dX6_plugPosition_8 (by decide) (fun c1 => ?_) (fun c1 => ?_)
  · have h := ite_t c1 h
    refine lv_iconst (v := 0) hx hb dX6_plugPosition_15 (by decide) ?_
    subst h
    exact ko2 _ _ _ (lv_sub hl [0] rfl) hP hD hS
  · have h := ite_f c1 h
    refine lv_iconst (v := 1) hx hb dX6_plugPosition_11 (by decide) ?_
    refine lv_goto (tgt := 16) hx hb dX6_plugPosition_12 (by decide) ?_
    subst h
    exact ko2 _ _ _ (lv_sub hl [0] rfl) hP hD hS
noncomputable def SX6_ofTowel (ss : Nat → Int32) (x1 : Int32) (x2 : Int32) : Option (Int32) := gd (vp_in ((44 + (4 * x1)) + x2) 60) (some (ss (Int32.toNatClampNeg ((44 + (4 * x1)) + x2))))
theorem iX6_ofTowel_X6 : ∀ w ∈ wsX60, w ∈ wsX6_ofTowel := fun _ h => List.mem_cons_of_mem _ (List.mem_append_left _ (List.mem_append_right _ h))
abbrev RM_X6_ofTowel : Room := { frames := 0, cells := 0, slots := 0, locals := 0 }
set_option maxHeartbeats 4000000 in
theorem kX6_ofTowel (l : Launch) (D : va_G) (cA : Nat → ClassId) (m0 q0 q1 q2 q4 q7 q9 q15 : Nat) (v3 : Int32) (v5 : Int32) (v6 : Int32) (v8 : Int32) (v10 : Int32) (v11 : Int32) (v12 : Int32) (v13 : Int32) (v14 : Int32) (v16 : Int32) (ss : Nat → Int32) (x1 : Int32) (x2 : Int32) {r : Int32} (hr : SX6_ofTowel ss x1 x2 = some r) : Met l yX6_ofTowel wsX6_ofTowel RM_X6_ofTowel (va_Pc [.ref m0, .int x1, .int x2] (rqB D cA [(m0, .inr (10, [.ref q0, .ref q1, .ref q2, .int v3, .ref q4, .int v5, .int v6, .ref q7, .int v8, .ref q9, .int v10, .int v11, .int v12, .int v13, .int v14, .ref q15, .int v16])), (q0, .inl (cA 0, 60, .inl ss))])) (rqQ (some (.int r))) 0 0 (fun _ => False) := by
  refine rq_ofW (cc := cX6_ofTowel) (maxL := 3) (ret := (some .int)) (by decide) rfl (Nat.le_of_ble_eq_true rfl) (fun p e s m args below meth c ls Q hx hb hml hts hfc hK hP hl hend => ?_)
  have hfc : s.vm.findClass RX6 = some m.cls := hfc
  have hl : lv_has ls 3 [(0, .ref m0), (1, .int x1), (2, .int x2)] := hl
  have h := hr
  clear hr
  unfold SX6_ofTowel at h
  refine lv_aload_n hx hb dX6_ofTowel_0 rfl (lv_at hl 0 rfl) ?_
  refine va_get (D := D) (ci := 10) (v := .ref q0) (C := RX6) (T := TX6) (N := 17) hx hb hts iX6_ofTowel_X6 hfc hK hP 0 rfl rfl 0 (by decide) (hts (.fieldLink RX6 9 "BathtubTidesModel" "s" "[I") (List.mem_of_getElem? (i := 1) rfl)) (fun _ h9 => h9) rfl dX6_ofTowel_1 ?_
  refine lv_bipush (v := 44) hx hb dX6_ofTowel_4 (by decide) ?_
  refine lv_iconst (v := 4) hx hb dX6_ofTowel_6 (by decide) ?_
  refine lv_iload_n hx hb dX6_ofTowel_7 rfl (lv_at hl 1 rfl) ?_
  refine lv_imul hx hb dX6_ofTowel_8 ?_
  refine lv_iadd hx hb dX6_ofTowel_9 ?_
  refine lv_iload_n hx hb dX6_ofTowel_10 rfl (lv_at hl 2 rfl) ?_
  refine lv_iadd hx hb dX6_ofTowel_11 ?_
  obtain ⟨g1, h⟩ := gd_i h
  refine va_iald hx hb hK hP 1 0 rfl rfl g1 dX6_ofTowel_12 ?_
  have h := Option.some.inj h
  subst h
  exact hend _ _ _ _ rfl (rtn_i _) dX6_ofTowel_13
noncomputable def LX6_isLaid_4 (ss : Nat → Int32) (x1 : Int32) : Nat → Int32 → Int32 → Option (Int32)
  | 0, _, _ => none
  | fu + 1, x2_4, x3_4 => if (ss 1) ≤ x3_4 then (gd (narrow .boolean (.int x2_4) = .int x2_4) (some (x2_4))) else (bnd (if x2_4 = 0 then (bnd (SX6_ofTowel ss x3_4 0) (fun o5 : Int32 => if o5 = x1 then (some (1)) else (some (0)))) else (some (1))) (fun o4 : Int32 => LX6_isLaid_4 ss x1 fu o4 (x3_4 + 1)))
noncomputable def SX6_isLaid (N : Nat) (ss : Nat → Int32) (x1 : Int32) : Option (Int32) := LX6_isLaid_4 ss x1 N 0 0
theorem iX6_isLaid_X6 : ∀ w ∈ wsX60, w ∈ wsX6_isLaid := fun _ h => List.mem_cons_of_mem _ (List.mem_append_left _ (List.mem_append_right _ h))
abbrev RM_X6_isLaid : Room := { frames := 1, cells := 0, slots := 0, locals := 22 }
set_option maxHeartbeats 4000000 in
theorem kX6_isLaid (l : Launch) (D : va_G) (cA : Nat → ClassId) (m0 q0 q1 q2 q4 q7 q9 q15 : Nat) (N : Nat) (v3 : Int32) (v5 : Int32) (v6 : Int32) (v8 : Int32) (v10 : Int32) (v11 : Int32) (v12 : Int32) (v13 : Int32) (v14 : Int32) (v16 : Int32) (ss : Nat → Int32) (x1 : Int32) {r : Int32} (hr : SX6_isLaid N ss x1 = some r) : Met l yX6_isLaid wsX6_isLaid RM_X6_isLaid (va_Pc [.ref m0, .int x1] (rqB D cA [(m0, .inr (10, [.ref q0, .ref q1, .ref q2, .int v3, .ref q4, .int v5, .int v6, .ref q7, .int v8, .ref q9, .int v10, .int v11, .int v12, .int v13, .int v14, .ref q15, .int v16])), (q0, .inl (cA 0, 60, .inl ss))])) (rqQ (some (.int r))) 0 0 (fun _ => False) := by
  refine rq_ofW (cc := cX6_isLaid) (maxL := 4) (ret := (some .boolean)) (by decide) rfl (Nat.le_of_ble_eq_true rfl) (fun p e s m args below meth c ls Q hx hb hml hts hfc hK hP hl hend => ?_)
  have hfc : s.vm.findClass RX6 = some m.cls := hfc
  have hl : lv_has ls 4 [(0, .ref m0), (1, .int x1)] := hl
  have h := hr
  clear hr
  unfold SX6_isLaid at h
  refine lv_iconst (v := 0) hx hb dX6_isLaid_0 (by decide) ?_
  refine lv_istore_n hx hb dX6_isLaid_1 rfl hl (Nat.le_of_ble_eq_true rfl) rfl (fun ls hl => ?_)
  have hl : lv_has ls 4 [(2, .int 0), (0, .ref m0), (1, .int x1)] := hl
  refine lv_iconst (v := 0) hx hb dX6_isLaid_2 (by decide) ?_
  refine lv_istore_n hx hb dX6_isLaid_3 rfl hl (Nat.le_of_ble_eq_true rfl) rfl (fun ls hl => ?_)
  have hl : lv_has ls 4 [(3, .int 0), (2, .int 0), (0, .ref m0), (1, .int x1)] := hl
  have hLX6_isLaid_4 : ∀ (fu : Nat) (x2_4 : Int32) (x3_4 : Int32) (ls : Array Slot), lv_has ls 4 [(0, .ref m0), (1, .int x1), (2, .int x2_4), (3, .int x3_4)] → LX6_isLaid_4 ss x1 fu x2_4 x3_4 = some r → W p l e RM_X6_isLaid s m args below meth c s.heap [] 0 0 Q (F0 m 4 ls []) := by
    intro fu
    induction fu with
    | zero =>
      intro x2_4 x3_4 ls hl h
      rw [LX6_isLaid_4] at h
      exact nn h
    | succ fu ih =>
      intro x2_4 x3_4 ls hl h
      rw [LX6_isLaid_4] at h
      refine lv_iload_n hx hb dX6_isLaid_4 rfl (lv_at hl 3 rfl) ?_
      refine lv_aload_n hx hb dX6_isLaid_5 rfl (lv_at hl 0 rfl) ?_
      refine va_get (D := D) (ci := 10) (v := .ref q0) (C := RX6) (T := TX6) (N := 17) hx hb hts iX6_isLaid_X6 hfc hK hP 0 rfl rfl 0 (by decide) (hts (.fieldLink RX6 9 "BathtubTidesModel" "s" "[I") (List.mem_of_getElem? (i := 1) rfl)) (fun _ h9 => h9) rfl dX6_isLaid_6 ?_
      refine lv_iconst (v := 1) hx hb dX6_isLaid_9 (by decide) ?_
      refine va_iald hx hb hK hP 1 0 rfl rfl (vin _ _ (by decide)) dX6_isLaid_10 ?_
      refine lv_icmp_ge (tgt := 40) hx hb dX6_isLaid_11 (by decide) (fun c1 => ?_) (fun c1 => ?_)
      · have h := ite_t c1 h
        refine lv_iload_n hx hb dX6_isLaid_40 rfl (lv_at hl 2 rfl) ?_
        obtain ⟨g2, h⟩ := gd_i h
        have h := Option.some.inj h
        subst h
        exact hend _ _ _ _ rfl (rtn_n g2) dX6_isLaid_41
      · have h := ite_f c1 h
        refine lv_iload_n hx hb dX6_isLaid_14 rfl (lv_at hl 2 rfl) ?_
        obtain ⟨o4, ho4, h⟩ := bnd_i h
        have ko4 : ∀ (ls : Array Slot), lv_has ls 4 [(0, .ref m0), (1, .int x1), (2, .int x2_4), (3, .int x3_4)] → W p l e RM_X6_isLaid s m args below meth c s.heap [] 0 0 Q (F0 m 33 ls [.int o4]) := by
          intro ls hl
          refine lv_istore_n hx hb dX6_isLaid_33 rfl hl (Nat.le_of_ble_eq_true rfl) rfl (fun ls hl => ?_)
          have hl : lv_has ls 4 [(2, .int o4), (0, .ref m0), (1, .int x1), (3, .int x3_4)] := hl
          refine lv_iinc (k := 3) (v := x3_4 + 1) hx hb dX6_isLaid_34 hl rfl (congrArg (fun z => x3_4 + z) lit1) (Nat.le_of_ble_eq_true rfl) rfl (fun ls hl => ?_)
          have hl : lv_has ls 4 [(3, .int (x3_4 + 1)), (2, .int o4), (0, .ref m0), (1, .int x1)] := hl
          refine lv_goto (tgt := 4) hx hb dX6_isLaid_37 (by decide) ?_
          exact ih o4 (x3_4 + 1) _ (lv_sub hl [2, 3, 1, 0] rfl) h
        clear h
        have h := ho4
        clear ho4
        refine lv_if_ne (tgt := 28) hx hb dX6_isLaid_15 (by decide) (fun c3 => ?_) (fun c3 => ?_)
        · have h := ite_f c3 h
          refine lv_iconst (v := 1) hx hb dX6_isLaid_28 (by decide) ?_
          refine lv_goto (tgt := 33) hx hb dX6_isLaid_29 (by decide) ?_
          have h := Option.some.inj h
          subst h
          exact ko4 _ (lv_sub hl [0, 1, 2, 3] rfl)
        · have h := ite_t c3 h
          refine lv_aload_n hx hb dX6_isLaid_18 rfl (lv_at hl 0 rfl) ?_
          refine lv_iload_n hx hb dX6_isLaid_19 rfl (lv_at hl 3 rfl) ?_
          refine lv_iconst (v := 0) hx hb dX6_isLaid_20 (by decide) ?_
          obtain ⟨o5, ho5, h⟩ := bnd_i h
          refine rq_V (v := (some (.int o5))) (As := [.int x3_4, .int 0]) (rest := []) (wc := [(m0, .inr (10, [.ref q0, .ref q1, .ref q2, .int v3, .ref q4, .int v5, .int v6, .ref q7, .int v8, .ref q9, .int v10, .int v11, .int v12, .int v13, .int v14, .ref q15, .int v16])), (q0, .inl (cA 0, 60, .inl ss))]) ⟨hx, hb, hml, hfc, hts⟩ hK hP (kX6_ofTowel l D cA m0 q0 q1 q2 q4 q7 q9 q15 v3 v5 v6 v8 v10 v11 v12 v13 v14 v16 ss x3_4 0 ho5) (cwV 2 hts gX6_isLaid_X6_ofTowel rfl rfl rfl (by decide +kernel) ⟨(Nat.le_of_ble_eq_true rfl), (Nat.le_of_ble_eq_true rfl)⟩) [0, 1] rfl 0 10 rfl rfl rfl rfl rfl rfl hl.1 (Nat.le_of_ble_eq_true rfl) dX6_isLaid_21 ⟨(Nat.zero_le _), (Nat.zero_le _)⟩ ?_
          refine lv_iload_n hx hb dX6_isLaid_24 rfl (lv_at hl 1 rfl) ?_
          refine lv_icmp_ne (tgt := 32) hx hb dX6_isLaid_25 (by decide) (fun c6 => ?_) (fun c6 => ?_)
          · have h := ite_f c6 h
            refine lv_iconst (v := 0) hx hb dX6_isLaid_32 (by decide) ?_
            have h := Option.some.inj h
            subst h
            exact ko4 _ (lv_sub hl [0, 1, 2, 3] rfl)
          · have h := ite_t c6 h
            refine lv_iconst (v := 1) hx hb dX6_isLaid_28 (by decide) ?_
            refine lv_goto (tgt := 33) hx hb dX6_isLaid_29 (by decide) ?_
            have h := Option.some.inj h
            subst h
            exact ko4 _ (lv_sub hl [0, 1, 2, 3] rfl)
  exact hLX6_isLaid_4 N 0 0 _ (lv_sub hl [2, 3, 1, 0] rfl) h
noncomputable def SX6_doLayTowel (N : Nat) (v6 : Int32) (ss : Nat → Int32) (x1 : Int32) (x2 : Int32) : Option (Int32 × (Nat → Int32) × Int32) := bnd (SX6_isPosition x1) (fun o1 : Int32 => if o1 = 0 then (lt_ (SX6_fails 1) (fun o15 : Int32 × Int32 => some ((o15.1, ss, o15.2)))) else (if (SX6_in x2 0 60) = 0 then (lt_ (SX6_fails 2) (fun o14 : Int32 × Int32 => some ((o14.1, ss, o14.2)))) else (bnd (SX6_isLaid N ss x1) (fun o4 : Int32 => if o4 = 0 then (if (ss 1) = 4 then (lt_ (SX6_fails 3) (fun o13 : Int32 × Int32 => some ((o13.1, ss, o13.2)))) else (gd (vp_in (44 + (4 * (ss 1))) 60) (gd (vp_in ((44 + (4 * (ss 1))) + 1) 60) (gd (vp_in ((44 + (4 * (ss 1))) + 2) 60) (gd (vp_in ((44 + (4 * (ss 1))) + 3) 60) (lt_ (((upd (upd (upd (upd ss (Int32.toNatClampNeg (44 + (4 * (ss 1)))) x1) (Int32.toNatClampNeg ((44 + (4 * (ss 1))) + 1)) x2) (Int32.toNatClampNeg ((44 + (4 * (ss 1))) + 2)) 0) (Int32.toNatClampNeg ((44 + (4 * (ss 1))) + 3)) 0) 1) + 1) (fun t12 : Int32 => some ((ss 1, upd (upd (upd (upd (upd ss (Int32.toNatClampNeg (44 + (4 * (ss 1)))) x1) (Int32.toNatClampNeg ((44 + (4 * (ss 1))) + 1)) x2) (Int32.toNatClampNeg ((44 + (4 * (ss 1))) + 2)) 0) (Int32.toNatClampNeg ((44 + (4 * (ss 1))) + 3)) 0) 1 t12, v6))))))))) else (lt_ (SX6_fails 3) (fun o6 : Int32 × Int32 => some ((o6.1, ss, o6.2))))))))
theorem iX6_doLayTowel_X6 : ∀ w ∈ wsX60, w ∈ wsX6_doLayTowel := fun _ h => List.mem_cons_of_mem _ (List.mem_append_left _ (List.mem_append_right _ h))
abbrev RM_X6_doLayTowel : Room := { frames := 2, cells := 0, slots := 0, locals := 45 }
set_option maxHeartbeats 4000000 in
theorem kX6_doLayTowel (l : Launch) (D : va_G) (cA : Nat → ClassId) (m0 q0 q1 q2 q4 q7 q9 q15 : Nat) (N : Nat) (v3 : Int32) (v5 : Int32) (v6 : Int32) (v8 : Int32) (v10 : Int32) (v11 : Int32) (v12 : Int32) (v13 : Int32) (v14 : Int32) (v16 : Int32) (ss : Nat → Int32) (x1 : Int32) (x2 : Int32) {r : Int32 × (Nat → Int32) × Int32} (hr : SX6_doLayTowel N v6 ss x1 x2 = some r) {sz : Nat} : Met l yX6_doLayTowel wsX6_doLayTowel RM_X6_doLayTowel (va_Pc [.ref m0, .int x1, .int x2] (gqB D cA [(m0, .inr (10, [.ref q0, .ref q1, .ref q2, .int v3, .ref q4, .int v5, .int v6, .ref q7, .int v8, .ref q9, .int v10, .int v11, .int v12, .int v13, .int v14, .ref q15, .int v16])), (q0, .inl (cA 0, 60, .inl ss))] sz)) (gqQ D (fun as => (some (.int r.1))) (fun as => [(m0, .inr (10, [.ref q0, .ref q1, .ref q2, .int v3, .ref q4, .int v5, .int r.2.2, .ref q7, .int v8, .ref q9, .int v10, .int v11, .int v12, .int v13, .int v14, .ref q15, .int v16])), (q0, .inl (cA 0, 60, .inl r.2.1))]) (va_A [(m0, .inr (10, [.ref q0, .ref q1, .ref q2, .int v3, .ref q4, .int v5, .int v6, .ref q7, .int v8, .ref q9, .int v10, .int v11, .int v12, .int v13, .int v14, .ref q15, .int v16])), (q0, .inl (cA 0, 60, .inl ss))] sz)) 0 0 (va_A [(m0, .inr (10, [.ref q0, .ref q1, .ref q2, .int v3, .ref q4, .int v5, .int v6, .ref q7, .int v8, .ref q9, .int v10, .int v11, .int v12, .int v13, .int v14, .ref q15, .int v16])), (q0, .inl (cA 0, 60, .inl ss))] sz) := by
  refine gq_ofW (cc := cX6_doLayTowel) (maxL := 5) (ret := (some .int)) (by decide) rfl (Nat.le_of_ble_eq_true rfl) (fun p e s m args below meth c ls Q A hx hb hml hts hfc hmn hK hP hD hS hA hl hend => ?_)
  have hfc : s.vm.findClass RX6 = some m.cls := hfc
  have hl : lv_has ls 5 [(0, .ref m0), (1, .int x1), (2, .int x2)] := hl
  have h := hr
  clear hr
  unfold SX6_doLayTowel at h
  refine lv_aload_n hx hb dX6_doLayTowel_0 rfl (lv_at hl 0 rfl) ?_
  refine va_get (D := D) (ci := 10) (v := .ref q0) (C := RX6) (T := TX6) (N := 17) hx hb hts iX6_doLayTowel_X6 hfc hK hP 0 rfl rfl 0 (by decide) (hts (.fieldLink RX6 9 "BathtubTidesModel" "s" "[I") (List.mem_of_getElem? (i := 1) rfl)) (fun _ h9 => h9) rfl dX6_doLayTowel_1 ?_
  refine lv_iconst (v := 1) hx hb dX6_doLayTowel_4 (by decide) ?_
  refine va_iald hx hb hK hP 1 0 rfl rfl (vin _ _ (by decide)) dX6_doLayTowel_5 ?_
  refine lv_istore_n hx hb dX6_doLayTowel_6 rfl hl (Nat.le_of_ble_eq_true rfl) rfl (fun ls hl => ?_)
  have hl : lv_has ls 5 [(3, .int (ss 1)), (0, .ref m0), (1, .int x1), (2, .int x2)] := hl
  refine lv_iload_n hx hb dX6_doLayTowel_7 rfl (lv_at hl 2 rfl) ?_
  obtain ⟨o1, ho1, h⟩ := bnd_i h
  refine rq_S (v := (some (.int o1))) (As := [.int x1]) (rest := []) (wc := []) ⟨hx, hb, hml, hfc, hts⟩ hK hP (kX6_isPosition l D cA x1 ho1) (va_cwS 1 hts gX6_doLayTowel_X6_isPosition rfl rfl rfl (by decide +kernel) ⟨(Nat.le_of_ble_eq_true rfl), (Nat.le_of_ble_eq_true rfl)⟩) [] rfl rfl rfl rfl hl.1 (Nat.le_of_ble_eq_true rfl) dX6_doLayTowel_8 ⟨(Nat.zero_le _), (Nat.zero_le _)⟩ ?_
  refine lv_if_ne (tgt := 20) hx hb dX6_doLayTowel_11 (by decide) (fun c2 => ?_) (fun c2 => ?_)
  · have h := ite_f c2 h
    refine lv_iload_n hx hb dX6_doLayTowel_20 rfl (lv_at hl 3 rfl) ?_
    refine lv_iconst (v := 0) hx hb dX6_doLayTowel_21 (by decide) ?_
    refine lv_bipush (v := 60) hx hb dX6_doLayTowel_22 (by decide) ?_
    refine rq_S (v := (some (.int (SX6_in x2 0 60)))) (As := [.int x2, .int 0, .int 60]) (rest := []) (wc := []) ⟨hx, hb, hml, hfc, hts⟩ hK hP (kX6_in l D cA x2 0 60 rfl) (va_cwS 3 hts gX6_doLayTowel_X6_in rfl rfl rfl (by decide +kernel) ⟨(Nat.le_of_ble_eq_true rfl), (Nat.le_of_ble_eq_true rfl)⟩) [] rfl rfl rfl rfl hl.1 (Nat.le_of_ble_eq_true rfl) dX6_doLayTowel_24 ⟨(Nat.zero_le _), (Nat.zero_le _)⟩ ?_
    refine lv_if_ne (tgt := 36) hx hb dX6_doLayTowel_27 (by decide) (fun c3 => ?_) (fun c3 => ?_)
    · have h := ite_f c3 h
      refine lv_aload_n hx hb dX6_doLayTowel_36 rfl (lv_at hl 1 rfl) ?_
      refine lv_iload_n hx hb dX6_doLayTowel_37 rfl (lv_at hl 2 rfl) ?_
      obtain ⟨o4, ho4, h⟩ := bnd_i h
      refine rq_V (v := (some (.int o4))) (As := [.int x1]) (rest := []) (wc := [(m0, .inr (10, [.ref q0, .ref q1, .ref q2, .int v3, .ref q4, .int v5, .int v6, .ref q7, .int v8, .ref q9, .int v10, .int v11, .int v12, .int v13, .int v14, .ref q15, .int v16])), (q0, .inl (cA 0, 60, .inl ss))]) ⟨hx, hb, hml, hfc, hts⟩ hK hP (kX6_isLaid l D cA m0 q0 q1 q2 q4 q7 q9 q15 N v3 v5 v6 v8 v10 v11 v12 v13 v14 v16 ss x1 ho4) (cwV 1 hts gX6_doLayTowel_X6_isLaid rfl rfl rfl (by decide +kernel) ⟨(Nat.le_of_ble_eq_true rfl), (Nat.le_of_ble_eq_true rfl)⟩) [0, 1] rfl 0 10 rfl rfl rfl rfl rfl rfl hl.1 (Nat.le_of_ble_eq_true rfl) dX6_doLayTowel_38 ⟨(Nat.zero_le _), (Nat.zero_le _)⟩ ?_
      refine lv_if_ne (tgt := 49) hx hb dX6_doLayTowel_41 (by decide) (fun c5 => ?_) (fun c5 => ?_)
      · have h := ite_f c5 h
        refine lv_aload_n hx hb dX6_doLayTowel_49 rfl (lv_at hl 1 rfl) ?_
        refine lv_iconst (v := 3) hx hb dX6_doLayTowel_50 (by decide) ?_
        obtain ⟨o6, ho6, h⟩ := lt_i h
        refine gq_V (v := (fun as => (some (.int o6.1)))) (As := [.int 3]) (rest := []) (wc := [(m0, .inr (10, [.ref q0, .ref q1, .ref q2, .int v3, .ref q4, .int v5, .int v6, .ref q7, .int v8, .ref q9, .int v10, .int v11, .int v12, .int v13, .int v14, .ref q15, .int v16]))]) (wr := [(q0, .inl (cA 0, 60, .inl ss))]) (w1 := (fun as => [(m0, .inr (10, [.ref q0, .ref q1, .ref q2, .int v3, .ref q4, .int v5, .int o6.2, .ref q7, .int v8, .ref q9, .int v10, .int v11, .int v12, .int v13, .int v14, .ref q15, .int v16]))])) (ws2 := (fun as => [(m0, .inr (10, [.ref q0, .ref q1, .ref q2, .int v3, .ref q4, .int v5, .int o6.2, .ref q7, .int v8, .ref q9, .int v10, .int v11, .int v12, .int v13, .int v14, .ref q15, .int v16])), (q0, .inl (cA 0, 60, .inl ss))])) (st1 := (fun as => [.int o6.1])) ⟨hx, hb, hml, hfc, hts⟩ hK hP hD hS hA (kX6_fails l D cA m0 q0 q1 q2 q4 q7 q9 q15 v3 v5 v6 v8 v10 v11 v12 v13 v14 v16 3 ho6) (cwV 1 hts gX6_doLayTowel_X6_fails rfl rfl rfl (by decide +kernel) ⟨(Nat.le_of_ble_eq_true rfl), (Nat.le_of_ble_eq_true rfl)⟩) [0] [1] [1, 0] rfl rfl rfl rfl (by decide) (fun _ => rfl) rfl 0 10 rfl rfl rfl rfl (fun _ => rfl) rfl hl.1 (Nat.le_of_ble_eq_true rfl) dX6_doLayTowel_51 ⟨(Nat.zero_le _), (Nat.zero_le _)⟩ (fun as H locs hP hD hS => ?_)
        have hP : va_P D vwCl [(m0, .inr (10, [.ref q0, .ref q1, .ref q2, .int v3, .ref q4, .int v5, .int o6.2, .ref q7, .int v8, .ref q9, .int v10, .int v11, .int v12, .int v13, .int v14, .ref q15, .int v16])), (q0, .inl (cA 0, 60, .inl ss))] H := hP
        have hD : va_D A [(m0, .inr (10, [.ref q0, .ref q1, .ref q2, .int v3, .ref q4, .int v5, .int o6.2, .ref q7, .int v8, .ref q9, .int v10, .int v11, .int v12, .int v13, .int v14, .ref q15, .int v16])), (q0, .inl (cA 0, 60, .inl ss))] := hD
        have h := Option.some.inj h
        subst h
        exact hend (adr []) _ _ _ _ _ _ _ rfl rfl (rtn_i _) hP hD hS dX6_doLayTowel_54
      · have h := ite_t c5 h
        refine lv_iload_n hx hb dX6_doLayTowel_44 rfl (lv_at hl 0 rfl) ?_
        refine lv_iconst (v := 4) hx hb dX6_doLayTowel_45 (by decide) ?_
        refine lv_icmp_ne (tgt := 55) hx hb dX6_doLayTowel_46 (by decide) (fun c7 => ?_) (fun c7 => ?_)
        · have h := ite_f c7 h
          refine lv_bipush (v := 44) hx hb dX6_doLayTowel_55 (by decide) ?_
          refine lv_iconst (v := 4) hx hb dX6_doLayTowel_57 (by decide) ?_
          refine lv_iload_n hx hb dX6_doLayTowel_58 rfl (lv_at hl 0 rfl) ?_
          refine lv_imul hx hb dX6_doLayTowel_59 ?_
          refine lv_iadd hx hb dX6_doLayTowel_60 ?_
          refine lv_istore hx hb dX6_doLayTowel_61 hl (Nat.le_of_ble_eq_true rfl) rfl (fun ls hl => ?_)
          have hl : lv_has ls 5 [(4, .int (44 + (4 * (ss 1)))), (3, .int (ss 1)), (0, .ref m0), (1, .int x1), (2, .int x2)] := hl
          refine lv_aload_n hx hb dX6_doLayTowel_63 rfl (lv_at hl 2 rfl) ?_
          refine va_get (D := D) (ci := 10) (v := .ref q0) (C := RX6) (T := TX6) (N := 17) hx hb hts iX6_doLayTowel_X6 hfc hK hP 0 rfl rfl 0 (by decide) (hts (.fieldLink RX6 9 "BathtubTidesModel" "s" "[I") (List.mem_of_getElem? (i := 1) rfl)) (fun _ h9 => h9) rfl dX6_doLayTowel_64 ?_
          refine lv_iload hx hb dX6_doLayTowel_67 (lv_at hl 0 rfl) ?_
          refine lv_iload_n hx hb dX6_doLayTowel_69 rfl (lv_at hl 3 rfl) ?_
          obtain ⟨g8, h⟩ := gd_i h
          refine va_iast hx hb hK hP hD hS 1 0 rfl rfl g8 dX6_doLayTowel_70 (fun H locs hP hD hS => ?_)
          have hP : va_P D vwCl [(m0, .inr (10, [.ref q0, .ref q1, .ref q2, .int v3, .ref q4, .int v5, .int v6, .ref q7, .int v8, .ref q9, .int v10, .int v11, .int v12, .int v13, .int v14, .ref q15, .int v16])), (q0, .inl (cA 0, 60, .inl (upd ss (Int32.toNatClampNeg (44 + (4 * (ss 1)))) x1)))] H := hP
          have hD : va_D A [(m0, .inr (10, [.ref q0, .ref q1, .ref q2, .int v3, .ref q4, .int v5, .int v6, .ref q7, .int v8, .ref q9, .int v10, .int v11, .int v12, .int v13, .int v14, .ref q15, .int v16])), (q0, .inl (cA 0, 60, .inl (upd ss (Int32.toNatClampNeg (44 + (4 * (ss 1)))) x1)))] := hD
          refine lv_aload_n hx hb dX6_doLayTowel_71 rfl (lv_at hl 2 rfl) ?_
          refine va_get (D := D) (ci := 10) (v := .ref q0) (C := RX6) (T := TX6) (N := 17) hx hb hts iX6_doLayTowel_X6 hfc hK hP 0 rfl rfl 0 (by decide) (hts (.fieldLink RX6 9 "BathtubTidesModel" "s" "[I") (List.mem_of_getElem? (i := 1) rfl)) (fun _ h9 => h9) rfl dX6_doLayTowel_72 ?_
          refine lv_iload hx hb dX6_doLayTowel_75 (lv_at hl 0 rfl) ?_
          refine lv_iconst (v := 1) hx hb dX6_doLayTowel_77 (by decide) ?_
          refine lv_iadd hx hb dX6_doLayTowel_78 ?_
          refine lv_iload_n hx hb dX6_doLayTowel_79 rfl (lv_at hl 4 rfl) ?_
          obtain ⟨g9, h⟩ := gd_i h
          refine va_iast hx hb hK hP hD hS 1 0 rfl rfl g9 dX6_doLayTowel_80 (fun H locs hP hD hS => ?_)
          have hP : va_P D vwCl [(m0, .inr (10, [.ref q0, .ref q1, .ref q2, .int v3, .ref q4, .int v5, .int v6, .ref q7, .int v8, .ref q9, .int v10, .int v11, .int v12, .int v13, .int v14, .ref q15, .int v16])), (q0, .inl (cA 0, 60, .inl (upd (upd ss (Int32.toNatClampNeg (44 + (4 * (ss 1)))) x1) (Int32.toNatClampNeg ((44 + (4 * (ss 1))) + 1)) x2)))] H := hP
          have hD : va_D A [(m0, .inr (10, [.ref q0, .ref q1, .ref q2, .int v3, .ref q4, .int v5, .int v6, .ref q7, .int v8, .ref q9, .int v10, .int v11, .int v12, .int v13, .int v14, .ref q15, .int v16])), (q0, .inl (cA 0, 60, .inl (upd (upd ss (Int32.toNatClampNeg (44 + (4 * (ss 1)))) x1) (Int32.toNatClampNeg ((44 + (4 * (ss 1))) + 1)) x2)))] := hD
          refine lv_aload_n hx hb dX6_doLayTowel_81 rfl (lv_at hl 2 rfl) ?_
          refine va_get (D := D) (ci := 10) (v := .ref q0) (C := RX6) (T := TX6) (N := 17) hx hb hts iX6_doLayTowel_X6 hfc hK hP 0 rfl rfl 0 (by decide) (hts (.fieldLink RX6 9 "BathtubTidesModel" "s" "[I") (List.mem_of_getElem? (i := 1) rfl)) (fun _ h9 => h9) rfl dX6_doLayTowel_82 ?_
          refine lv_iload hx hb dX6_doLayTowel_85 (lv_at hl 0 rfl) ?_
          refine lv_iconst (v := 2) hx hb dX6_doLayTowel_87 (by decide) ?_
          refine lv_iadd hx hb dX6_doLayTowel_88 ?_
          refine lv_iconst (v := 0) hx hb dX6_doLayTowel_89 (by decide) ?_
          obtain ⟨g10, h⟩ := gd_i h
          refine va_iast hx hb hK hP hD hS 1 0 rfl rfl g10 dX6_doLayTowel_90 (fun H locs hP hD hS => ?_)
          have hP : va_P D vwCl [(m0, .inr (10, [.ref q0, .ref q1, .ref q2, .int v3, .ref q4, .int v5, .int v6, .ref q7, .int v8, .ref q9, .int v10, .int v11, .int v12, .int v13, .int v14, .ref q15, .int v16])), (q0, .inl (cA 0, 60, .inl (upd (upd (upd ss (Int32.toNatClampNeg (44 + (4 * (ss 1)))) x1) (Int32.toNatClampNeg ((44 + (4 * (ss 1))) + 1)) x2) (Int32.toNatClampNeg ((44 + (4 * (ss 1))) + 2)) 0)))] H := hP
          have hD : va_D A [(m0, .inr (10, [.ref q0, .ref q1, .ref q2, .int v3, .ref q4, .int v5, .int v6, .ref q7, .int v8, .ref q9, .int v10, .int v11, .int v12, .int v13, .int v14, .ref q15, .int v16])), (q0, .inl (cA 0, 60, .inl (upd (upd (upd ss (Int32.toNatClampNeg (44 + (4 * (ss 1)))) x1) (Int32.toNatClampNeg ((44 + (4 * (ss 1))) + 1)) x2) (Int32.toNatClampNeg ((44 + (4 * (ss 1))) + 2)) 0)))] := hD
          refine lv_aload_n hx hb dX6_doLayTowel_91 rfl (lv_at hl 2 rfl) ?_
          refine va_get (D := D) (ci := 10) (v := .ref q0) (C := RX6) (T := TX6) (N := 17) hx hb hts iX6_doLayTowel_X6 hfc hK hP 0 rfl rfl 0 (by decide) (hts (.fieldLink RX6 9 "BathtubTidesModel" "s" "[I") (List.mem_of_getElem? (i := 1) rfl)) (fun _ h9 => h9) rfl dX6_doLayTowel_92 ?_
          refine lv_iload hx hb dX6_doLayTowel_95 (lv_at hl 0 rfl) ?_
          refine lv_iconst (v := 3) hx hb dX6_doLayTowel_97 (by decide) ?_
          refine lv_iadd hx hb dX6_doLayTowel_98 ?_
          refine lv_iconst (v := 0) hx hb dX6_doLayTowel_99 (by decide) ?_
          obtain ⟨g11, h⟩ := gd_i h
          refine va_iast hx hb hK hP hD hS 1 0 rfl rfl g11 dX6_doLayTowel_100 (fun H locs hP hD hS => ?_)
          have hP : va_P D vwCl [(m0, .inr (10, [.ref q0, .ref q1, .ref q2, .int v3, .ref q4, .int v5, .int v6, .ref q7, .int v8, .ref q9, .int v10, .int v11, .int v12, .int v13, .int v14, .ref q15, .int v16])), (q0, .inl (cA 0, 60, .inl (upd (upd (upd (upd ss (Int32.toNatClampNeg (44 + (4 * (ss 1)))) x1) (Int32.toNatClampNeg ((44 + (4 * (ss 1))) + 1)) x2) (Int32.toNatClampNeg ((44 + (4 * (ss 1))) + 2)) 0) (Int32.toNatClampNeg ((44 + (4 * (ss 1))) + 3)) 0)))] H := hP
          have hD : va_D A [(m0, .inr (10, [.ref q0, .ref q1, .ref q2, .int v3, .ref q4, .int v5, .int v6, .ref q7, .int v8, .ref q9, .int v10, .int v11, .int v12, .int v13, .int v14, .ref q15, .int v16])), (q0, .inl (cA 0, 60, .inl (upd (upd (upd (upd ss (Int32.toNatClampNeg (44 + (4 * (ss 1)))) x1) (Int32.toNatClampNeg ((44 + (4 * (ss 1))) + 1)) x2) (Int32.toNatClampNeg ((44 + (4 * (ss 1))) + 2)) 0) (Int32.toNatClampNeg ((44 + (4 * (ss 1))) + 3)) 0)))] := hD
          refine lv_aload_n hx hb dX6_doLayTowel_101 rfl (lv_at hl 2 rfl) ?_
          refine va_get (D := D) (ci := 10) (v := .ref q0) (C := RX6) (T := TX6) (N := 17) hx hb hts iX6_doLayTowel_X6 hfc hK hP 0 rfl rfl 0 (by decide) (hts (.fieldLink RX6 9 "BathtubTidesModel" "s" "[I") (List.mem_of_getElem? (i := 1) rfl)) (fun _ h9 => h9) rfl dX6_doLayTowel_102 ?_
          refine lv_iconst (v := 1) hx hb dX6_doLayTowel_105 (by decide) ?_
          refine lv_dup2_11 hx hb dX6_doLayTowel_106 rfl rfl ?_
          refine va_iald hx hb hK hP 1 0 rfl rfl (vin _ _ (by decide)) dX6_doLayTowel_107 ?_
          refine lv_iconst (v := 1) hx hb dX6_doLayTowel_108 (by decide) ?_
          refine lv_iadd hx hb dX6_doLayTowel_109 ?_
          refine lv_topi (fun t12 et12 => ?_)
          have h := lt_e h _ et12
          refine va_iast hx hb hK hP hD hS 1 0 rfl rfl (vin _ _ (by decide)) dX6_doLayTowel_110 (fun H locs hP hD hS => ?_)
          have hP : va_P D vwCl [(m0, .inr (10, [.ref q0, .ref q1, .ref q2, .int v3, .ref q4, .int v5, .int v6, .ref q7, .int v8, .ref q9, .int v10, .int v11, .int v12, .int v13, .int v14, .ref q15, .int v16])), (q0, .inl (cA 0, 60, .inl (upd (upd (upd (upd (upd ss (Int32.toNatClampNeg (44 + (4 * (ss 1)))) x1) (Int32.toNatClampNeg ((44 + (4 * (ss 1))) + 1)) x2) (Int32.toNatClampNeg ((44 + (4 * (ss 1))) + 2)) 0) (Int32.toNatClampNeg ((44 + (4 * (ss 1))) + 3)) 0) 1 t12)))] H := hP
          have hD : va_D A [(m0, .inr (10, [.ref q0, .ref q1, .ref q2, .int v3, .ref q4, .int v5, .int v6, .ref q7, .int v8, .ref q9, .int v10, .int v11, .int v12, .int v13, .int v14, .ref q15, .int v16])), (q0, .inl (cA 0, 60, .inl (upd (upd (upd (upd (upd ss (Int32.toNatClampNeg (44 + (4 * (ss 1)))) x1) (Int32.toNatClampNeg ((44 + (4 * (ss 1))) + 1)) x2) (Int32.toNatClampNeg ((44 + (4 * (ss 1))) + 2)) 0) (Int32.toNatClampNeg ((44 + (4 * (ss 1))) + 3)) 0) 1 t12)))] := hD
          refine lv_iload_n hx hb dX6_doLayTowel_111 rfl (lv_at hl 1 rfl) ?_
          have h := Option.some.inj h
          subst h
          exact hend (adr []) _ _ _ _ _ _ _ rfl rfl (rtn_i _) hP hD hS dX6_doLayTowel_112
        · have h := ite_t c7 h
          refine lv_aload_n hx hb dX6_doLayTowel_49 rfl (lv_at hl 1 rfl) ?_
          refine lv_iconst (v := 3) hx hb dX6_doLayTowel_50 (by decide) ?_
          obtain ⟨o13, ho13, h⟩ := lt_i h
          refine gq_V (v := (fun as => (some (.int o13.1)))) (As := [.int 3]) (rest := []) (wc := [(m0, .inr (10, [.ref q0, .ref q1, .ref q2, .int v3, .ref q4, .int v5, .int v6, .ref q7, .int v8, .ref q9, .int v10, .int v11, .int v12, .int v13, .int v14, .ref q15, .int v16]))]) (wr := [(q0, .inl (cA 0, 60, .inl ss))]) (w1 := (fun as => [(m0, .inr (10, [.ref q0, .ref q1, .ref q2, .int v3, .ref q4, .int v5, .int o13.2, .ref q7, .int v8, .ref q9, .int v10, .int v11, .int v12, .int v13, .int v14, .ref q15, .int v16]))])) (ws2 := (fun as => [(m0, .inr (10, [.ref q0, .ref q1, .ref q2, .int v3, .ref q4, .int v5, .int o13.2, .ref q7, .int v8, .ref q9, .int v10, .int v11, .int v12, .int v13, .int v14, .ref q15, .int v16])), (q0, .inl (cA 0, 60, .inl ss))])) (st1 := (fun as => [.int o13.1])) ⟨hx, hb, hml, hfc, hts⟩ hK hP hD hS hA (kX6_fails l D cA m0 q0 q1 q2 q4 q7 q9 q15 v3 v5 v6 v8 v10 v11 v12 v13 v14 v16 3 ho13) (cwV 1 hts gX6_doLayTowel_X6_fails rfl rfl rfl (by decide +kernel) ⟨(Nat.le_of_ble_eq_true rfl), (Nat.le_of_ble_eq_true rfl)⟩) [0] [1] [1, 0] rfl rfl rfl rfl (by decide) (fun _ => rfl) rfl 0 10 rfl rfl rfl rfl (fun _ => rfl) rfl hl.1 (Nat.le_of_ble_eq_true rfl) dX6_doLayTowel_51 ⟨(Nat.zero_le _), (Nat.zero_le _)⟩ (fun as H locs hP hD hS => ?_)
          have hP : va_P D vwCl [(m0, .inr (10, [.ref q0, .ref q1, .ref q2, .int v3, .ref q4, .int v5, .int o13.2, .ref q7, .int v8, .ref q9, .int v10, .int v11, .int v12, .int v13, .int v14, .ref q15, .int v16])), (q0, .inl (cA 0, 60, .inl ss))] H := hP
          have hD : va_D A [(m0, .inr (10, [.ref q0, .ref q1, .ref q2, .int v3, .ref q4, .int v5, .int o13.2, .ref q7, .int v8, .ref q9, .int v10, .int v11, .int v12, .int v13, .int v14, .ref q15, .int v16])), (q0, .inl (cA 0, 60, .inl ss))] := hD
          have h := Option.some.inj h
          subst h
          exact hend (adr []) _ _ _ _ _ _ _ rfl rfl (rtn_i _) hP hD hS dX6_doLayTowel_54
    · have h := ite_t c3 h
      refine lv_aload_n hx hb dX6_doLayTowel_30 rfl (lv_at hl 1 rfl) ?_
      refine lv_iconst (v := 2) hx hb dX6_doLayTowel_31 (by decide) ?_
      obtain ⟨o14, ho14, h⟩ := lt_i h
      refine gq_V (v := (fun as => (some (.int o14.1)))) (As := [.int 2]) (rest := []) (wc := [(m0, .inr (10, [.ref q0, .ref q1, .ref q2, .int v3, .ref q4, .int v5, .int v6, .ref q7, .int v8, .ref q9, .int v10, .int v11, .int v12, .int v13, .int v14, .ref q15, .int v16]))]) (wr := [(q0, .inl (cA 0, 60, .inl ss))]) (w1 := (fun as => [(m0, .inr (10, [.ref q0, .ref q1, .ref q2, .int v3, .ref q4, .int v5, .int o14.2, .ref q7, .int v8, .ref q9, .int v10, .int v11, .int v12, .int v13, .int v14, .ref q15, .int v16]))])) (ws2 := (fun as => [(m0, .inr (10, [.ref q0, .ref q1, .ref q2, .int v3, .ref q4, .int v5, .int o14.2, .ref q7, .int v8, .ref q9, .int v10, .int v11, .int v12, .int v13, .int v14, .ref q15, .int v16])), (q0, .inl (cA 0, 60, .inl ss))])) (st1 := (fun as => [.int o14.1])) ⟨hx, hb, hml, hfc, hts⟩ hK hP hD hS hA (kX6_fails l D cA m0 q0 q1 q2 q4 q7 q9 q15 v3 v5 v6 v8 v10 v11 v12 v13 v14 v16 2 ho14) (cwV 1 hts gX6_doLayTowel_X6_fails rfl rfl rfl (by decide +kernel) ⟨(Nat.le_of_ble_eq_true rfl), (Nat.le_of_ble_eq_true rfl)⟩) [0] [1] [1, 0] rfl rfl rfl rfl (by decide) (fun _ => rfl) rfl 0 10 rfl rfl rfl rfl (fun _ => rfl) rfl hl.1 (Nat.le_of_ble_eq_true rfl) dX6_doLayTowel_32 ⟨(Nat.zero_le _), (Nat.zero_le _)⟩ (fun as H locs hP hD hS => ?_)
      have hP : va_P D vwCl [(m0, .inr (10, [.ref q0, .ref q1, .ref q2, .int v3, .ref q4, .int v5, .int o14.2, .ref q7, .int v8, .ref q9, .int v10, .int v11, .int v12, .int v13, .int v14, .ref q15, .int v16])), (q0, .inl (cA 0, 60, .inl ss))] H := hP
      have hD : va_D A [(m0, .inr (10, [.ref q0, .ref q1, .ref q2, .int v3, .ref q4, .int v5, .int o14.2, .ref q7, .int v8, .ref q9, .int v10, .int v11, .int v12, .int v13, .int v14, .ref q15, .int v16])), (q0, .inl (cA 0, 60, .inl ss))] := hD
      have h := Option.some.inj h
      subst h
      exact hend (adr []) _ _ _ _ _ _ _ rfl rfl (rtn_i _) hP hD hS dX6_doLayTowel_35
  · have h := ite_t c2 h
    refine lv_aload_n hx hb dX6_doLayTowel_14 rfl (lv_at hl 1 rfl) ?_
    refine lv_iconst (v := 1) hx hb dX6_doLayTowel_15 (by decide) ?_
    obtain ⟨o15, ho15, h⟩ := lt_i h
    refine gq_V (v := (fun as => (some (.int o15.1)))) (As := [.int 1]) (rest := []) (wc := [(m0, .inr (10, [.ref q0, .ref q1, .ref q2, .int v3, .ref q4, .int v5, .int v6, .ref q7, .int v8, .ref q9, .int v10, .int v11, .int v12, .int v13, .int v14, .ref q15, .int v16]))]) (wr := [(q0, .inl (cA 0, 60, .inl ss))]) (w1 := (fun as => [(m0, .inr (10, [.ref q0, .ref q1, .ref q2, .int v3, .ref q4, .int v5, .int o15.2, .ref q7, .int v8, .ref q9, .int v10, .int v11, .int v12, .int v13, .int v14, .ref q15, .int v16]))])) (ws2 := (fun as => [(m0, .inr (10, [.ref q0, .ref q1, .ref q2, .int v3, .ref q4, .int v5, .int o15.2, .ref q7, .int v8, .ref q9, .int v10, .int v11, .int v12, .int v13, .int v14, .ref q15, .int v16])), (q0, .inl (cA 0, 60, .inl ss))])) (st1 := (fun as => [.int o15.1])) ⟨hx, hb, hml, hfc, hts⟩ hK hP hD hS hA (kX6_fails l D cA m0 q0 q1 q2 q4 q7 q9 q15 v3 v5 v6 v8 v10 v11 v12 v13 v14 v16 1 ho15) (cwV 1 hts gX6_doLayTowel_X6_fails rfl rfl rfl (by decide +kernel) ⟨(Nat.le_of_ble_eq_true rfl), (Nat.le_of_ble_eq_true rfl)⟩) [0] [1] [1, 0] rfl rfl rfl rfl (by decide) (fun _ => rfl) rfl 0 10 rfl rfl rfl rfl (fun _ => rfl) rfl hl.1 (Nat.le_of_ble_eq_true rfl) dX6_doLayTowel_16 ⟨(Nat.zero_le _), (Nat.zero_le _)⟩ (fun as H locs hP hD hS => ?_)
    have hP : va_P D vwCl [(m0, .inr (10, [.ref q0, .ref q1, .ref q2, .int v3, .ref q4, .int v5, .int o15.2, .ref q7, .int v8, .ref q9, .int v10, .int v11, .int v12, .int v13, .int v14, .ref q15, .int v16])), (q0, .inl (cA 0, 60, .inl ss))] H := hP
    have hD : va_D A [(m0, .inr (10, [.ref q0, .ref q1, .ref q2, .int v3, .ref q4, .int v5, .int o15.2, .ref q7, .int v8, .ref q9, .int v10, .int v11, .int v12, .int v13, .int v14, .ref q15, .int v16])), (q0, .inl (cA 0, 60, .inl ss))] := hD
    have h := Option.some.inj h
    subst h
    exact hend (adr []) _ _ _ _ _ _ _ rfl rfl (rtn_i _) hP hD hS dX6_doLayTowel_19
noncomputable def SX6_wrings (ss : Nat → Int32) (x1 : Int32) : Option (Int32 × (Nat → Int32)) := gd (vp_in ((44 + (4 * x1)) + 2) 60) (lt_ ((ss 3) + (ss (Int32.toNatClampNeg ((44 + (4 * x1)) + 2)))) (fun t2 : Int32 => lt_ (((upd ss 3 (t2 - (imax 0 (t2 - 40)))) 5) + (imax 0 (t2 - 40))) (fun t3 : Int32 => gd (vp_in ((44 + (4 * x1)) + 2) 60) (some ((imax 0 (t2 - 40), upd (upd (upd ss 3 (t2 - (imax 0 (t2 - 40)))) 5 t3) (Int32.toNatClampNeg ((44 + (4 * x1)) + 2)) 0))))))
theorem iX6_wrings_X6 : ∀ w ∈ wsX60, w ∈ wsX6_wrings := fun _ h => List.mem_cons_of_mem _ (List.mem_append_left _ (List.mem_append_right _ h))
abbrev RM_X6_wrings : Room := { frames := 1, cells := 0, slots := 0, locals := 13 }
set_option maxHeartbeats 4000000 in
theorem kX6_wrings (l : Launch) (D : va_G) (cA : Nat → ClassId) (m0 q0 q1 q2 q4 q7 q9 q15 : Nat) (v3 : Int32) (v5 : Int32) (v6 : Int32) (v8 : Int32) (v10 : Int32) (v11 : Int32) (v12 : Int32) (v13 : Int32) (v14 : Int32) (v16 : Int32) (ss : Nat → Int32) (x1 : Int32) {r : Int32 × (Nat → Int32)} (hr : SX6_wrings ss x1 = some r) {sz : Nat} : Met l yX6_wrings wsX6_wrings RM_X6_wrings (va_Pc [.ref m0, .int x1] (gqB D cA [(m0, .inr (10, [.ref q0, .ref q1, .ref q2, .int v3, .ref q4, .int v5, .int v6, .ref q7, .int v8, .ref q9, .int v10, .int v11, .int v12, .int v13, .int v14, .ref q15, .int v16])), (q0, .inl (cA 0, 60, .inl ss))] sz)) (gqQ D (fun as => (some (.int r.1))) (fun as => [(m0, .inr (10, [.ref q0, .ref q1, .ref q2, .int v3, .ref q4, .int v5, .int v6, .ref q7, .int v8, .ref q9, .int v10, .int v11, .int v12, .int v13, .int v14, .ref q15, .int v16])), (q0, .inl (cA 0, 60, .inl r.2))]) (va_A [(m0, .inr (10, [.ref q0, .ref q1, .ref q2, .int v3, .ref q4, .int v5, .int v6, .ref q7, .int v8, .ref q9, .int v10, .int v11, .int v12, .int v13, .int v14, .ref q15, .int v16])), (q0, .inl (cA 0, 60, .inl ss))] sz)) 0 0 (va_A [(m0, .inr (10, [.ref q0, .ref q1, .ref q2, .int v3, .ref q4, .int v5, .int v6, .ref q7, .int v8, .ref q9, .int v10, .int v11, .int v12, .int v13, .int v14, .ref q15, .int v16])), (q0, .inl (cA 0, 60, .inl ss))] sz) := by
  refine gq_ofW (cc := cX6_wrings) (maxL := 5) (ret := (some .int)) (by decide) rfl (Nat.le_of_ble_eq_true rfl) (fun p e s m args below meth c ls Q A hx hb hml hts hfc hmn hK hP hD hS hA hl hend => ?_)
  have hfc : s.vm.findClass RX6 = some m.cls := hfc
  have hl : lv_has ls 5 [(0, .ref m0), (1, .int x1)] := hl
  have h := hr
  clear hr
  unfold SX6_wrings at h
  refine lv_bipush (v := 44) hx hb dX6_wrings_0 (by decide) ?_
  refine lv_iconst (v := 4) hx hb dX6_wrings_2 (by decide) ?_
  refine lv_iload_n hx hb dX6_wrings_3 rfl (lv_at hl 1 rfl) ?_
  refine lv_imul hx hb dX6_wrings_4 ?_
  refine lv_iadd hx hb dX6_wrings_5 ?_
  refine lv_iconst (v := 2) hx hb dX6_wrings_6 (by decide) ?_
  refine lv_iadd hx hb dX6_wrings_7 ?_
  refine lv_istore_n hx hb dX6_wrings_8 rfl hl (Nat.le_of_ble_eq_true rfl) rfl (fun ls hl => ?_)
  have hl : lv_has ls 5 [(2, .int ((44 + (4 * x1)) + 2)), (0, .ref m0), (1, .int x1)] := hl
  refine lv_aload_n hx hb dX6_wrings_9 rfl (lv_at hl 1 rfl) ?_
  refine va_get (D := D) (ci := 10) (v := .ref q0) (C := RX6) (T := TX6) (N := 17) hx hb hts iX6_wrings_X6 hfc hK hP 0 rfl rfl 0 (by decide) (hts (.fieldLink RX6 9 "BathtubTidesModel" "s" "[I") (List.mem_of_getElem? (i := 1) rfl)) (fun _ h9 => h9) rfl dX6_wrings_10 ?_
  refine lv_iconst (v := 3) hx hb dX6_wrings_13 (by decide) ?_
  refine va_iald hx hb hK hP 1 0 rfl rfl (vin _ _ (by decide)) dX6_wrings_14 ?_
  refine lv_aload_n hx hb dX6_wrings_15 rfl (lv_at hl 1 rfl) ?_
  refine va_get (D := D) (ci := 10) (v := .ref q0) (C := RX6) (T := TX6) (N := 17) hx hb hts iX6_wrings_X6 hfc hK hP 0 rfl rfl 0 (by decide) (hts (.fieldLink RX6 9 "BathtubTidesModel" "s" "[I") (List.mem_of_getElem? (i := 1) rfl)) (fun _ h9 => h9) rfl dX6_wrings_16 ?_
  refine lv_iload_n hx hb dX6_wrings_19 rfl (lv_at hl 0 rfl) ?_
  obtain ⟨g1, h⟩ := gd_i h
  refine va_iald hx hb hK hP 1 0 rfl rfl g1 dX6_wrings_20 ?_
  refine lv_iadd hx hb dX6_wrings_21 ?_
  refine lv_topi (fun t2 et2 => ?_)
  have h := lt_e h _ et2
  refine lv_istore_n hx hb dX6_wrings_22 rfl hl (Nat.le_of_ble_eq_true rfl) rfl (fun ls hl => ?_)
  have hl : lv_has ls 5 [(3, .int t2), (2, .int ((44 + (4 * x1)) + 2)), (0, .ref m0), (1, .int x1)] := hl
  refine lv_iconst (v := 0) hx hb dX6_wrings_23 (by decide) ?_
  refine lv_iload_n hx hb dX6_wrings_24 rfl (lv_at hl 0 rfl) ?_
  refine lv_bipush (v := 40) hx hb dX6_wrings_25 (by decide) ?_
  refine lv_isub hx hb dX6_wrings_27 ?_
  refine va_mmax hx hb (hml.trans hl.1.symm) hfc (hts (.methodLink RX6 62 Lib.Math.max.name) (List.mem_of_getElem? (i := 2) rfl)) (hts (.static Lib.Math.max.name) (List.mem_of_getElem? (i := 3) rfl)) (hts (.initialized "java/lang/Math") (List.mem_of_getElem? (i := 4) rfl)) (hts (.code Lib.Math.max.name Lib.Math.max.code 2 (some .int)) (List.mem_of_getElem? (i := 5) rfl)) (Nat.le_of_ble_eq_true rfl) (Nat.le_of_ble_eq_true rfl) (Nat.zero_le _) (Nat.zero_le _) dX6_wrings_28 ?_
  refine lv_istore hx hb dX6_wrings_31 hl (Nat.le_of_ble_eq_true rfl) rfl (fun ls hl => ?_)
  have hl : lv_has ls 5 [(4, .int (imax 0 (t2 - 40))), (3, .int t2), (2, .int ((44 + (4 * x1)) + 2)), (0, .ref m0), (1, .int x1)] := hl
  refine lv_aload_n hx hb dX6_wrings_33 rfl (lv_at hl 3 rfl) ?_
  refine va_get (D := D) (ci := 10) (v := .ref q0) (C := RX6) (T := TX6) (N := 17) hx hb hts iX6_wrings_X6 hfc hK hP 0 rfl rfl 0 (by decide) (hts (.fieldLink RX6 9 "BathtubTidesModel" "s" "[I") (List.mem_of_getElem? (i := 1) rfl)) (fun _ h9 => h9) rfl dX6_wrings_34 ?_
  refine lv_iconst (v := 3) hx hb dX6_wrings_37 (by decide) ?_
  refine lv_iload_n hx hb dX6_wrings_38 rfl (lv_at hl 1 rfl) ?_
  refine lv_iload hx hb dX6_wrings_39 (lv_at hl 0 rfl) ?_
  refine lv_isub hx hb dX6_wrings_41 ?_
  refine va_iast hx hb hK hP hD hS 1 0 rfl rfl (vin _ _ (by decide)) dX6_wrings_42 (fun H locs hP hD hS => ?_)
  have hP : va_P D vwCl [(m0, .inr (10, [.ref q0, .ref q1, .ref q2, .int v3, .ref q4, .int v5, .int v6, .ref q7, .int v8, .ref q9, .int v10, .int v11, .int v12, .int v13, .int v14, .ref q15, .int v16])), (q0, .inl (cA 0, 60, .inl (upd ss 3 (t2 - (imax 0 (t2 - 40))))))] H := hP
  have hD : va_D A [(m0, .inr (10, [.ref q0, .ref q1, .ref q2, .int v3, .ref q4, .int v5, .int v6, .ref q7, .int v8, .ref q9, .int v10, .int v11, .int v12, .int v13, .int v14, .ref q15, .int v16])), (q0, .inl (cA 0, 60, .inl (upd ss 3 (t2 - (imax 0 (t2 - 40))))))] := hD
  refine lv_aload_n hx hb dX6_wrings_43 rfl (lv_at hl 3 rfl) ?_
  refine va_get (D := D) (ci := 10) (v := .ref q0) (C := RX6) (T := TX6) (N := 17) hx hb hts iX6_wrings_X6 hfc hK hP 0 rfl rfl 0 (by decide) (hts (.fieldLink RX6 9 "BathtubTidesModel" "s" "[I") (List.mem_of_getElem? (i := 1) rfl)) (fun _ h9 => h9) rfl dX6_wrings_44 ?_
  refine lv_iconst (v := 5) hx hb dX6_wrings_47 (by decide) ?_
  refine lv_dup2_11 hx hb dX6_wrings_48 rfl rfl ?_
  refine va_iald hx hb hK hP 1 0 rfl rfl (vin _ _ (by decide)) dX6_wrings_49 ?_
  refine lv_iload hx hb dX6_wrings_50 (lv_at hl 0 rfl) ?_
  refine lv_iadd hx hb dX6_wrings_52 ?_
  refine lv_topi (fun t3 et3 => ?_)
  have h := lt_e h _ et3
  refine va_iast hx hb hK hP hD hS 1 0 rfl rfl (vin _ _ (by decide)) dX6_wrings_53 (fun H locs hP hD hS => ?_)
  have hP : va_P D vwCl [(m0, .inr (10, [.ref q0, .ref q1, .ref q2, .int v3, .ref q4, .int v5, .int v6, .ref q7, .int v8, .ref q9, .int v10, .int v11, .int v12, .int v13, .int v14, .ref q15, .int v16])), (q0, .inl (cA 0, 60, .inl (upd (upd ss 3 (t2 - (imax 0 (t2 - 40)))) 5 t3)))] H := hP
  have hD : va_D A [(m0, .inr (10, [.ref q0, .ref q1, .ref q2, .int v3, .ref q4, .int v5, .int v6, .ref q7, .int v8, .ref q9, .int v10, .int v11, .int v12, .int v13, .int v14, .ref q15, .int v16])), (q0, .inl (cA 0, 60, .inl (upd (upd ss 3 (t2 - (imax 0 (t2 - 40)))) 5 t3)))] := hD
  refine lv_aload_n hx hb dX6_wrings_54 rfl (lv_at hl 3 rfl) ?_
  refine va_get (D := D) (ci := 10) (v := .ref q0) (C := RX6) (T := TX6) (N := 17) hx hb hts iX6_wrings_X6 hfc hK hP 0 rfl rfl 0 (by decide) (hts (.fieldLink RX6 9 "BathtubTidesModel" "s" "[I") (List.mem_of_getElem? (i := 1) rfl)) (fun _ h9 => h9) rfl dX6_wrings_55 ?_
  refine lv_iload_n hx hb dX6_wrings_58 rfl (lv_at hl 2 rfl) ?_
  refine lv_iconst (v := 0) hx hb dX6_wrings_59 (by decide) ?_
  obtain ⟨g4, h⟩ := gd_i h
  refine va_iast hx hb hK hP hD hS 1 0 rfl rfl g4 dX6_wrings_60 (fun H locs hP hD hS => ?_)
  have hP : va_P D vwCl [(m0, .inr (10, [.ref q0, .ref q1, .ref q2, .int v3, .ref q4, .int v5, .int v6, .ref q7, .int v8, .ref q9, .int v10, .int v11, .int v12, .int v13, .int v14, .ref q15, .int v16])), (q0, .inl (cA 0, 60, .inl (upd (upd (upd ss 3 (t2 - (imax 0 (t2 - 40)))) 5 t3) (Int32.toNatClampNeg ((44 + (4 * x1)) + 2)) 0)))] H := hP
  have hD : va_D A [(m0, .inr (10, [.ref q0, .ref q1, .ref q2, .int v3, .ref q4, .int v5, .int v6, .ref q7, .int v8, .ref q9, .int v10, .int v11, .int v12, .int v13, .int v14, .ref q15, .int v16])), (q0, .inl (cA 0, 60, .inl (upd (upd (upd ss 3 (t2 - (imax 0 (t2 - 40)))) 5 t3) (Int32.toNatClampNeg ((44 + (4 * x1)) + 2)) 0)))] := hD
  refine lv_iload hx hb dX6_wrings_61 (lv_at hl 0 rfl) ?_
  have h := Option.some.inj h
  subst h
  exact hend (adr []) _ _ _ _ _ _ _ rfl rfl (rtn_i _) hP hD hS dX6_wrings_63
noncomputable def SX6_doRemoveTowel (v6 : Int32) (ss : Nat → Int32) (x1 : Int32) : Option (Int32 × (Nat → Int32) × Int32) := bnd (SX6_isTowel ss x1) (fun o1 : Int32 => if o1 = 0 then (lt_ (SX6_fails 1) (fun o5 : Int32 × Int32 => some ((o5.1, ss, o5.2)))) else (bnd (SX6_wrings ss x1) (fun o3 : Int32 × (Nat → Int32) => gd (¬ ((44 + (4 * x1)) + 4) < 0 ∧ ¬ (44 + (4 * x1)) < 0 ∧ ¬ (4 * (((o3.2 1) - 1) - x1)) < 0 ∧ Int32.toNatClampNeg ((44 + (4 * x1)) + 4) + Int32.toNatClampNeg (4 * (((o3.2 1) - 1) - x1)) ≤ 60 ∧ Int32.toNatClampNeg (44 + (4 * x1)) + Int32.toNatClampNeg (4 * (((o3.2 1) - 1) - x1)) ≤ 60) (some (((o3.2 1) - 1, upd (va_cpy o3.2 o3.2 (Int32.toNatClampNeg ((44 + (4 * x1)) + 4)) (Int32.toNatClampNeg (44 + (4 * x1))) (Int32.toNatClampNeg (4 * (((o3.2 1) - 1) - x1)))) 1 ((o3.2 1) - 1), v6))))))
theorem iX6_doRemoveTowel_X6 : ∀ w ∈ wsX60, w ∈ wsX6_doRemoveTowel := fun _ h => List.mem_cons_of_mem _ (List.mem_append_left _ (List.mem_append_right _ h))
abbrev RM_X6_doRemoveTowel : Room := { frames := 2, cells := 0, slots := 0, locals := 43 }
set_option maxHeartbeats 4000000 in
theorem kX6_doRemoveTowel (l : Launch) (D : va_G) (cA : Nat → ClassId) (m0 q0 q1 q2 q4 q7 q9 q15 : Nat) (v3 : Int32) (v5 : Int32) (v6 : Int32) (v8 : Int32) (v10 : Int32) (v11 : Int32) (v12 : Int32) (v13 : Int32) (v14 : Int32) (v16 : Int32) (ss : Nat → Int32) (x1 : Int32) {r : Int32 × (Nat → Int32) × Int32} (hr : SX6_doRemoveTowel v6 ss x1 = some r) {sz : Nat} : Met l yX6_doRemoveTowel wsX6_doRemoveTowel RM_X6_doRemoveTowel (va_Pc [.ref m0, .int x1] (gqB D cA [(m0, .inr (10, [.ref q0, .ref q1, .ref q2, .int v3, .ref q4, .int v5, .int v6, .ref q7, .int v8, .ref q9, .int v10, .int v11, .int v12, .int v13, .int v14, .ref q15, .int v16])), (q0, .inl (cA 0, 60, .inl ss))] sz)) (gqQ D (fun as => (some (.int r.1))) (fun as => [(m0, .inr (10, [.ref q0, .ref q1, .ref q2, .int v3, .ref q4, .int v5, .int r.2.2, .ref q7, .int v8, .ref q9, .int v10, .int v11, .int v12, .int v13, .int v14, .ref q15, .int v16])), (q0, .inl (cA 0, 60, .inl r.2.1))]) (va_A [(m0, .inr (10, [.ref q0, .ref q1, .ref q2, .int v3, .ref q4, .int v5, .int v6, .ref q7, .int v8, .ref q9, .int v10, .int v11, .int v12, .int v13, .int v14, .ref q15, .int v16])), (q0, .inl (cA 0, 60, .inl ss))] sz)) 0 0 (va_A [(m0, .inr (10, [.ref q0, .ref q1, .ref q2, .int v3, .ref q4, .int v5, .int v6, .ref q7, .int v8, .ref q9, .int v10, .int v11, .int v12, .int v13, .int v14, .ref q15, .int v16])), (q0, .inl (cA 0, 60, .inl ss))] sz) := by
  refine gq_ofW (cc := cX6_doRemoveTowel) (maxL := 5) (ret := (some .int)) (by decide) rfl (Nat.le_of_ble_eq_true rfl) (fun p e s m args below meth c ls Q A hx hb hml hts hfc hmn hK hP hD hS hA hl hend => ?_)
  have hfc : s.vm.findClass RX6 = some m.cls := hfc
  have hl : lv_has ls 5 [(0, .ref m0), (1, .int x1)] := hl
  have h := hr
  clear hr
  unfold SX6_doRemoveTowel at h
  refine lv_aload_n hx hb dX6_doRemoveTowel_0 rfl (lv_at hl 0 rfl) ?_
  refine lv_iload_n hx hb dX6_doRemoveTowel_1 rfl (lv_at hl 1 rfl) ?_
  obtain ⟨o1, ho1, h⟩ := bnd_i h
  refine rq_V (v := (some (.int o1))) (As := [.int x1]) (rest := []) (wc := [(m0, .inr (10, [.ref q0, .ref q1, .ref q2, .int v3, .ref q4, .int v5, .int v6, .ref q7, .int v8, .ref q9, .int v10, .int v11, .int v12, .int v13, .int v14, .ref q15, .int v16])), (q0, .inl (cA 0, 60, .inl ss))]) ⟨hx, hb, hml, hfc, hts⟩ hK hP (kX6_isTowel l D cA m0 q0 q1 q2 q4 q7 q9 q15 v3 v5 v6 v8 v10 v11 v12 v13 v14 v16 ss x1 ho1) (cwV 1 hts gX6_doRemoveTowel_X6_isTowel rfl rfl rfl (by decide +kernel) ⟨(Nat.le_of_ble_eq_true rfl), (Nat.le_of_ble_eq_true rfl)⟩) [0, 1] rfl 0 10 rfl rfl rfl rfl rfl rfl hl.1 (Nat.le_of_ble_eq_true rfl) dX6_doRemoveTowel_2 ⟨(Nat.zero_le _), (Nat.zero_le _)⟩ ?_
  refine lv_if_ne (tgt := 14) hx hb dX6_doRemoveTowel_5 (by decide) (fun c2 => ?_) (fun c2 => ?_)
  · have h := ite_f c2 h
    refine lv_aload_n hx hb dX6_doRemoveTowel_14 rfl (lv_at hl 0 rfl) ?_
    refine lv_iload_n hx hb dX6_doRemoveTowel_15 rfl (lv_at hl 1 rfl) ?_
    obtain ⟨o3, ho3, h⟩ := bnd_i h
    refine gq_V (v := (fun as => (some (.int o3.1)))) (As := [.int x1]) (rest := []) (wc := [(m0, .inr (10, [.ref q0, .ref q1, .ref q2, .int v3, .ref q4, .int v5, .int v6, .ref q7, .int v8, .ref q9, .int v10, .int v11, .int v12, .int v13, .int v14, .ref q15, .int v16])), (q0, .inl (cA 0, 60, .inl ss))]) (wr := []) (w1 := (fun as => [(m0, .inr (10, [.ref q0, .ref q1, .ref q2, .int v3, .ref q4, .int v5, .int v6, .ref q7, .int v8, .ref q9, .int v10, .int v11, .int v12, .int v13, .int v14, .ref q15, .int v16])), (q0, .inl (cA 0, 60, .inl o3.2))])) (ws2 := (fun as => [(m0, .inr (10, [.ref q0, .ref q1, .ref q2, .int v3, .ref q4, .int v5, .int v6, .ref q7, .int v8, .ref q9, .int v10, .int v11, .int v12, .int v13, .int v14, .ref q15, .int v16])), (q0, .inl (cA 0, 60, .inl o3.2))])) (st1 := (fun as => [.int o3.1])) ⟨hx, hb, hml, hfc, hts⟩ hK hP hD hS hA (kX6_wrings l D cA m0 q0 q1 q2 q4 q7 q9 q15 v3 v5 v6 v8 v10 v11 v12 v13 v14 v16 ss x1 ho3) (cwV 1 hts gX6_doRemoveTowel_X6_wrings rfl rfl rfl (by decide +kernel) ⟨(Nat.le_of_ble_eq_true rfl), (Nat.le_of_ble_eq_true rfl)⟩) [0, 1] [] [0, 1] rfl rfl rfl rfl (by decide) (fun _ => rfl) rfl 0 10 rfl rfl rfl rfl (fun _ => rfl) rfl hl.1 (Nat.le_of_ble_eq_true rfl) dX6_doRemoveTowel_16 ⟨(Nat.zero_le _), (Nat.zero_le _)⟩ (fun as H locs hP hD hS => ?_)
    have hP : va_P D vwCl [(m0, .inr (10, [.ref q0, .ref q1, .ref q2, .int v3, .ref q4, .int v5, .int v6, .ref q7, .int v8, .ref q9, .int v10, .int v11, .int v12, .int v13, .int v14, .ref q15, .int v16])), (q0, .inl (cA 0, 60, .inl o3.2))] H := hP
    have hD : va_D A [(m0, .inr (10, [.ref q0, .ref q1, .ref q2, .int v3, .ref q4, .int v5, .int v6, .ref q7, .int v8, .ref q9, .int v10, .int v11, .int v12, .int v13, .int v14, .ref q15, .int v16])), (q0, .inl (cA 0, 60, .inl o3.2))] := hD
    refine lv_istore_n hx hb dX6_doRemoveTowel_19 rfl hl (Nat.le_of_ble_eq_true rfl) rfl (fun ls hl => ?_)
    have hl : lv_has ls 5 [(2, .int o3.1), (0, .ref m0), (1, .int x1)] := hl
    refine lv_aload_n hx hb dX6_doRemoveTowel_20 rfl (lv_at hl 1 rfl) ?_
    refine va_get (D := D) (ci := 10) (v := .ref q0) (C := RX6) (T := TX6) (N := 17) hx hb hts iX6_doRemoveTowel_X6 hfc hK hP 0 rfl rfl 0 (by decide) (hts (.fieldLink RX6 9 "BathtubTidesModel" "s" "[I") (List.mem_of_getElem? (i := 1) rfl)) (fun _ h9 => h9) rfl dX6_doRemoveTowel_21 ?_
    refine lv_iconst (v := 1) hx hb dX6_doRemoveTowel_24 (by decide) ?_
    refine va_iald hx hb hK hP 1 0 rfl rfl (vin _ _ (by decide)) dX6_doRemoveTowel_25 ?_
    refine lv_iconst (v := 1) hx hb dX6_doRemoveTowel_26 (by decide) ?_
    refine lv_isub hx hb dX6_doRemoveTowel_27 ?_
    refine lv_istore_n hx hb dX6_doRemoveTowel_28 rfl hl (Nat.le_of_ble_eq_true rfl) rfl (fun ls hl => ?_)
    have hl : lv_has ls 5 [(3, .int ((o3.2 1) - 1)), (2, .int o3.1), (0, .ref m0), (1, .int x1)] := hl
    refine lv_bipush (v := 44) hx hb dX6_doRemoveTowel_29 (by decide) ?_
    refine lv_iconst (v := 4) hx hb dX6_doRemoveTowel_31 (by decide) ?_
    refine lv_iload_n hx hb dX6_doRemoveTowel_32 rfl (lv_at hl 3 rfl) ?_
    refine lv_imul hx hb dX6_doRemoveTowel_33 ?_
    refine lv_iadd hx hb dX6_doRemoveTowel_34 ?_
    refine lv_istore hx hb dX6_doRemoveTowel_35 hl (Nat.le_of_ble_eq_true rfl) rfl (fun ls hl => ?_)
    have hl : lv_has ls 5 [(4, .int (44 + (4 * x1))), (3, .int ((o3.2 1) - 1)), (2, .int o3.1), (0, .ref m0), (1, .int x1)] := hl
    refine lv_aload_n hx hb dX6_doRemoveTowel_37 rfl (lv_at hl 3 rfl) ?_
    refine va_get (D := D) (ci := 10) (v := .ref q0) (C := RX6) (T := TX6) (N := 17) hx hb hts iX6_doRemoveTowel_X6 hfc hK hP 0 rfl rfl 0 (by decide) (hts (.fieldLink RX6 9 "BathtubTidesModel" "s" "[I") (List.mem_of_getElem? (i := 1) rfl)) (fun _ h9 => h9) rfl dX6_doRemoveTowel_38 ?_
    refine lv_iload hx hb dX6_doRemoveTowel_41 (lv_at hl 0 rfl) ?_
    refine lv_iconst (v := 4) hx hb dX6_doRemoveTowel_43 (by decide) ?_
    refine lv_iadd hx hb dX6_doRemoveTowel_44 ?_
    refine lv_aload_n hx hb dX6_doRemoveTowel_45 rfl (lv_at hl 3 rfl) ?_
    refine va_get (D := D) (ci := 10) (v := .ref q0) (C := RX6) (T := TX6) (N := 17) hx hb hts iX6_doRemoveTowel_X6 hfc hK hP 0 rfl rfl 0 (by decide) (hts (.fieldLink RX6 9 "BathtubTidesModel" "s" "[I") (List.mem_of_getElem? (i := 1) rfl)) (fun _ h9 => h9) rfl dX6_doRemoveTowel_46 ?_
    refine lv_iload hx hb dX6_doRemoveTowel_49 (lv_at hl 0 rfl) ?_
    refine lv_iconst (v := 4) hx hb dX6_doRemoveTowel_51 (by decide) ?_
    refine lv_iload_n hx hb dX6_doRemoveTowel_52 rfl (lv_at hl 1 rfl) ?_
    refine lv_iload_n hx hb dX6_doRemoveTowel_53 rfl (lv_at hl 4 rfl) ?_
    refine lv_isub hx hb dX6_doRemoveTowel_54 ?_
    refine lv_imul hx hb dX6_doRemoveTowel_55 ?_
    obtain ⟨g4, h⟩ := gd_i h
    refine va_copyi hx hb (hml.trans hl.1.symm) hfc (hts (.methodLink RX6 42 arraycopyName) (List.mem_of_getElem? (i := 2) rfl)) (hts (.native arraycopyName) (List.mem_of_getElem? (i := 3) rfl)) (hts (.static arraycopyName) (List.mem_of_getElem? (i := 4) rfl)) (hts (.initialized "java/lang/System") (List.mem_of_getElem? (i := 5) rfl)) hK hP hD hS 1 1 0 0 rfl rfl rfl rfl rfl g4.1 g4.2.1 g4.2.2.1 g4.2.2.2.1 g4.2.2.2.2 (fun _ _ => rfl) (Nat.le_of_ble_eq_true rfl) (Nat.le_of_ble_eq_true rfl) dX6_doRemoveTowel_56 (fun H locs hP hD hS => ?_)
    have hP : va_P D vwCl [(m0, .inr (10, [.ref q0, .ref q1, .ref q2, .int v3, .ref q4, .int v5, .int v6, .ref q7, .int v8, .ref q9, .int v10, .int v11, .int v12, .int v13, .int v14, .ref q15, .int v16])), (q0, .inl (cA 0, 60, .inl (va_cpy o3.2 o3.2 (Int32.toNatClampNeg ((44 + (4 * x1)) + 4)) (Int32.toNatClampNeg (44 + (4 * x1))) (Int32.toNatClampNeg (4 * (((o3.2 1) - 1) - x1))))))] H := hP
    have hD : va_D A [(m0, .inr (10, [.ref q0, .ref q1, .ref q2, .int v3, .ref q4, .int v5, .int v6, .ref q7, .int v8, .ref q9, .int v10, .int v11, .int v12, .int v13, .int v14, .ref q15, .int v16])), (q0, .inl (cA 0, 60, .inl (va_cpy o3.2 o3.2 (Int32.toNatClampNeg ((44 + (4 * x1)) + 4)) (Int32.toNatClampNeg (44 + (4 * x1))) (Int32.toNatClampNeg (4 * (((o3.2 1) - 1) - x1))))))] := hD
    refine lv_aload_n hx hb dX6_doRemoveTowel_59 rfl (lv_at hl 3 rfl) ?_
    refine va_get (D := D) (ci := 10) (v := .ref q0) (C := RX6) (T := TX6) (N := 17) hx hb hts iX6_doRemoveTowel_X6 hfc hK hP 0 rfl rfl 0 (by decide) (hts (.fieldLink RX6 9 "BathtubTidesModel" "s" "[I") (List.mem_of_getElem? (i := 1) rfl)) (fun _ h9 => h9) rfl dX6_doRemoveTowel_60 ?_
    refine lv_iconst (v := 1) hx hb dX6_doRemoveTowel_63 (by decide) ?_
    refine lv_iload_n hx hb dX6_doRemoveTowel_64 rfl (lv_at hl 1 rfl) ?_
    refine va_iast hx hb hK hP hD hS 1 0 rfl rfl (vin _ _ (by decide)) dX6_doRemoveTowel_65 (fun H locs hP hD hS => ?_)
    have hP : va_P D vwCl [(m0, .inr (10, [.ref q0, .ref q1, .ref q2, .int v3, .ref q4, .int v5, .int v6, .ref q7, .int v8, .ref q9, .int v10, .int v11, .int v12, .int v13, .int v14, .ref q15, .int v16])), (q0, .inl (cA 0, 60, .inl (upd (va_cpy o3.2 o3.2 (Int32.toNatClampNeg ((44 + (4 * x1)) + 4)) (Int32.toNatClampNeg (44 + (4 * x1))) (Int32.toNatClampNeg (4 * (((o3.2 1) - 1) - x1)))) 1 ((o3.2 1) - 1))))] H := hP
    have hD : va_D A [(m0, .inr (10, [.ref q0, .ref q1, .ref q2, .int v3, .ref q4, .int v5, .int v6, .ref q7, .int v8, .ref q9, .int v10, .int v11, .int v12, .int v13, .int v14, .ref q15, .int v16])), (q0, .inl (cA 0, 60, .inl (upd (va_cpy o3.2 o3.2 (Int32.toNatClampNeg ((44 + (4 * x1)) + 4)) (Int32.toNatClampNeg (44 + (4 * x1))) (Int32.toNatClampNeg (4 * (((o3.2 1) - 1) - x1)))) 1 ((o3.2 1) - 1))))] := hD
    refine lv_iload_n hx hb dX6_doRemoveTowel_66 rfl (lv_at hl 1 rfl) ?_
    have h := Option.some.inj h
    subst h
    exact hend (adr []) _ _ _ _ _ _ _ rfl rfl (rtn_i _) hP hD hS dX6_doRemoveTowel_67
  · have h := ite_t c2 h
    refine lv_aload_n hx hb dX6_doRemoveTowel_8 rfl (lv_at hl 0 rfl) ?_
    refine lv_iconst (v := 1) hx hb dX6_doRemoveTowel_9 (by decide) ?_
    obtain ⟨o5, ho5, h⟩ := lt_i h
    refine gq_V (v := (fun as => (some (.int o5.1)))) (As := [.int 1]) (rest := []) (wc := [(m0, .inr (10, [.ref q0, .ref q1, .ref q2, .int v3, .ref q4, .int v5, .int v6, .ref q7, .int v8, .ref q9, .int v10, .int v11, .int v12, .int v13, .int v14, .ref q15, .int v16]))]) (wr := [(q0, .inl (cA 0, 60, .inl ss))]) (w1 := (fun as => [(m0, .inr (10, [.ref q0, .ref q1, .ref q2, .int v3, .ref q4, .int v5, .int o5.2, .ref q7, .int v8, .ref q9, .int v10, .int v11, .int v12, .int v13, .int v14, .ref q15, .int v16]))])) (ws2 := (fun as => [(m0, .inr (10, [.ref q0, .ref q1, .ref q2, .int v3, .ref q4, .int v5, .int o5.2, .ref q7, .int v8, .ref q9, .int v10, .int v11, .int v12, .int v13, .int v14, .ref q15, .int v16])), (q0, .inl (cA 0, 60, .inl ss))])) (st1 := (fun as => [.int o5.1])) ⟨hx, hb, hml, hfc, hts⟩ hK hP hD hS hA (kX6_fails l D cA m0 q0 q1 q2 q4 q7 q9 q15 v3 v5 v6 v8 v10 v11 v12 v13 v14 v16 1 ho5) (cwV 1 hts gX6_doRemoveTowel_X6_fails rfl rfl rfl (by decide +kernel) ⟨(Nat.le_of_ble_eq_true rfl), (Nat.le_of_ble_eq_true rfl)⟩) [0] [1] [1, 0] rfl rfl rfl rfl (by decide) (fun _ => rfl) rfl 0 10 rfl rfl rfl rfl (fun _ => rfl) rfl hl.1 (Nat.le_of_ble_eq_true rfl) dX6_doRemoveTowel_10 ⟨(Nat.zero_le _), (Nat.zero_le _)⟩ (fun as H locs hP hD hS => ?_)
    have hP : va_P D vwCl [(m0, .inr (10, [.ref q0, .ref q1, .ref q2, .int v3, .ref q4, .int v5, .int o5.2, .ref q7, .int v8, .ref q9, .int v10, .int v11, .int v12, .int v13, .int v14, .ref q15, .int v16])), (q0, .inl (cA 0, 60, .inl ss))] H := hP
    have hD : va_D A [(m0, .inr (10, [.ref q0, .ref q1, .ref q2, .int v3, .ref q4, .int v5, .int o5.2, .ref q7, .int v8, .ref q9, .int v10, .int v11, .int v12, .int v13, .int v14, .ref q15, .int v16])), (q0, .inl (cA 0, 60, .inl ss))] := hD
    have h := Option.some.inj h
    subst h
    exact hend (adr []) _ _ _ _ _ _ _ rfl rfl (rtn_i _) hP hD hS dX6_doRemoveTowel_13
noncomputable def SX6_doWringTowel (v6 : Int32) (ss : Nat → Int32) (x1 : Int32) : Option (Int32 × (Nat → Int32) × Int32) := bnd (SX6_isTowel ss x1) (fun o1 : Int32 => if o1 = 0 then (lt_ (SX6_fails 1) (fun o3 : Int32 × Int32 => some ((o3.1, ss, o3.2)))) else (bnd (SX6_wrings ss x1) (fun o4 : Int32 × (Nat → Int32) => some ((o4.1, o4.2, v6)))))
abbrev RM_X6_doWringTowel : Room := { frames := 2, cells := 0, slots := 0, locals := 43 }
set_option maxHeartbeats 4000000 in
theorem kX6_doWringTowel (l : Launch) (D : va_G) (cA : Nat → ClassId) (m0 q0 q1 q2 q4 q7 q9 q15 : Nat) (v3 : Int32) (v5 : Int32) (v6 : Int32) (v8 : Int32) (v10 : Int32) (v11 : Int32) (v12 : Int32) (v13 : Int32) (v14 : Int32) (v16 : Int32) (ss : Nat → Int32) (x1 : Int32) {r : Int32 × (Nat → Int32) × Int32} (hr : SX6_doWringTowel v6 ss x1 = some r) {sz : Nat} : Met l yX6_doWringTowel wsX6_doWringTowel RM_X6_doWringTowel (va_Pc [.ref m0, .int x1] (gqB D cA [(m0, .inr (10, [.ref q0, .ref q1, .ref q2, .int v3, .ref q4, .int v5, .int v6, .ref q7, .int v8, .ref q9, .int v10, .int v11, .int v12, .int v13, .int v14, .ref q15, .int v16])), (q0, .inl (cA 0, 60, .inl ss))] sz)) (gqQ D (fun as => (some (.int r.1))) (fun as => [(m0, .inr (10, [.ref q0, .ref q1, .ref q2, .int v3, .ref q4, .int v5, .int r.2.2, .ref q7, .int v8, .ref q9, .int v10, .int v11, .int v12, .int v13, .int v14, .ref q15, .int v16])), (q0, .inl (cA 0, 60, .inl r.2.1))]) (va_A [(m0, .inr (10, [.ref q0, .ref q1, .ref q2, .int v3, .ref q4, .int v5, .int v6, .ref q7, .int v8, .ref q9, .int v10, .int v11, .int v12, .int v13, .int v14, .ref q15, .int v16])), (q0, .inl (cA 0, 60, .inl ss))] sz)) 0 0 (va_A [(m0, .inr (10, [.ref q0, .ref q1, .ref q2, .int v3, .ref q4, .int v5, .int v6, .ref q7, .int v8, .ref q9, .int v10, .int v11, .int v12, .int v13, .int v14, .ref q15, .int v16])), (q0, .inl (cA 0, 60, .inl ss))] sz) := by
  refine gq_ofW (cc := cX6_doWringTowel) (maxL := 2) (ret := (some .int)) (by decide) rfl (Nat.le_of_ble_eq_true rfl) (fun p e s m args below meth c ls Q A hx hb hml hts hfc hmn hK hP hD hS hA hl hend => ?_)
  have hfc : s.vm.findClass RX6 = some m.cls := hfc
  have hl : lv_has ls 2 [(0, .ref m0), (1, .int x1)] := hl
  have h := hr
  clear hr
  unfold SX6_doWringTowel at h
  refine lv_aload_n hx hb dX6_doWringTowel_0 rfl (lv_at hl 0 rfl) ?_
  refine lv_iload_n hx hb dX6_doWringTowel_1 rfl (lv_at hl 1 rfl) ?_
  obtain ⟨o1, ho1, h⟩ := bnd_i h
  refine rq_V (v := (some (.int o1))) (As := [.int x1]) (rest := []) (wc := [(m0, .inr (10, [.ref q0, .ref q1, .ref q2, .int v3, .ref q4, .int v5, .int v6, .ref q7, .int v8, .ref q9, .int v10, .int v11, .int v12, .int v13, .int v14, .ref q15, .int v16])), (q0, .inl (cA 0, 60, .inl ss))]) ⟨hx, hb, hml, hfc, hts⟩ hK hP (kX6_isTowel l D cA m0 q0 q1 q2 q4 q7 q9 q15 v3 v5 v6 v8 v10 v11 v12 v13 v14 v16 ss x1 ho1) (cwV 1 hts gX6_doWringTowel_X6_isTowel rfl rfl rfl (by decide +kernel) ⟨(Nat.le_of_ble_eq_true rfl), (Nat.le_of_ble_eq_true rfl)⟩) [0, 1] rfl 0 10 rfl rfl rfl rfl rfl rfl hl.1 (Nat.le_of_ble_eq_true rfl) dX6_doWringTowel_2 ⟨(Nat.zero_le _), (Nat.zero_le _)⟩ ?_
  refine lv_if_eq (tgt := 16) hx hb dX6_doWringTowel_5 (by decide) (fun c2 => ?_) (fun c2 => ?_)
  · have h := ite_t c2 h
    refine lv_aload_n hx hb dX6_doWringTowel_16 rfl (lv_at hl 0 rfl) ?_
    refine lv_iconst (v := 1) hx hb dX6_doWringTowel_17 (by decide) ?_
    obtain ⟨o3, ho3, h⟩ := lt_i h
    refine gq_V (v := (fun as => (some (.int o3.1)))) (As := [.int 1]) (rest := []) (wc := [(m0, .inr (10, [.ref q0, .ref q1, .ref q2, .int v3, .ref q4, .int v5, .int v6, .ref q7, .int v8, .ref q9, .int v10, .int v11, .int v12, .int v13, .int v14, .ref q15, .int v16]))]) (wr := [(q0, .inl (cA 0, 60, .inl ss))]) (w1 := (fun as => [(m0, .inr (10, [.ref q0, .ref q1, .ref q2, .int v3, .ref q4, .int v5, .int o3.2, .ref q7, .int v8, .ref q9, .int v10, .int v11, .int v12, .int v13, .int v14, .ref q15, .int v16]))])) (ws2 := (fun as => [(m0, .inr (10, [.ref q0, .ref q1, .ref q2, .int v3, .ref q4, .int v5, .int o3.2, .ref q7, .int v8, .ref q9, .int v10, .int v11, .int v12, .int v13, .int v14, .ref q15, .int v16])), (q0, .inl (cA 0, 60, .inl ss))])) (st1 := (fun as => [.int o3.1])) ⟨hx, hb, hml, hfc, hts⟩ hK hP hD hS hA (kX6_fails l D cA m0 q0 q1 q2 q4 q7 q9 q15 v3 v5 v6 v8 v10 v11 v12 v13 v14 v16 1 ho3) (cwV 1 hts gX6_doWringTowel_X6_fails rfl rfl rfl (by decide +kernel) ⟨(Nat.le_of_ble_eq_true rfl), (Nat.le_of_ble_eq_true rfl)⟩) [0] [1] [1, 0] rfl rfl rfl rfl (by decide) (fun _ => rfl) rfl 0 10 rfl rfl rfl rfl (fun _ => rfl) rfl hl.1 (Nat.le_of_ble_eq_true rfl) dX6_doWringTowel_18 ⟨(Nat.zero_le _), (Nat.zero_le _)⟩ (fun as H locs hP hD hS => ?_)
    have hP : va_P D vwCl [(m0, .inr (10, [.ref q0, .ref q1, .ref q2, .int v3, .ref q4, .int v5, .int o3.2, .ref q7, .int v8, .ref q9, .int v10, .int v11, .int v12, .int v13, .int v14, .ref q15, .int v16])), (q0, .inl (cA 0, 60, .inl ss))] H := hP
    have hD : va_D A [(m0, .inr (10, [.ref q0, .ref q1, .ref q2, .int v3, .ref q4, .int v5, .int o3.2, .ref q7, .int v8, .ref q9, .int v10, .int v11, .int v12, .int v13, .int v14, .ref q15, .int v16])), (q0, .inl (cA 0, 60, .inl ss))] := hD
    have h := Option.some.inj h
    subst h
    exact hend (adr []) _ _ _ _ _ _ _ rfl rfl (rtn_i _) hP hD hS dX6_doWringTowel_21
  · have h := ite_f c2 h
    refine lv_aload_n hx hb dX6_doWringTowel_8 rfl (lv_at hl 0 rfl) ?_
    refine lv_iload_n hx hb dX6_doWringTowel_9 rfl (lv_at hl 1 rfl) ?_
    obtain ⟨o4, ho4, h⟩ := bnd_i h
    refine gq_V (v := (fun as => (some (.int o4.1)))) (As := [.int x1]) (rest := []) (wc := [(m0, .inr (10, [.ref q0, .ref q1, .ref q2, .int v3, .ref q4, .int v5, .int v6, .ref q7, .int v8, .ref q9, .int v10, .int v11, .int v12, .int v13, .int v14, .ref q15, .int v16])), (q0, .inl (cA 0, 60, .inl ss))]) (wr := []) (w1 := (fun as => [(m0, .inr (10, [.ref q0, .ref q1, .ref q2, .int v3, .ref q4, .int v5, .int v6, .ref q7, .int v8, .ref q9, .int v10, .int v11, .int v12, .int v13, .int v14, .ref q15, .int v16])), (q0, .inl (cA 0, 60, .inl o4.2))])) (ws2 := (fun as => [(m0, .inr (10, [.ref q0, .ref q1, .ref q2, .int v3, .ref q4, .int v5, .int v6, .ref q7, .int v8, .ref q9, .int v10, .int v11, .int v12, .int v13, .int v14, .ref q15, .int v16])), (q0, .inl (cA 0, 60, .inl o4.2))])) (st1 := (fun as => [.int o4.1])) ⟨hx, hb, hml, hfc, hts⟩ hK hP hD hS hA (kX6_wrings l D cA m0 q0 q1 q2 q4 q7 q9 q15 v3 v5 v6 v8 v10 v11 v12 v13 v14 v16 ss x1 ho4) (cwV 1 hts gX6_doWringTowel_X6_wrings rfl rfl rfl (by decide +kernel) ⟨(Nat.le_of_ble_eq_true rfl), (Nat.le_of_ble_eq_true rfl)⟩) [0, 1] [] [0, 1] rfl rfl rfl rfl (by decide) (fun _ => rfl) rfl 0 10 rfl rfl rfl rfl (fun _ => rfl) rfl hl.1 (Nat.le_of_ble_eq_true rfl) dX6_doWringTowel_10 ⟨(Nat.zero_le _), (Nat.zero_le _)⟩ (fun as H locs hP hD hS => ?_)
    have hP : va_P D vwCl [(m0, .inr (10, [.ref q0, .ref q1, .ref q2, .int v3, .ref q4, .int v5, .int v6, .ref q7, .int v8, .ref q9, .int v10, .int v11, .int v12, .int v13, .int v14, .ref q15, .int v16])), (q0, .inl (cA 0, 60, .inl o4.2))] H := hP
    have hD : va_D A [(m0, .inr (10, [.ref q0, .ref q1, .ref q2, .int v3, .ref q4, .int v5, .int v6, .ref q7, .int v8, .ref q9, .int v10, .int v11, .int v12, .int v13, .int v14, .ref q15, .int v16])), (q0, .inl (cA 0, 60, .inl o4.2))] := hD
    refine lv_goto (tgt := 21) hx hb dX6_doWringTowel_13 (by decide) ?_
    have h := Option.some.inj h
    subst h
    exact hend (adr []) _ _ _ _ _ _ _ rfl rfl (rtn_i _) hP hD hS dX6_doWringTowel_21
noncomputable def SX6_towelCount (ss : Nat → Int32) : Int32 × Int32 := (ss 1, 0)
theorem iX6_towelCount_X6 : ∀ w ∈ wsX60, w ∈ wsX6_towelCount := fun _ h => List.mem_cons_of_mem _ (List.mem_append_left _ (List.mem_append_right _ h))
abbrev RM_X6_towelCount : Room := { frames := 0, cells := 0, slots := 0, locals := 0 }
set_option maxHeartbeats 4000000 in
theorem kX6_towelCount (l : Launch) (D : va_G) (cA : Nat → ClassId) (m0 q0 q1 q2 q4 q7 q9 q15 : Nat) (v3 : Int32) (v5 : Int32) (v6 : Int32) (v8 : Int32) (v10 : Int32) (v11 : Int32) (v12 : Int32) (v13 : Int32) (v14 : Int32) (v16 : Int32) (ss : Nat → Int32) {r : Int32 × Int32} (hr : SX6_towelCount ss = r) {sz : Nat} : Met l yX6_towelCount wsX6_towelCount RM_X6_towelCount (va_Pc [.ref m0] (gqB D cA [(m0, .inr (10, [.ref q0, .ref q1, .ref q2, .int v3, .ref q4, .int v5, .int v6, .ref q7, .int v8, .ref q9, .int v10, .int v11, .int v12, .int v13, .int v14, .ref q15, .int v16])), (q0, .inl (cA 0, 60, .inl ss))] sz)) (gqQ D (fun as => (some (.int r.1))) (fun as => [(m0, .inr (10, [.ref q0, .ref q1, .ref q2, .int v3, .ref q4, .int v5, .int r.2, .ref q7, .int v8, .ref q9, .int v10, .int v11, .int v12, .int v13, .int v14, .ref q15, .int v16])), (q0, .inl (cA 0, 60, .inl ss))]) (va_A [(m0, .inr (10, [.ref q0, .ref q1, .ref q2, .int v3, .ref q4, .int v5, .int v6, .ref q7, .int v8, .ref q9, .int v10, .int v11, .int v12, .int v13, .int v14, .ref q15, .int v16])), (q0, .inl (cA 0, 60, .inl ss))] sz)) 0 0 (va_A [(m0, .inr (10, [.ref q0, .ref q1, .ref q2, .int v3, .ref q4, .int v5, .int v6, .ref q7, .int v8, .ref q9, .int v10, .int v11, .int v12, .int v13, .int v14, .ref q15, .int v16])), (q0, .inl (cA 0, 60, .inl ss))] sz) := by
  refine gq_ofW (cc := cX6_towelCount) (maxL := 1) (ret := (some .int)) (by decide) rfl (Nat.le_of_ble_eq_true rfl) (fun p e s m args below meth c ls Q A hx hb hml hts hfc hmn hK hP hD hS hA hl hend => ?_)
  have hfc : s.vm.findClass RX6 = some m.cls := hfc
  have hl : lv_has ls 1 [(0, .ref m0)] := hl
  have h := hr
  clear hr
  unfold SX6_towelCount at h
  refine lv_aload_n hx hb dX6_towelCount_0 rfl (lv_at hl 0 rfl) ?_
  refine lv_iconst (v := 0) hx hb dX6_towelCount_1 (by decide) ?_
  refine va_put (D := D) (ci := 10) (v := .int 0) (ty := .int) (C := RX6) (T := TX6) (N := 17) hx hb hts iX6_towelCount_X6 tyX6 tyX6_ok nmX6 hfc hK hP hD hS 0 rfl rfl 6 (by decide) (hts (.fieldLink RX6 39 "BathtubTidesModel" "thrown" "I") (List.mem_of_getElem? (i := 1) rfl)) (fun _ h9 => h9) rfl (by decide +kernel) rfl rfl (Nat.le_of_ble_eq_true rfl) dX6_towelCount_2 (fun H locs hP hD hS => ?_)
  have hP : va_P D vwCl [(m0, .inr (10, [.ref q0, .ref q1, .ref q2, .int v3, .ref q4, .int v5, .int 0, .ref q7, .int v8, .ref q9, .int v10, .int v11, .int v12, .int v13, .int v14, .ref q15, .int v16])), (q0, .inl (cA 0, 60, .inl ss))] H := hP
  have hD : va_D A [(m0, .inr (10, [.ref q0, .ref q1, .ref q2, .int v3, .ref q4, .int v5, .int 0, .ref q7, .int v8, .ref q9, .int v10, .int v11, .int v12, .int v13, .int v14, .ref q15, .int v16])), (q0, .inl (cA 0, 60, .inl ss))] := hD
  refine lv_aload_n hx hb dX6_towelCount_5 rfl (lv_at hl 0 rfl) ?_
  refine va_get (D := D) (ci := 10) (v := .ref q0) (C := RX6) (T := TX6) (N := 17) hx hb hts iX6_towelCount_X6 hfc hK hP 0 rfl rfl 0 (by decide) (hts (.fieldLink RX6 9 "BathtubTidesModel" "s" "[I") (List.mem_of_getElem? (i := 2) rfl)) (fun _ h9 => h9) rfl dX6_towelCount_6 ?_
  refine lv_iconst (v := 1) hx hb dX6_towelCount_9 (by decide) ?_
  refine va_iald hx hb hK hP 1 0 rfl rfl (vin _ _ (by decide)) dX6_towelCount_10 ?_
  subst h
  exact hend (adr []) _ _ _ _ _ _ _ rfl rfl (rtn_i _) hP hD hS dX6_towelCount_11
noncomputable def SX6_shoreOf (ss : Nat → Int32) (x1 : Int32) : Option (Int32 × Int32) := bnd (SX6_isTowel ss x1) (fun o1 : Int32 => bnd (SX6_isThere o1) (fun o2 : Int32 × Int32 => if o2.1 = 0 then (some ((0, o2.2))) else (bnd (SX6_ofTowel ss x1 0) (fun o4 : Int32 => some ((o4, o2.2))))))
abbrev RM_X6_shoreOf : Room := { frames := 2, cells := 0, slots := 0, locals := 44 }
set_option maxHeartbeats 4000000 in
theorem kX6_shoreOf (l : Launch) (D : va_G) (cA : Nat → ClassId) (m0 q0 q1 q2 q4 q7 q9 q15 : Nat) (v3 : Int32) (v5 : Int32) (v6 : Int32) (v8 : Int32) (v10 : Int32) (v11 : Int32) (v12 : Int32) (v13 : Int32) (v14 : Int32) (v16 : Int32) (ss : Nat → Int32) (x1 : Int32) {r : Int32 × Int32} (hr : SX6_shoreOf ss x1 = some r) {sz : Nat} : Met l yX6_shoreOf wsX6_shoreOf RM_X6_shoreOf (va_Pc [.ref m0, .int x1] (gqB D cA [(m0, .inr (10, [.ref q0, .ref q1, .ref q2, .int v3, .ref q4, .int v5, .int v6, .ref q7, .int v8, .ref q9, .int v10, .int v11, .int v12, .int v13, .int v14, .ref q15, .int v16])), (q0, .inl (cA 0, 60, .inl ss))] sz)) (gqQ D (fun as => (some (.int r.1))) (fun as => [(m0, .inr (10, [.ref q0, .ref q1, .ref q2, .int v3, .ref q4, .int v5, .int r.2, .ref q7, .int v8, .ref q9, .int v10, .int v11, .int v12, .int v13, .int v14, .ref q15, .int v16])), (q0, .inl (cA 0, 60, .inl ss))]) (va_A [(m0, .inr (10, [.ref q0, .ref q1, .ref q2, .int v3, .ref q4, .int v5, .int v6, .ref q7, .int v8, .ref q9, .int v10, .int v11, .int v12, .int v13, .int v14, .ref q15, .int v16])), (q0, .inl (cA 0, 60, .inl ss))] sz)) 0 0 (va_A [(m0, .inr (10, [.ref q0, .ref q1, .ref q2, .int v3, .ref q4, .int v5, .int v6, .ref q7, .int v8, .ref q9, .int v10, .int v11, .int v12, .int v13, .int v14, .ref q15, .int v16])), (q0, .inl (cA 0, 60, .inl ss))] sz) := by
  refine gq_ofW (cc := cX6_shoreOf) (maxL := 2) (ret := (some .int)) (by decide) rfl (Nat.le_of_ble_eq_true rfl) (fun p e s m args below meth c ls Q A hx hb hml hts hfc hmn hK hP hD hS hA hl hend => ?_)
  have hfc : s.vm.findClass RX6 = some m.cls := hfc
  have hl : lv_has ls 2 [(0, .ref m0), (1, .int x1)] := hl
  have h := hr
  clear hr
  unfold SX6_shoreOf at h
  refine lv_aload_n hx hb dX6_shoreOf_0 rfl (lv_at hl 0 rfl) ?_
  refine lv_aload_n hx hb dX6_shoreOf_1 rfl (lv_at hl 0 rfl) ?_
  refine lv_iload_n hx hb dX6_shoreOf_2 rfl (lv_at hl 1 rfl) ?_
  obtain ⟨o1, ho1, h⟩ := bnd_i h
  refine rq_V (v := (some (.int o1))) (As := [.int x1]) (rest := [.ref m0]) (wc := [(m0, .inr (10, [.ref q0, .ref q1, .ref q2, .int v3, .ref q4, .int v5, .int v6, .ref q7, .int v8, .ref q9, .int v10, .int v11, .int v12, .int v13, .int v14, .ref q15, .int v16])), (q0, .inl (cA 0, 60, .inl ss))]) ⟨hx, hb, hml, hfc, hts⟩ hK hP (kX6_isTowel l D cA m0 q0 q1 q2 q4 q7 q9 q15 v3 v5 v6 v8 v10 v11 v12 v13 v14 v16 ss x1 ho1) (cwV 1 hts gX6_shoreOf_X6_isTowel rfl rfl rfl (by decide +kernel) ⟨(Nat.le_of_ble_eq_true rfl), (Nat.le_of_ble_eq_true rfl)⟩) [0, 1] rfl 0 10 rfl rfl rfl rfl rfl rfl hl.1 (Nat.le_of_ble_eq_true rfl) dX6_shoreOf_3 ⟨(Nat.zero_le _), (Nat.zero_le _)⟩ ?_
  obtain ⟨o2, ho2, h⟩ := bnd_i h
  refine gq_V (v := (fun as => (some (.int o2.1)))) (As := [.int o1]) (rest := []) (wc := [(m0, .inr (10, [.ref q0, .ref q1, .ref q2, .int v3, .ref q4, .int v5, .int v6, .ref q7, .int v8, .ref q9, .int v10, .int v11, .int v12, .int v13, .int v14, .ref q15, .int v16]))]) (wr := [(q0, .inl (cA 0, 60, .inl ss))]) (w1 := (fun as => [(m0, .inr (10, [.ref q0, .ref q1, .ref q2, .int v3, .ref q4, .int v5, .int o2.2, .ref q7, .int v8, .ref q9, .int v10, .int v11, .int v12, .int v13, .int v14, .ref q15, .int v16]))])) (ws2 := (fun as => [(m0, .inr (10, [.ref q0, .ref q1, .ref q2, .int v3, .ref q4, .int v5, .int o2.2, .ref q7, .int v8, .ref q9, .int v10, .int v11, .int v12, .int v13, .int v14, .ref q15, .int v16])), (q0, .inl (cA 0, 60, .inl ss))])) (st1 := (fun as => [.int o2.1])) ⟨hx, hb, hml, hfc, hts⟩ hK hP hD hS hA (kX6_isThere l D cA m0 q0 q1 q2 q4 q7 q9 q15 v3 v5 v6 v8 v10 v11 v12 v13 v14 v16 o1 ho2) (cwV 1 hts gX6_shoreOf_X6_isThere rfl rfl rfl (by decide +kernel) ⟨(Nat.le_of_ble_eq_true rfl), (Nat.le_of_ble_eq_true rfl)⟩) [0] [1] [1, 0] rfl rfl rfl rfl (by decide) (fun _ => rfl) rfl 0 10 rfl rfl rfl rfl (fun _ => rfl) rfl hl.1 (Nat.le_of_ble_eq_true rfl) dX6_shoreOf_6 ⟨(Nat.zero_le _), (Nat.zero_le _)⟩ (fun as H locs hP hD hS => ?_)
  have hP : va_P D vwCl [(m0, .inr (10, [.ref q0, .ref q1, .ref q2, .int v3, .ref q4, .int v5, .int o2.2, .ref q7, .int v8, .ref q9, .int v10, .int v11, .int v12, .int v13, .int v14, .ref q15, .int v16])), (q0, .inl (cA 0, 60, .inl ss))] H := hP
  have hD : va_D A [(m0, .inr (10, [.ref q0, .ref q1, .ref q2, .int v3, .ref q4, .int v5, .int o2.2, .ref q7, .int v8, .ref q9, .int v10, .int v11, .int v12, .int v13, .int v14, .ref q15, .int v16])), (q0, .inl (cA 0, 60, .inl ss))] := hD
  refine lv_if_eq (tgt := 21) hx hb dX6_shoreOf_9 (by decide) (fun c3 => ?_) (fun c3 => ?_)
  · have h := ite_t c3 h
    refine lv_iconst (v := 0) hx hb dX6_shoreOf_21 (by decide) ?_
    have h := Option.some.inj h
    subst h
    exact hend (adr []) _ _ _ _ _ _ _ rfl rfl (rtn_i _) hP hD hS dX6_shoreOf_22
  · have h := ite_f c3 h
    refine lv_aload_n hx hb dX6_shoreOf_12 rfl (lv_at hl 0 rfl) ?_
    refine lv_iload_n hx hb dX6_shoreOf_13 rfl (lv_at hl 1 rfl) ?_
    refine lv_iconst (v := 0) hx hb dX6_shoreOf_14 (by decide) ?_
    obtain ⟨o4, ho4, h⟩ := bnd_i h
    refine rq_V (v := (some (.int o4))) (As := [.int x1, .int 0]) (rest := []) (wc := [(m0, .inr (10, [.ref q0, .ref q1, .ref q2, .int v3, .ref q4, .int v5, .int o2.2, .ref q7, .int v8, .ref q9, .int v10, .int v11, .int v12, .int v13, .int v14, .ref q15, .int v16])), (q0, .inl (cA 0, 60, .inl ss))]) ⟨hx, hb, hml, hfc, hts⟩ hK hP (kX6_ofTowel l D cA m0 q0 q1 q2 q4 q7 q9 q15 v3 v5 o2.2 v8 v10 v11 v12 v13 v14 v16 ss x1 0 ho4) (cwV 2 hts gX6_shoreOf_X6_ofTowel rfl rfl rfl (by decide +kernel) ⟨(Nat.le_of_ble_eq_true rfl), (Nat.le_of_ble_eq_true rfl)⟩) [0, 1] rfl 0 10 rfl rfl rfl rfl rfl rfl hl.1 (Nat.le_of_ble_eq_true rfl) dX6_shoreOf_15 ⟨(Nat.zero_le _), (Nat.zero_le _)⟩ ?_
    refine lv_goto (tgt := 22) hx hb dX6_shoreOf_18 (by decide) ?_
    have h := Option.some.inj h
    subst h
    exact hend (adr []) _ _ _ _ _ _ _ rfl rfl (rtn_i _) hP hD hS dX6_shoreOf_22
noncomputable def SX6_heightOf (ss : Nat → Int32) (x1 : Int32) : Option (Int32 × Int32) := bnd (SX6_isTowel ss x1) (fun o1 : Int32 => bnd (SX6_isThere o1) (fun o2 : Int32 × Int32 => if o2.1 = 0 then (some ((0, o2.2))) else (bnd (SX6_ofTowel ss x1 1) (fun o4 : Int32 => some ((o4, o2.2))))))
abbrev RM_X6_heightOf : Room := { frames := 2, cells := 0, slots := 0, locals := 44 }
set_option maxHeartbeats 4000000 in
theorem kX6_heightOf (l : Launch) (D : va_G) (cA : Nat → ClassId) (m0 q0 q1 q2 q4 q7 q9 q15 : Nat) (v3 : Int32) (v5 : Int32) (v6 : Int32) (v8 : Int32) (v10 : Int32) (v11 : Int32) (v12 : Int32) (v13 : Int32) (v14 : Int32) (v16 : Int32) (ss : Nat → Int32) (x1 : Int32) {r : Int32 × Int32} (hr : SX6_heightOf ss x1 = some r) {sz : Nat} : Met l yX6_heightOf wsX6_heightOf RM_X6_heightOf (va_Pc [.ref m0, .int x1] (gqB D cA [(m0, .inr (10, [.ref q0, .ref q1, .ref q2, .int v3, .ref q4, .int v5, .int v6, .ref q7, .int v8, .ref q9, .int v10, .int v11, .int v12, .int v13, .int v14, .ref q15, .int v16])), (q0, .inl (cA 0, 60, .inl ss))] sz)) (gqQ D (fun as => (some (.int r.1))) (fun as => [(m0, .inr (10, [.ref q0, .ref q1, .ref q2, .int v3, .ref q4, .int v5, .int r.2, .ref q7, .int v8, .ref q9, .int v10, .int v11, .int v12, .int v13, .int v14, .ref q15, .int v16])), (q0, .inl (cA 0, 60, .inl ss))]) (va_A [(m0, .inr (10, [.ref q0, .ref q1, .ref q2, .int v3, .ref q4, .int v5, .int v6, .ref q7, .int v8, .ref q9, .int v10, .int v11, .int v12, .int v13, .int v14, .ref q15, .int v16])), (q0, .inl (cA 0, 60, .inl ss))] sz)) 0 0 (va_A [(m0, .inr (10, [.ref q0, .ref q1, .ref q2, .int v3, .ref q4, .int v5, .int v6, .ref q7, .int v8, .ref q9, .int v10, .int v11, .int v12, .int v13, .int v14, .ref q15, .int v16])), (q0, .inl (cA 0, 60, .inl ss))] sz) := by
  refine gq_ofW (cc := cX6_heightOf) (maxL := 2) (ret := (some .int)) (by decide) rfl (Nat.le_of_ble_eq_true rfl) (fun p e s m args below meth c ls Q A hx hb hml hts hfc hmn hK hP hD hS hA hl hend => ?_)
  have hfc : s.vm.findClass RX6 = some m.cls := hfc
  have hl : lv_has ls 2 [(0, .ref m0), (1, .int x1)] := hl
  have h := hr
  clear hr
  unfold SX6_heightOf at h
  refine lv_aload_n hx hb dX6_heightOf_0 rfl (lv_at hl 0 rfl) ?_
  refine lv_aload_n hx hb dX6_heightOf_1 rfl (lv_at hl 0 rfl) ?_
  refine lv_iload_n hx hb dX6_heightOf_2 rfl (lv_at hl 1 rfl) ?_
  obtain ⟨o1, ho1, h⟩ := bnd_i h
  refine rq_V (v := (some (.int o1))) (As := [.int x1]) (rest := [.ref m0]) (wc := [(m0, .inr (10, [.ref q0, .ref q1, .ref q2, .int v3, .ref q4, .int v5, .int v6, .ref q7, .int v8, .ref q9, .int v10, .int v11, .int v12, .int v13, .int v14, .ref q15, .int v16])), (q0, .inl (cA 0, 60, .inl ss))]) ⟨hx, hb, hml, hfc, hts⟩ hK hP (kX6_isTowel l D cA m0 q0 q1 q2 q4 q7 q9 q15 v3 v5 v6 v8 v10 v11 v12 v13 v14 v16 ss x1 ho1) (cwV 1 hts gX6_heightOf_X6_isTowel rfl rfl rfl (by decide +kernel) ⟨(Nat.le_of_ble_eq_true rfl), (Nat.le_of_ble_eq_true rfl)⟩) [0, 1] rfl 0 10 rfl rfl rfl rfl rfl rfl hl.1 (Nat.le_of_ble_eq_true rfl) dX6_heightOf_3 ⟨(Nat.zero_le _), (Nat.zero_le _)⟩ ?_
  obtain ⟨o2, ho2, h⟩ := bnd_i h
  refine gq_V (v := (fun as => (some (.int o2.1)))) (As := [.int o1]) (rest := []) (wc := [(m0, .inr (10, [.ref q0, .ref q1, .ref q2, .int v3, .ref q4, .int v5, .int v6, .ref q7, .int v8, .ref q9, .int v10, .int v11, .int v12, .int v13, .int v14, .ref q15, .int v16]))]) (wr := [(q0, .inl (cA 0, 60, .inl ss))]) (w1 := (fun as => [(m0, .inr (10, [.ref q0, .ref q1, .ref q2, .int v3, .ref q4, .int v5, .int o2.2, .ref q7, .int v8, .ref q9, .int v10, .int v11, .int v12, .int v13, .int v14, .ref q15, .int v16]))])) (ws2 := (fun as => [(m0, .inr (10, [.ref q0, .ref q1, .ref q2, .int v3, .ref q4, .int v5, .int o2.2, .ref q7, .int v8, .ref q9, .int v10, .int v11, .int v12, .int v13, .int v14, .ref q15, .int v16])), (q0, .inl (cA 0, 60, .inl ss))])) (st1 := (fun as => [.int o2.1])) ⟨hx, hb, hml, hfc, hts⟩ hK hP hD hS hA (kX6_isThere l D cA m0 q0 q1 q2 q4 q7 q9 q15 v3 v5 v6 v8 v10 v11 v12 v13 v14 v16 o1 ho2) (cwV 1 hts gX6_heightOf_X6_isThere rfl rfl rfl (by decide +kernel) ⟨(Nat.le_of_ble_eq_true rfl), (Nat.le_of_ble_eq_true rfl)⟩) [0] [1] [1, 0] rfl rfl rfl rfl (by decide) (fun _ => rfl) rfl 0 10 rfl rfl rfl rfl (fun _ => rfl) rfl hl.1 (Nat.le_of_ble_eq_true rfl) dX6_heightOf_6 ⟨(Nat.zero_le _), (Nat.zero_le _)⟩ (fun as H locs hP hD hS => ?_)
  have hP : va_P D vwCl [(m0, .inr (10, [.ref q0, .ref q1, .ref q2, .int v3, .ref q4, .int v5, .int o2.2, .ref q7, .int v8, .ref q9, .int v10, .int v11, .int v12, .int v13, .int v14, .ref q15, .int v16])), (q0, .inl (cA 0, 60, .inl ss))] H := hP
  have hD : va_D A [(m0, .inr (10, [.ref q0, .ref q1, .ref q2, .int v3, .ref q4, .int v5, .int o2.2, .ref q7, .int v8, .ref q9, .int v10, .int v11, .int v12, .int v13, .int v14, .ref q15, .int v16])), (q0, .inl (cA 0, 60, .inl ss))] := hD
  refine lv_if_eq (tgt := 21) hx hb dX6_heightOf_9 (by decide) (fun c3 => ?_) (fun c3 => ?_)
  · have h := ite_t c3 h
    refine lv_iconst (v := 0) hx hb dX6_heightOf_21 (by decide) ?_
    have h := Option.some.inj h
    subst h
    exact hend (adr []) _ _ _ _ _ _ _ rfl rfl (rtn_i _) hP hD hS dX6_heightOf_22
  · have h := ite_f c3 h
    refine lv_aload_n hx hb dX6_heightOf_12 rfl (lv_at hl 0 rfl) ?_
    refine lv_iload_n hx hb dX6_heightOf_13 rfl (lv_at hl 1 rfl) ?_
    refine lv_iconst (v := 1) hx hb dX6_heightOf_14 (by decide) ?_
    obtain ⟨o4, ho4, h⟩ := bnd_i h
    refine rq_V (v := (some (.int o4))) (As := [.int x1, .int 1]) (rest := []) (wc := [(m0, .inr (10, [.ref q0, .ref q1, .ref q2, .int v3, .ref q4, .int v5, .int o2.2, .ref q7, .int v8, .ref q9, .int v10, .int v11, .int v12, .int v13, .int v14, .ref q15, .int v16])), (q0, .inl (cA 0, 60, .inl ss))]) ⟨hx, hb, hml, hfc, hts⟩ hK hP (kX6_ofTowel l D cA m0 q0 q1 q2 q4 q7 q9 q15 v3 v5 o2.2 v8 v10 v11 v12 v13 v14 v16 ss x1 1 ho4) (cwV 2 hts gX6_heightOf_X6_ofTowel rfl rfl rfl (by decide +kernel) ⟨(Nat.le_of_ble_eq_true rfl), (Nat.le_of_ble_eq_true rfl)⟩) [0, 1] rfl 0 10 rfl rfl rfl rfl rfl rfl hl.1 (Nat.le_of_ble_eq_true rfl) dX6_heightOf_15 ⟨(Nat.zero_le _), (Nat.zero_le _)⟩ ?_
    refine lv_goto (tgt := 22) hx hb dX6_heightOf_18 (by decide) ?_
    have h := Option.some.inj h
    subst h
    exact hend (adr []) _ _ _ _ _ _ _ rfl rfl (rtn_i _) hP hD hS dX6_heightOf_22
noncomputable def SX6_absorbedBy (ss : Nat → Int32) (x1 : Int32) : Option (Int32 × Int32) := bnd (SX6_isTowel ss x1) (fun o1 : Int32 => bnd (SX6_isThere o1) (fun o2 : Int32 × Int32 => if o2.1 = 0 then (some ((0, o2.2))) else (bnd (SX6_ofTowel ss x1 2) (fun o4 : Int32 => some ((o4, o2.2))))))
abbrev RM_X6_absorbedBy : Room := { frames := 2, cells := 0, slots := 0, locals := 44 }
set_option maxHeartbeats 4000000 in
theorem kX6_absorbedBy (l : Launch) (D : va_G) (cA : Nat → ClassId) (m0 q0 q1 q2 q4 q7 q9 q15 : Nat) (v3 : Int32) (v5 : Int32) (v6 : Int32) (v8 : Int32) (v10 : Int32) (v11 : Int32) (v12 : Int32) (v13 : Int32) (v14 : Int32) (v16 : Int32) (ss : Nat → Int32) (x1 : Int32) {r : Int32 × Int32} (hr : SX6_absorbedBy ss x1 = some r) {sz : Nat} : Met l yX6_absorbedBy wsX6_absorbedBy RM_X6_absorbedBy (va_Pc [.ref m0, .int x1] (gqB D cA [(m0, .inr (10, [.ref q0, .ref q1, .ref q2, .int v3, .ref q4, .int v5, .int v6, .ref q7, .int v8, .ref q9, .int v10, .int v11, .int v12, .int v13, .int v14, .ref q15, .int v16])), (q0, .inl (cA 0, 60, .inl ss))] sz)) (gqQ D (fun as => (some (.int r.1))) (fun as => [(m0, .inr (10, [.ref q0, .ref q1, .ref q2, .int v3, .ref q4, .int v5, .int r.2, .ref q7, .int v8, .ref q9, .int v10, .int v11, .int v12, .int v13, .int v14, .ref q15, .int v16])), (q0, .inl (cA 0, 60, .inl ss))]) (va_A [(m0, .inr (10, [.ref q0, .ref q1, .ref q2, .int v3, .ref q4, .int v5, .int v6, .ref q7, .int v8, .ref q9, .int v10, .int v11, .int v12, .int v13, .int v14, .ref q15, .int v16])), (q0, .inl (cA 0, 60, .inl ss))] sz)) 0 0 (va_A [(m0, .inr (10, [.ref q0, .ref q1, .ref q2, .int v3, .ref q4, .int v5, .int v6, .ref q7, .int v8, .ref q9, .int v10, .int v11, .int v12, .int v13, .int v14, .ref q15, .int v16])), (q0, .inl (cA 0, 60, .inl ss))] sz) := by
  refine gq_ofW (cc := cX6_absorbedBy) (maxL := 2) (ret := (some .int)) (by decide) rfl (Nat.le_of_ble_eq_true rfl) (fun p e s m args below meth c ls Q A hx hb hml hts hfc hmn hK hP hD hS hA hl hend => ?_)
  have hfc : s.vm.findClass RX6 = some m.cls := hfc
  have hl : lv_has ls 2 [(0, .ref m0), (1, .int x1)] := hl
  have h := hr
  clear hr
  unfold SX6_absorbedBy at h
  refine lv_aload_n hx hb dX6_absorbedBy_0 rfl (lv_at hl 0 rfl) ?_
  refine lv_aload_n hx hb dX6_absorbedBy_1 rfl (lv_at hl 0 rfl) ?_
  refine lv_iload_n hx hb dX6_absorbedBy_2 rfl (lv_at hl 1 rfl) ?_
  obtain ⟨o1, ho1, h⟩ := bnd_i h
  refine rq_V (v := (some (.int o1))) (As := [.int x1]) (rest := [.ref m0]) (wc := [(m0, .inr (10, [.ref q0, .ref q1, .ref q2, .int v3, .ref q4, .int v5, .int v6, .ref q7, .int v8, .ref q9, .int v10, .int v11, .int v12, .int v13, .int v14, .ref q15, .int v16])), (q0, .inl (cA 0, 60, .inl ss))]) ⟨hx, hb, hml, hfc, hts⟩ hK hP (kX6_isTowel l D cA m0 q0 q1 q2 q4 q7 q9 q15 v3 v5 v6 v8 v10 v11 v12 v13 v14 v16 ss x1 ho1) (cwV 1 hts gX6_absorbedBy_X6_isTowel rfl rfl rfl (by decide +kernel) ⟨(Nat.le_of_ble_eq_true rfl), (Nat.le_of_ble_eq_true rfl)⟩) [0, 1] rfl 0 10 rfl rfl rfl rfl rfl rfl hl.1 (Nat.le_of_ble_eq_true rfl) dX6_absorbedBy_3 ⟨(Nat.zero_le _), (Nat.zero_le _)⟩ ?_
  obtain ⟨o2, ho2, h⟩ := bnd_i h
  refine gq_V (v := (fun as => (some (.int o2.1)))) (As := [.int o1]) (rest := []) (wc := [(m0, .inr (10, [.ref q0, .ref q1, .ref q2, .int v3, .ref q4, .int v5, .int v6, .ref q7, .int v8, .ref q9, .int v10, .int v11, .int v12, .int v13, .int v14, .ref q15, .int v16]))]) (wr := [(q0, .inl (cA 0, 60, .inl ss))]) (w1 := (fun as => [(m0, .inr (10, [.ref q0, .ref q1, .ref q2, .int v3, .ref q4, .int v5, .int o2.2, .ref q7, .int v8, .ref q9, .int v10, .int v11, .int v12, .int v13, .int v14, .ref q15, .int v16]))])) (ws2 := (fun as => [(m0, .inr (10, [.ref q0, .ref q1, .ref q2, .int v3, .ref q4, .int v5, .int o2.2, .ref q7, .int v8, .ref q9, .int v10, .int v11, .int v12, .int v13, .int v14, .ref q15, .int v16])), (q0, .inl (cA 0, 60, .inl ss))])) (st1 := (fun as => [.int o2.1])) ⟨hx, hb, hml, hfc, hts⟩ hK hP hD hS hA (kX6_isThere l D cA m0 q0 q1 q2 q4 q7 q9 q15 v3 v5 v6 v8 v10 v11 v12 v13 v14 v16 o1 ho2) (cwV 1 hts gX6_absorbedBy_X6_isThere rfl rfl rfl (by decide +kernel) ⟨(Nat.le_of_ble_eq_true rfl), (Nat.le_of_ble_eq_true rfl)⟩) [0] [1] [1, 0] rfl rfl rfl rfl (by decide) (fun _ => rfl) rfl 0 10 rfl rfl rfl rfl (fun _ => rfl) rfl hl.1 (Nat.le_of_ble_eq_true rfl) dX6_absorbedBy_6 ⟨(Nat.zero_le _), (Nat.zero_le _)⟩ (fun as H locs hP hD hS => ?_)
  have hP : va_P D vwCl [(m0, .inr (10, [.ref q0, .ref q1, .ref q2, .int v3, .ref q4, .int v5, .int o2.2, .ref q7, .int v8, .ref q9, .int v10, .int v11, .int v12, .int v13, .int v14, .ref q15, .int v16])), (q0, .inl (cA 0, 60, .inl ss))] H := hP
  have hD : va_D A [(m0, .inr (10, [.ref q0, .ref q1, .ref q2, .int v3, .ref q4, .int v5, .int o2.2, .ref q7, .int v8, .ref q9, .int v10, .int v11, .int v12, .int v13, .int v14, .ref q15, .int v16])), (q0, .inl (cA 0, 60, .inl ss))] := hD
  refine lv_if_eq (tgt := 21) hx hb dX6_absorbedBy_9 (by decide) (fun c3 => ?_) (fun c3 => ?_)
  · have h := ite_t c3 h
    refine lv_iconst (v := 0) hx hb dX6_absorbedBy_21 (by decide) ?_
    have h := Option.some.inj h
    subst h
    exact hend (adr []) _ _ _ _ _ _ _ rfl rfl (rtn_i _) hP hD hS dX6_absorbedBy_22
  · have h := ite_f c3 h
    refine lv_aload_n hx hb dX6_absorbedBy_12 rfl (lv_at hl 0 rfl) ?_
    refine lv_iload_n hx hb dX6_absorbedBy_13 rfl (lv_at hl 1 rfl) ?_
    refine lv_iconst (v := 2) hx hb dX6_absorbedBy_14 (by decide) ?_
    obtain ⟨o4, ho4, h⟩ := bnd_i h
    refine rq_V (v := (some (.int o4))) (As := [.int x1, .int 2]) (rest := []) (wc := [(m0, .inr (10, [.ref q0, .ref q1, .ref q2, .int v3, .ref q4, .int v5, .int o2.2, .ref q7, .int v8, .ref q9, .int v10, .int v11, .int v12, .int v13, .int v14, .ref q15, .int v16])), (q0, .inl (cA 0, 60, .inl ss))]) ⟨hx, hb, hml, hfc, hts⟩ hK hP (kX6_ofTowel l D cA m0 q0 q1 q2 q4 q7 q9 q15 v3 v5 o2.2 v8 v10 v11 v12 v13 v14 v16 ss x1 2 ho4) (cwV 2 hts gX6_absorbedBy_X6_ofTowel rfl rfl rfl (by decide +kernel) ⟨(Nat.le_of_ble_eq_true rfl), (Nat.le_of_ble_eq_true rfl)⟩) [0, 1] rfl 0 10 rfl rfl rfl rfl rfl rfl hl.1 (Nat.le_of_ble_eq_true rfl) dX6_absorbedBy_15 ⟨(Nat.zero_le _), (Nat.zero_le _)⟩ ?_
    refine lv_goto (tgt := 22) hx hb dX6_absorbedBy_18 (by decide) ?_
    have h := Option.some.inj h
    subst h
    exact hend (adr []) _ _ _ _ _ _ _ rfl rfl (rtn_i _) hP hD hS dX6_absorbedBy_22
noncomputable def SX6_floodsOf (ss : Nat → Int32) (x1 : Int32) : Option (Int32 × Int32) := bnd (SX6_isTowel ss x1) (fun o1 : Int32 => bnd (SX6_isThere o1) (fun o2 : Int32 × Int32 => if o2.1 = 0 then (some ((0, o2.2))) else (bnd (SX6_ofTowel ss x1 3) (fun o4 : Int32 => some ((o4, o2.2))))))
abbrev RM_X6_floodsOf : Room := { frames := 2, cells := 0, slots := 0, locals := 44 }
set_option maxHeartbeats 4000000 in
theorem kX6_floodsOf (l : Launch) (D : va_G) (cA : Nat → ClassId) (m0 q0 q1 q2 q4 q7 q9 q15 : Nat) (v3 : Int32) (v5 : Int32) (v6 : Int32) (v8 : Int32) (v10 : Int32) (v11 : Int32) (v12 : Int32) (v13 : Int32) (v14 : Int32) (v16 : Int32) (ss : Nat → Int32) (x1 : Int32) {r : Int32 × Int32} (hr : SX6_floodsOf ss x1 = some r) {sz : Nat} : Met l yX6_floodsOf wsX6_floodsOf RM_X6_floodsOf (va_Pc [.ref m0, .int x1] (gqB D cA [(m0, .inr (10, [.ref q0, .ref q1, .ref q2, .int v3, .ref q4, .int v5, .int v6, .ref q7, .int v8, .ref q9, .int v10, .int v11, .int v12, .int v13, .int v14, .ref q15, .int v16])), (q0, .inl (cA 0, 60, .inl ss))] sz)) (gqQ D (fun as => (some (.int r.1))) (fun as => [(m0, .inr (10, [.ref q0, .ref q1, .ref q2, .int v3, .ref q4, .int v5, .int r.2, .ref q7, .int v8, .ref q9, .int v10, .int v11, .int v12, .int v13, .int v14, .ref q15, .int v16])), (q0, .inl (cA 0, 60, .inl ss))]) (va_A [(m0, .inr (10, [.ref q0, .ref q1, .ref q2, .int v3, .ref q4, .int v5, .int v6, .ref q7, .int v8, .ref q9, .int v10, .int v11, .int v12, .int v13, .int v14, .ref q15, .int v16])), (q0, .inl (cA 0, 60, .inl ss))] sz)) 0 0 (va_A [(m0, .inr (10, [.ref q0, .ref q1, .ref q2, .int v3, .ref q4, .int v5, .int v6, .ref q7, .int v8, .ref q9, .int v10, .int v11, .int v12, .int v13, .int v14, .ref q15, .int v16])), (q0, .inl (cA 0, 60, .inl ss))] sz) := by
  refine gq_ofW (cc := cX6_floodsOf) (maxL := 2) (ret := (some .int)) (by decide) rfl (Nat.le_of_ble_eq_true rfl) (fun p e s m args below meth c ls Q A hx hb hml hts hfc hmn hK hP hD hS hA hl hend => ?_)
  have hfc : s.vm.findClass RX6 = some m.cls := hfc
  have hl : lv_has ls 2 [(0, .ref m0), (1, .int x1)] := hl
  have h := hr
  clear hr
  unfold SX6_floodsOf at h
  refine lv_aload_n hx hb dX6_floodsOf_0 rfl (lv_at hl 0 rfl) ?_
  refine lv_aload_n hx hb dX6_floodsOf_1 rfl (lv_at hl 0 rfl) ?_
  refine lv_iload_n hx hb dX6_floodsOf_2 rfl (lv_at hl 1 rfl) ?_
  obtain ⟨o1, ho1, h⟩ := bnd_i h
  refine rq_V (v := (some (.int o1))) (As := [.int x1]) (rest := [.ref m0]) (wc := [(m0, .inr (10, [.ref q0, .ref q1, .ref q2, .int v3, .ref q4, .int v5, .int v6, .ref q7, .int v8, .ref q9, .int v10, .int v11, .int v12, .int v13, .int v14, .ref q15, .int v16])), (q0, .inl (cA 0, 60, .inl ss))]) ⟨hx, hb, hml, hfc, hts⟩ hK hP (kX6_isTowel l D cA m0 q0 q1 q2 q4 q7 q9 q15 v3 v5 v6 v8 v10 v11 v12 v13 v14 v16 ss x1 ho1) (cwV 1 hts gX6_floodsOf_X6_isTowel rfl rfl rfl (by decide +kernel) ⟨(Nat.le_of_ble_eq_true rfl), (Nat.le_of_ble_eq_true rfl)⟩) [0, 1] rfl 0 10 rfl rfl rfl rfl rfl rfl hl.1 (Nat.le_of_ble_eq_true rfl) dX6_floodsOf_3 ⟨(Nat.zero_le _), (Nat.zero_le _)⟩ ?_
  obtain ⟨o2, ho2, h⟩ := bnd_i h
  refine gq_V (v := (fun as => (some (.int o2.1)))) (As := [.int o1]) (rest := []) (wc := [(m0, .inr (10, [.ref q0, .ref q1, .ref q2, .int v3, .ref q4, .int v5, .int v6, .ref q7, .int v8, .ref q9, .int v10, .int v11, .int v12, .int v13, .int v14, .ref q15, .int v16]))]) (wr := [(q0, .inl (cA 0, 60, .inl ss))]) (w1 := (fun as => [(m0, .inr (10, [.ref q0, .ref q1, .ref q2, .int v3, .ref q4, .int v5, .int o2.2, .ref q7, .int v8, .ref q9, .int v10, .int v11, .int v12, .int v13, .int v14, .ref q15, .int v16]))])) (ws2 := (fun as => [(m0, .inr (10, [.ref q0, .ref q1, .ref q2, .int v3, .ref q4, .int v5, .int o2.2, .ref q7, .int v8, .ref q9, .int v10, .int v11, .int v12, .int v13, .int v14, .ref q15, .int v16])), (q0, .inl (cA 0, 60, .inl ss))])) (st1 := (fun as => [.int o2.1])) ⟨hx, hb, hml, hfc, hts⟩ hK hP hD hS hA (kX6_isThere l D cA m0 q0 q1 q2 q4 q7 q9 q15 v3 v5 v6 v8 v10 v11 v12 v13 v14 v16 o1 ho2) (cwV 1 hts gX6_floodsOf_X6_isThere rfl rfl rfl (by decide +kernel) ⟨(Nat.le_of_ble_eq_true rfl), (Nat.le_of_ble_eq_true rfl)⟩) [0] [1] [1, 0] rfl rfl rfl rfl (by decide) (fun _ => rfl) rfl 0 10 rfl rfl rfl rfl (fun _ => rfl) rfl hl.1 (Nat.le_of_ble_eq_true rfl) dX6_floodsOf_6 ⟨(Nat.zero_le _), (Nat.zero_le _)⟩ (fun as H locs hP hD hS => ?_)
  have hP : va_P D vwCl [(m0, .inr (10, [.ref q0, .ref q1, .ref q2, .int v3, .ref q4, .int v5, .int o2.2, .ref q7, .int v8, .ref q9, .int v10, .int v11, .int v12, .int v13, .int v14, .ref q15, .int v16])), (q0, .inl (cA 0, 60, .inl ss))] H := hP
  have hD : va_D A [(m0, .inr (10, [.ref q0, .ref q1, .ref q2, .int v3, .ref q4, .int v5, .int o2.2, .ref q7, .int v8, .ref q9, .int v10, .int v11, .int v12, .int v13, .int v14, .ref q15, .int v16])), (q0, .inl (cA 0, 60, .inl ss))] := hD
  refine lv_if_eq (tgt := 21) hx hb dX6_floodsOf_9 (by decide) (fun c3 => ?_) (fun c3 => ?_)
  · have h := ite_t c3 h
    refine lv_iconst (v := 0) hx hb dX6_floodsOf_21 (by decide) ?_
    have h := Option.some.inj h
    subst h
    exact hend (adr []) _ _ _ _ _ _ _ rfl rfl (rtn_i _) hP hD hS dX6_floodsOf_22
  · have h := ite_f c3 h
    refine lv_aload_n hx hb dX6_floodsOf_12 rfl (lv_at hl 0 rfl) ?_
    refine lv_iload_n hx hb dX6_floodsOf_13 rfl (lv_at hl 1 rfl) ?_
    refine lv_iconst (v := 3) hx hb dX6_floodsOf_14 (by decide) ?_
    obtain ⟨o4, ho4, h⟩ := bnd_i h
    refine rq_V (v := (some (.int o4))) (As := [.int x1, .int 3]) (rest := []) (wc := [(m0, .inr (10, [.ref q0, .ref q1, .ref q2, .int v3, .ref q4, .int v5, .int o2.2, .ref q7, .int v8, .ref q9, .int v10, .int v11, .int v12, .int v13, .int v14, .ref q15, .int v16])), (q0, .inl (cA 0, 60, .inl ss))]) ⟨hx, hb, hml, hfc, hts⟩ hK hP (kX6_ofTowel l D cA m0 q0 q1 q2 q4 q7 q9 q15 v3 v5 o2.2 v8 v10 v11 v12 v13 v14 v16 ss x1 3 ho4) (cwV 2 hts gX6_floodsOf_X6_ofTowel rfl rfl rfl (by decide +kernel) ⟨(Nat.le_of_ble_eq_true rfl), (Nat.le_of_ble_eq_true rfl)⟩) [0, 1] rfl 0 10 rfl rfl rfl rfl rfl rfl hl.1 (Nat.le_of_ble_eq_true rfl) dX6_floodsOf_15 ⟨(Nat.zero_le _), (Nat.zero_le _)⟩ ?_
    refine lv_goto (tgt := 22) hx hb dX6_floodsOf_18 (by decide) ?_
    have h := Option.some.inj h
    subst h
    exact hend (adr []) _ _ _ _ _ _ _ rfl rfl (rtn_i _) hP hD hS dX6_floodsOf_22
noncomputable def SX6_doSetFlow (v6 : Int32) (ss : Nat → Int32) (x1 : Int32) : Int32 × (Nat → Int32) × Int32 := if (SX6_in x1 (-3) 3) = 0 then (lt_ (SX6_fails 1) (fun o2 : Int32 × Int32 => (o2.1, ss, o2.2))) else ((ss 4, upd ss 4 x1, v6))
theorem iX6_doSetFlow_X6 : ∀ w ∈ wsX60, w ∈ wsX6_doSetFlow := fun _ h => List.mem_cons_of_mem _ (List.mem_append_left _ (List.mem_append_right _ h))
abbrev RM_X6_doSetFlow : Room := { frames := 1, cells := 0, slots := 0, locals := 22 }
set_option maxHeartbeats 4000000 in
theorem kX6_doSetFlow (l : Launch) (D : va_G) (cA : Nat → ClassId) (m0 q0 q1 q2 q4 q7 q9 q15 : Nat) (v3 : Int32) (v5 : Int32) (v6 : Int32) (v8 : Int32) (v10 : Int32) (v11 : Int32) (v12 : Int32) (v13 : Int32) (v14 : Int32) (v16 : Int32) (ss : Nat → Int32) (x1 : Int32) {r : Int32 × (Nat → Int32) × Int32} (hr : SX6_doSetFlow v6 ss x1 = r) {sz : Nat} : Met l yX6_doSetFlow wsX6_doSetFlow RM_X6_doSetFlow (va_Pc [.ref m0, .int x1] (gqB D cA [(m0, .inr (10, [.ref q0, .ref q1, .ref q2, .int v3, .ref q4, .int v5, .int v6, .ref q7, .int v8, .ref q9, .int v10, .int v11, .int v12, .int v13, .int v14, .ref q15, .int v16])), (q0, .inl (cA 0, 60, .inl ss))] sz)) (gqQ D (fun as => (some (.int r.1))) (fun as => [(m0, .inr (10, [.ref q0, .ref q1, .ref q2, .int v3, .ref q4, .int v5, .int r.2.2, .ref q7, .int v8, .ref q9, .int v10, .int v11, .int v12, .int v13, .int v14, .ref q15, .int v16])), (q0, .inl (cA 0, 60, .inl r.2.1))]) (va_A [(m0, .inr (10, [.ref q0, .ref q1, .ref q2, .int v3, .ref q4, .int v5, .int v6, .ref q7, .int v8, .ref q9, .int v10, .int v11, .int v12, .int v13, .int v14, .ref q15, .int v16])), (q0, .inl (cA 0, 60, .inl ss))] sz)) 0 0 (va_A [(m0, .inr (10, [.ref q0, .ref q1, .ref q2, .int v3, .ref q4, .int v5, .int v6, .ref q7, .int v8, .ref q9, .int v10, .int v11, .int v12, .int v13, .int v14, .ref q15, .int v16])), (q0, .inl (cA 0, 60, .inl ss))] sz) := by
  refine gq_ofW (cc := cX6_doSetFlow) (maxL := 3) (ret := (some .int)) (by decide) rfl (Nat.le_of_ble_eq_true rfl) (fun p e s m args below meth c ls Q A hx hb hml hts hfc hmn hK hP hD hS hA hl hend => ?_)
  have hfc : s.vm.findClass RX6 = some m.cls := hfc
  have hl : lv_has ls 3 [(0, .ref m0), (1, .int x1)] := hl
  have h := hr
  clear hr
  unfold SX6_doSetFlow at h
  refine lv_aload_n hx hb dX6_doSetFlow_0 rfl (lv_at hl 0 rfl) ?_
  refine va_get (D := D) (ci := 10) (v := .ref q0) (C := RX6) (T := TX6) (N := 17) hx hb hts iX6_doSetFlow_X6 hfc hK hP 0 rfl rfl 0 (by decide) (hts (.fieldLink RX6 9 "BathtubTidesModel" "s" "[I") (List.mem_of_getElem? (i := 1) rfl)) (fun _ h9 => h9) rfl dX6_doSetFlow_1 ?_
  refine lv_iconst (v := 4) hx hb dX6_doSetFlow_4 (by decide) ?_
  refine va_iald hx hb hK hP 1 0 rfl rfl (vin _ _ (by decide)) dX6_doSetFlow_5 ?_
  refine lv_istore_n hx hb dX6_doSetFlow_6 rfl hl (Nat.le_of_ble_eq_true rfl) rfl (fun ls hl => ?_)
  have hl : lv_has ls 3 [(2, .int (ss 4)), (0, .ref m0), (1, .int x1)] := hl
  refine lv_iload_n hx hb dX6_doSetFlow_7 rfl (lv_at hl 2 rfl) ?_
  refine lv_bipush (v := (-3)) hx hb dX6_doSetFlow_8 (by decide) ?_
  refine lv_iconst (v := 3) hx hb dX6_doSetFlow_10 (by decide) ?_
  refine rq_S (v := (some (.int (SX6_in x1 (-3) 3)))) (As := [.int x1, .int (-3), .int 3]) (rest := []) (wc := []) ⟨hx, hb, hml, hfc, hts⟩ hK hP (kX6_in l D cA x1 (-3) 3 rfl) (va_cwS 3 hts gX6_doSetFlow_X6_in rfl rfl rfl (by decide +kernel) ⟨(Nat.le_of_ble_eq_true rfl), (Nat.le_of_ble_eq_true rfl)⟩) [] rfl rfl rfl rfl hl.1 (Nat.le_of_ble_eq_true rfl) dX6_doSetFlow_11 ⟨(Nat.zero_le _), (Nat.zero_le _)⟩ ?_
  refine lv_if_ne (tgt := 23) hx hb dX6_doSetFlow_14 (by decide) (fun c1 => ?_) (fun c1 => ?_)
  · have h := ite_f c1 h
    refine lv_aload_n hx hb dX6_doSetFlow_23 rfl (lv_at hl 1 rfl) ?_
    refine va_get (D := D) (ci := 10) (v := .ref q0) (C := RX6) (T := TX6) (N := 17) hx hb hts iX6_doSetFlow_X6 hfc hK hP 0 rfl rfl 0 (by decide) (hts (.fieldLink RX6 9 "BathtubTidesModel" "s" "[I") (List.mem_of_getElem? (i := 1) rfl)) (fun _ h9 => h9) rfl dX6_doSetFlow_24 ?_
    refine lv_iconst (v := 4) hx hb dX6_doSetFlow_27 (by decide) ?_
    refine lv_iload_n hx hb dX6_doSetFlow_28 rfl (lv_at hl 2 rfl) ?_
    refine va_iast hx hb hK hP hD hS 1 0 rfl rfl (vin _ _ (by decide)) dX6_doSetFlow_29 (fun H locs hP hD hS => ?_)
    have hP : va_P D vwCl [(m0, .inr (10, [.ref q0, .ref q1, .ref q2, .int v3, .ref q4, .int v5, .int v6, .ref q7, .int v8, .ref q9, .int v10, .int v11, .int v12, .int v13, .int v14, .ref q15, .int v16])), (q0, .inl (cA 0, 60, .inl (upd ss 4 x1)))] H := hP
    have hD : va_D A [(m0, .inr (10, [.ref q0, .ref q1, .ref q2, .int v3, .ref q4, .int v5, .int v6, .ref q7, .int v8, .ref q9, .int v10, .int v11, .int v12, .int v13, .int v14, .ref q15, .int v16])), (q0, .inl (cA 0, 60, .inl (upd ss 4 x1)))] := hD
    refine lv_iload_n hx hb dX6_doSetFlow_30 rfl (lv_at hl 0 rfl) ?_
    subst h
    exact hend (adr []) _ _ _ _ _ _ _ rfl rfl (rtn_i _) hP hD hS dX6_doSetFlow_31
  · have h := ite_t c1 h
    refine lv_aload_n hx hb dX6_doSetFlow_17 rfl (lv_at hl 1 rfl) ?_
    refine lv_iconst (v := 1) hx hb dX6_doSetFlow_18 (by decide) ?_
    obtain ⟨o2, ho2, h⟩ := lt_i h
    refine gq_V (v := (fun as => (some (.int o2.1)))) (As := [.int 1]) (rest := []) (wc := [(m0, .inr (10, [.ref q0, .ref q1, .ref q2, .int v3, .ref q4, .int v5, .int v6, .ref q7, .int v8, .ref q9, .int v10, .int v11, .int v12, .int v13, .int v14, .ref q15, .int v16]))]) (wr := [(q0, .inl (cA 0, 60, .inl ss))]) (w1 := (fun as => [(m0, .inr (10, [.ref q0, .ref q1, .ref q2, .int v3, .ref q4, .int v5, .int o2.2, .ref q7, .int v8, .ref q9, .int v10, .int v11, .int v12, .int v13, .int v14, .ref q15, .int v16]))])) (ws2 := (fun as => [(m0, .inr (10, [.ref q0, .ref q1, .ref q2, .int v3, .ref q4, .int v5, .int o2.2, .ref q7, .int v8, .ref q9, .int v10, .int v11, .int v12, .int v13, .int v14, .ref q15, .int v16])), (q0, .inl (cA 0, 60, .inl ss))])) (st1 := (fun as => [.int o2.1])) ⟨hx, hb, hml, hfc, hts⟩ hK hP hD hS hA (kX6_fails l D cA m0 q0 q1 q2 q4 q7 q9 q15 v3 v5 v6 v8 v10 v11 v12 v13 v14 v16 1 ho2) (cwV 1 hts gX6_doSetFlow_X6_fails rfl rfl rfl (by decide +kernel) ⟨(Nat.le_of_ble_eq_true rfl), (Nat.le_of_ble_eq_true rfl)⟩) [0] [1] [1, 0] rfl rfl rfl rfl (by decide) (fun _ => rfl) rfl 0 10 rfl rfl rfl rfl (fun _ => rfl) rfl hl.1 (Nat.le_of_ble_eq_true rfl) dX6_doSetFlow_19 ⟨(Nat.zero_le _), (Nat.zero_le _)⟩ (fun as H locs hP hD hS => ?_)
    have hP : va_P D vwCl [(m0, .inr (10, [.ref q0, .ref q1, .ref q2, .int v3, .ref q4, .int v5, .int o2.2, .ref q7, .int v8, .ref q9, .int v10, .int v11, .int v12, .int v13, .int v14, .ref q15, .int v16])), (q0, .inl (cA 0, 60, .inl ss))] H := hP
    have hD : va_D A [(m0, .inr (10, [.ref q0, .ref q1, .ref q2, .int v3, .ref q4, .int v5, .int o2.2, .ref q7, .int v8, .ref q9, .int v10, .int v11, .int v12, .int v13, .int v14, .ref q15, .int v16])), (q0, .inl (cA 0, 60, .inl ss))] := hD
    subst h
    exact hend (adr []) _ _ _ _ _ _ _ rfl rfl (rtn_i _) hP hD hS dX6_doSetFlow_22
noncomputable def LX6_minute_58 (N : Nat) : Nat → (Nat → Int32) → Int32 → Int32 → Option (Int32 × (Nat → Int32))
  | 0, _, _, _ => none
  | fu + 1, f1_58, x1_58, x2_58 => if (f1_58 1) ≤ x2_58 then (some ((x1_58, f1_58))) else (gd (vp_in (44 + (4 * x2_58)) 60) (bnd (SX6_level N f1_58 (f1_58 (Int32.toNatClampNeg (44 + (4 * x2_58))))) (fun o6 : Int32 => gd (vp_in ((44 + (4 * x2_58)) + 1) 60) (bnd (if o6 ≤ (f1_58 (Int32.toNatClampNeg ((44 + (4 * x2_58)) + 1))) then (some ((x1_58, f1_58))) else (gd (vp_in ((44 + (4 * x2_58)) + 2) 60) (if 5 ≤ (f1_58 (Int32.toNatClampNeg ((44 + (4 * x2_58)) + 2))) then (some ((x1_58, f1_58))) else (if (f1_58 3) ≤ 0 then (some ((x1_58, f1_58))) else (gd (vp_in ((44 + (4 * x2_58)) + 2) 60) (lt_ ((f1_58 (Int32.toNatClampNeg ((44 + (4 * x2_58)) + 2))) + 1) (fun t14 : Int32 => gd (vp_in ((44 + (4 * x2_58)) + 2) 60) (gd (vp_in ((44 + (4 * x2_58)) + 3) 60) (lt_ (((upd f1_58 (Int32.toNatClampNeg ((44 + (4 * x2_58)) + 2)) t14) (Int32.toNatClampNeg ((44 + (4 * x2_58)) + 3))) + 1) (fun t17 : Int32 => gd (vp_in ((44 + (4 * x2_58)) + 3) 60) (lt_ (((upd (upd f1_58 (Int32.toNatClampNeg ((44 + (4 * x2_58)) + 2)) t14) (Int32.toNatClampNeg ((44 + (4 * x2_58)) + 3)) t17) 3) - 1) (fun t19 : Int32 => some ((x1_58 + 1, upd (upd (upd f1_58 (Int32.toNatClampNeg ((44 + (4 * x2_58)) + 2)) t14) (Int32.toNatClampNeg ((44 + (4 * x2_58)) + 3)) t17) 3 t19)))))))))))))) (fun o9 : Int32 × (Nat → Int32) => LX6_minute_58 N fu o9.2 o9.1 (x2_58 + 1))))))
noncomputable def SX6_minute (N : Nat) (ss : Nat → Int32) : Option (Int32 × (Nat → Int32)) := lt_ (if (irm ((upd ss 2 ((ss 2) + 1)) 2) 12) = 0 then ((upd ss 2 ((ss 2) + 1)) 4) else (0)) (fun o2 : Int32 => lt_ (imax 0 (imin 40 (((upd ss 2 ((ss 2) + 1)) 3) + o2))) (fun t3 : Int32 => LX6_minute_58 N N (upd (upd ss 2 ((ss 2) + 1)) 3 t3) 0 0))
theorem iX6_minute_X6 : ∀ w ∈ wsX60, w ∈ wsX6_minute := fun _ h => List.mem_cons_of_mem _ (List.mem_append_left _ (List.mem_append_left _ (List.mem_append_right _ h)))
abbrev RM_X6_minute : Room := { frames := 6, cells := 0, slots := 0, locals := 139 }
set_option maxHeartbeats 4000000 in
theorem kX6_minute (l : Launch) (D : va_G) (cA : Nat → ClassId) (m0 q0 q1 q2 q4 q7 q9 q15 : Nat) (N : Nat) (v3 : Int32) (v5 : Int32) (v6 : Int32) (v8 : Int32) (v10 : Int32) (v11 : Int32) (v12 : Int32) (v13 : Int32) (v14 : Int32) (v16 : Int32) (ss : Nat → Int32) {r : Int32 × (Nat → Int32)} (hr : SX6_minute N ss = some r) {sz : Nat} : Met l yX6_minute wsX6_minute RM_X6_minute (va_Pc [.ref m0] (gqB D cA [(m0, .inr (10, [.ref q0, .ref q1, .ref q2, .int v3, .ref q4, .int v5, .int v6, .ref q7, .int v8, .ref q9, .int v10, .int v11, .int v12, .int v13, .int v14, .ref q15, .int v16])), (q0, .inl (cA 0, 60, .inl ss))] sz)) (gqQ D (fun as => (some (.int r.1))) (fun as => [(m0, .inr (10, [.ref q0, .ref q1, .ref q2, .int v3, .ref q4, .int v5, .int v6, .ref q7, .int v8, .ref q9, .int v10, .int v11, .int v12, .int v13, .int v14, .ref q15, .int v16])), (q0, .inl (cA 0, 60, .inl r.2))]) (va_A [(m0, .inr (10, [.ref q0, .ref q1, .ref q2, .int v3, .ref q4, .int v5, .int v6, .ref q7, .int v8, .ref q9, .int v10, .int v11, .int v12, .int v13, .int v14, .ref q15, .int v16])), (q0, .inl (cA 0, 60, .inl ss))] sz)) 0 0 (va_A [(m0, .inr (10, [.ref q0, .ref q1, .ref q2, .int v3, .ref q4, .int v5, .int v6, .ref q7, .int v8, .ref q9, .int v10, .int v11, .int v12, .int v13, .int v14, .ref q15, .int v16])), (q0, .inl (cA 0, 60, .inl ss))] sz) := by
  refine gq_ofW (cc := cX6_minute) (maxL := 4) (ret := (some .int)) (by decide) rfl (Nat.le_of_ble_eq_true rfl) (fun p e s m args below meth c ls Q A hx hb hml hts hfc hmn hK hP hD hS hA hl hend => ?_)
  have hfc : s.vm.findClass RX6 = some m.cls := hfc
  have hl : lv_has ls 4 [(0, .ref m0)] := hl
  have h := hr
  clear hr
  unfold SX6_minute at h
  refine lv_iconst (v := 0) hx hb dX6_minute_0 (by decide) ?_
  refine lv_istore_n hx hb dX6_minute_1 rfl hl (Nat.le_of_ble_eq_true rfl) rfl (fun ls hl => ?_)
  have hl : lv_has ls 4 [(1, .int 0), (0, .ref m0)] := hl
  refine lv_aload_n hx hb dX6_minute_2 rfl (lv_at hl 1 rfl) ?_
  refine va_get (D := D) (ci := 10) (v := .ref q0) (C := RX6) (T := TX6) (N := 17) hx hb hts iX6_minute_X6 hfc hK hP 0 rfl rfl 0 (by decide) (hts (.fieldLink RX6 9 "BathtubTidesModel" "s" "[I") (List.mem_of_getElem? (i := 1) rfl)) (fun _ h9 => h9) rfl dX6_minute_3 ?_
  refine lv_iconst (v := 2) hx hb dX6_minute_6 (by decide) ?_
  refine lv_dup2_11 hx hb dX6_minute_7 rfl rfl ?_
  refine va_iald hx hb hK hP 1 0 rfl rfl (vin _ _ (by decide)) dX6_minute_8 ?_
  refine lv_iconst (v := 1) hx hb dX6_minute_9 (by decide) ?_
  refine lv_iadd hx hb dX6_minute_10 ?_
  refine va_iast hx hb hK hP hD hS 1 0 rfl rfl (vin _ _ (by decide)) dX6_minute_11 (fun H locs hP hD hS => ?_)
  have hP : va_P D vwCl [(m0, .inr (10, [.ref q0, .ref q1, .ref q2, .int v3, .ref q4, .int v5, .int v6, .ref q7, .int v8, .ref q9, .int v10, .int v11, .int v12, .int v13, .int v14, .ref q15, .int v16])), (q0, .inl (cA 0, 60, .inl (upd ss 2 ((ss 2) + 1))))] H := hP
  have hD : va_D A [(m0, .inr (10, [.ref q0, .ref q1, .ref q2, .int v3, .ref q4, .int v5, .int v6, .ref q7, .int v8, .ref q9, .int v10, .int v11, .int v12, .int v13, .int v14, .ref q15, .int v16])), (q0, .inl (cA 0, 60, .inl (upd ss 2 ((ss 2) + 1))))] := hD
  refine lv_aload_n hx hb dX6_minute_12 rfl (lv_at hl 1 rfl) ?_
  refine va_get (D := D) (ci := 10) (v := .ref q0) (C := RX6) (T := TX6) (N := 17) hx hb hts iX6_minute_X6 hfc hK hP 0 rfl rfl 0 (by decide) (hts (.fieldLink RX6 9 "BathtubTidesModel" "s" "[I") (List.mem_of_getElem? (i := 1) rfl)) (fun _ h9 => h9) rfl dX6_minute_13 ?_
  refine lv_iconst (v := 3) hx hb dX6_minute_16 (by decide) ?_
  refine lv_iconst (v := 0) hx hb dX6_minute_17 (by decide) ?_
  refine lv_bipush (v := 40) hx hb dX6_minute_18 (by decide) ?_
  refine lv_aload_n hx hb dX6_minute_20 rfl (lv_at hl 1 rfl) ?_
  refine va_get (D := D) (ci := 10) (v := .ref q0) (C := RX6) (T := TX6) (N := 17) hx hb hts iX6_minute_X6 hfc hK hP 0 rfl rfl 0 (by decide) (hts (.fieldLink RX6 9 "BathtubTidesModel" "s" "[I") (List.mem_of_getElem? (i := 1) rfl)) (fun _ h9 => h9) rfl dX6_minute_21 ?_
  refine lv_iconst (v := 3) hx hb dX6_minute_24 (by decide) ?_
  refine va_iald hx hb hK hP 1 0 rfl rfl (vin _ _ (by decide)) dX6_minute_25 ?_
  refine lv_aload_n hx hb dX6_minute_26 rfl (lv_at hl 1 rfl) ?_
  refine va_get (D := D) (ci := 10) (v := .ref q0) (C := RX6) (T := TX6) (N := 17) hx hb hts iX6_minute_X6 hfc hK hP 0 rfl rfl 0 (by decide) (hts (.fieldLink RX6 9 "BathtubTidesModel" "s" "[I") (List.mem_of_getElem? (i := 1) rfl)) (fun _ h9 => h9) rfl dX6_minute_27 ?_
  refine lv_iconst (v := 2) hx hb dX6_minute_30 (by decide) ?_
  refine va_iald hx hb hK hP 1 0 rfl rfl (vin _ _ (by decide)) dX6_minute_31 ?_
  refine lv_bipush (v := 12) hx hb dX6_minute_32 (by decide) ?_
  refine lv_irem hx hb dX6_minute_34 (by decide) ?_
  obtain ⟨o2, ho2, h⟩ := lt_i h
  have ko2 : ∀ (ls : Array Slot) (H : Heap) (locs : List Loc), lv_has ls 4 [(0, .ref m0), (1, .int 0)] → va_P D vwCl [(m0, .inr (10, [.ref q0, .ref q1, .ref q2, .int v3, .ref q4, .int v5, .int v6, .ref q7, .int v8, .ref q9, .int v10, .int v11, .int v12, .int v13, .int v14, .ref q15, .int v16])), (q0, .inl (cA 0, 60, .inl (upd ss 2 ((ss 2) + 1))))] H → va_D A [(m0, .inr (10, [.ref q0, .ref q1, .ref q2, .int v3, .ref q4, .int v5, .int v6, .ref q7, .int v8, .ref q9, .int v10, .int v11, .int v12, .int v13, .int v14, .ref q15, .int v16])), (q0, .inl (cA 0, 60, .inl (upd ss 2 ((ss 2) + 1))))] → va_S A s.heap H locs → W p l e RM_X6_minute s m args below meth c H locs 0 0 Q (F0 m 48 ls [.int o2, .int ((upd ss 2 ((ss 2) + 1)) 3), .int 40, .int 0, .int 3, .ref q0]) := by
    intro ls H locs hl hP hD hS
    refine lv_iadd hx hb dX6_minute_48 ?_
    refine va_mmin hx hb (hml.trans hl.1.symm) hfc (hts (.methodLink RX6 74 Lib.Math.min.name) (List.mem_of_getElem? (i := 2) rfl)) (hts (.static Lib.Math.min.name) (List.mem_of_getElem? (i := 3) rfl)) (hts (.initialized "java/lang/Math") (List.mem_of_getElem? (i := 4) rfl)) (hts (.code Lib.Math.min.name Lib.Math.min.code 2 (some .int)) (List.mem_of_getElem? (i := 5) rfl)) (Nat.le_of_ble_eq_true rfl) (Nat.le_of_ble_eq_true rfl) (Nat.zero_le _) (Nat.zero_le _) dX6_minute_49 ?_
    refine va_mmax hx hb (hml.trans hl.1.symm) hfc (hts (.methodLink RX6 62 Lib.Math.max.name) (List.mem_of_getElem? (i := 6) rfl)) (hts (.static Lib.Math.max.name) (List.mem_of_getElem? (i := 7) rfl)) (hts (.initialized "java/lang/Math") (List.mem_of_getElem? (i := 4) rfl)) (hts (.code Lib.Math.max.name Lib.Math.max.code 2 (some .int)) (List.mem_of_getElem? (i := 8) rfl)) (Nat.le_of_ble_eq_true rfl) (Nat.le_of_ble_eq_true rfl) (Nat.zero_le _) (Nat.zero_le _) dX6_minute_52 ?_
    refine lv_topi (fun t3 et3 => ?_)
    have h := lt_e h _ et3
    refine va_iast hx hb hK hP hD hS 1 0 rfl rfl (vin _ _ (by decide)) dX6_minute_55 (fun H locs hP hD hS => ?_)
    have hP : va_P D vwCl [(m0, .inr (10, [.ref q0, .ref q1, .ref q2, .int v3, .ref q4, .int v5, .int v6, .ref q7, .int v8, .ref q9, .int v10, .int v11, .int v12, .int v13, .int v14, .ref q15, .int v16])), (q0, .inl (cA 0, 60, .inl (upd (upd ss 2 ((ss 2) + 1)) 3 t3)))] H := hP
    have hD : va_D A [(m0, .inr (10, [.ref q0, .ref q1, .ref q2, .int v3, .ref q4, .int v5, .int v6, .ref q7, .int v8, .ref q9, .int v10, .int v11, .int v12, .int v13, .int v14, .ref q15, .int v16])), (q0, .inl (cA 0, 60, .inl (upd (upd ss 2 ((ss 2) + 1)) 3 t3)))] := hD
    refine lv_iconst (v := 0) hx hb dX6_minute_56 (by decide) ?_
    refine lv_istore_n hx hb dX6_minute_57 rfl hl (Nat.le_of_ble_eq_true rfl) rfl (fun ls hl => ?_)
    have hl : lv_has ls 4 [(2, .int 0), (0, .ref m0), (1, .int 0)] := hl
    have hLX6_minute_58 : ∀ (fu : Nat) (f1_58 : Nat → Int32) (x1_58 : Int32) (x2_58 : Int32) (ls : Array Slot) (H : Heap) (locs : List Loc), lv_has ls 4 [(0, .ref m0), (1, .int x1_58), (2, .int x2_58)] → va_P D vwCl [(m0, .inr (10, [.ref q0, .ref q1, .ref q2, .int v3, .ref q4, .int v5, .int v6, .ref q7, .int v8, .ref q9, .int v10, .int v11, .int v12, .int v13, .int v14, .ref q15, .int v16])), (q0, .inl (cA 0, 60, .inl f1_58))] H → va_D A [(m0, .inr (10, [.ref q0, .ref q1, .ref q2, .int v3, .ref q4, .int v5, .int v6, .ref q7, .int v8, .ref q9, .int v10, .int v11, .int v12, .int v13, .int v14, .ref q15, .int v16])), (q0, .inl (cA 0, 60, .inl f1_58))] → va_S A s.heap H locs → LX6_minute_58 N fu f1_58 x1_58 x2_58 = some r → W p l e RM_X6_minute s m args below meth c H locs 0 0 Q (F0 m 58 ls []) := by
      intro fu
      induction fu with
      | zero =>
        intro f1_58 x1_58 x2_58 ls H locs hl hP hD hS h
        rw [LX6_minute_58] at h
        exact nn h
      | succ fu ih =>
        intro f1_58 x1_58 x2_58 ls H locs hl hP hD hS h
        rw [LX6_minute_58] at h
        refine lv_iload_n hx hb dX6_minute_58 rfl (lv_at hl 2 rfl) ?_
        refine lv_aload_n hx hb dX6_minute_59 rfl (lv_at hl 0 rfl) ?_
        refine va_get (D := D) (ci := 10) (v := .ref q0) (C := RX6) (T := TX6) (N := 17) hx hb hts iX6_minute_X6 hfc hK hP 0 rfl rfl 0 (by decide) (hts (.fieldLink RX6 9 "BathtubTidesModel" "s" "[I") (List.mem_of_getElem? (i := 1) rfl)) (fun _ h9 => h9) rfl dX6_minute_60 ?_
        refine lv_iconst (v := 1) hx hb dX6_minute_63 (by decide) ?_
        refine va_iald hx hb hK hP 1 0 rfl rfl (vin _ _ (by decide)) dX6_minute_64 ?_
        refine lv_icmp_ge (tgt := 160) hx hb dX6_minute_65 (by decide) (fun c4 => ?_) (fun c4 => ?_)
        · have h := ite_t c4 h
          refine lv_iload_n hx hb dX6_minute_160 rfl (lv_at hl 1 rfl) ?_
          have h := Option.some.inj h
          subst h
          exact hend (adr []) _ _ _ _ _ _ _ rfl rfl (rtn_i _) hP hD hS dX6_minute_161
        · have h := ite_f c4 h
          refine lv_bipush (v := 44) hx hb dX6_minute_68 (by decide) ?_
          refine lv_iconst (v := 4) hx hb dX6_minute_70 (by decide) ?_
          refine lv_iload_n hx hb dX6_minute_71 rfl (lv_at hl 2 rfl) ?_
          refine lv_imul hx hb dX6_minute_72 ?_
          refine lv_iadd hx hb dX6_minute_73 ?_
          refine lv_istore_n hx hb dX6_minute_74 rfl hl (Nat.le_of_ble_eq_true rfl) rfl (fun ls hl => ?_)
          have hl : lv_has ls 4 [(3, .int (44 + (4 * x2_58))), (0, .ref m0), (1, .int x1_58), (2, .int x2_58)] := hl
          refine lv_aload_n hx hb dX6_minute_75 rfl (lv_at hl 1 rfl) ?_
          refine lv_aload_n hx hb dX6_minute_76 rfl (lv_at hl 1 rfl) ?_
          refine va_get (D := D) (ci := 10) (v := .ref q0) (C := RX6) (T := TX6) (N := 17) hx hb hts iX6_minute_X6 hfc hK hP 0 rfl rfl 0 (by decide) (hts (.fieldLink RX6 9 "BathtubTidesModel" "s" "[I") (List.mem_of_getElem? (i := 1) rfl)) (fun _ h9 => h9) rfl dX6_minute_77 ?_
          refine lv_iload_n hx hb dX6_minute_80 rfl (lv_at hl 0 rfl) ?_
          obtain ⟨g5, h⟩ := gd_i h
          refine va_iald hx hb hK hP 1 0 rfl rfl g5 dX6_minute_81 ?_
          obtain ⟨o6, ho6, h⟩ := bnd_i h
          refine rq_V (v := (some (.int o6))) (As := [.int (f1_58 (Int32.toNatClampNeg (44 + (4 * x2_58))))]) (rest := []) (wc := [(m0, .inr (10, [.ref q0, .ref q1, .ref q2, .int v3, .ref q4, .int v5, .int v6, .ref q7, .int v8, .ref q9, .int v10, .int v11, .int v12, .int v13, .int v14, .ref q15, .int v16])), (q0, .inl (cA 0, 60, .inl f1_58))]) ⟨hx, hb, hml, hfc, hts⟩ hK hP (kX6_level l D cA m0 q0 q1 q2 q4 q7 q9 q15 N v3 v5 v6 v8 v10 v11 v12 v13 v14 v16 f1_58 (f1_58 (Int32.toNatClampNeg (44 + (4 * x2_58)))) ho6) (cwV 1 hts gX6_minute_X6_level rfl rfl rfl (by decide +kernel) ⟨(Nat.le_of_ble_eq_true rfl), (Nat.le_of_ble_eq_true rfl)⟩) [0, 1] rfl 0 10 rfl rfl rfl rfl rfl rfl hl.1 (Nat.le_of_ble_eq_true rfl) dX6_minute_82 ⟨(Nat.zero_le _), (Nat.zero_le _)⟩ ?_
          refine lv_aload_n hx hb dX6_minute_85 rfl (lv_at hl 1 rfl) ?_
          refine va_get (D := D) (ci := 10) (v := .ref q0) (C := RX6) (T := TX6) (N := 17) hx hb hts iX6_minute_X6 hfc hK hP 0 rfl rfl 0 (by decide) (hts (.fieldLink RX6 9 "BathtubTidesModel" "s" "[I") (List.mem_of_getElem? (i := 1) rfl)) (fun _ h9 => h9) rfl dX6_minute_86 ?_
          refine lv_iload_n hx hb dX6_minute_89 rfl (lv_at hl 0 rfl) ?_
          refine lv_iconst (v := 1) hx hb dX6_minute_90 (by decide) ?_
          refine lv_iadd hx hb dX6_minute_91 ?_
          obtain ⟨g7, h⟩ := gd_i h
          refine va_iald hx hb hK hP 1 0 rfl rfl g7 dX6_minute_92 ?_
          obtain ⟨o9, ho9, h⟩ := bnd_i h
          have ko9 : ∀ (ls : Array Slot) (H : Heap) (locs : List Loc), lv_has ls 4 [(0, .ref m0), (1, .int o9.1), (2, .int x2_58), (3, .int (44 + (4 * x2_58)))] → va_P D vwCl [(m0, .inr (10, [.ref q0, .ref q1, .ref q2, .int v3, .ref q4, .int v5, .int v6, .ref q7, .int v8, .ref q9, .int v10, .int v11, .int v12, .int v13, .int v14, .ref q15, .int v16])), (q0, .inl (cA 0, 60, .inl o9.2))] H → va_D A [(m0, .inr (10, [.ref q0, .ref q1, .ref q2, .int v3, .ref q4, .int v5, .int v6, .ref q7, .int v8, .ref q9, .int v10, .int v11, .int v12, .int v13, .int v14, .ref q15, .int v16])), (q0, .inl (cA 0, 60, .inl o9.2))] → va_S A s.heap H locs → W p l e RM_X6_minute s m args below meth c H locs 0 0 Q (F0 m 154 ls []) := by
            intro ls H locs hl hP hD hS
            refine lv_iinc (k := 2) (v := x2_58 + 1) hx hb dX6_minute_154 hl rfl (congrArg (fun z => x2_58 + z) lit1) (Nat.le_of_ble_eq_true rfl) rfl (fun ls hl => ?_)
            have hl : lv_has ls 4 [(2, .int (x2_58 + 1)), (0, .ref m0), (1, .int o9.1), (3, .int (44 + (4 * x2_58)))] := hl
            refine lv_goto (tgt := 58) hx hb dX6_minute_157 (by decide) ?_
            exact ih o9.2 o9.1 (x2_58 + 1) _ _ _ (lv_sub hl [1, 2, 0] rfl) hP hD hS h
          clear h
          have h := ho9
          clear ho9
          refine lv_icmp_le (tgt := 154) hx hb dX6_minute_93 (by decide) (fun c8 => ?_) (fun c8 => ?_)
          · have h := ite_t c8 h
            have h := Option.some.inj h
            subst h
            exact ko9 _ _ _ (lv_sub hl [1, 2, 3, 0] rfl) hP hD hS
          · have h := ite_f c8 h
            refine lv_aload_n hx hb dX6_minute_96 rfl (lv_at hl 1 rfl) ?_
            refine va_get (D := D) (ci := 10) (v := .ref q0) (C := RX6) (T := TX6) (N := 17) hx hb hts iX6_minute_X6 hfc hK hP 0 rfl rfl 0 (by decide) (hts (.fieldLink RX6 9 "BathtubTidesModel" "s" "[I") (List.mem_of_getElem? (i := 1) rfl)) (fun _ h9 => h9) rfl dX6_minute_97 ?_
            refine lv_iload_n hx hb dX6_minute_100 rfl (lv_at hl 0 rfl) ?_
            refine lv_iconst (v := 2) hx hb dX6_minute_101 (by decide) ?_
            refine lv_iadd hx hb dX6_minute_102 ?_
            obtain ⟨g10, h⟩ := gd_i h
            refine va_iald hx hb hK hP 1 0 rfl rfl g10 dX6_minute_103 ?_
            refine lv_iconst (v := 5) hx hb dX6_minute_104 (by decide) ?_
            refine lv_icmp_ge (tgt := 154) hx hb dX6_minute_105 (by decide) (fun c11 => ?_) (fun c11 => ?_)
            · have h := ite_t c11 h
              have h := Option.some.inj h
              subst h
              exact ko9 _ _ _ (lv_sub hl [1, 2, 3, 0] rfl) hP hD hS
            · have h := ite_f c11 h
              refine lv_aload_n hx hb dX6_minute_108 rfl (lv_at hl 1 rfl) ?_
              refine va_get (D := D) (ci := 10) (v := .ref q0) (C := RX6) (T := TX6) (N := 17) hx hb hts iX6_minute_X6 hfc hK hP 0 rfl rfl 0 (by decide) (hts (.fieldLink RX6 9 "BathtubTidesModel" "s" "[I") (List.mem_of_getElem? (i := 1) rfl)) (fun _ h9 => h9) rfl dX6_minute_109 ?_
              refine lv_iconst (v := 3) hx hb dX6_minute_112 (by decide) ?_
              refine va_iald hx hb hK hP 1 0 rfl rfl (vin _ _ (by decide)) dX6_minute_113 ?_
              refine lv_if_le (tgt := 154) hx hb dX6_minute_114 (by decide) (fun c12 => ?_) (fun c12 => ?_)
              · have h := ite_t c12 h
                have h := Option.some.inj h
                subst h
                exact ko9 _ _ _ (lv_sub hl [1, 2, 3, 0] rfl) hP hD hS
              · have h := ite_f c12 h
                refine lv_aload_n hx hb dX6_minute_117 rfl (lv_at hl 1 rfl) ?_
                refine va_get (D := D) (ci := 10) (v := .ref q0) (C := RX6) (T := TX6) (N := 17) hx hb hts iX6_minute_X6 hfc hK hP 0 rfl rfl 0 (by decide) (hts (.fieldLink RX6 9 "BathtubTidesModel" "s" "[I") (List.mem_of_getElem? (i := 1) rfl)) (fun _ h9 => h9) rfl dX6_minute_118 ?_
                refine lv_iload_n hx hb dX6_minute_121 rfl (lv_at hl 0 rfl) ?_
                refine lv_iconst (v := 2) hx hb dX6_minute_122 (by decide) ?_
                refine lv_iadd hx hb dX6_minute_123 ?_
                refine lv_dup2_11 hx hb dX6_minute_124 rfl rfl ?_
                obtain ⟨g13, h⟩ := gd_i h
                refine va_iald hx hb hK hP 1 0 rfl rfl g13 dX6_minute_125 ?_
                refine lv_iconst (v := 1) hx hb dX6_minute_126 (by decide) ?_
                refine lv_iadd hx hb dX6_minute_127 ?_
                refine lv_topi (fun t14 et14 => ?_)
                have h := lt_e h _ et14
                obtain ⟨g15, h⟩ := gd_i h
                refine va_iast hx hb hK hP hD hS 1 0 rfl rfl g15 dX6_minute_128 (fun H locs hP hD hS => ?_)
                have hP : va_P D vwCl [(m0, .inr (10, [.ref q0, .ref q1, .ref q2, .int v3, .ref q4, .int v5, .int v6, .ref q7, .int v8, .ref q9, .int v10, .int v11, .int v12, .int v13, .int v14, .ref q15, .int v16])), (q0, .inl (cA 0, 60, .inl (upd f1_58 (Int32.toNatClampNeg ((44 + (4 * x2_58)) + 2)) t14)))] H := hP
                have hD : va_D A [(m0, .inr (10, [.ref q0, .ref q1, .ref q2, .int v3, .ref q4, .int v5, .int v6, .ref q7, .int v8, .ref q9, .int v10, .int v11, .int v12, .int v13, .int v14, .ref q15, .int v16])), (q0, .inl (cA 0, 60, .inl (upd f1_58 (Int32.toNatClampNeg ((44 + (4 * x2_58)) + 2)) t14)))] := hD
                refine lv_aload_n hx hb dX6_minute_129 rfl (lv_at hl 1 rfl) ?_
                refine va_get (D := D) (ci := 10) (v := .ref q0) (C := RX6) (T := TX6) (N := 17) hx hb hts iX6_minute_X6 hfc hK hP 0 rfl rfl 0 (by decide) (hts (.fieldLink RX6 9 "BathtubTidesModel" "s" "[I") (List.mem_of_getElem? (i := 1) rfl)) (fun _ h9 => h9) rfl dX6_minute_130 ?_
                refine lv_iload_n hx hb dX6_minute_133 rfl (lv_at hl 0 rfl) ?_
                refine lv_iconst (v := 3) hx hb dX6_minute_134 (by decide) ?_
                refine lv_iadd hx hb dX6_minute_135 ?_
                refine lv_dup2_11 hx hb dX6_minute_136 rfl rfl ?_
                obtain ⟨g16, h⟩ := gd_i h
                refine va_iald hx hb hK hP 1 0 rfl rfl g16 dX6_minute_137 ?_
                refine lv_iconst (v := 1) hx hb dX6_minute_138 (by decide) ?_
                refine lv_iadd hx hb dX6_minute_139 ?_
                refine lv_topi (fun t17 et17 => ?_)
                have h := lt_e h _ et17
                obtain ⟨g18, h⟩ := gd_i h
                refine va_iast hx hb hK hP hD hS 1 0 rfl rfl g18 dX6_minute_140 (fun H locs hP hD hS => ?_)
                have hP : va_P D vwCl [(m0, .inr (10, [.ref q0, .ref q1, .ref q2, .int v3, .ref q4, .int v5, .int v6, .ref q7, .int v8, .ref q9, .int v10, .int v11, .int v12, .int v13, .int v14, .ref q15, .int v16])), (q0, .inl (cA 0, 60, .inl (upd (upd f1_58 (Int32.toNatClampNeg ((44 + (4 * x2_58)) + 2)) t14) (Int32.toNatClampNeg ((44 + (4 * x2_58)) + 3)) t17)))] H := hP
                have hD : va_D A [(m0, .inr (10, [.ref q0, .ref q1, .ref q2, .int v3, .ref q4, .int v5, .int v6, .ref q7, .int v8, .ref q9, .int v10, .int v11, .int v12, .int v13, .int v14, .ref q15, .int v16])), (q0, .inl (cA 0, 60, .inl (upd (upd f1_58 (Int32.toNatClampNeg ((44 + (4 * x2_58)) + 2)) t14) (Int32.toNatClampNeg ((44 + (4 * x2_58)) + 3)) t17)))] := hD
                refine lv_aload_n hx hb dX6_minute_141 rfl (lv_at hl 1 rfl) ?_
                refine va_get (D := D) (ci := 10) (v := .ref q0) (C := RX6) (T := TX6) (N := 17) hx hb hts iX6_minute_X6 hfc hK hP 0 rfl rfl 0 (by decide) (hts (.fieldLink RX6 9 "BathtubTidesModel" "s" "[I") (List.mem_of_getElem? (i := 1) rfl)) (fun _ h9 => h9) rfl dX6_minute_142 ?_
                refine lv_iconst (v := 3) hx hb dX6_minute_145 (by decide) ?_
                refine lv_dup2_11 hx hb dX6_minute_146 rfl rfl ?_
                refine va_iald hx hb hK hP 1 0 rfl rfl (vin _ _ (by decide)) dX6_minute_147 ?_
                refine lv_iconst (v := 1) hx hb dX6_minute_148 (by decide) ?_
                refine lv_isub hx hb dX6_minute_149 ?_
                refine lv_topi (fun t19 et19 => ?_)
                have h := lt_e h _ et19
                refine va_iast hx hb hK hP hD hS 1 0 rfl rfl (vin _ _ (by decide)) dX6_minute_150 (fun H locs hP hD hS => ?_)
                have hP : va_P D vwCl [(m0, .inr (10, [.ref q0, .ref q1, .ref q2, .int v3, .ref q4, .int v5, .int v6, .ref q7, .int v8, .ref q9, .int v10, .int v11, .int v12, .int v13, .int v14, .ref q15, .int v16])), (q0, .inl (cA 0, 60, .inl (upd (upd (upd f1_58 (Int32.toNatClampNeg ((44 + (4 * x2_58)) + 2)) t14) (Int32.toNatClampNeg ((44 + (4 * x2_58)) + 3)) t17) 3 t19)))] H := hP
                have hD : va_D A [(m0, .inr (10, [.ref q0, .ref q1, .ref q2, .int v3, .ref q4, .int v5, .int v6, .ref q7, .int v8, .ref q9, .int v10, .int v11, .int v12, .int v13, .int v14, .ref q15, .int v16])), (q0, .inl (cA 0, 60, .inl (upd (upd (upd f1_58 (Int32.toNatClampNeg ((44 + (4 * x2_58)) + 2)) t14) (Int32.toNatClampNeg ((44 + (4 * x2_58)) + 3)) t17) 3 t19)))] := hD
                refine lv_iinc (k := 2) (v := x1_58 + 1) hx hb dX6_minute_151 hl rfl (congrArg (fun z => x1_58 + z) lit1) (Nat.le_of_ble_eq_true rfl) rfl (fun ls hl => ?_)
                have hl : lv_has ls 4 [(1, .int (x1_58 + 1)), (3, .int (44 + (4 * x2_58))), (0, .ref m0), (2, .int x2_58)] := hl
                have h := Option.some.inj h
                subst h
                exact ko9 _ _ _ (lv_sub hl [2, 0, 3, 1] rfl) hP hD hS
    exact hLX6_minute_58 N (upd (upd ss 2 ((ss 2) + 1)) 3 t3) 0 0 _ _ _ (lv_sub hl [1, 2, 0] rfl) hP hD hS h
  clear h
  have h := ho2
  clear ho2
  refine lv_if_ne (tgt := 47) hx hb dX6_minute_35 (by decide) (fun c1 => ?_) (fun c1 => ?_)
  · have h := ite_f c1 h
    refine lv_iconst (v := 0) hx hb dX6_minute_47 (by decide) ?_
    subst h
    exact ko2 _ _ _ (lv_sub hl [1, 0] rfl) hP hD hS
  · have h := ite_t c1 h
    refine lv_aload_n hx hb dX6_minute_38 rfl (lv_at hl 1 rfl) ?_
    refine va_get (D := D) (ci := 10) (v := .ref q0) (C := RX6) (T := TX6) (N := 17) hx hb hts iX6_minute_X6 hfc hK hP 0 rfl rfl 0 (by decide) (hts (.fieldLink RX6 9 "BathtubTidesModel" "s" "[I") (List.mem_of_getElem? (i := 1) rfl)) (fun _ h9 => h9) rfl dX6_minute_39 ?_
    refine lv_iconst (v := 4) hx hb dX6_minute_42 (by decide) ?_
    refine va_iald hx hb hK hP 1 0 rfl rfl (vin _ _ (by decide)) dX6_minute_43 ?_
    refine lv_goto (tgt := 48) hx hb dX6_minute_44 (by decide) ?_
    subst h
    exact ko2 _ _ _ (lv_sub hl [1, 0] rfl) hP hD hS
noncomputable def LX6_doAdvance_20 (N : Nat) (x1 : Int32) (v6 : Int32) : Nat → (Nat → Int32) → Int32 → Int32 → Option (Int32 × (Nat → Int32) × Int32)
  | 0, _, _, _ => none
  | fu + 1, f1_20, x2_20, x3_20 => if x1 ≤ x3_20 then (some ((x2_20, f1_20, v6))) else (bnd (SX6_minute N f1_20) (fun o3 : Int32 × (Nat → Int32) => LX6_doAdvance_20 N x1 v6 fu o3.2 (x2_20 + o3.1) (x3_20 + 1)))
noncomputable def SX6_doAdvance (N : Nat) (v6 : Int32) (ss : Nat → Int32) (x1 : Int32) : Option (Int32 × (Nat → Int32) × Int32) := if (SX6_in x1 1 60) = 0 then (lt_ (SX6_fails 1) (fun o4 : Int32 × Int32 => some ((o4.1, ss, o4.2)))) else (LX6_doAdvance_20 N x1 v6 N ss 0 0)
abbrev RM_X6_doAdvance : Room := { frames := 7, cells := 0, slots := 0, locals := 163 }
set_option maxHeartbeats 4000000 in
theorem kX6_doAdvance (l : Launch) (D : va_G) (cA : Nat → ClassId) (m0 q0 q1 q2 q4 q7 q9 q15 : Nat) (N : Nat) (v3 : Int32) (v5 : Int32) (v6 : Int32) (v8 : Int32) (v10 : Int32) (v11 : Int32) (v12 : Int32) (v13 : Int32) (v14 : Int32) (v16 : Int32) (ss : Nat → Int32) (x1 : Int32) {r : Int32 × (Nat → Int32) × Int32} (hr : SX6_doAdvance N v6 ss x1 = some r) {sz : Nat} : Met l yX6_doAdvance wsX6_doAdvance RM_X6_doAdvance (va_Pc [.ref m0, .int x1] (gqB D cA [(m0, .inr (10, [.ref q0, .ref q1, .ref q2, .int v3, .ref q4, .int v5, .int v6, .ref q7, .int v8, .ref q9, .int v10, .int v11, .int v12, .int v13, .int v14, .ref q15, .int v16])), (q0, .inl (cA 0, 60, .inl ss))] sz)) (gqQ D (fun as => (some (.int r.1))) (fun as => [(m0, .inr (10, [.ref q0, .ref q1, .ref q2, .int v3, .ref q4, .int v5, .int r.2.2, .ref q7, .int v8, .ref q9, .int v10, .int v11, .int v12, .int v13, .int v14, .ref q15, .int v16])), (q0, .inl (cA 0, 60, .inl r.2.1))]) (va_A [(m0, .inr (10, [.ref q0, .ref q1, .ref q2, .int v3, .ref q4, .int v5, .int v6, .ref q7, .int v8, .ref q9, .int v10, .int v11, .int v12, .int v13, .int v14, .ref q15, .int v16])), (q0, .inl (cA 0, 60, .inl ss))] sz)) 0 0 (va_A [(m0, .inr (10, [.ref q0, .ref q1, .ref q2, .int v3, .ref q4, .int v5, .int v6, .ref q7, .int v8, .ref q9, .int v10, .int v11, .int v12, .int v13, .int v14, .ref q15, .int v16])), (q0, .inl (cA 0, 60, .inl ss))] sz) := by
  refine gq_ofW (cc := cX6_doAdvance) (maxL := 4) (ret := (some .int)) (by decide) rfl (Nat.le_of_ble_eq_true rfl) (fun p e s m args below meth c ls Q A hx hb hml hts hfc hmn hK hP hD hS hA hl hend => ?_)
  have hfc : s.vm.findClass RX6 = some m.cls := hfc
  have hl : lv_has ls 4 [(0, .ref m0), (1, .int x1)] := hl
  have h := hr
  clear hr
  unfold SX6_doAdvance at h
  refine lv_iload_n hx hb dX6_doAdvance_0 rfl (lv_at hl 1 rfl) ?_
  refine lv_iconst (v := 1) hx hb dX6_doAdvance_1 (by decide) ?_
  refine lv_bipush (v := 60) hx hb dX6_doAdvance_2 (by decide) ?_
  refine rq_S (v := (some (.int (SX6_in x1 1 60)))) (As := [.int x1, .int 1, .int 60]) (rest := []) (wc := []) ⟨hx, hb, hml, hfc, hts⟩ hK hP (kX6_in l D cA x1 1 60 rfl) (va_cwS 3 hts gX6_doAdvance_X6_in rfl rfl rfl (by decide +kernel) ⟨(Nat.le_of_ble_eq_true rfl), (Nat.le_of_ble_eq_true rfl)⟩) [] rfl rfl rfl rfl hl.1 (Nat.le_of_ble_eq_true rfl) dX6_doAdvance_4 ⟨(Nat.zero_le _), (Nat.zero_le _)⟩ ?_
  refine lv_if_ne (tgt := 16) hx hb dX6_doAdvance_7 (by decide) (fun c1 => ?_) (fun c1 => ?_)
  · have h := ite_f c1 h
    refine lv_iconst (v := 0) hx hb dX6_doAdvance_16 (by decide) ?_
    refine lv_istore_n hx hb dX6_doAdvance_17 rfl hl (Nat.le_of_ble_eq_true rfl) rfl (fun ls hl => ?_)
    have hl : lv_has ls 4 [(2, .int 0), (0, .ref m0), (1, .int x1)] := hl
    refine lv_iconst (v := 0) hx hb dX6_doAdvance_18 (by decide) ?_
    refine lv_istore_n hx hb dX6_doAdvance_19 rfl hl (Nat.le_of_ble_eq_true rfl) rfl (fun ls hl => ?_)
    have hl : lv_has ls 4 [(3, .int 0), (2, .int 0), (0, .ref m0), (1, .int x1)] := hl
    have hLX6_doAdvance_20 : ∀ (fu : Nat) (f1_20 : Nat → Int32) (x2_20 : Int32) (x3_20 : Int32) (ls : Array Slot) (H : Heap) (locs : List Loc), lv_has ls 4 [(0, .ref m0), (1, .int x1), (2, .int x2_20), (3, .int x3_20)] → va_P D vwCl [(m0, .inr (10, [.ref q0, .ref q1, .ref q2, .int v3, .ref q4, .int v5, .int v6, .ref q7, .int v8, .ref q9, .int v10, .int v11, .int v12, .int v13, .int v14, .ref q15, .int v16])), (q0, .inl (cA 0, 60, .inl f1_20))] H → va_D A [(m0, .inr (10, [.ref q0, .ref q1, .ref q2, .int v3, .ref q4, .int v5, .int v6, .ref q7, .int v8, .ref q9, .int v10, .int v11, .int v12, .int v13, .int v14, .ref q15, .int v16])), (q0, .inl (cA 0, 60, .inl f1_20))] → va_S A s.heap H locs → LX6_doAdvance_20 N x1 v6 fu f1_20 x2_20 x3_20 = some r → W p l e RM_X6_doAdvance s m args below meth c H locs 0 0 Q (F0 m 20 ls []) := by
      intro fu
      induction fu with
      | zero =>
        intro f1_20 x2_20 x3_20 ls H locs hl hP hD hS h
        rw [LX6_doAdvance_20] at h
        exact nn h
      | succ fu ih =>
        intro f1_20 x2_20 x3_20 ls H locs hl hP hD hS h
        rw [LX6_doAdvance_20] at h
        refine lv_iload_n hx hb dX6_doAdvance_20 rfl (lv_at hl 3 rfl) ?_
        refine lv_iload_n hx hb dX6_doAdvance_21 rfl (lv_at hl 1 rfl) ?_
        refine lv_icmp_ge (tgt := 38) hx hb dX6_doAdvance_22 (by decide) (fun c2 => ?_) (fun c2 => ?_)
        · have h := ite_t c2 h
          refine lv_iload_n hx hb dX6_doAdvance_38 rfl (lv_at hl 2 rfl) ?_
          have h := Option.some.inj h
          subst h
          exact hend (adr []) _ _ _ _ _ _ _ rfl rfl (rtn_i _) hP hD hS dX6_doAdvance_39
        · have h := ite_f c2 h
          refine lv_iload_n hx hb dX6_doAdvance_25 rfl (lv_at hl 2 rfl) ?_
          refine lv_aload_n hx hb dX6_doAdvance_26 rfl (lv_at hl 0 rfl) ?_
          obtain ⟨o3, ho3, h⟩ := bnd_i h
          refine gq_V (v := (fun as => (some (.int o3.1)))) (As := []) (rest := [.int x2_20]) (wc := [(m0, .inr (10, [.ref q0, .ref q1, .ref q2, .int v3, .ref q4, .int v5, .int v6, .ref q7, .int v8, .ref q9, .int v10, .int v11, .int v12, .int v13, .int v14, .ref q15, .int v16])), (q0, .inl (cA 0, 60, .inl f1_20))]) (wr := []) (w1 := (fun as => [(m0, .inr (10, [.ref q0, .ref q1, .ref q2, .int v3, .ref q4, .int v5, .int v6, .ref q7, .int v8, .ref q9, .int v10, .int v11, .int v12, .int v13, .int v14, .ref q15, .int v16])), (q0, .inl (cA 0, 60, .inl o3.2))])) (ws2 := (fun as => [(m0, .inr (10, [.ref q0, .ref q1, .ref q2, .int v3, .ref q4, .int v5, .int v6, .ref q7, .int v8, .ref q9, .int v10, .int v11, .int v12, .int v13, .int v14, .ref q15, .int v16])), (q0, .inl (cA 0, 60, .inl o3.2))])) (st1 := (fun as => [.int o3.1, .int x2_20])) ⟨hx, hb, hml, hfc, hts⟩ hK hP hD hS hA (kX6_minute l D cA m0 q0 q1 q2 q4 q7 q9 q15 N v3 v5 v6 v8 v10 v11 v12 v13 v14 v16 f1_20 ho3) (cwV 0 hts gX6_doAdvance_X6_minute rfl rfl rfl (by decide +kernel) ⟨(Nat.le_of_ble_eq_true rfl), (Nat.le_of_ble_eq_true rfl)⟩) [0, 1] [] [0, 1] rfl rfl rfl rfl (by decide) (fun _ => rfl) rfl 0 10 rfl rfl rfl rfl (fun _ => rfl) rfl hl.1 (Nat.le_of_ble_eq_true rfl) dX6_doAdvance_27 ⟨(Nat.zero_le _), (Nat.zero_le _)⟩ (fun as H locs hP hD hS => ?_)
          have hP : va_P D vwCl [(m0, .inr (10, [.ref q0, .ref q1, .ref q2, .int v3, .ref q4, .int v5, .int v6, .ref q7, .int v8, .ref q9, .int v10, .int v11, .int v12, .int v13, .int v14, .ref q15, .int v16])), (q0, .inl (cA 0, 60, .inl o3.2))] H := hP
          have hD : va_D A [(m0, .inr (10, [.ref q0, .ref q1, .ref q2, .int v3, .ref q4, .int v5, .int v6, .ref q7, .int v8, .ref q9, .int v10, .int v11, .int v12, .int v13, .int v14, .ref q15, .int v16])), (q0, .inl (cA 0, 60, .inl o3.2))] := hD
          refine lv_iadd hx hb dX6_doAdvance_30 ?_
          refine lv_istore_n hx hb dX6_doAdvance_31 rfl hl (Nat.le_of_ble_eq_true rfl) rfl (fun ls hl => ?_)
          have hl : lv_has ls 4 [(2, .int (x2_20 + o3.1)), (0, .ref m0), (1, .int x1), (3, .int x3_20)] := hl
          refine lv_iinc (k := 3) (v := x3_20 + 1) hx hb dX6_doAdvance_32 hl rfl (congrArg (fun z => x3_20 + z) lit1) (Nat.le_of_ble_eq_true rfl) rfl (fun ls hl => ?_)
          have hl : lv_has ls 4 [(3, .int (x3_20 + 1)), (2, .int (x2_20 + o3.1)), (0, .ref m0), (1, .int x1)] := hl
          refine lv_goto (tgt := 20) hx hb dX6_doAdvance_35 (by decide) ?_
          exact ih o3.2 (x2_20 + o3.1) (x3_20 + 1) _ _ _ (lv_sub hl [2, 3, 1, 0] rfl) hP hD hS h
    exact hLX6_doAdvance_20 N ss 0 0 _ _ _ (lv_sub hl [2, 3, 1, 0] rfl) hP hD hS h
  · have h := ite_t c1 h
    refine lv_aload_n hx hb dX6_doAdvance_10 rfl (lv_at hl 0 rfl) ?_
    refine lv_iconst (v := 1) hx hb dX6_doAdvance_11 (by decide) ?_
    obtain ⟨o4, ho4, h⟩ := lt_i h
    refine gq_V (v := (fun as => (some (.int o4.1)))) (As := [.int 1]) (rest := []) (wc := [(m0, .inr (10, [.ref q0, .ref q1, .ref q2, .int v3, .ref q4, .int v5, .int v6, .ref q7, .int v8, .ref q9, .int v10, .int v11, .int v12, .int v13, .int v14, .ref q15, .int v16]))]) (wr := [(q0, .inl (cA 0, 60, .inl ss))]) (w1 := (fun as => [(m0, .inr (10, [.ref q0, .ref q1, .ref q2, .int v3, .ref q4, .int v5, .int o4.2, .ref q7, .int v8, .ref q9, .int v10, .int v11, .int v12, .int v13, .int v14, .ref q15, .int v16]))])) (ws2 := (fun as => [(m0, .inr (10, [.ref q0, .ref q1, .ref q2, .int v3, .ref q4, .int v5, .int o4.2, .ref q7, .int v8, .ref q9, .int v10, .int v11, .int v12, .int v13, .int v14, .ref q15, .int v16])), (q0, .inl (cA 0, 60, .inl ss))])) (st1 := (fun as => [.int o4.1])) ⟨hx, hb, hml, hfc, hts⟩ hK hP hD hS hA (kX6_fails l D cA m0 q0 q1 q2 q4 q7 q9 q15 v3 v5 v6 v8 v10 v11 v12 v13 v14 v16 1 ho4) (cwV 1 hts gX6_doAdvance_X6_fails rfl rfl rfl (by decide +kernel) ⟨(Nat.le_of_ble_eq_true rfl), (Nat.le_of_ble_eq_true rfl)⟩) [0] [1] [1, 0] rfl rfl rfl rfl (by decide) (fun _ => rfl) rfl 0 10 rfl rfl rfl rfl (fun _ => rfl) rfl hl.1 (Nat.le_of_ble_eq_true rfl) dX6_doAdvance_12 ⟨(Nat.zero_le _), (Nat.zero_le _)⟩ (fun as H locs hP hD hS => ?_)
    have hP : va_P D vwCl [(m0, .inr (10, [.ref q0, .ref q1, .ref q2, .int v3, .ref q4, .int v5, .int o4.2, .ref q7, .int v8, .ref q9, .int v10, .int v11, .int v12, .int v13, .int v14, .ref q15, .int v16])), (q0, .inl (cA 0, 60, .inl ss))] H := hP
    have hD : va_D A [(m0, .inr (10, [.ref q0, .ref q1, .ref q2, .int v3, .ref q4, .int v5, .int o4.2, .ref q7, .int v8, .ref q9, .int v10, .int v11, .int v12, .int v13, .int v14, .ref q15, .int v16])), (q0, .inl (cA 0, 60, .inl ss))] := hD
    have h := Option.some.inj h
    subst h
    exact hend (adr []) _ _ _ _ _ _ _ rfl rfl (rtn_i _) hP hD hS dX6_doAdvance_15
noncomputable def SX6_placeToe (N : Nat) (v5 : Int32) (ss : Nat → Int32) (bb : Nat → Int32) (pp : Nat → Int32) (x1 : Int32) : Option (Int32 × (Nat → Int32) × (Nat → Int32) × (Nat → Int32) × Int32 × Int32) := lt_ (SX6_keep ss bb) (fun o1 : (Nat → Int32) × Int32 => bnd (SX6_doPlaceToe N o1.2 ss x1) (fun o2 : Int32 × (Nat → Int32) × Int32 => bnd (SX6_ends v5 o2.2.2 o2.2.1 o1.1 pp o2.1) (fun o3 : Int32 × (Nat → Int32) × (Nat → Int32) × Int32 => some ((o3.1, o3.2.1, o1.1, o3.2.2.1, o3.2.2.2, o2.2.2)))))
abbrev RM_X6_placeToe : Room := { frames := 3, cells := 0, slots := 0, locals := 64 }
set_option maxHeartbeats 4000000 in
theorem kX6_placeToe (l : Launch) (D : va_G) (cA : Nat → ClassId) (m0 q0 q1 q2 q4 q7 q9 q15 : Nat) (N : Nat) (v3 : Int32) (v5 : Int32) (v6 : Int32) (v8 : Int32) (v10 : Int32) (v11 : Int32) (v12 : Int32) (v13 : Int32) (v14 : Int32) (v16 : Int32) (ss : Nat → Int32) (bb : Nat → Int32) (pp : Nat → Int32) (x1 : Int32) {r : Int32 × (Nat → Int32) × (Nat → Int32) × (Nat → Int32) × Int32 × Int32} (hr : SX6_placeToe N v5 ss bb pp x1 = some r) {sz : Nat} : Met l yX6_placeToe wsX6_placeToe RM_X6_placeToe (va_Pc [.ref m0, .int x1] (gqB D cA [(m0, .inr (10, [.ref q0, .ref q1, .ref q2, .int v3, .ref q4, .int v5, .int v6, .ref q7, .int v8, .ref q9, .int v10, .int v11, .int v12, .int v13, .int v14, .ref q15, .int v16])), (q0, .inl (cA 0, 60, .inl ss)), (q1, .inl (cA 0, 60, .inl bb)), (q4, .inl (cA 0, 480, .inl pp))] sz)) (gqQ D (fun as => (some (.int r.1))) (fun as => [(m0, .inr (10, [.ref q0, .ref q1, .ref q2, .int v3, .ref q4, .int r.2.2.2.2.1, .int r.2.2.2.2.2, .ref q7, .int v8, .ref q9, .int v10, .int v11, .int v12, .int v13, .int v14, .ref q15, .int v16])), (q0, .inl (cA 0, 60, .inl r.2.1)), (q1, .inl (cA 0, 60, .inl r.2.2.1)), (q4, .inl (cA 0, 480, .inl r.2.2.2.1))]) (va_A [(m0, .inr (10, [.ref q0, .ref q1, .ref q2, .int v3, .ref q4, .int v5, .int v6, .ref q7, .int v8, .ref q9, .int v10, .int v11, .int v12, .int v13, .int v14, .ref q15, .int v16])), (q0, .inl (cA 0, 60, .inl ss)), (q1, .inl (cA 0, 60, .inl bb)), (q4, .inl (cA 0, 480, .inl pp))] sz)) 0 0 (va_A [(m0, .inr (10, [.ref q0, .ref q1, .ref q2, .int v3, .ref q4, .int v5, .int v6, .ref q7, .int v8, .ref q9, .int v10, .int v11, .int v12, .int v13, .int v14, .ref q15, .int v16])), (q0, .inl (cA 0, 60, .inl ss)), (q1, .inl (cA 0, 60, .inl bb)), (q4, .inl (cA 0, 480, .inl pp))] sz) := by
  refine gq_ofW (cc := cX6_placeToe) (maxL := 2) (ret := (some .int)) (by decide) rfl (Nat.le_of_ble_eq_true rfl) (fun p e s m args below meth c ls Q A hx hb hml hts hfc hmn hK hP hD hS hA hl hend => ?_)
  have hfc : s.vm.findClass RX6 = some m.cls := hfc
  have hl : lv_has ls 2 [(0, .ref m0), (1, .int x1)] := hl
  have h := hr
  clear hr
  unfold SX6_placeToe at h
  refine lv_aload_n hx hb dX6_placeToe_0 rfl (lv_at hl 0 rfl) ?_
  obtain ⟨o1, ho1, h⟩ := lt_i h
  refine gq_V (v := (fun as => none)) (As := []) (rest := []) (wc := [(m0, .inr (10, [.ref q0, .ref q1, .ref q2, .int v3, .ref q4, .int v5, .int v6, .ref q7, .int v8, .ref q9, .int v10, .int v11, .int v12, .int v13, .int v14, .ref q15, .int v16])), (q0, .inl (cA 0, 60, .inl ss)), (q1, .inl (cA 0, 60, .inl bb))]) (wr := [(q4, .inl (cA 0, 480, .inl pp))]) (w1 := (fun as => [(m0, .inr (10, [.ref q0, .ref q1, .ref q2, .int v3, .ref q4, .int v5, .int o1.2, .ref q7, .int v8, .ref q9, .int v10, .int v11, .int v12, .int v13, .int v14, .ref q15, .int v16])), (q0, .inl (cA 0, 60, .inl ss)), (q1, .inl (cA 0, 60, .inl o1.1))])) (ws2 := (fun as => [(m0, .inr (10, [.ref q0, .ref q1, .ref q2, .int v3, .ref q4, .int v5, .int o1.2, .ref q7, .int v8, .ref q9, .int v10, .int v11, .int v12, .int v13, .int v14, .ref q15, .int v16])), (q0, .inl (cA 0, 60, .inl ss)), (q1, .inl (cA 0, 60, .inl o1.1)), (q4, .inl (cA 0, 480, .inl pp))])) (st1 := (fun as => [])) ⟨hx, hb, hml, hfc, hts⟩ hK hP hD hS hA (kX6_keep l D cA m0 q0 q1 q2 q4 q7 q9 q15 v3 v5 v6 v8 v10 v11 v12 v13 v14 v16 ss bb ho1) (cwV 0 hts gX6_placeToe_X6_keep rfl rfl rfl (by decide +kernel) ⟨(Nat.le_of_ble_eq_true rfl), (Nat.le_of_ble_eq_true rfl)⟩) [0, 1, 2] [3] [1, 2, 3, 0] rfl rfl rfl rfl (by decide) (fun _ => rfl) rfl 0 10 rfl rfl rfl rfl (fun _ => rfl) rfl hl.1 (Nat.le_of_ble_eq_true rfl) dX6_placeToe_1 ⟨(Nat.zero_le _), (Nat.zero_le _)⟩ (fun as H locs hP hD hS => ?_)
  have hP : va_P D vwCl [(m0, .inr (10, [.ref q0, .ref q1, .ref q2, .int v3, .ref q4, .int v5, .int o1.2, .ref q7, .int v8, .ref q9, .int v10, .int v11, .int v12, .int v13, .int v14, .ref q15, .int v16])), (q0, .inl (cA 0, 60, .inl ss)), (q1, .inl (cA 0, 60, .inl o1.1)), (q4, .inl (cA 0, 480, .inl pp))] H := hP
  have hD : va_D A [(m0, .inr (10, [.ref q0, .ref q1, .ref q2, .int v3, .ref q4, .int v5, .int o1.2, .ref q7, .int v8, .ref q9, .int v10, .int v11, .int v12, .int v13, .int v14, .ref q15, .int v16])), (q0, .inl (cA 0, 60, .inl ss)), (q1, .inl (cA 0, 60, .inl o1.1)), (q4, .inl (cA 0, 480, .inl pp))] := hD
  refine lv_aload_n hx hb dX6_placeToe_4 rfl (lv_at hl 0 rfl) ?_
  refine lv_aload_n hx hb dX6_placeToe_5 rfl (lv_at hl 0 rfl) ?_
  refine lv_iload_n hx hb dX6_placeToe_6 rfl (lv_at hl 1 rfl) ?_
  obtain ⟨o2, ho2, h⟩ := bnd_i h
  refine gq_V (v := (fun as => (some (.int o2.1)))) (As := [.int x1]) (rest := [.ref m0]) (wc := [(m0, .inr (10, [.ref q0, .ref q1, .ref q2, .int v3, .ref q4, .int v5, .int o1.2, .ref q7, .int v8, .ref q9, .int v10, .int v11, .int v12, .int v13, .int v14, .ref q15, .int v16])), (q0, .inl (cA 0, 60, .inl ss))]) (wr := [(q1, .inl (cA 0, 60, .inl o1.1)), (q4, .inl (cA 0, 480, .inl pp))]) (w1 := (fun as => [(m0, .inr (10, [.ref q0, .ref q1, .ref q2, .int v3, .ref q4, .int v5, .int o2.2.2, .ref q7, .int v8, .ref q9, .int v10, .int v11, .int v12, .int v13, .int v14, .ref q15, .int v16])), (q0, .inl (cA 0, 60, .inl o2.2.1))])) (ws2 := (fun as => [(m0, .inr (10, [.ref q0, .ref q1, .ref q2, .int v3, .ref q4, .int v5, .int o2.2.2, .ref q7, .int v8, .ref q9, .int v10, .int v11, .int v12, .int v13, .int v14, .ref q15, .int v16])), (q0, .inl (cA 0, 60, .inl o2.2.1)), (q1, .inl (cA 0, 60, .inl o1.1)), (q4, .inl (cA 0, 480, .inl pp))])) (st1 := (fun as => [.int o2.1, .ref m0])) ⟨hx, hb, hml, hfc, hts⟩ hK hP hD hS hA (kX6_doPlaceToe l D cA m0 q0 q1 q2 q4 q7 q9 q15 N v3 v5 o1.2 v8 v10 v11 v12 v13 v14 v16 ss x1 ho2) (cwV 1 hts gX6_placeToe_X6_doPlaceToe rfl rfl rfl (by decide +kernel) ⟨(Nat.le_of_ble_eq_true rfl), (Nat.le_of_ble_eq_true rfl)⟩) [0, 1] [2, 3] [2, 3, 0, 1] rfl rfl rfl rfl (by decide) (fun _ => rfl) rfl 0 10 rfl rfl rfl rfl (fun _ => rfl) rfl hl.1 (Nat.le_of_ble_eq_true rfl) dX6_placeToe_7 ⟨(Nat.zero_le _), (Nat.zero_le _)⟩ (fun as H locs hP hD hS => ?_)
  have hP : va_P D vwCl [(m0, .inr (10, [.ref q0, .ref q1, .ref q2, .int v3, .ref q4, .int v5, .int o2.2.2, .ref q7, .int v8, .ref q9, .int v10, .int v11, .int v12, .int v13, .int v14, .ref q15, .int v16])), (q0, .inl (cA 0, 60, .inl o2.2.1)), (q1, .inl (cA 0, 60, .inl o1.1)), (q4, .inl (cA 0, 480, .inl pp))] H := hP
  have hD : va_D A [(m0, .inr (10, [.ref q0, .ref q1, .ref q2, .int v3, .ref q4, .int v5, .int o2.2.2, .ref q7, .int v8, .ref q9, .int v10, .int v11, .int v12, .int v13, .int v14, .ref q15, .int v16])), (q0, .inl (cA 0, 60, .inl o2.2.1)), (q1, .inl (cA 0, 60, .inl o1.1)), (q4, .inl (cA 0, 480, .inl pp))] := hD
  obtain ⟨o3, ho3, h⟩ := bnd_i h
  refine gq_V (v := (fun as => (some (.int o3.1)))) (As := [.int o2.1]) (rest := []) (wc := [(m0, .inr (10, [.ref q0, .ref q1, .ref q2, .int v3, .ref q4, .int v5, .int o2.2.2, .ref q7, .int v8, .ref q9, .int v10, .int v11, .int v12, .int v13, .int v14, .ref q15, .int v16])), (q0, .inl (cA 0, 60, .inl o2.2.1)), (q1, .inl (cA 0, 60, .inl o1.1)), (q4, .inl (cA 0, 480, .inl pp))]) (wr := []) (w1 := (fun as => [(m0, .inr (10, [.ref q0, .ref q1, .ref q2, .int v3, .ref q4, .int o3.2.2.2, .int o2.2.2, .ref q7, .int v8, .ref q9, .int v10, .int v11, .int v12, .int v13, .int v14, .ref q15, .int v16])), (q0, .inl (cA 0, 60, .inl o3.2.1)), (q1, .inl (cA 0, 60, .inl o1.1)), (q4, .inl (cA 0, 480, .inl o3.2.2.1))])) (ws2 := (fun as => [(m0, .inr (10, [.ref q0, .ref q1, .ref q2, .int v3, .ref q4, .int o3.2.2.2, .int o2.2.2, .ref q7, .int v8, .ref q9, .int v10, .int v11, .int v12, .int v13, .int v14, .ref q15, .int v16])), (q0, .inl (cA 0, 60, .inl o3.2.1)), (q1, .inl (cA 0, 60, .inl o1.1)), (q4, .inl (cA 0, 480, .inl o3.2.2.1))])) (st1 := (fun as => [.int o3.1])) ⟨hx, hb, hml, hfc, hts⟩ hK hP hD hS hA (kX6_ends l D cA m0 q0 q1 q2 q4 q7 q9 q15 v3 v5 o2.2.2 v8 v10 v11 v12 v13 v14 v16 o2.2.1 o1.1 pp o2.1 ho3) (cwV 1 hts gX6_placeToe_X6_ends rfl rfl rfl (by decide +kernel) ⟨(Nat.le_of_ble_eq_true rfl), (Nat.le_of_ble_eq_true rfl)⟩) [0, 1, 2, 3] [] [0, 1, 2, 3] rfl rfl rfl rfl (by decide) (fun _ => rfl) rfl 0 10 rfl rfl rfl rfl (fun _ => rfl) rfl hl.1 (Nat.le_of_ble_eq_true rfl) dX6_placeToe_10 ⟨(Nat.zero_le _), (Nat.zero_le _)⟩ (fun as H locs hP hD hS => ?_)
  have hP : va_P D vwCl [(m0, .inr (10, [.ref q0, .ref q1, .ref q2, .int v3, .ref q4, .int o3.2.2.2, .int o2.2.2, .ref q7, .int v8, .ref q9, .int v10, .int v11, .int v12, .int v13, .int v14, .ref q15, .int v16])), (q0, .inl (cA 0, 60, .inl o3.2.1)), (q1, .inl (cA 0, 60, .inl o1.1)), (q4, .inl (cA 0, 480, .inl o3.2.2.1))] H := hP
  have hD : va_D A [(m0, .inr (10, [.ref q0, .ref q1, .ref q2, .int v3, .ref q4, .int o3.2.2.2, .int o2.2.2, .ref q7, .int v8, .ref q9, .int v10, .int v11, .int v12, .int v13, .int v14, .ref q15, .int v16])), (q0, .inl (cA 0, 60, .inl o3.2.1)), (q1, .inl (cA 0, 60, .inl o1.1)), (q4, .inl (cA 0, 480, .inl o3.2.2.1))] := hD
  have h := Option.some.inj h
  subst h
  exact hend (adr []) _ _ _ _ _ _ _ rfl rfl (rtn_i _) hP hD hS dX6_placeToe_13
noncomputable def SX6_removeToe (N : Nat) (v5 : Int32) (ss : Nat → Int32) (bb : Nat → Int32) (pp : Nat → Int32) (x1 : Int32) : Option (Int32 × (Nat → Int32) × (Nat → Int32) × (Nat → Int32) × Int32 × Int32) := lt_ (SX6_keep ss bb) (fun o1 : (Nat → Int32) × Int32 => bnd (SX6_doRemoveToe N o1.2 ss x1) (fun o2 : Int32 × (Nat → Int32) × Int32 => bnd (SX6_ends v5 o2.2.2 o2.2.1 o1.1 pp o2.1) (fun o3 : Int32 × (Nat → Int32) × (Nat → Int32) × Int32 => some ((o3.1, o3.2.1, o1.1, o3.2.2.1, o3.2.2.2, o2.2.2)))))
abbrev RM_X6_removeToe : Room := { frames := 3, cells := 0, slots := 0, locals := 64 }
set_option maxHeartbeats 4000000 in
theorem kX6_removeToe (l : Launch) (D : va_G) (cA : Nat → ClassId) (m0 q0 q1 q2 q4 q7 q9 q15 : Nat) (N : Nat) (v3 : Int32) (v5 : Int32) (v6 : Int32) (v8 : Int32) (v10 : Int32) (v11 : Int32) (v12 : Int32) (v13 : Int32) (v14 : Int32) (v16 : Int32) (ss : Nat → Int32) (bb : Nat → Int32) (pp : Nat → Int32) (x1 : Int32) {r : Int32 × (Nat → Int32) × (Nat → Int32) × (Nat → Int32) × Int32 × Int32} (hr : SX6_removeToe N v5 ss bb pp x1 = some r) {sz : Nat} : Met l yX6_removeToe wsX6_removeToe RM_X6_removeToe (va_Pc [.ref m0, .int x1] (gqB D cA [(m0, .inr (10, [.ref q0, .ref q1, .ref q2, .int v3, .ref q4, .int v5, .int v6, .ref q7, .int v8, .ref q9, .int v10, .int v11, .int v12, .int v13, .int v14, .ref q15, .int v16])), (q0, .inl (cA 0, 60, .inl ss)), (q1, .inl (cA 0, 60, .inl bb)), (q4, .inl (cA 0, 480, .inl pp))] sz)) (gqQ D (fun as => (some (.int r.1))) (fun as => [(m0, .inr (10, [.ref q0, .ref q1, .ref q2, .int v3, .ref q4, .int r.2.2.2.2.1, .int r.2.2.2.2.2, .ref q7, .int v8, .ref q9, .int v10, .int v11, .int v12, .int v13, .int v14, .ref q15, .int v16])), (q0, .inl (cA 0, 60, .inl r.2.1)), (q1, .inl (cA 0, 60, .inl r.2.2.1)), (q4, .inl (cA 0, 480, .inl r.2.2.2.1))]) (va_A [(m0, .inr (10, [.ref q0, .ref q1, .ref q2, .int v3, .ref q4, .int v5, .int v6, .ref q7, .int v8, .ref q9, .int v10, .int v11, .int v12, .int v13, .int v14, .ref q15, .int v16])), (q0, .inl (cA 0, 60, .inl ss)), (q1, .inl (cA 0, 60, .inl bb)), (q4, .inl (cA 0, 480, .inl pp))] sz)) 0 0 (va_A [(m0, .inr (10, [.ref q0, .ref q1, .ref q2, .int v3, .ref q4, .int v5, .int v6, .ref q7, .int v8, .ref q9, .int v10, .int v11, .int v12, .int v13, .int v14, .ref q15, .int v16])), (q0, .inl (cA 0, 60, .inl ss)), (q1, .inl (cA 0, 60, .inl bb)), (q4, .inl (cA 0, 480, .inl pp))] sz) := by
  refine gq_ofW (cc := cX6_removeToe) (maxL := 2) (ret := (some .int)) (by decide) rfl (Nat.le_of_ble_eq_true rfl) (fun p e s m args below meth c ls Q A hx hb hml hts hfc hmn hK hP hD hS hA hl hend => ?_)
  have hfc : s.vm.findClass RX6 = some m.cls := hfc
  have hl : lv_has ls 2 [(0, .ref m0), (1, .int x1)] := hl
  have h := hr
  clear hr
  unfold SX6_removeToe at h
  refine lv_aload_n hx hb dX6_removeToe_0 rfl (lv_at hl 0 rfl) ?_
  obtain ⟨o1, ho1, h⟩ := lt_i h
  refine gq_V (v := (fun as => none)) (As := []) (rest := []) (wc := [(m0, .inr (10, [.ref q0, .ref q1, .ref q2, .int v3, .ref q4, .int v5, .int v6, .ref q7, .int v8, .ref q9, .int v10, .int v11, .int v12, .int v13, .int v14, .ref q15, .int v16])), (q0, .inl (cA 0, 60, .inl ss)), (q1, .inl (cA 0, 60, .inl bb))]) (wr := [(q4, .inl (cA 0, 480, .inl pp))]) (w1 := (fun as => [(m0, .inr (10, [.ref q0, .ref q1, .ref q2, .int v3, .ref q4, .int v5, .int o1.2, .ref q7, .int v8, .ref q9, .int v10, .int v11, .int v12, .int v13, .int v14, .ref q15, .int v16])), (q0, .inl (cA 0, 60, .inl ss)), (q1, .inl (cA 0, 60, .inl o1.1))])) (ws2 := (fun as => [(m0, .inr (10, [.ref q0, .ref q1, .ref q2, .int v3, .ref q4, .int v5, .int o1.2, .ref q7, .int v8, .ref q9, .int v10, .int v11, .int v12, .int v13, .int v14, .ref q15, .int v16])), (q0, .inl (cA 0, 60, .inl ss)), (q1, .inl (cA 0, 60, .inl o1.1)), (q4, .inl (cA 0, 480, .inl pp))])) (st1 := (fun as => [])) ⟨hx, hb, hml, hfc, hts⟩ hK hP hD hS hA (kX6_keep l D cA m0 q0 q1 q2 q4 q7 q9 q15 v3 v5 v6 v8 v10 v11 v12 v13 v14 v16 ss bb ho1) (cwV 0 hts gX6_removeToe_X6_keep rfl rfl rfl (by decide +kernel) ⟨(Nat.le_of_ble_eq_true rfl), (Nat.le_of_ble_eq_true rfl)⟩) [0, 1, 2] [3] [1, 2, 3, 0] rfl rfl rfl rfl (by decide) (fun _ => rfl) rfl 0 10 rfl rfl rfl rfl (fun _ => rfl) rfl hl.1 (Nat.le_of_ble_eq_true rfl) dX6_removeToe_1 ⟨(Nat.zero_le _), (Nat.zero_le _)⟩ (fun as H locs hP hD hS => ?_)
  have hP : va_P D vwCl [(m0, .inr (10, [.ref q0, .ref q1, .ref q2, .int v3, .ref q4, .int v5, .int o1.2, .ref q7, .int v8, .ref q9, .int v10, .int v11, .int v12, .int v13, .int v14, .ref q15, .int v16])), (q0, .inl (cA 0, 60, .inl ss)), (q1, .inl (cA 0, 60, .inl o1.1)), (q4, .inl (cA 0, 480, .inl pp))] H := hP
  have hD : va_D A [(m0, .inr (10, [.ref q0, .ref q1, .ref q2, .int v3, .ref q4, .int v5, .int o1.2, .ref q7, .int v8, .ref q9, .int v10, .int v11, .int v12, .int v13, .int v14, .ref q15, .int v16])), (q0, .inl (cA 0, 60, .inl ss)), (q1, .inl (cA 0, 60, .inl o1.1)), (q4, .inl (cA 0, 480, .inl pp))] := hD
  refine lv_aload_n hx hb dX6_removeToe_4 rfl (lv_at hl 0 rfl) ?_
  refine lv_aload_n hx hb dX6_removeToe_5 rfl (lv_at hl 0 rfl) ?_
  refine lv_iload_n hx hb dX6_removeToe_6 rfl (lv_at hl 1 rfl) ?_
  obtain ⟨o2, ho2, h⟩ := bnd_i h
  refine gq_V (v := (fun as => (some (.int o2.1)))) (As := [.int x1]) (rest := [.ref m0]) (wc := [(m0, .inr (10, [.ref q0, .ref q1, .ref q2, .int v3, .ref q4, .int v5, .int o1.2, .ref q7, .int v8, .ref q9, .int v10, .int v11, .int v12, .int v13, .int v14, .ref q15, .int v16])), (q0, .inl (cA 0, 60, .inl ss))]) (wr := [(q1, .inl (cA 0, 60, .inl o1.1)), (q4, .inl (cA 0, 480, .inl pp))]) (w1 := (fun as => [(m0, .inr (10, [.ref q0, .ref q1, .ref q2, .int v3, .ref q4, .int v5, .int o2.2.2, .ref q7, .int v8, .ref q9, .int v10, .int v11, .int v12, .int v13, .int v14, .ref q15, .int v16])), (q0, .inl (cA 0, 60, .inl o2.2.1))])) (ws2 := (fun as => [(m0, .inr (10, [.ref q0, .ref q1, .ref q2, .int v3, .ref q4, .int v5, .int o2.2.2, .ref q7, .int v8, .ref q9, .int v10, .int v11, .int v12, .int v13, .int v14, .ref q15, .int v16])), (q0, .inl (cA 0, 60, .inl o2.2.1)), (q1, .inl (cA 0, 60, .inl o1.1)), (q4, .inl (cA 0, 480, .inl pp))])) (st1 := (fun as => [.int o2.1, .ref m0])) ⟨hx, hb, hml, hfc, hts⟩ hK hP hD hS hA (kX6_doRemoveToe l D cA m0 q0 q1 q2 q4 q7 q9 q15 N v3 v5 o1.2 v8 v10 v11 v12 v13 v14 v16 ss x1 ho2) (cwV 1 hts gX6_removeToe_X6_doRemoveToe rfl rfl rfl (by decide +kernel) ⟨(Nat.le_of_ble_eq_true rfl), (Nat.le_of_ble_eq_true rfl)⟩) [0, 1] [2, 3] [2, 3, 0, 1] rfl rfl rfl rfl (by decide) (fun _ => rfl) rfl 0 10 rfl rfl rfl rfl (fun _ => rfl) rfl hl.1 (Nat.le_of_ble_eq_true rfl) dX6_removeToe_7 ⟨(Nat.zero_le _), (Nat.zero_le _)⟩ (fun as H locs hP hD hS => ?_)
  have hP : va_P D vwCl [(m0, .inr (10, [.ref q0, .ref q1, .ref q2, .int v3, .ref q4, .int v5, .int o2.2.2, .ref q7, .int v8, .ref q9, .int v10, .int v11, .int v12, .int v13, .int v14, .ref q15, .int v16])), (q0, .inl (cA 0, 60, .inl o2.2.1)), (q1, .inl (cA 0, 60, .inl o1.1)), (q4, .inl (cA 0, 480, .inl pp))] H := hP
  have hD : va_D A [(m0, .inr (10, [.ref q0, .ref q1, .ref q2, .int v3, .ref q4, .int v5, .int o2.2.2, .ref q7, .int v8, .ref q9, .int v10, .int v11, .int v12, .int v13, .int v14, .ref q15, .int v16])), (q0, .inl (cA 0, 60, .inl o2.2.1)), (q1, .inl (cA 0, 60, .inl o1.1)), (q4, .inl (cA 0, 480, .inl pp))] := hD
  obtain ⟨o3, ho3, h⟩ := bnd_i h
  refine gq_V (v := (fun as => (some (.int o3.1)))) (As := [.int o2.1]) (rest := []) (wc := [(m0, .inr (10, [.ref q0, .ref q1, .ref q2, .int v3, .ref q4, .int v5, .int o2.2.2, .ref q7, .int v8, .ref q9, .int v10, .int v11, .int v12, .int v13, .int v14, .ref q15, .int v16])), (q0, .inl (cA 0, 60, .inl o2.2.1)), (q1, .inl (cA 0, 60, .inl o1.1)), (q4, .inl (cA 0, 480, .inl pp))]) (wr := []) (w1 := (fun as => [(m0, .inr (10, [.ref q0, .ref q1, .ref q2, .int v3, .ref q4, .int o3.2.2.2, .int o2.2.2, .ref q7, .int v8, .ref q9, .int v10, .int v11, .int v12, .int v13, .int v14, .ref q15, .int v16])), (q0, .inl (cA 0, 60, .inl o3.2.1)), (q1, .inl (cA 0, 60, .inl o1.1)), (q4, .inl (cA 0, 480, .inl o3.2.2.1))])) (ws2 := (fun as => [(m0, .inr (10, [.ref q0, .ref q1, .ref q2, .int v3, .ref q4, .int o3.2.2.2, .int o2.2.2, .ref q7, .int v8, .ref q9, .int v10, .int v11, .int v12, .int v13, .int v14, .ref q15, .int v16])), (q0, .inl (cA 0, 60, .inl o3.2.1)), (q1, .inl (cA 0, 60, .inl o1.1)), (q4, .inl (cA 0, 480, .inl o3.2.2.1))])) (st1 := (fun as => [.int o3.1])) ⟨hx, hb, hml, hfc, hts⟩ hK hP hD hS hA (kX6_ends l D cA m0 q0 q1 q2 q4 q7 q9 q15 v3 v5 o2.2.2 v8 v10 v11 v12 v13 v14 v16 o2.2.1 o1.1 pp o2.1 ho3) (cwV 1 hts gX6_removeToe_X6_ends rfl rfl rfl (by decide +kernel) ⟨(Nat.le_of_ble_eq_true rfl), (Nat.le_of_ble_eq_true rfl)⟩) [0, 1, 2, 3] [] [0, 1, 2, 3] rfl rfl rfl rfl (by decide) (fun _ => rfl) rfl 0 10 rfl rfl rfl rfl (fun _ => rfl) rfl hl.1 (Nat.le_of_ble_eq_true rfl) dX6_removeToe_10 ⟨(Nat.zero_le _), (Nat.zero_le _)⟩ (fun as H locs hP hD hS => ?_)
  have hP : va_P D vwCl [(m0, .inr (10, [.ref q0, .ref q1, .ref q2, .int v3, .ref q4, .int o3.2.2.2, .int o2.2.2, .ref q7, .int v8, .ref q9, .int v10, .int v11, .int v12, .int v13, .int v14, .ref q15, .int v16])), (q0, .inl (cA 0, 60, .inl o3.2.1)), (q1, .inl (cA 0, 60, .inl o1.1)), (q4, .inl (cA 0, 480, .inl o3.2.2.1))] H := hP
  have hD : va_D A [(m0, .inr (10, [.ref q0, .ref q1, .ref q2, .int v3, .ref q4, .int o3.2.2.2, .int o2.2.2, .ref q7, .int v8, .ref q9, .int v10, .int v11, .int v12, .int v13, .int v14, .ref q15, .int v16])), (q0, .inl (cA 0, 60, .inl o3.2.1)), (q1, .inl (cA 0, 60, .inl o1.1)), (q4, .inl (cA 0, 480, .inl o3.2.2.1))] := hD
  have h := Option.some.inj h
  subst h
  exact hend (adr []) _ _ _ _ _ _ _ rfl rfl (rtn_i _) hP hD hS dX6_removeToe_13
noncomputable def SX6_insertPlug (v5 : Int32) (ss : Nat → Int32) (bb : Nat → Int32) (pp : Nat → Int32) (x1 : Int32) : Option (Int32 × (Nat → Int32) × (Nat → Int32) × (Nat → Int32) × Int32 × Int32) := lt_ (SX6_keep ss bb) (fun o1 : (Nat → Int32) × Int32 => bnd (SX6_doInsertPlug o1.2 ss x1) (fun o2 : Int32 × (Nat → Int32) × Int32 => bnd (SX6_ends v5 o2.2.2 o2.2.1 o1.1 pp o2.1) (fun o3 : Int32 × (Nat → Int32) × (Nat → Int32) × Int32 => if o3.1 = 1 then (some ((1, o3.2.1, o1.1, o3.2.2.1, o3.2.2.2, o2.2.2))) else (some ((0, o3.2.1, o1.1, o3.2.2.1, o3.2.2.2, o2.2.2))))))
abbrev RM_X6_insertPlug : Room := { frames := 3, cells := 0, slots := 0, locals := 65 }
set_option maxHeartbeats 4000000 in
theorem kX6_insertPlug (l : Launch) (D : va_G) (cA : Nat → ClassId) (m0 q0 q1 q2 q4 q7 q9 q15 : Nat) (v3 : Int32) (v5 : Int32) (v6 : Int32) (v8 : Int32) (v10 : Int32) (v11 : Int32) (v12 : Int32) (v13 : Int32) (v14 : Int32) (v16 : Int32) (ss : Nat → Int32) (bb : Nat → Int32) (pp : Nat → Int32) (x1 : Int32) {r : Int32 × (Nat → Int32) × (Nat → Int32) × (Nat → Int32) × Int32 × Int32} (hr : SX6_insertPlug v5 ss bb pp x1 = some r) {sz : Nat} : Met l yX6_insertPlug wsX6_insertPlug RM_X6_insertPlug (va_Pc [.ref m0, .int x1] (gqB D cA [(m0, .inr (10, [.ref q0, .ref q1, .ref q2, .int v3, .ref q4, .int v5, .int v6, .ref q7, .int v8, .ref q9, .int v10, .int v11, .int v12, .int v13, .int v14, .ref q15, .int v16])), (q0, .inl (cA 0, 60, .inl ss)), (q1, .inl (cA 0, 60, .inl bb)), (q4, .inl (cA 0, 480, .inl pp))] sz)) (gqQ D (fun as => (some (.int r.1))) (fun as => [(m0, .inr (10, [.ref q0, .ref q1, .ref q2, .int v3, .ref q4, .int r.2.2.2.2.1, .int r.2.2.2.2.2, .ref q7, .int v8, .ref q9, .int v10, .int v11, .int v12, .int v13, .int v14, .ref q15, .int v16])), (q0, .inl (cA 0, 60, .inl r.2.1)), (q1, .inl (cA 0, 60, .inl r.2.2.1)), (q4, .inl (cA 0, 480, .inl r.2.2.2.1))]) (va_A [(m0, .inr (10, [.ref q0, .ref q1, .ref q2, .int v3, .ref q4, .int v5, .int v6, .ref q7, .int v8, .ref q9, .int v10, .int v11, .int v12, .int v13, .int v14, .ref q15, .int v16])), (q0, .inl (cA 0, 60, .inl ss)), (q1, .inl (cA 0, 60, .inl bb)), (q4, .inl (cA 0, 480, .inl pp))] sz)) 0 0 (va_A [(m0, .inr (10, [.ref q0, .ref q1, .ref q2, .int v3, .ref q4, .int v5, .int v6, .ref q7, .int v8, .ref q9, .int v10, .int v11, .int v12, .int v13, .int v14, .ref q15, .int v16])), (q0, .inl (cA 0, 60, .inl ss)), (q1, .inl (cA 0, 60, .inl bb)), (q4, .inl (cA 0, 480, .inl pp))] sz) := by
  refine gq_ofW (cc := cX6_insertPlug) (maxL := 2) (ret := (some .boolean)) (by decide) rfl (Nat.le_of_ble_eq_true rfl) (fun p e s m args below meth c ls Q A hx hb hml hts hfc hmn hK hP hD hS hA hl hend => ?_)
  have hfc : s.vm.findClass RX6 = some m.cls := hfc
  have hl : lv_has ls 2 [(0, .ref m0), (1, .int x1)] := hl
  have h := hr
  clear hr
  unfold SX6_insertPlug at h
  refine lv_aload_n hx hb dX6_insertPlug_0 rfl (lv_at hl 0 rfl) ?_
  obtain ⟨o1, ho1, h⟩ := lt_i h
  refine gq_V (v := (fun as => none)) (As := []) (rest := []) (wc := [(m0, .inr (10, [.ref q0, .ref q1, .ref q2, .int v3, .ref q4, .int v5, .int v6, .ref q7, .int v8, .ref q9, .int v10, .int v11, .int v12, .int v13, .int v14, .ref q15, .int v16])), (q0, .inl (cA 0, 60, .inl ss)), (q1, .inl (cA 0, 60, .inl bb))]) (wr := [(q4, .inl (cA 0, 480, .inl pp))]) (w1 := (fun as => [(m0, .inr (10, [.ref q0, .ref q1, .ref q2, .int v3, .ref q4, .int v5, .int o1.2, .ref q7, .int v8, .ref q9, .int v10, .int v11, .int v12, .int v13, .int v14, .ref q15, .int v16])), (q0, .inl (cA 0, 60, .inl ss)), (q1, .inl (cA 0, 60, .inl o1.1))])) (ws2 := (fun as => [(m0, .inr (10, [.ref q0, .ref q1, .ref q2, .int v3, .ref q4, .int v5, .int o1.2, .ref q7, .int v8, .ref q9, .int v10, .int v11, .int v12, .int v13, .int v14, .ref q15, .int v16])), (q0, .inl (cA 0, 60, .inl ss)), (q1, .inl (cA 0, 60, .inl o1.1)), (q4, .inl (cA 0, 480, .inl pp))])) (st1 := (fun as => [])) ⟨hx, hb, hml, hfc, hts⟩ hK hP hD hS hA (kX6_keep l D cA m0 q0 q1 q2 q4 q7 q9 q15 v3 v5 v6 v8 v10 v11 v12 v13 v14 v16 ss bb ho1) (cwV 0 hts gX6_insertPlug_X6_keep rfl rfl rfl (by decide +kernel) ⟨(Nat.le_of_ble_eq_true rfl), (Nat.le_of_ble_eq_true rfl)⟩) [0, 1, 2] [3] [1, 2, 3, 0] rfl rfl rfl rfl (by decide) (fun _ => rfl) rfl 0 10 rfl rfl rfl rfl (fun _ => rfl) rfl hl.1 (Nat.le_of_ble_eq_true rfl) dX6_insertPlug_1 ⟨(Nat.zero_le _), (Nat.zero_le _)⟩ (fun as H locs hP hD hS => ?_)
  have hP : va_P D vwCl [(m0, .inr (10, [.ref q0, .ref q1, .ref q2, .int v3, .ref q4, .int v5, .int o1.2, .ref q7, .int v8, .ref q9, .int v10, .int v11, .int v12, .int v13, .int v14, .ref q15, .int v16])), (q0, .inl (cA 0, 60, .inl ss)), (q1, .inl (cA 0, 60, .inl o1.1)), (q4, .inl (cA 0, 480, .inl pp))] H := hP
  have hD : va_D A [(m0, .inr (10, [.ref q0, .ref q1, .ref q2, .int v3, .ref q4, .int v5, .int o1.2, .ref q7, .int v8, .ref q9, .int v10, .int v11, .int v12, .int v13, .int v14, .ref q15, .int v16])), (q0, .inl (cA 0, 60, .inl ss)), (q1, .inl (cA 0, 60, .inl o1.1)), (q4, .inl (cA 0, 480, .inl pp))] := hD
  refine lv_aload_n hx hb dX6_insertPlug_4 rfl (lv_at hl 0 rfl) ?_
  refine lv_aload_n hx hb dX6_insertPlug_5 rfl (lv_at hl 0 rfl) ?_
  refine lv_iload_n hx hb dX6_insertPlug_6 rfl (lv_at hl 1 rfl) ?_
  obtain ⟨o2, ho2, h⟩ := bnd_i h
  refine gq_V (v := (fun as => (some (.int o2.1)))) (As := [.int x1]) (rest := [.ref m0]) (wc := [(m0, .inr (10, [.ref q0, .ref q1, .ref q2, .int v3, .ref q4, .int v5, .int o1.2, .ref q7, .int v8, .ref q9, .int v10, .int v11, .int v12, .int v13, .int v14, .ref q15, .int v16])), (q0, .inl (cA 0, 60, .inl ss))]) (wr := [(q1, .inl (cA 0, 60, .inl o1.1)), (q4, .inl (cA 0, 480, .inl pp))]) (w1 := (fun as => [(m0, .inr (10, [.ref q0, .ref q1, .ref q2, .int v3, .ref q4, .int v5, .int o2.2.2, .ref q7, .int v8, .ref q9, .int v10, .int v11, .int v12, .int v13, .int v14, .ref q15, .int v16])), (q0, .inl (cA 0, 60, .inl o2.2.1))])) (ws2 := (fun as => [(m0, .inr (10, [.ref q0, .ref q1, .ref q2, .int v3, .ref q4, .int v5, .int o2.2.2, .ref q7, .int v8, .ref q9, .int v10, .int v11, .int v12, .int v13, .int v14, .ref q15, .int v16])), (q0, .inl (cA 0, 60, .inl o2.2.1)), (q1, .inl (cA 0, 60, .inl o1.1)), (q4, .inl (cA 0, 480, .inl pp))])) (st1 := (fun as => [.int o2.1, .ref m0])) ⟨hx, hb, hml, hfc, hts⟩ hK hP hD hS hA (kX6_doInsertPlug l D cA m0 q0 q1 q2 q4 q7 q9 q15 v3 v5 o1.2 v8 v10 v11 v12 v13 v14 v16 ss x1 ho2) (cwV 1 hts gX6_insertPlug_X6_doInsertPlug rfl rfl rfl (by decide +kernel) ⟨(Nat.le_of_ble_eq_true rfl), (Nat.le_of_ble_eq_true rfl)⟩) [0, 1] [2, 3] [2, 3, 0, 1] rfl rfl rfl rfl (by decide) (fun _ => rfl) rfl 0 10 rfl rfl rfl rfl (fun _ => rfl) rfl hl.1 (Nat.le_of_ble_eq_true rfl) dX6_insertPlug_7 ⟨(Nat.zero_le _), (Nat.zero_le _)⟩ (fun as H locs hP hD hS => ?_)
  have hP : va_P D vwCl [(m0, .inr (10, [.ref q0, .ref q1, .ref q2, .int v3, .ref q4, .int v5, .int o2.2.2, .ref q7, .int v8, .ref q9, .int v10, .int v11, .int v12, .int v13, .int v14, .ref q15, .int v16])), (q0, .inl (cA 0, 60, .inl o2.2.1)), (q1, .inl (cA 0, 60, .inl o1.1)), (q4, .inl (cA 0, 480, .inl pp))] H := hP
  have hD : va_D A [(m0, .inr (10, [.ref q0, .ref q1, .ref q2, .int v3, .ref q4, .int v5, .int o2.2.2, .ref q7, .int v8, .ref q9, .int v10, .int v11, .int v12, .int v13, .int v14, .ref q15, .int v16])), (q0, .inl (cA 0, 60, .inl o2.2.1)), (q1, .inl (cA 0, 60, .inl o1.1)), (q4, .inl (cA 0, 480, .inl pp))] := hD
  obtain ⟨o3, ho3, h⟩ := bnd_i h
  refine gq_V (v := (fun as => (some (.int o3.1)))) (As := [.int o2.1]) (rest := []) (wc := [(m0, .inr (10, [.ref q0, .ref q1, .ref q2, .int v3, .ref q4, .int v5, .int o2.2.2, .ref q7, .int v8, .ref q9, .int v10, .int v11, .int v12, .int v13, .int v14, .ref q15, .int v16])), (q0, .inl (cA 0, 60, .inl o2.2.1)), (q1, .inl (cA 0, 60, .inl o1.1)), (q4, .inl (cA 0, 480, .inl pp))]) (wr := []) (w1 := (fun as => [(m0, .inr (10, [.ref q0, .ref q1, .ref q2, .int v3, .ref q4, .int o3.2.2.2, .int o2.2.2, .ref q7, .int v8, .ref q9, .int v10, .int v11, .int v12, .int v13, .int v14, .ref q15, .int v16])), (q0, .inl (cA 0, 60, .inl o3.2.1)), (q1, .inl (cA 0, 60, .inl o1.1)), (q4, .inl (cA 0, 480, .inl o3.2.2.1))])) (ws2 := (fun as => [(m0, .inr (10, [.ref q0, .ref q1, .ref q2, .int v3, .ref q4, .int o3.2.2.2, .int o2.2.2, .ref q7, .int v8, .ref q9, .int v10, .int v11, .int v12, .int v13, .int v14, .ref q15, .int v16])), (q0, .inl (cA 0, 60, .inl o3.2.1)), (q1, .inl (cA 0, 60, .inl o1.1)), (q4, .inl (cA 0, 480, .inl o3.2.2.1))])) (st1 := (fun as => [.int o3.1])) ⟨hx, hb, hml, hfc, hts⟩ hK hP hD hS hA (kX6_ends l D cA m0 q0 q1 q2 q4 q7 q9 q15 v3 v5 o2.2.2 v8 v10 v11 v12 v13 v14 v16 o2.2.1 o1.1 pp o2.1 ho3) (cwV 1 hts gX6_insertPlug_X6_ends rfl rfl rfl (by decide +kernel) ⟨(Nat.le_of_ble_eq_true rfl), (Nat.le_of_ble_eq_true rfl)⟩) [0, 1, 2, 3] [] [0, 1, 2, 3] rfl rfl rfl rfl (by decide) (fun _ => rfl) rfl 0 10 rfl rfl rfl rfl (fun _ => rfl) rfl hl.1 (Nat.le_of_ble_eq_true rfl) dX6_insertPlug_10 ⟨(Nat.zero_le _), (Nat.zero_le _)⟩ (fun as H locs hP hD hS => ?_)
  have hP : va_P D vwCl [(m0, .inr (10, [.ref q0, .ref q1, .ref q2, .int v3, .ref q4, .int o3.2.2.2, .int o2.2.2, .ref q7, .int v8, .ref q9, .int v10, .int v11, .int v12, .int v13, .int v14, .ref q15, .int v16])), (q0, .inl (cA 0, 60, .inl o3.2.1)), (q1, .inl (cA 0, 60, .inl o1.1)), (q4, .inl (cA 0, 480, .inl o3.2.2.1))] H := hP
  have hD : va_D A [(m0, .inr (10, [.ref q0, .ref q1, .ref q2, .int v3, .ref q4, .int o3.2.2.2, .int o2.2.2, .ref q7, .int v8, .ref q9, .int v10, .int v11, .int v12, .int v13, .int v14, .ref q15, .int v16])), (q0, .inl (cA 0, 60, .inl o3.2.1)), (q1, .inl (cA 0, 60, .inl o1.1)), (q4, .inl (cA 0, 480, .inl o3.2.2.1))] := hD
  refine lv_iconst (v := 1) hx hb dX6_insertPlug_13 (by decide) ?_
  refine lv_icmp_ne (tgt := 21) hx hb dX6_insertPlug_14 (by decide) (fun c4 => ?_) (fun c4 => ?_)
  · have h := ite_f c4 h
    refine lv_iconst (v := 0) hx hb dX6_insertPlug_21 (by decide) ?_
    have h := Option.some.inj h
    subst h
    exact hend (adr []) _ _ _ _ _ _ _ rfl rfl (rtn_n (x := 0) rfl) hP hD hS dX6_insertPlug_22
  · have h := ite_t c4 h
    refine lv_iconst (v := 1) hx hb dX6_insertPlug_17 (by decide) ?_
    refine lv_goto (tgt := 22) hx hb dX6_insertPlug_18 (by decide) ?_
    have h := Option.some.inj h
    subst h
    exact hend (adr []) _ _ _ _ _ _ _ rfl rfl (rtn_n (x := 1) rfl) hP hD hS dX6_insertPlug_22
noncomputable def SX6_pullPlug (v5 : Int32) (ss : Nat → Int32) (bb : Nat → Int32) (pp : Nat → Int32) : Option (Int32 × (Nat → Int32) × (Nat → Int32) × (Nat → Int32) × Int32 × Int32) := lt_ (SX6_keep ss bb) (fun o1 : (Nat → Int32) × Int32 => lt_ (SX6_doPullPlug o1.2 ss) (fun o2 : Int32 × (Nat → Int32) × Int32 => bnd (SX6_ends v5 o2.2.2 o2.2.1 o1.1 pp o2.1) (fun o3 : Int32 × (Nat → Int32) × (Nat → Int32) × Int32 => some ((o3.1, o3.2.1, o1.1, o3.2.2.1, o3.2.2.2, o2.2.2)))))
abbrev RM_X6_pullPlug : Room := { frames := 2, cells := 0, slots := 0, locals := 43 }
set_option maxHeartbeats 4000000 in
theorem kX6_pullPlug (l : Launch) (D : va_G) (cA : Nat → ClassId) (m0 q0 q1 q2 q4 q7 q9 q15 : Nat) (v3 : Int32) (v5 : Int32) (v6 : Int32) (v8 : Int32) (v10 : Int32) (v11 : Int32) (v12 : Int32) (v13 : Int32) (v14 : Int32) (v16 : Int32) (ss : Nat → Int32) (bb : Nat → Int32) (pp : Nat → Int32) {r : Int32 × (Nat → Int32) × (Nat → Int32) × (Nat → Int32) × Int32 × Int32} (hr : SX6_pullPlug v5 ss bb pp = some r) {sz : Nat} : Met l yX6_pullPlug wsX6_pullPlug RM_X6_pullPlug (va_Pc [.ref m0] (gqB D cA [(m0, .inr (10, [.ref q0, .ref q1, .ref q2, .int v3, .ref q4, .int v5, .int v6, .ref q7, .int v8, .ref q9, .int v10, .int v11, .int v12, .int v13, .int v14, .ref q15, .int v16])), (q0, .inl (cA 0, 60, .inl ss)), (q1, .inl (cA 0, 60, .inl bb)), (q4, .inl (cA 0, 480, .inl pp))] sz)) (gqQ D (fun as => (some (.int r.1))) (fun as => [(m0, .inr (10, [.ref q0, .ref q1, .ref q2, .int v3, .ref q4, .int r.2.2.2.2.1, .int r.2.2.2.2.2, .ref q7, .int v8, .ref q9, .int v10, .int v11, .int v12, .int v13, .int v14, .ref q15, .int v16])), (q0, .inl (cA 0, 60, .inl r.2.1)), (q1, .inl (cA 0, 60, .inl r.2.2.1)), (q4, .inl (cA 0, 480, .inl r.2.2.2.1))]) (va_A [(m0, .inr (10, [.ref q0, .ref q1, .ref q2, .int v3, .ref q4, .int v5, .int v6, .ref q7, .int v8, .ref q9, .int v10, .int v11, .int v12, .int v13, .int v14, .ref q15, .int v16])), (q0, .inl (cA 0, 60, .inl ss)), (q1, .inl (cA 0, 60, .inl bb)), (q4, .inl (cA 0, 480, .inl pp))] sz)) 0 0 (va_A [(m0, .inr (10, [.ref q0, .ref q1, .ref q2, .int v3, .ref q4, .int v5, .int v6, .ref q7, .int v8, .ref q9, .int v10, .int v11, .int v12, .int v13, .int v14, .ref q15, .int v16])), (q0, .inl (cA 0, 60, .inl ss)), (q1, .inl (cA 0, 60, .inl bb)), (q4, .inl (cA 0, 480, .inl pp))] sz) := by
  refine gq_ofW (cc := cX6_pullPlug) (maxL := 1) (ret := (some .int)) (by decide) rfl (Nat.le_of_ble_eq_true rfl) (fun p e s m args below meth c ls Q A hx hb hml hts hfc hmn hK hP hD hS hA hl hend => ?_)
  have hfc : s.vm.findClass RX6 = some m.cls := hfc
  have hl : lv_has ls 1 [(0, .ref m0)] := hl
  have h := hr
  clear hr
  unfold SX6_pullPlug at h
  refine lv_aload_n hx hb dX6_pullPlug_0 rfl (lv_at hl 0 rfl) ?_
  obtain ⟨o1, ho1, h⟩ := lt_i h
  refine gq_V (v := (fun as => none)) (As := []) (rest := []) (wc := [(m0, .inr (10, [.ref q0, .ref q1, .ref q2, .int v3, .ref q4, .int v5, .int v6, .ref q7, .int v8, .ref q9, .int v10, .int v11, .int v12, .int v13, .int v14, .ref q15, .int v16])), (q0, .inl (cA 0, 60, .inl ss)), (q1, .inl (cA 0, 60, .inl bb))]) (wr := [(q4, .inl (cA 0, 480, .inl pp))]) (w1 := (fun as => [(m0, .inr (10, [.ref q0, .ref q1, .ref q2, .int v3, .ref q4, .int v5, .int o1.2, .ref q7, .int v8, .ref q9, .int v10, .int v11, .int v12, .int v13, .int v14, .ref q15, .int v16])), (q0, .inl (cA 0, 60, .inl ss)), (q1, .inl (cA 0, 60, .inl o1.1))])) (ws2 := (fun as => [(m0, .inr (10, [.ref q0, .ref q1, .ref q2, .int v3, .ref q4, .int v5, .int o1.2, .ref q7, .int v8, .ref q9, .int v10, .int v11, .int v12, .int v13, .int v14, .ref q15, .int v16])), (q0, .inl (cA 0, 60, .inl ss)), (q1, .inl (cA 0, 60, .inl o1.1)), (q4, .inl (cA 0, 480, .inl pp))])) (st1 := (fun as => [])) ⟨hx, hb, hml, hfc, hts⟩ hK hP hD hS hA (kX6_keep l D cA m0 q0 q1 q2 q4 q7 q9 q15 v3 v5 v6 v8 v10 v11 v12 v13 v14 v16 ss bb ho1) (cwV 0 hts gX6_pullPlug_X6_keep rfl rfl rfl (by decide +kernel) ⟨(Nat.le_of_ble_eq_true rfl), (Nat.le_of_ble_eq_true rfl)⟩) [0, 1, 2] [3] [1, 2, 3, 0] rfl rfl rfl rfl (by decide) (fun _ => rfl) rfl 0 10 rfl rfl rfl rfl (fun _ => rfl) rfl hl.1 (Nat.le_of_ble_eq_true rfl) dX6_pullPlug_1 ⟨(Nat.zero_le _), (Nat.zero_le _)⟩ (fun as H locs hP hD hS => ?_)
  have hP : va_P D vwCl [(m0, .inr (10, [.ref q0, .ref q1, .ref q2, .int v3, .ref q4, .int v5, .int o1.2, .ref q7, .int v8, .ref q9, .int v10, .int v11, .int v12, .int v13, .int v14, .ref q15, .int v16])), (q0, .inl (cA 0, 60, .inl ss)), (q1, .inl (cA 0, 60, .inl o1.1)), (q4, .inl (cA 0, 480, .inl pp))] H := hP
  have hD : va_D A [(m0, .inr (10, [.ref q0, .ref q1, .ref q2, .int v3, .ref q4, .int v5, .int o1.2, .ref q7, .int v8, .ref q9, .int v10, .int v11, .int v12, .int v13, .int v14, .ref q15, .int v16])), (q0, .inl (cA 0, 60, .inl ss)), (q1, .inl (cA 0, 60, .inl o1.1)), (q4, .inl (cA 0, 480, .inl pp))] := hD
  refine lv_aload_n hx hb dX6_pullPlug_4 rfl (lv_at hl 0 rfl) ?_
  refine lv_aload_n hx hb dX6_pullPlug_5 rfl (lv_at hl 0 rfl) ?_
  obtain ⟨o2, ho2, h⟩ := lt_i h
  refine gq_V (v := (fun as => (some (.int o2.1)))) (As := []) (rest := [.ref m0]) (wc := [(m0, .inr (10, [.ref q0, .ref q1, .ref q2, .int v3, .ref q4, .int v5, .int o1.2, .ref q7, .int v8, .ref q9, .int v10, .int v11, .int v12, .int v13, .int v14, .ref q15, .int v16])), (q0, .inl (cA 0, 60, .inl ss))]) (wr := [(q1, .inl (cA 0, 60, .inl o1.1)), (q4, .inl (cA 0, 480, .inl pp))]) (w1 := (fun as => [(m0, .inr (10, [.ref q0, .ref q1, .ref q2, .int v3, .ref q4, .int v5, .int o2.2.2, .ref q7, .int v8, .ref q9, .int v10, .int v11, .int v12, .int v13, .int v14, .ref q15, .int v16])), (q0, .inl (cA 0, 60, .inl o2.2.1))])) (ws2 := (fun as => [(m0, .inr (10, [.ref q0, .ref q1, .ref q2, .int v3, .ref q4, .int v5, .int o2.2.2, .ref q7, .int v8, .ref q9, .int v10, .int v11, .int v12, .int v13, .int v14, .ref q15, .int v16])), (q0, .inl (cA 0, 60, .inl o2.2.1)), (q1, .inl (cA 0, 60, .inl o1.1)), (q4, .inl (cA 0, 480, .inl pp))])) (st1 := (fun as => [.int o2.1, .ref m0])) ⟨hx, hb, hml, hfc, hts⟩ hK hP hD hS hA (kX6_doPullPlug l D cA m0 q0 q1 q2 q4 q7 q9 q15 v3 v5 o1.2 v8 v10 v11 v12 v13 v14 v16 ss ho2) (cwV 0 hts gX6_pullPlug_X6_doPullPlug rfl rfl rfl (by decide +kernel) ⟨(Nat.le_of_ble_eq_true rfl), (Nat.le_of_ble_eq_true rfl)⟩) [0, 1] [2, 3] [2, 3, 0, 1] rfl rfl rfl rfl (by decide) (fun _ => rfl) rfl 0 10 rfl rfl rfl rfl (fun _ => rfl) rfl hl.1 (Nat.le_of_ble_eq_true rfl) dX6_pullPlug_6 ⟨(Nat.zero_le _), (Nat.zero_le _)⟩ (fun as H locs hP hD hS => ?_)
  have hP : va_P D vwCl [(m0, .inr (10, [.ref q0, .ref q1, .ref q2, .int v3, .ref q4, .int v5, .int o2.2.2, .ref q7, .int v8, .ref q9, .int v10, .int v11, .int v12, .int v13, .int v14, .ref q15, .int v16])), (q0, .inl (cA 0, 60, .inl o2.2.1)), (q1, .inl (cA 0, 60, .inl o1.1)), (q4, .inl (cA 0, 480, .inl pp))] H := hP
  have hD : va_D A [(m0, .inr (10, [.ref q0, .ref q1, .ref q2, .int v3, .ref q4, .int v5, .int o2.2.2, .ref q7, .int v8, .ref q9, .int v10, .int v11, .int v12, .int v13, .int v14, .ref q15, .int v16])), (q0, .inl (cA 0, 60, .inl o2.2.1)), (q1, .inl (cA 0, 60, .inl o1.1)), (q4, .inl (cA 0, 480, .inl pp))] := hD
  obtain ⟨o3, ho3, h⟩ := bnd_i h
  refine gq_V (v := (fun as => (some (.int o3.1)))) (As := [.int o2.1]) (rest := []) (wc := [(m0, .inr (10, [.ref q0, .ref q1, .ref q2, .int v3, .ref q4, .int v5, .int o2.2.2, .ref q7, .int v8, .ref q9, .int v10, .int v11, .int v12, .int v13, .int v14, .ref q15, .int v16])), (q0, .inl (cA 0, 60, .inl o2.2.1)), (q1, .inl (cA 0, 60, .inl o1.1)), (q4, .inl (cA 0, 480, .inl pp))]) (wr := []) (w1 := (fun as => [(m0, .inr (10, [.ref q0, .ref q1, .ref q2, .int v3, .ref q4, .int o3.2.2.2, .int o2.2.2, .ref q7, .int v8, .ref q9, .int v10, .int v11, .int v12, .int v13, .int v14, .ref q15, .int v16])), (q0, .inl (cA 0, 60, .inl o3.2.1)), (q1, .inl (cA 0, 60, .inl o1.1)), (q4, .inl (cA 0, 480, .inl o3.2.2.1))])) (ws2 := (fun as => [(m0, .inr (10, [.ref q0, .ref q1, .ref q2, .int v3, .ref q4, .int o3.2.2.2, .int o2.2.2, .ref q7, .int v8, .ref q9, .int v10, .int v11, .int v12, .int v13, .int v14, .ref q15, .int v16])), (q0, .inl (cA 0, 60, .inl o3.2.1)), (q1, .inl (cA 0, 60, .inl o1.1)), (q4, .inl (cA 0, 480, .inl o3.2.2.1))])) (st1 := (fun as => [.int o3.1])) ⟨hx, hb, hml, hfc, hts⟩ hK hP hD hS hA (kX6_ends l D cA m0 q0 q1 q2 q4 q7 q9 q15 v3 v5 o2.2.2 v8 v10 v11 v12 v13 v14 v16 o2.2.1 o1.1 pp o2.1 ho3) (cwV 1 hts gX6_pullPlug_X6_ends rfl rfl rfl (by decide +kernel) ⟨(Nat.le_of_ble_eq_true rfl), (Nat.le_of_ble_eq_true rfl)⟩) [0, 1, 2, 3] [] [0, 1, 2, 3] rfl rfl rfl rfl (by decide) (fun _ => rfl) rfl 0 10 rfl rfl rfl rfl (fun _ => rfl) rfl hl.1 (Nat.le_of_ble_eq_true rfl) dX6_pullPlug_9 ⟨(Nat.zero_le _), (Nat.zero_le _)⟩ (fun as H locs hP hD hS => ?_)
  have hP : va_P D vwCl [(m0, .inr (10, [.ref q0, .ref q1, .ref q2, .int v3, .ref q4, .int o3.2.2.2, .int o2.2.2, .ref q7, .int v8, .ref q9, .int v10, .int v11, .int v12, .int v13, .int v14, .ref q15, .int v16])), (q0, .inl (cA 0, 60, .inl o3.2.1)), (q1, .inl (cA 0, 60, .inl o1.1)), (q4, .inl (cA 0, 480, .inl o3.2.2.1))] H := hP
  have hD : va_D A [(m0, .inr (10, [.ref q0, .ref q1, .ref q2, .int v3, .ref q4, .int o3.2.2.2, .int o2.2.2, .ref q7, .int v8, .ref q9, .int v10, .int v11, .int v12, .int v13, .int v14, .ref q15, .int v16])), (q0, .inl (cA 0, 60, .inl o3.2.1)), (q1, .inl (cA 0, 60, .inl o1.1)), (q4, .inl (cA 0, 480, .inl o3.2.2.1))] := hD
  have h := Option.some.inj h
  subst h
  exact hend (adr []) _ _ _ _ _ _ _ rfl rfl (rtn_i _) hP hD hS dX6_pullPlug_12
noncomputable def SX6_layTowel (N : Nat) (v5 : Int32) (ss : Nat → Int32) (bb : Nat → Int32) (pp : Nat → Int32) (x1 : Int32) (x2 : Int32) : Option (Int32 × (Nat → Int32) × (Nat → Int32) × (Nat → Int32) × Int32 × Int32) := lt_ (SX6_keep ss bb) (fun o1 : (Nat → Int32) × Int32 => bnd (SX6_doLayTowel N o1.2 ss x1 x2) (fun o2 : Int32 × (Nat → Int32) × Int32 => bnd (SX6_ends v5 o2.2.2 o2.2.1 o1.1 pp o2.1) (fun o3 : Int32 × (Nat → Int32) × (Nat → Int32) × Int32 => some ((o3.1, o3.2.1, o1.1, o3.2.2.1, o3.2.2.2, o2.2.2)))))
abbrev RM_X6_layTowel : Room := { frames := 3, cells := 0, slots := 0, locals := 70 }
set_option maxHeartbeats 4000000 in
theorem kX6_layTowel (l : Launch) (D : va_G) (cA : Nat → ClassId) (m0 q0 q1 q2 q4 q7 q9 q15 : Nat) (N : Nat) (v3 : Int32) (v5 : Int32) (v6 : Int32) (v8 : Int32) (v10 : Int32) (v11 : Int32) (v12 : Int32) (v13 : Int32) (v14 : Int32) (v16 : Int32) (ss : Nat → Int32) (bb : Nat → Int32) (pp : Nat → Int32) (x1 : Int32) (x2 : Int32) {r : Int32 × (Nat → Int32) × (Nat → Int32) × (Nat → Int32) × Int32 × Int32} (hr : SX6_layTowel N v5 ss bb pp x1 x2 = some r) {sz : Nat} : Met l yX6_layTowel wsX6_layTowel RM_X6_layTowel (va_Pc [.ref m0, .int x1, .int x2] (gqB D cA [(m0, .inr (10, [.ref q0, .ref q1, .ref q2, .int v3, .ref q4, .int v5, .int v6, .ref q7, .int v8, .ref q9, .int v10, .int v11, .int v12, .int v13, .int v14, .ref q15, .int v16])), (q0, .inl (cA 0, 60, .inl ss)), (q1, .inl (cA 0, 60, .inl bb)), (q4, .inl (cA 0, 480, .inl pp))] sz)) (gqQ D (fun as => (some (.int r.1))) (fun as => [(m0, .inr (10, [.ref q0, .ref q1, .ref q2, .int v3, .ref q4, .int r.2.2.2.2.1, .int r.2.2.2.2.2, .ref q7, .int v8, .ref q9, .int v10, .int v11, .int v12, .int v13, .int v14, .ref q15, .int v16])), (q0, .inl (cA 0, 60, .inl r.2.1)), (q1, .inl (cA 0, 60, .inl r.2.2.1)), (q4, .inl (cA 0, 480, .inl r.2.2.2.1))]) (va_A [(m0, .inr (10, [.ref q0, .ref q1, .ref q2, .int v3, .ref q4, .int v5, .int v6, .ref q7, .int v8, .ref q9, .int v10, .int v11, .int v12, .int v13, .int v14, .ref q15, .int v16])), (q0, .inl (cA 0, 60, .inl ss)), (q1, .inl (cA 0, 60, .inl bb)), (q4, .inl (cA 0, 480, .inl pp))] sz)) 0 0 (va_A [(m0, .inr (10, [.ref q0, .ref q1, .ref q2, .int v3, .ref q4, .int v5, .int v6, .ref q7, .int v8, .ref q9, .int v10, .int v11, .int v12, .int v13, .int v14, .ref q15, .int v16])), (q0, .inl (cA 0, 60, .inl ss)), (q1, .inl (cA 0, 60, .inl bb)), (q4, .inl (cA 0, 480, .inl pp))] sz) := by
  refine gq_ofW (cc := cX6_layTowel) (maxL := 3) (ret := (some .int)) (by decide) rfl (Nat.le_of_ble_eq_true rfl) (fun p e s m args below meth c ls Q A hx hb hml hts hfc hmn hK hP hD hS hA hl hend => ?_)
  have hfc : s.vm.findClass RX6 = some m.cls := hfc
  have hl : lv_has ls 3 [(0, .ref m0), (1, .int x1), (2, .int x2)] := hl
  have h := hr
  clear hr
  unfold SX6_layTowel at h
  refine lv_aload_n hx hb dX6_layTowel_0 rfl (lv_at hl 0 rfl) ?_
  obtain ⟨o1, ho1, h⟩ := lt_i h
  refine gq_V (v := (fun as => none)) (As := []) (rest := []) (wc := [(m0, .inr (10, [.ref q0, .ref q1, .ref q2, .int v3, .ref q4, .int v5, .int v6, .ref q7, .int v8, .ref q9, .int v10, .int v11, .int v12, .int v13, .int v14, .ref q15, .int v16])), (q0, .inl (cA 0, 60, .inl ss)), (q1, .inl (cA 0, 60, .inl bb))]) (wr := [(q4, .inl (cA 0, 480, .inl pp))]) (w1 := (fun as => [(m0, .inr (10, [.ref q0, .ref q1, .ref q2, .int v3, .ref q4, .int v5, .int o1.2, .ref q7, .int v8, .ref q9, .int v10, .int v11, .int v12, .int v13, .int v14, .ref q15, .int v16])), (q0, .inl (cA 0, 60, .inl ss)), (q1, .inl (cA 0, 60, .inl o1.1))])) (ws2 := (fun as => [(m0, .inr (10, [.ref q0, .ref q1, .ref q2, .int v3, .ref q4, .int v5, .int o1.2, .ref q7, .int v8, .ref q9, .int v10, .int v11, .int v12, .int v13, .int v14, .ref q15, .int v16])), (q0, .inl (cA 0, 60, .inl ss)), (q1, .inl (cA 0, 60, .inl o1.1)), (q4, .inl (cA 0, 480, .inl pp))])) (st1 := (fun as => [])) ⟨hx, hb, hml, hfc, hts⟩ hK hP hD hS hA (kX6_keep l D cA m0 q0 q1 q2 q4 q7 q9 q15 v3 v5 v6 v8 v10 v11 v12 v13 v14 v16 ss bb ho1) (cwV 0 hts gX6_layTowel_X6_keep rfl rfl rfl (by decide +kernel) ⟨(Nat.le_of_ble_eq_true rfl), (Nat.le_of_ble_eq_true rfl)⟩) [0, 1, 2] [3] [1, 2, 3, 0] rfl rfl rfl rfl (by decide) (fun _ => rfl) rfl 0 10 rfl rfl rfl rfl (fun _ => rfl) rfl hl.1 (Nat.le_of_ble_eq_true rfl) dX6_layTowel_1 ⟨(Nat.zero_le _), (Nat.zero_le _)⟩ (fun as H locs hP hD hS => ?_)
  have hP : va_P D vwCl [(m0, .inr (10, [.ref q0, .ref q1, .ref q2, .int v3, .ref q4, .int v5, .int o1.2, .ref q7, .int v8, .ref q9, .int v10, .int v11, .int v12, .int v13, .int v14, .ref q15, .int v16])), (q0, .inl (cA 0, 60, .inl ss)), (q1, .inl (cA 0, 60, .inl o1.1)), (q4, .inl (cA 0, 480, .inl pp))] H := hP
  have hD : va_D A [(m0, .inr (10, [.ref q0, .ref q1, .ref q2, .int v3, .ref q4, .int v5, .int o1.2, .ref q7, .int v8, .ref q9, .int v10, .int v11, .int v12, .int v13, .int v14, .ref q15, .int v16])), (q0, .inl (cA 0, 60, .inl ss)), (q1, .inl (cA 0, 60, .inl o1.1)), (q4, .inl (cA 0, 480, .inl pp))] := hD
  refine lv_aload_n hx hb dX6_layTowel_4 rfl (lv_at hl 0 rfl) ?_
  refine lv_aload_n hx hb dX6_layTowel_5 rfl (lv_at hl 0 rfl) ?_
  refine lv_iload_n hx hb dX6_layTowel_6 rfl (lv_at hl 1 rfl) ?_
  refine lv_iload_n hx hb dX6_layTowel_7 rfl (lv_at hl 2 rfl) ?_
  obtain ⟨o2, ho2, h⟩ := bnd_i h
  refine gq_V (v := (fun as => (some (.int o2.1)))) (As := [.int x1, .int x2]) (rest := [.ref m0]) (wc := [(m0, .inr (10, [.ref q0, .ref q1, .ref q2, .int v3, .ref q4, .int v5, .int o1.2, .ref q7, .int v8, .ref q9, .int v10, .int v11, .int v12, .int v13, .int v14, .ref q15, .int v16])), (q0, .inl (cA 0, 60, .inl ss))]) (wr := [(q1, .inl (cA 0, 60, .inl o1.1)), (q4, .inl (cA 0, 480, .inl pp))]) (w1 := (fun as => [(m0, .inr (10, [.ref q0, .ref q1, .ref q2, .int v3, .ref q4, .int v5, .int o2.2.2, .ref q7, .int v8, .ref q9, .int v10, .int v11, .int v12, .int v13, .int v14, .ref q15, .int v16])), (q0, .inl (cA 0, 60, .inl o2.2.1))])) (ws2 := (fun as => [(m0, .inr (10, [.ref q0, .ref q1, .ref q2, .int v3, .ref q4, .int v5, .int o2.2.2, .ref q7, .int v8, .ref q9, .int v10, .int v11, .int v12, .int v13, .int v14, .ref q15, .int v16])), (q0, .inl (cA 0, 60, .inl o2.2.1)), (q1, .inl (cA 0, 60, .inl o1.1)), (q4, .inl (cA 0, 480, .inl pp))])) (st1 := (fun as => [.int o2.1, .ref m0])) ⟨hx, hb, hml, hfc, hts⟩ hK hP hD hS hA (kX6_doLayTowel l D cA m0 q0 q1 q2 q4 q7 q9 q15 N v3 v5 o1.2 v8 v10 v11 v12 v13 v14 v16 ss x1 x2 ho2) (cwV 2 hts gX6_layTowel_X6_doLayTowel rfl rfl rfl (by decide +kernel) ⟨(Nat.le_of_ble_eq_true rfl), (Nat.le_of_ble_eq_true rfl)⟩) [0, 1] [2, 3] [2, 3, 0, 1] rfl rfl rfl rfl (by decide) (fun _ => rfl) rfl 0 10 rfl rfl rfl rfl (fun _ => rfl) rfl hl.1 (Nat.le_of_ble_eq_true rfl) dX6_layTowel_8 ⟨(Nat.zero_le _), (Nat.zero_le _)⟩ (fun as H locs hP hD hS => ?_)
  have hP : va_P D vwCl [(m0, .inr (10, [.ref q0, .ref q1, .ref q2, .int v3, .ref q4, .int v5, .int o2.2.2, .ref q7, .int v8, .ref q9, .int v10, .int v11, .int v12, .int v13, .int v14, .ref q15, .int v16])), (q0, .inl (cA 0, 60, .inl o2.2.1)), (q1, .inl (cA 0, 60, .inl o1.1)), (q4, .inl (cA 0, 480, .inl pp))] H := hP
  have hD : va_D A [(m0, .inr (10, [.ref q0, .ref q1, .ref q2, .int v3, .ref q4, .int v5, .int o2.2.2, .ref q7, .int v8, .ref q9, .int v10, .int v11, .int v12, .int v13, .int v14, .ref q15, .int v16])), (q0, .inl (cA 0, 60, .inl o2.2.1)), (q1, .inl (cA 0, 60, .inl o1.1)), (q4, .inl (cA 0, 480, .inl pp))] := hD
  obtain ⟨o3, ho3, h⟩ := bnd_i h
  refine gq_V (v := (fun as => (some (.int o3.1)))) (As := [.int o2.1]) (rest := []) (wc := [(m0, .inr (10, [.ref q0, .ref q1, .ref q2, .int v3, .ref q4, .int v5, .int o2.2.2, .ref q7, .int v8, .ref q9, .int v10, .int v11, .int v12, .int v13, .int v14, .ref q15, .int v16])), (q0, .inl (cA 0, 60, .inl o2.2.1)), (q1, .inl (cA 0, 60, .inl o1.1)), (q4, .inl (cA 0, 480, .inl pp))]) (wr := []) (w1 := (fun as => [(m0, .inr (10, [.ref q0, .ref q1, .ref q2, .int v3, .ref q4, .int o3.2.2.2, .int o2.2.2, .ref q7, .int v8, .ref q9, .int v10, .int v11, .int v12, .int v13, .int v14, .ref q15, .int v16])), (q0, .inl (cA 0, 60, .inl o3.2.1)), (q1, .inl (cA 0, 60, .inl o1.1)), (q4, .inl (cA 0, 480, .inl o3.2.2.1))])) (ws2 := (fun as => [(m0, .inr (10, [.ref q0, .ref q1, .ref q2, .int v3, .ref q4, .int o3.2.2.2, .int o2.2.2, .ref q7, .int v8, .ref q9, .int v10, .int v11, .int v12, .int v13, .int v14, .ref q15, .int v16])), (q0, .inl (cA 0, 60, .inl o3.2.1)), (q1, .inl (cA 0, 60, .inl o1.1)), (q4, .inl (cA 0, 480, .inl o3.2.2.1))])) (st1 := (fun as => [.int o3.1])) ⟨hx, hb, hml, hfc, hts⟩ hK hP hD hS hA (kX6_ends l D cA m0 q0 q1 q2 q4 q7 q9 q15 v3 v5 o2.2.2 v8 v10 v11 v12 v13 v14 v16 o2.2.1 o1.1 pp o2.1 ho3) (cwV 1 hts gX6_layTowel_X6_ends rfl rfl rfl (by decide +kernel) ⟨(Nat.le_of_ble_eq_true rfl), (Nat.le_of_ble_eq_true rfl)⟩) [0, 1, 2, 3] [] [0, 1, 2, 3] rfl rfl rfl rfl (by decide) (fun _ => rfl) rfl 0 10 rfl rfl rfl rfl (fun _ => rfl) rfl hl.1 (Nat.le_of_ble_eq_true rfl) dX6_layTowel_11 ⟨(Nat.zero_le _), (Nat.zero_le _)⟩ (fun as H locs hP hD hS => ?_)
  have hP : va_P D vwCl [(m0, .inr (10, [.ref q0, .ref q1, .ref q2, .int v3, .ref q4, .int o3.2.2.2, .int o2.2.2, .ref q7, .int v8, .ref q9, .int v10, .int v11, .int v12, .int v13, .int v14, .ref q15, .int v16])), (q0, .inl (cA 0, 60, .inl o3.2.1)), (q1, .inl (cA 0, 60, .inl o1.1)), (q4, .inl (cA 0, 480, .inl o3.2.2.1))] H := hP
  have hD : va_D A [(m0, .inr (10, [.ref q0, .ref q1, .ref q2, .int v3, .ref q4, .int o3.2.2.2, .int o2.2.2, .ref q7, .int v8, .ref q9, .int v10, .int v11, .int v12, .int v13, .int v14, .ref q15, .int v16])), (q0, .inl (cA 0, 60, .inl o3.2.1)), (q1, .inl (cA 0, 60, .inl o1.1)), (q4, .inl (cA 0, 480, .inl o3.2.2.1))] := hD
  have h := Option.some.inj h
  subst h
  exact hend (adr []) _ _ _ _ _ _ _ rfl rfl (rtn_i _) hP hD hS dX6_layTowel_14
noncomputable def SX6_removeTowel (v5 : Int32) (ss : Nat → Int32) (bb : Nat → Int32) (pp : Nat → Int32) (x1 : Int32) : Option (Int32 × (Nat → Int32) × (Nat → Int32) × (Nat → Int32) × Int32 × Int32) := lt_ (SX6_keep ss bb) (fun o1 : (Nat → Int32) × Int32 => bnd (SX6_doRemoveTowel o1.2 ss x1) (fun o2 : Int32 × (Nat → Int32) × Int32 => bnd (SX6_ends v5 o2.2.2 o2.2.1 o1.1 pp o2.1) (fun o3 : Int32 × (Nat → Int32) × (Nat → Int32) × Int32 => some ((o3.1, o3.2.1, o1.1, o3.2.2.1, o3.2.2.2, o2.2.2)))))
abbrev RM_X6_removeTowel : Room := { frames := 3, cells := 0, slots := 0, locals := 68 }
set_option maxHeartbeats 4000000 in
theorem kX6_removeTowel (l : Launch) (D : va_G) (cA : Nat → ClassId) (m0 q0 q1 q2 q4 q7 q9 q15 : Nat) (v3 : Int32) (v5 : Int32) (v6 : Int32) (v8 : Int32) (v10 : Int32) (v11 : Int32) (v12 : Int32) (v13 : Int32) (v14 : Int32) (v16 : Int32) (ss : Nat → Int32) (bb : Nat → Int32) (pp : Nat → Int32) (x1 : Int32) {r : Int32 × (Nat → Int32) × (Nat → Int32) × (Nat → Int32) × Int32 × Int32} (hr : SX6_removeTowel v5 ss bb pp x1 = some r) {sz : Nat} : Met l yX6_removeTowel wsX6_removeTowel RM_X6_removeTowel (va_Pc [.ref m0, .int x1] (gqB D cA [(m0, .inr (10, [.ref q0, .ref q1, .ref q2, .int v3, .ref q4, .int v5, .int v6, .ref q7, .int v8, .ref q9, .int v10, .int v11, .int v12, .int v13, .int v14, .ref q15, .int v16])), (q0, .inl (cA 0, 60, .inl ss)), (q1, .inl (cA 0, 60, .inl bb)), (q4, .inl (cA 0, 480, .inl pp))] sz)) (gqQ D (fun as => (some (.int r.1))) (fun as => [(m0, .inr (10, [.ref q0, .ref q1, .ref q2, .int v3, .ref q4, .int r.2.2.2.2.1, .int r.2.2.2.2.2, .ref q7, .int v8, .ref q9, .int v10, .int v11, .int v12, .int v13, .int v14, .ref q15, .int v16])), (q0, .inl (cA 0, 60, .inl r.2.1)), (q1, .inl (cA 0, 60, .inl r.2.2.1)), (q4, .inl (cA 0, 480, .inl r.2.2.2.1))]) (va_A [(m0, .inr (10, [.ref q0, .ref q1, .ref q2, .int v3, .ref q4, .int v5, .int v6, .ref q7, .int v8, .ref q9, .int v10, .int v11, .int v12, .int v13, .int v14, .ref q15, .int v16])), (q0, .inl (cA 0, 60, .inl ss)), (q1, .inl (cA 0, 60, .inl bb)), (q4, .inl (cA 0, 480, .inl pp))] sz)) 0 0 (va_A [(m0, .inr (10, [.ref q0, .ref q1, .ref q2, .int v3, .ref q4, .int v5, .int v6, .ref q7, .int v8, .ref q9, .int v10, .int v11, .int v12, .int v13, .int v14, .ref q15, .int v16])), (q0, .inl (cA 0, 60, .inl ss)), (q1, .inl (cA 0, 60, .inl bb)), (q4, .inl (cA 0, 480, .inl pp))] sz) := by
  refine gq_ofW (cc := cX6_removeTowel) (maxL := 2) (ret := (some .int)) (by decide) rfl (Nat.le_of_ble_eq_true rfl) (fun p e s m args below meth c ls Q A hx hb hml hts hfc hmn hK hP hD hS hA hl hend => ?_)
  have hfc : s.vm.findClass RX6 = some m.cls := hfc
  have hl : lv_has ls 2 [(0, .ref m0), (1, .int x1)] := hl
  have h := hr
  clear hr
  unfold SX6_removeTowel at h
  refine lv_aload_n hx hb dX6_removeTowel_0 rfl (lv_at hl 0 rfl) ?_
  obtain ⟨o1, ho1, h⟩ := lt_i h
  refine gq_V (v := (fun as => none)) (As := []) (rest := []) (wc := [(m0, .inr (10, [.ref q0, .ref q1, .ref q2, .int v3, .ref q4, .int v5, .int v6, .ref q7, .int v8, .ref q9, .int v10, .int v11, .int v12, .int v13, .int v14, .ref q15, .int v16])), (q0, .inl (cA 0, 60, .inl ss)), (q1, .inl (cA 0, 60, .inl bb))]) (wr := [(q4, .inl (cA 0, 480, .inl pp))]) (w1 := (fun as => [(m0, .inr (10, [.ref q0, .ref q1, .ref q2, .int v3, .ref q4, .int v5, .int o1.2, .ref q7, .int v8, .ref q9, .int v10, .int v11, .int v12, .int v13, .int v14, .ref q15, .int v16])), (q0, .inl (cA 0, 60, .inl ss)), (q1, .inl (cA 0, 60, .inl o1.1))])) (ws2 := (fun as => [(m0, .inr (10, [.ref q0, .ref q1, .ref q2, .int v3, .ref q4, .int v5, .int o1.2, .ref q7, .int v8, .ref q9, .int v10, .int v11, .int v12, .int v13, .int v14, .ref q15, .int v16])), (q0, .inl (cA 0, 60, .inl ss)), (q1, .inl (cA 0, 60, .inl o1.1)), (q4, .inl (cA 0, 480, .inl pp))])) (st1 := (fun as => [])) ⟨hx, hb, hml, hfc, hts⟩ hK hP hD hS hA (kX6_keep l D cA m0 q0 q1 q2 q4 q7 q9 q15 v3 v5 v6 v8 v10 v11 v12 v13 v14 v16 ss bb ho1) (cwV 0 hts gX6_removeTowel_X6_keep rfl rfl rfl (by decide +kernel) ⟨(Nat.le_of_ble_eq_true rfl), (Nat.le_of_ble_eq_true rfl)⟩) [0, 1, 2] [3] [1, 2, 3, 0] rfl rfl rfl rfl (by decide) (fun _ => rfl) rfl 0 10 rfl rfl rfl rfl (fun _ => rfl) rfl hl.1 (Nat.le_of_ble_eq_true rfl) dX6_removeTowel_1 ⟨(Nat.zero_le _), (Nat.zero_le _)⟩ (fun as H locs hP hD hS => ?_)
  have hP : va_P D vwCl [(m0, .inr (10, [.ref q0, .ref q1, .ref q2, .int v3, .ref q4, .int v5, .int o1.2, .ref q7, .int v8, .ref q9, .int v10, .int v11, .int v12, .int v13, .int v14, .ref q15, .int v16])), (q0, .inl (cA 0, 60, .inl ss)), (q1, .inl (cA 0, 60, .inl o1.1)), (q4, .inl (cA 0, 480, .inl pp))] H := hP
  have hD : va_D A [(m0, .inr (10, [.ref q0, .ref q1, .ref q2, .int v3, .ref q4, .int v5, .int o1.2, .ref q7, .int v8, .ref q9, .int v10, .int v11, .int v12, .int v13, .int v14, .ref q15, .int v16])), (q0, .inl (cA 0, 60, .inl ss)), (q1, .inl (cA 0, 60, .inl o1.1)), (q4, .inl (cA 0, 480, .inl pp))] := hD
  refine lv_aload_n hx hb dX6_removeTowel_4 rfl (lv_at hl 0 rfl) ?_
  refine lv_aload_n hx hb dX6_removeTowel_5 rfl (lv_at hl 0 rfl) ?_
  refine lv_iload_n hx hb dX6_removeTowel_6 rfl (lv_at hl 1 rfl) ?_
  obtain ⟨o2, ho2, h⟩ := bnd_i h
  refine gq_V (v := (fun as => (some (.int o2.1)))) (As := [.int x1]) (rest := [.ref m0]) (wc := [(m0, .inr (10, [.ref q0, .ref q1, .ref q2, .int v3, .ref q4, .int v5, .int o1.2, .ref q7, .int v8, .ref q9, .int v10, .int v11, .int v12, .int v13, .int v14, .ref q15, .int v16])), (q0, .inl (cA 0, 60, .inl ss))]) (wr := [(q1, .inl (cA 0, 60, .inl o1.1)), (q4, .inl (cA 0, 480, .inl pp))]) (w1 := (fun as => [(m0, .inr (10, [.ref q0, .ref q1, .ref q2, .int v3, .ref q4, .int v5, .int o2.2.2, .ref q7, .int v8, .ref q9, .int v10, .int v11, .int v12, .int v13, .int v14, .ref q15, .int v16])), (q0, .inl (cA 0, 60, .inl o2.2.1))])) (ws2 := (fun as => [(m0, .inr (10, [.ref q0, .ref q1, .ref q2, .int v3, .ref q4, .int v5, .int o2.2.2, .ref q7, .int v8, .ref q9, .int v10, .int v11, .int v12, .int v13, .int v14, .ref q15, .int v16])), (q0, .inl (cA 0, 60, .inl o2.2.1)), (q1, .inl (cA 0, 60, .inl o1.1)), (q4, .inl (cA 0, 480, .inl pp))])) (st1 := (fun as => [.int o2.1, .ref m0])) ⟨hx, hb, hml, hfc, hts⟩ hK hP hD hS hA (kX6_doRemoveTowel l D cA m0 q0 q1 q2 q4 q7 q9 q15 v3 v5 o1.2 v8 v10 v11 v12 v13 v14 v16 ss x1 ho2) (cwV 1 hts gX6_removeTowel_X6_doRemoveTowel rfl rfl rfl (by decide +kernel) ⟨(Nat.le_of_ble_eq_true rfl), (Nat.le_of_ble_eq_true rfl)⟩) [0, 1] [2, 3] [2, 3, 0, 1] rfl rfl rfl rfl (by decide) (fun _ => rfl) rfl 0 10 rfl rfl rfl rfl (fun _ => rfl) rfl hl.1 (Nat.le_of_ble_eq_true rfl) dX6_removeTowel_7 ⟨(Nat.zero_le _), (Nat.zero_le _)⟩ (fun as H locs hP hD hS => ?_)
  have hP : va_P D vwCl [(m0, .inr (10, [.ref q0, .ref q1, .ref q2, .int v3, .ref q4, .int v5, .int o2.2.2, .ref q7, .int v8, .ref q9, .int v10, .int v11, .int v12, .int v13, .int v14, .ref q15, .int v16])), (q0, .inl (cA 0, 60, .inl o2.2.1)), (q1, .inl (cA 0, 60, .inl o1.1)), (q4, .inl (cA 0, 480, .inl pp))] H := hP
  have hD : va_D A [(m0, .inr (10, [.ref q0, .ref q1, .ref q2, .int v3, .ref q4, .int v5, .int o2.2.2, .ref q7, .int v8, .ref q9, .int v10, .int v11, .int v12, .int v13, .int v14, .ref q15, .int v16])), (q0, .inl (cA 0, 60, .inl o2.2.1)), (q1, .inl (cA 0, 60, .inl o1.1)), (q4, .inl (cA 0, 480, .inl pp))] := hD
  obtain ⟨o3, ho3, h⟩ := bnd_i h
  refine gq_V (v := (fun as => (some (.int o3.1)))) (As := [.int o2.1]) (rest := []) (wc := [(m0, .inr (10, [.ref q0, .ref q1, .ref q2, .int v3, .ref q4, .int v5, .int o2.2.2, .ref q7, .int v8, .ref q9, .int v10, .int v11, .int v12, .int v13, .int v14, .ref q15, .int v16])), (q0, .inl (cA 0, 60, .inl o2.2.1)), (q1, .inl (cA 0, 60, .inl o1.1)), (q4, .inl (cA 0, 480, .inl pp))]) (wr := []) (w1 := (fun as => [(m0, .inr (10, [.ref q0, .ref q1, .ref q2, .int v3, .ref q4, .int o3.2.2.2, .int o2.2.2, .ref q7, .int v8, .ref q9, .int v10, .int v11, .int v12, .int v13, .int v14, .ref q15, .int v16])), (q0, .inl (cA 0, 60, .inl o3.2.1)), (q1, .inl (cA 0, 60, .inl o1.1)), (q4, .inl (cA 0, 480, .inl o3.2.2.1))])) (ws2 := (fun as => [(m0, .inr (10, [.ref q0, .ref q1, .ref q2, .int v3, .ref q4, .int o3.2.2.2, .int o2.2.2, .ref q7, .int v8, .ref q9, .int v10, .int v11, .int v12, .int v13, .int v14, .ref q15, .int v16])), (q0, .inl (cA 0, 60, .inl o3.2.1)), (q1, .inl (cA 0, 60, .inl o1.1)), (q4, .inl (cA 0, 480, .inl o3.2.2.1))])) (st1 := (fun as => [.int o3.1])) ⟨hx, hb, hml, hfc, hts⟩ hK hP hD hS hA (kX6_ends l D cA m0 q0 q1 q2 q4 q7 q9 q15 v3 v5 o2.2.2 v8 v10 v11 v12 v13 v14 v16 o2.2.1 o1.1 pp o2.1 ho3) (cwV 1 hts gX6_removeTowel_X6_ends rfl rfl rfl (by decide +kernel) ⟨(Nat.le_of_ble_eq_true rfl), (Nat.le_of_ble_eq_true rfl)⟩) [0, 1, 2, 3] [] [0, 1, 2, 3] rfl rfl rfl rfl (by decide) (fun _ => rfl) rfl 0 10 rfl rfl rfl rfl (fun _ => rfl) rfl hl.1 (Nat.le_of_ble_eq_true rfl) dX6_removeTowel_10 ⟨(Nat.zero_le _), (Nat.zero_le _)⟩ (fun as H locs hP hD hS => ?_)
  have hP : va_P D vwCl [(m0, .inr (10, [.ref q0, .ref q1, .ref q2, .int v3, .ref q4, .int o3.2.2.2, .int o2.2.2, .ref q7, .int v8, .ref q9, .int v10, .int v11, .int v12, .int v13, .int v14, .ref q15, .int v16])), (q0, .inl (cA 0, 60, .inl o3.2.1)), (q1, .inl (cA 0, 60, .inl o1.1)), (q4, .inl (cA 0, 480, .inl o3.2.2.1))] H := hP
  have hD : va_D A [(m0, .inr (10, [.ref q0, .ref q1, .ref q2, .int v3, .ref q4, .int o3.2.2.2, .int o2.2.2, .ref q7, .int v8, .ref q9, .int v10, .int v11, .int v12, .int v13, .int v14, .ref q15, .int v16])), (q0, .inl (cA 0, 60, .inl o3.2.1)), (q1, .inl (cA 0, 60, .inl o1.1)), (q4, .inl (cA 0, 480, .inl o3.2.2.1))] := hD
  have h := Option.some.inj h
  subst h
  exact hend (adr []) _ _ _ _ _ _ _ rfl rfl (rtn_i _) hP hD hS dX6_removeTowel_13
noncomputable def SX6_wringTowel (v5 : Int32) (ss : Nat → Int32) (bb : Nat → Int32) (pp : Nat → Int32) (x1 : Int32) : Option (Int32 × (Nat → Int32) × (Nat → Int32) × (Nat → Int32) × Int32 × Int32) := lt_ (SX6_keep ss bb) (fun o1 : (Nat → Int32) × Int32 => bnd (SX6_doWringTowel o1.2 ss x1) (fun o2 : Int32 × (Nat → Int32) × Int32 => bnd (SX6_ends v5 o2.2.2 o2.2.1 o1.1 pp o2.1) (fun o3 : Int32 × (Nat → Int32) × (Nat → Int32) × Int32 => some ((o3.1, o3.2.1, o1.1, o3.2.2.1, o3.2.2.2, o2.2.2)))))
abbrev RM_X6_wringTowel : Room := { frames := 3, cells := 0, slots := 0, locals := 65 }
set_option maxHeartbeats 4000000 in
theorem kX6_wringTowel (l : Launch) (D : va_G) (cA : Nat → ClassId) (m0 q0 q1 q2 q4 q7 q9 q15 : Nat) (v3 : Int32) (v5 : Int32) (v6 : Int32) (v8 : Int32) (v10 : Int32) (v11 : Int32) (v12 : Int32) (v13 : Int32) (v14 : Int32) (v16 : Int32) (ss : Nat → Int32) (bb : Nat → Int32) (pp : Nat → Int32) (x1 : Int32) {r : Int32 × (Nat → Int32) × (Nat → Int32) × (Nat → Int32) × Int32 × Int32} (hr : SX6_wringTowel v5 ss bb pp x1 = some r) {sz : Nat} : Met l yX6_wringTowel wsX6_wringTowel RM_X6_wringTowel (va_Pc [.ref m0, .int x1] (gqB D cA [(m0, .inr (10, [.ref q0, .ref q1, .ref q2, .int v3, .ref q4, .int v5, .int v6, .ref q7, .int v8, .ref q9, .int v10, .int v11, .int v12, .int v13, .int v14, .ref q15, .int v16])), (q0, .inl (cA 0, 60, .inl ss)), (q1, .inl (cA 0, 60, .inl bb)), (q4, .inl (cA 0, 480, .inl pp))] sz)) (gqQ D (fun as => (some (.int r.1))) (fun as => [(m0, .inr (10, [.ref q0, .ref q1, .ref q2, .int v3, .ref q4, .int r.2.2.2.2.1, .int r.2.2.2.2.2, .ref q7, .int v8, .ref q9, .int v10, .int v11, .int v12, .int v13, .int v14, .ref q15, .int v16])), (q0, .inl (cA 0, 60, .inl r.2.1)), (q1, .inl (cA 0, 60, .inl r.2.2.1)), (q4, .inl (cA 0, 480, .inl r.2.2.2.1))]) (va_A [(m0, .inr (10, [.ref q0, .ref q1, .ref q2, .int v3, .ref q4, .int v5, .int v6, .ref q7, .int v8, .ref q9, .int v10, .int v11, .int v12, .int v13, .int v14, .ref q15, .int v16])), (q0, .inl (cA 0, 60, .inl ss)), (q1, .inl (cA 0, 60, .inl bb)), (q4, .inl (cA 0, 480, .inl pp))] sz)) 0 0 (va_A [(m0, .inr (10, [.ref q0, .ref q1, .ref q2, .int v3, .ref q4, .int v5, .int v6, .ref q7, .int v8, .ref q9, .int v10, .int v11, .int v12, .int v13, .int v14, .ref q15, .int v16])), (q0, .inl (cA 0, 60, .inl ss)), (q1, .inl (cA 0, 60, .inl bb)), (q4, .inl (cA 0, 480, .inl pp))] sz) := by
  refine gq_ofW (cc := cX6_wringTowel) (maxL := 2) (ret := (some .int)) (by decide) rfl (Nat.le_of_ble_eq_true rfl) (fun p e s m args below meth c ls Q A hx hb hml hts hfc hmn hK hP hD hS hA hl hend => ?_)
  have hfc : s.vm.findClass RX6 = some m.cls := hfc
  have hl : lv_has ls 2 [(0, .ref m0), (1, .int x1)] := hl
  have h := hr
  clear hr
  unfold SX6_wringTowel at h
  refine lv_aload_n hx hb dX6_wringTowel_0 rfl (lv_at hl 0 rfl) ?_
  obtain ⟨o1, ho1, h⟩ := lt_i h
  refine gq_V (v := (fun as => none)) (As := []) (rest := []) (wc := [(m0, .inr (10, [.ref q0, .ref q1, .ref q2, .int v3, .ref q4, .int v5, .int v6, .ref q7, .int v8, .ref q9, .int v10, .int v11, .int v12, .int v13, .int v14, .ref q15, .int v16])), (q0, .inl (cA 0, 60, .inl ss)), (q1, .inl (cA 0, 60, .inl bb))]) (wr := [(q4, .inl (cA 0, 480, .inl pp))]) (w1 := (fun as => [(m0, .inr (10, [.ref q0, .ref q1, .ref q2, .int v3, .ref q4, .int v5, .int o1.2, .ref q7, .int v8, .ref q9, .int v10, .int v11, .int v12, .int v13, .int v14, .ref q15, .int v16])), (q0, .inl (cA 0, 60, .inl ss)), (q1, .inl (cA 0, 60, .inl o1.1))])) (ws2 := (fun as => [(m0, .inr (10, [.ref q0, .ref q1, .ref q2, .int v3, .ref q4, .int v5, .int o1.2, .ref q7, .int v8, .ref q9, .int v10, .int v11, .int v12, .int v13, .int v14, .ref q15, .int v16])), (q0, .inl (cA 0, 60, .inl ss)), (q1, .inl (cA 0, 60, .inl o1.1)), (q4, .inl (cA 0, 480, .inl pp))])) (st1 := (fun as => [])) ⟨hx, hb, hml, hfc, hts⟩ hK hP hD hS hA (kX6_keep l D cA m0 q0 q1 q2 q4 q7 q9 q15 v3 v5 v6 v8 v10 v11 v12 v13 v14 v16 ss bb ho1) (cwV 0 hts gX6_wringTowel_X6_keep rfl rfl rfl (by decide +kernel) ⟨(Nat.le_of_ble_eq_true rfl), (Nat.le_of_ble_eq_true rfl)⟩) [0, 1, 2] [3] [1, 2, 3, 0] rfl rfl rfl rfl (by decide) (fun _ => rfl) rfl 0 10 rfl rfl rfl rfl (fun _ => rfl) rfl hl.1 (Nat.le_of_ble_eq_true rfl) dX6_wringTowel_1 ⟨(Nat.zero_le _), (Nat.zero_le _)⟩ (fun as H locs hP hD hS => ?_)
  have hP : va_P D vwCl [(m0, .inr (10, [.ref q0, .ref q1, .ref q2, .int v3, .ref q4, .int v5, .int o1.2, .ref q7, .int v8, .ref q9, .int v10, .int v11, .int v12, .int v13, .int v14, .ref q15, .int v16])), (q0, .inl (cA 0, 60, .inl ss)), (q1, .inl (cA 0, 60, .inl o1.1)), (q4, .inl (cA 0, 480, .inl pp))] H := hP
  have hD : va_D A [(m0, .inr (10, [.ref q0, .ref q1, .ref q2, .int v3, .ref q4, .int v5, .int o1.2, .ref q7, .int v8, .ref q9, .int v10, .int v11, .int v12, .int v13, .int v14, .ref q15, .int v16])), (q0, .inl (cA 0, 60, .inl ss)), (q1, .inl (cA 0, 60, .inl o1.1)), (q4, .inl (cA 0, 480, .inl pp))] := hD
  refine lv_aload_n hx hb dX6_wringTowel_4 rfl (lv_at hl 0 rfl) ?_
  refine lv_aload_n hx hb dX6_wringTowel_5 rfl (lv_at hl 0 rfl) ?_
  refine lv_iload_n hx hb dX6_wringTowel_6 rfl (lv_at hl 1 rfl) ?_
  obtain ⟨o2, ho2, h⟩ := bnd_i h
  refine gq_V (v := (fun as => (some (.int o2.1)))) (As := [.int x1]) (rest := [.ref m0]) (wc := [(m0, .inr (10, [.ref q0, .ref q1, .ref q2, .int v3, .ref q4, .int v5, .int o1.2, .ref q7, .int v8, .ref q9, .int v10, .int v11, .int v12, .int v13, .int v14, .ref q15, .int v16])), (q0, .inl (cA 0, 60, .inl ss))]) (wr := [(q1, .inl (cA 0, 60, .inl o1.1)), (q4, .inl (cA 0, 480, .inl pp))]) (w1 := (fun as => [(m0, .inr (10, [.ref q0, .ref q1, .ref q2, .int v3, .ref q4, .int v5, .int o2.2.2, .ref q7, .int v8, .ref q9, .int v10, .int v11, .int v12, .int v13, .int v14, .ref q15, .int v16])), (q0, .inl (cA 0, 60, .inl o2.2.1))])) (ws2 := (fun as => [(m0, .inr (10, [.ref q0, .ref q1, .ref q2, .int v3, .ref q4, .int v5, .int o2.2.2, .ref q7, .int v8, .ref q9, .int v10, .int v11, .int v12, .int v13, .int v14, .ref q15, .int v16])), (q0, .inl (cA 0, 60, .inl o2.2.1)), (q1, .inl (cA 0, 60, .inl o1.1)), (q4, .inl (cA 0, 480, .inl pp))])) (st1 := (fun as => [.int o2.1, .ref m0])) ⟨hx, hb, hml, hfc, hts⟩ hK hP hD hS hA (kX6_doWringTowel l D cA m0 q0 q1 q2 q4 q7 q9 q15 v3 v5 o1.2 v8 v10 v11 v12 v13 v14 v16 ss x1 ho2) (cwV 1 hts gX6_wringTowel_X6_doWringTowel rfl rfl rfl (by decide +kernel) ⟨(Nat.le_of_ble_eq_true rfl), (Nat.le_of_ble_eq_true rfl)⟩) [0, 1] [2, 3] [2, 3, 0, 1] rfl rfl rfl rfl (by decide) (fun _ => rfl) rfl 0 10 rfl rfl rfl rfl (fun _ => rfl) rfl hl.1 (Nat.le_of_ble_eq_true rfl) dX6_wringTowel_7 ⟨(Nat.zero_le _), (Nat.zero_le _)⟩ (fun as H locs hP hD hS => ?_)
  have hP : va_P D vwCl [(m0, .inr (10, [.ref q0, .ref q1, .ref q2, .int v3, .ref q4, .int v5, .int o2.2.2, .ref q7, .int v8, .ref q9, .int v10, .int v11, .int v12, .int v13, .int v14, .ref q15, .int v16])), (q0, .inl (cA 0, 60, .inl o2.2.1)), (q1, .inl (cA 0, 60, .inl o1.1)), (q4, .inl (cA 0, 480, .inl pp))] H := hP
  have hD : va_D A [(m0, .inr (10, [.ref q0, .ref q1, .ref q2, .int v3, .ref q4, .int v5, .int o2.2.2, .ref q7, .int v8, .ref q9, .int v10, .int v11, .int v12, .int v13, .int v14, .ref q15, .int v16])), (q0, .inl (cA 0, 60, .inl o2.2.1)), (q1, .inl (cA 0, 60, .inl o1.1)), (q4, .inl (cA 0, 480, .inl pp))] := hD
  obtain ⟨o3, ho3, h⟩ := bnd_i h
  refine gq_V (v := (fun as => (some (.int o3.1)))) (As := [.int o2.1]) (rest := []) (wc := [(m0, .inr (10, [.ref q0, .ref q1, .ref q2, .int v3, .ref q4, .int v5, .int o2.2.2, .ref q7, .int v8, .ref q9, .int v10, .int v11, .int v12, .int v13, .int v14, .ref q15, .int v16])), (q0, .inl (cA 0, 60, .inl o2.2.1)), (q1, .inl (cA 0, 60, .inl o1.1)), (q4, .inl (cA 0, 480, .inl pp))]) (wr := []) (w1 := (fun as => [(m0, .inr (10, [.ref q0, .ref q1, .ref q2, .int v3, .ref q4, .int o3.2.2.2, .int o2.2.2, .ref q7, .int v8, .ref q9, .int v10, .int v11, .int v12, .int v13, .int v14, .ref q15, .int v16])), (q0, .inl (cA 0, 60, .inl o3.2.1)), (q1, .inl (cA 0, 60, .inl o1.1)), (q4, .inl (cA 0, 480, .inl o3.2.2.1))])) (ws2 := (fun as => [(m0, .inr (10, [.ref q0, .ref q1, .ref q2, .int v3, .ref q4, .int o3.2.2.2, .int o2.2.2, .ref q7, .int v8, .ref q9, .int v10, .int v11, .int v12, .int v13, .int v14, .ref q15, .int v16])), (q0, .inl (cA 0, 60, .inl o3.2.1)), (q1, .inl (cA 0, 60, .inl o1.1)), (q4, .inl (cA 0, 480, .inl o3.2.2.1))])) (st1 := (fun as => [.int o3.1])) ⟨hx, hb, hml, hfc, hts⟩ hK hP hD hS hA (kX6_ends l D cA m0 q0 q1 q2 q4 q7 q9 q15 v3 v5 o2.2.2 v8 v10 v11 v12 v13 v14 v16 o2.2.1 o1.1 pp o2.1 ho3) (cwV 1 hts gX6_wringTowel_X6_ends rfl rfl rfl (by decide +kernel) ⟨(Nat.le_of_ble_eq_true rfl), (Nat.le_of_ble_eq_true rfl)⟩) [0, 1, 2, 3] [] [0, 1, 2, 3] rfl rfl rfl rfl (by decide) (fun _ => rfl) rfl 0 10 rfl rfl rfl rfl (fun _ => rfl) rfl hl.1 (Nat.le_of_ble_eq_true rfl) dX6_wringTowel_10 ⟨(Nat.zero_le _), (Nat.zero_le _)⟩ (fun as H locs hP hD hS => ?_)
  have hP : va_P D vwCl [(m0, .inr (10, [.ref q0, .ref q1, .ref q2, .int v3, .ref q4, .int o3.2.2.2, .int o2.2.2, .ref q7, .int v8, .ref q9, .int v10, .int v11, .int v12, .int v13, .int v14, .ref q15, .int v16])), (q0, .inl (cA 0, 60, .inl o3.2.1)), (q1, .inl (cA 0, 60, .inl o1.1)), (q4, .inl (cA 0, 480, .inl o3.2.2.1))] H := hP
  have hD : va_D A [(m0, .inr (10, [.ref q0, .ref q1, .ref q2, .int v3, .ref q4, .int o3.2.2.2, .int o2.2.2, .ref q7, .int v8, .ref q9, .int v10, .int v11, .int v12, .int v13, .int v14, .ref q15, .int v16])), (q0, .inl (cA 0, 60, .inl o3.2.1)), (q1, .inl (cA 0, 60, .inl o1.1)), (q4, .inl (cA 0, 480, .inl o3.2.2.1))] := hD
  have h := Option.some.inj h
  subst h
  exact hend (adr []) _ _ _ _ _ _ _ rfl rfl (rtn_i _) hP hD hS dX6_wringTowel_13
noncomputable def SX6_setFlow (v5 : Int32) (ss : Nat → Int32) (bb : Nat → Int32) (pp : Nat → Int32) (x1 : Int32) : Option (Int32 × (Nat → Int32) × (Nat → Int32) × (Nat → Int32) × Int32 × Int32) := lt_ (SX6_keep ss bb) (fun o1 : (Nat → Int32) × Int32 => lt_ (SX6_doSetFlow o1.2 ss x1) (fun o2 : Int32 × (Nat → Int32) × Int32 => bnd (SX6_ends v5 o2.2.2 o2.2.1 o1.1 pp o2.1) (fun o3 : Int32 × (Nat → Int32) × (Nat → Int32) × Int32 => some ((o3.1, o3.2.1, o1.1, o3.2.2.1, o3.2.2.2, o2.2.2)))))
abbrev RM_X6_setFlow : Room := { frames := 2, cells := 0, slots := 0, locals := 45 }
set_option maxHeartbeats 4000000 in
theorem kX6_setFlow (l : Launch) (D : va_G) (cA : Nat → ClassId) (m0 q0 q1 q2 q4 q7 q9 q15 : Nat) (v3 : Int32) (v5 : Int32) (v6 : Int32) (v8 : Int32) (v10 : Int32) (v11 : Int32) (v12 : Int32) (v13 : Int32) (v14 : Int32) (v16 : Int32) (ss : Nat → Int32) (bb : Nat → Int32) (pp : Nat → Int32) (x1 : Int32) {r : Int32 × (Nat → Int32) × (Nat → Int32) × (Nat → Int32) × Int32 × Int32} (hr : SX6_setFlow v5 ss bb pp x1 = some r) {sz : Nat} : Met l yX6_setFlow wsX6_setFlow RM_X6_setFlow (va_Pc [.ref m0, .int x1] (gqB D cA [(m0, .inr (10, [.ref q0, .ref q1, .ref q2, .int v3, .ref q4, .int v5, .int v6, .ref q7, .int v8, .ref q9, .int v10, .int v11, .int v12, .int v13, .int v14, .ref q15, .int v16])), (q0, .inl (cA 0, 60, .inl ss)), (q1, .inl (cA 0, 60, .inl bb)), (q4, .inl (cA 0, 480, .inl pp))] sz)) (gqQ D (fun as => (some (.int r.1))) (fun as => [(m0, .inr (10, [.ref q0, .ref q1, .ref q2, .int v3, .ref q4, .int r.2.2.2.2.1, .int r.2.2.2.2.2, .ref q7, .int v8, .ref q9, .int v10, .int v11, .int v12, .int v13, .int v14, .ref q15, .int v16])), (q0, .inl (cA 0, 60, .inl r.2.1)), (q1, .inl (cA 0, 60, .inl r.2.2.1)), (q4, .inl (cA 0, 480, .inl r.2.2.2.1))]) (va_A [(m0, .inr (10, [.ref q0, .ref q1, .ref q2, .int v3, .ref q4, .int v5, .int v6, .ref q7, .int v8, .ref q9, .int v10, .int v11, .int v12, .int v13, .int v14, .ref q15, .int v16])), (q0, .inl (cA 0, 60, .inl ss)), (q1, .inl (cA 0, 60, .inl bb)), (q4, .inl (cA 0, 480, .inl pp))] sz)) 0 0 (va_A [(m0, .inr (10, [.ref q0, .ref q1, .ref q2, .int v3, .ref q4, .int v5, .int v6, .ref q7, .int v8, .ref q9, .int v10, .int v11, .int v12, .int v13, .int v14, .ref q15, .int v16])), (q0, .inl (cA 0, 60, .inl ss)), (q1, .inl (cA 0, 60, .inl bb)), (q4, .inl (cA 0, 480, .inl pp))] sz) := by
  refine gq_ofW (cc := cX6_setFlow) (maxL := 2) (ret := (some .int)) (by decide) rfl (Nat.le_of_ble_eq_true rfl) (fun p e s m args below meth c ls Q A hx hb hml hts hfc hmn hK hP hD hS hA hl hend => ?_)
  have hfc : s.vm.findClass RX6 = some m.cls := hfc
  have hl : lv_has ls 2 [(0, .ref m0), (1, .int x1)] := hl
  have h := hr
  clear hr
  unfold SX6_setFlow at h
  refine lv_aload_n hx hb dX6_setFlow_0 rfl (lv_at hl 0 rfl) ?_
  obtain ⟨o1, ho1, h⟩ := lt_i h
  refine gq_V (v := (fun as => none)) (As := []) (rest := []) (wc := [(m0, .inr (10, [.ref q0, .ref q1, .ref q2, .int v3, .ref q4, .int v5, .int v6, .ref q7, .int v8, .ref q9, .int v10, .int v11, .int v12, .int v13, .int v14, .ref q15, .int v16])), (q0, .inl (cA 0, 60, .inl ss)), (q1, .inl (cA 0, 60, .inl bb))]) (wr := [(q4, .inl (cA 0, 480, .inl pp))]) (w1 := (fun as => [(m0, .inr (10, [.ref q0, .ref q1, .ref q2, .int v3, .ref q4, .int v5, .int o1.2, .ref q7, .int v8, .ref q9, .int v10, .int v11, .int v12, .int v13, .int v14, .ref q15, .int v16])), (q0, .inl (cA 0, 60, .inl ss)), (q1, .inl (cA 0, 60, .inl o1.1))])) (ws2 := (fun as => [(m0, .inr (10, [.ref q0, .ref q1, .ref q2, .int v3, .ref q4, .int v5, .int o1.2, .ref q7, .int v8, .ref q9, .int v10, .int v11, .int v12, .int v13, .int v14, .ref q15, .int v16])), (q0, .inl (cA 0, 60, .inl ss)), (q1, .inl (cA 0, 60, .inl o1.1)), (q4, .inl (cA 0, 480, .inl pp))])) (st1 := (fun as => [])) ⟨hx, hb, hml, hfc, hts⟩ hK hP hD hS hA (kX6_keep l D cA m0 q0 q1 q2 q4 q7 q9 q15 v3 v5 v6 v8 v10 v11 v12 v13 v14 v16 ss bb ho1) (cwV 0 hts gX6_setFlow_X6_keep rfl rfl rfl (by decide +kernel) ⟨(Nat.le_of_ble_eq_true rfl), (Nat.le_of_ble_eq_true rfl)⟩) [0, 1, 2] [3] [1, 2, 3, 0] rfl rfl rfl rfl (by decide) (fun _ => rfl) rfl 0 10 rfl rfl rfl rfl (fun _ => rfl) rfl hl.1 (Nat.le_of_ble_eq_true rfl) dX6_setFlow_1 ⟨(Nat.zero_le _), (Nat.zero_le _)⟩ (fun as H locs hP hD hS => ?_)
  have hP : va_P D vwCl [(m0, .inr (10, [.ref q0, .ref q1, .ref q2, .int v3, .ref q4, .int v5, .int o1.2, .ref q7, .int v8, .ref q9, .int v10, .int v11, .int v12, .int v13, .int v14, .ref q15, .int v16])), (q0, .inl (cA 0, 60, .inl ss)), (q1, .inl (cA 0, 60, .inl o1.1)), (q4, .inl (cA 0, 480, .inl pp))] H := hP
  have hD : va_D A [(m0, .inr (10, [.ref q0, .ref q1, .ref q2, .int v3, .ref q4, .int v5, .int o1.2, .ref q7, .int v8, .ref q9, .int v10, .int v11, .int v12, .int v13, .int v14, .ref q15, .int v16])), (q0, .inl (cA 0, 60, .inl ss)), (q1, .inl (cA 0, 60, .inl o1.1)), (q4, .inl (cA 0, 480, .inl pp))] := hD
  refine lv_aload_n hx hb dX6_setFlow_4 rfl (lv_at hl 0 rfl) ?_
  refine lv_aload_n hx hb dX6_setFlow_5 rfl (lv_at hl 0 rfl) ?_
  refine lv_iload_n hx hb dX6_setFlow_6 rfl (lv_at hl 1 rfl) ?_
  obtain ⟨o2, ho2, h⟩ := lt_i h
  refine gq_V (v := (fun as => (some (.int o2.1)))) (As := [.int x1]) (rest := [.ref m0]) (wc := [(m0, .inr (10, [.ref q0, .ref q1, .ref q2, .int v3, .ref q4, .int v5, .int o1.2, .ref q7, .int v8, .ref q9, .int v10, .int v11, .int v12, .int v13, .int v14, .ref q15, .int v16])), (q0, .inl (cA 0, 60, .inl ss))]) (wr := [(q1, .inl (cA 0, 60, .inl o1.1)), (q4, .inl (cA 0, 480, .inl pp))]) (w1 := (fun as => [(m0, .inr (10, [.ref q0, .ref q1, .ref q2, .int v3, .ref q4, .int v5, .int o2.2.2, .ref q7, .int v8, .ref q9, .int v10, .int v11, .int v12, .int v13, .int v14, .ref q15, .int v16])), (q0, .inl (cA 0, 60, .inl o2.2.1))])) (ws2 := (fun as => [(m0, .inr (10, [.ref q0, .ref q1, .ref q2, .int v3, .ref q4, .int v5, .int o2.2.2, .ref q7, .int v8, .ref q9, .int v10, .int v11, .int v12, .int v13, .int v14, .ref q15, .int v16])), (q0, .inl (cA 0, 60, .inl o2.2.1)), (q1, .inl (cA 0, 60, .inl o1.1)), (q4, .inl (cA 0, 480, .inl pp))])) (st1 := (fun as => [.int o2.1, .ref m0])) ⟨hx, hb, hml, hfc, hts⟩ hK hP hD hS hA (kX6_doSetFlow l D cA m0 q0 q1 q2 q4 q7 q9 q15 v3 v5 o1.2 v8 v10 v11 v12 v13 v14 v16 ss x1 ho2) (cwV 1 hts gX6_setFlow_X6_doSetFlow rfl rfl rfl (by decide +kernel) ⟨(Nat.le_of_ble_eq_true rfl), (Nat.le_of_ble_eq_true rfl)⟩) [0, 1] [2, 3] [2, 3, 0, 1] rfl rfl rfl rfl (by decide) (fun _ => rfl) rfl 0 10 rfl rfl rfl rfl (fun _ => rfl) rfl hl.1 (Nat.le_of_ble_eq_true rfl) dX6_setFlow_7 ⟨(Nat.zero_le _), (Nat.zero_le _)⟩ (fun as H locs hP hD hS => ?_)
  have hP : va_P D vwCl [(m0, .inr (10, [.ref q0, .ref q1, .ref q2, .int v3, .ref q4, .int v5, .int o2.2.2, .ref q7, .int v8, .ref q9, .int v10, .int v11, .int v12, .int v13, .int v14, .ref q15, .int v16])), (q0, .inl (cA 0, 60, .inl o2.2.1)), (q1, .inl (cA 0, 60, .inl o1.1)), (q4, .inl (cA 0, 480, .inl pp))] H := hP
  have hD : va_D A [(m0, .inr (10, [.ref q0, .ref q1, .ref q2, .int v3, .ref q4, .int v5, .int o2.2.2, .ref q7, .int v8, .ref q9, .int v10, .int v11, .int v12, .int v13, .int v14, .ref q15, .int v16])), (q0, .inl (cA 0, 60, .inl o2.2.1)), (q1, .inl (cA 0, 60, .inl o1.1)), (q4, .inl (cA 0, 480, .inl pp))] := hD
  obtain ⟨o3, ho3, h⟩ := bnd_i h
  refine gq_V (v := (fun as => (some (.int o3.1)))) (As := [.int o2.1]) (rest := []) (wc := [(m0, .inr (10, [.ref q0, .ref q1, .ref q2, .int v3, .ref q4, .int v5, .int o2.2.2, .ref q7, .int v8, .ref q9, .int v10, .int v11, .int v12, .int v13, .int v14, .ref q15, .int v16])), (q0, .inl (cA 0, 60, .inl o2.2.1)), (q1, .inl (cA 0, 60, .inl o1.1)), (q4, .inl (cA 0, 480, .inl pp))]) (wr := []) (w1 := (fun as => [(m0, .inr (10, [.ref q0, .ref q1, .ref q2, .int v3, .ref q4, .int o3.2.2.2, .int o2.2.2, .ref q7, .int v8, .ref q9, .int v10, .int v11, .int v12, .int v13, .int v14, .ref q15, .int v16])), (q0, .inl (cA 0, 60, .inl o3.2.1)), (q1, .inl (cA 0, 60, .inl o1.1)), (q4, .inl (cA 0, 480, .inl o3.2.2.1))])) (ws2 := (fun as => [(m0, .inr (10, [.ref q0, .ref q1, .ref q2, .int v3, .ref q4, .int o3.2.2.2, .int o2.2.2, .ref q7, .int v8, .ref q9, .int v10, .int v11, .int v12, .int v13, .int v14, .ref q15, .int v16])), (q0, .inl (cA 0, 60, .inl o3.2.1)), (q1, .inl (cA 0, 60, .inl o1.1)), (q4, .inl (cA 0, 480, .inl o3.2.2.1))])) (st1 := (fun as => [.int o3.1])) ⟨hx, hb, hml, hfc, hts⟩ hK hP hD hS hA (kX6_ends l D cA m0 q0 q1 q2 q4 q7 q9 q15 v3 v5 o2.2.2 v8 v10 v11 v12 v13 v14 v16 o2.2.1 o1.1 pp o2.1 ho3) (cwV 1 hts gX6_setFlow_X6_ends rfl rfl rfl (by decide +kernel) ⟨(Nat.le_of_ble_eq_true rfl), (Nat.le_of_ble_eq_true rfl)⟩) [0, 1, 2, 3] [] [0, 1, 2, 3] rfl rfl rfl rfl (by decide) (fun _ => rfl) rfl 0 10 rfl rfl rfl rfl (fun _ => rfl) rfl hl.1 (Nat.le_of_ble_eq_true rfl) dX6_setFlow_10 ⟨(Nat.zero_le _), (Nat.zero_le _)⟩ (fun as H locs hP hD hS => ?_)
  have hP : va_P D vwCl [(m0, .inr (10, [.ref q0, .ref q1, .ref q2, .int v3, .ref q4, .int o3.2.2.2, .int o2.2.2, .ref q7, .int v8, .ref q9, .int v10, .int v11, .int v12, .int v13, .int v14, .ref q15, .int v16])), (q0, .inl (cA 0, 60, .inl o3.2.1)), (q1, .inl (cA 0, 60, .inl o1.1)), (q4, .inl (cA 0, 480, .inl o3.2.2.1))] H := hP
  have hD : va_D A [(m0, .inr (10, [.ref q0, .ref q1, .ref q2, .int v3, .ref q4, .int o3.2.2.2, .int o2.2.2, .ref q7, .int v8, .ref q9, .int v10, .int v11, .int v12, .int v13, .int v14, .ref q15, .int v16])), (q0, .inl (cA 0, 60, .inl o3.2.1)), (q1, .inl (cA 0, 60, .inl o1.1)), (q4, .inl (cA 0, 480, .inl o3.2.2.1))] := hD
  have h := Option.some.inj h
  subst h
  exact hend (adr []) _ _ _ _ _ _ _ rfl rfl (rtn_i _) hP hD hS dX6_setFlow_13
noncomputable def SX6_advance (N : Nat) (v5 : Int32) (ss : Nat → Int32) (bb : Nat → Int32) (pp : Nat → Int32) (x1 : Int32) : Option (Int32 × (Nat → Int32) × (Nat → Int32) × (Nat → Int32) × Int32 × Int32) := lt_ (SX6_keep ss bb) (fun o1 : (Nat → Int32) × Int32 => bnd (SX6_doAdvance N o1.2 ss x1) (fun o2 : Int32 × (Nat → Int32) × Int32 => bnd (SX6_ends v5 o2.2.2 o2.2.1 o1.1 pp o2.1) (fun o3 : Int32 × (Nat → Int32) × (Nat → Int32) × Int32 => some ((o3.1, o3.2.1, o1.1, o3.2.2.1, o3.2.2.2, o2.2.2)))))
abbrev RM_X6_advance : Room := { frames := 8, cells := 0, slots := 0, locals := 187 }
set_option maxHeartbeats 4000000 in
theorem kX6_advance (l : Launch) (D : va_G) (cA : Nat → ClassId) (m0 q0 q1 q2 q4 q7 q9 q15 : Nat) (N : Nat) (v3 : Int32) (v5 : Int32) (v6 : Int32) (v8 : Int32) (v10 : Int32) (v11 : Int32) (v12 : Int32) (v13 : Int32) (v14 : Int32) (v16 : Int32) (ss : Nat → Int32) (bb : Nat → Int32) (pp : Nat → Int32) (x1 : Int32) {r : Int32 × (Nat → Int32) × (Nat → Int32) × (Nat → Int32) × Int32 × Int32} (hr : SX6_advance N v5 ss bb pp x1 = some r) {sz : Nat} : Met l yX6_advance wsX6_advance RM_X6_advance (va_Pc [.ref m0, .int x1] (gqB D cA [(m0, .inr (10, [.ref q0, .ref q1, .ref q2, .int v3, .ref q4, .int v5, .int v6, .ref q7, .int v8, .ref q9, .int v10, .int v11, .int v12, .int v13, .int v14, .ref q15, .int v16])), (q0, .inl (cA 0, 60, .inl ss)), (q1, .inl (cA 0, 60, .inl bb)), (q4, .inl (cA 0, 480, .inl pp))] sz)) (gqQ D (fun as => (some (.int r.1))) (fun as => [(m0, .inr (10, [.ref q0, .ref q1, .ref q2, .int v3, .ref q4, .int r.2.2.2.2.1, .int r.2.2.2.2.2, .ref q7, .int v8, .ref q9, .int v10, .int v11, .int v12, .int v13, .int v14, .ref q15, .int v16])), (q0, .inl (cA 0, 60, .inl r.2.1)), (q1, .inl (cA 0, 60, .inl r.2.2.1)), (q4, .inl (cA 0, 480, .inl r.2.2.2.1))]) (va_A [(m0, .inr (10, [.ref q0, .ref q1, .ref q2, .int v3, .ref q4, .int v5, .int v6, .ref q7, .int v8, .ref q9, .int v10, .int v11, .int v12, .int v13, .int v14, .ref q15, .int v16])), (q0, .inl (cA 0, 60, .inl ss)), (q1, .inl (cA 0, 60, .inl bb)), (q4, .inl (cA 0, 480, .inl pp))] sz)) 0 0 (va_A [(m0, .inr (10, [.ref q0, .ref q1, .ref q2, .int v3, .ref q4, .int v5, .int v6, .ref q7, .int v8, .ref q9, .int v10, .int v11, .int v12, .int v13, .int v14, .ref q15, .int v16])), (q0, .inl (cA 0, 60, .inl ss)), (q1, .inl (cA 0, 60, .inl bb)), (q4, .inl (cA 0, 480, .inl pp))] sz) := by
  refine gq_ofW (cc := cX6_advance) (maxL := 2) (ret := (some .int)) (by decide) rfl (Nat.le_of_ble_eq_true rfl) (fun p e s m args below meth c ls Q A hx hb hml hts hfc hmn hK hP hD hS hA hl hend => ?_)
  have hfc : s.vm.findClass RX6 = some m.cls := hfc
  have hl : lv_has ls 2 [(0, .ref m0), (1, .int x1)] := hl
  have h := hr
  clear hr
  unfold SX6_advance at h
  refine lv_aload_n hx hb dX6_advance_0 rfl (lv_at hl 0 rfl) ?_
  obtain ⟨o1, ho1, h⟩ := lt_i h
  refine gq_V (v := (fun as => none)) (As := []) (rest := []) (wc := [(m0, .inr (10, [.ref q0, .ref q1, .ref q2, .int v3, .ref q4, .int v5, .int v6, .ref q7, .int v8, .ref q9, .int v10, .int v11, .int v12, .int v13, .int v14, .ref q15, .int v16])), (q0, .inl (cA 0, 60, .inl ss)), (q1, .inl (cA 0, 60, .inl bb))]) (wr := [(q4, .inl (cA 0, 480, .inl pp))]) (w1 := (fun as => [(m0, .inr (10, [.ref q0, .ref q1, .ref q2, .int v3, .ref q4, .int v5, .int o1.2, .ref q7, .int v8, .ref q9, .int v10, .int v11, .int v12, .int v13, .int v14, .ref q15, .int v16])), (q0, .inl (cA 0, 60, .inl ss)), (q1, .inl (cA 0, 60, .inl o1.1))])) (ws2 := (fun as => [(m0, .inr (10, [.ref q0, .ref q1, .ref q2, .int v3, .ref q4, .int v5, .int o1.2, .ref q7, .int v8, .ref q9, .int v10, .int v11, .int v12, .int v13, .int v14, .ref q15, .int v16])), (q0, .inl (cA 0, 60, .inl ss)), (q1, .inl (cA 0, 60, .inl o1.1)), (q4, .inl (cA 0, 480, .inl pp))])) (st1 := (fun as => [])) ⟨hx, hb, hml, hfc, hts⟩ hK hP hD hS hA (kX6_keep l D cA m0 q0 q1 q2 q4 q7 q9 q15 v3 v5 v6 v8 v10 v11 v12 v13 v14 v16 ss bb ho1) (cwV 0 hts gX6_advance_X6_keep rfl rfl rfl (by decide +kernel) ⟨(Nat.le_of_ble_eq_true rfl), (Nat.le_of_ble_eq_true rfl)⟩) [0, 1, 2] [3] [1, 2, 3, 0] rfl rfl rfl rfl (by decide) (fun _ => rfl) rfl 0 10 rfl rfl rfl rfl (fun _ => rfl) rfl hl.1 (Nat.le_of_ble_eq_true rfl) dX6_advance_1 ⟨(Nat.zero_le _), (Nat.zero_le _)⟩ (fun as H locs hP hD hS => ?_)
  have hP : va_P D vwCl [(m0, .inr (10, [.ref q0, .ref q1, .ref q2, .int v3, .ref q4, .int v5, .int o1.2, .ref q7, .int v8, .ref q9, .int v10, .int v11, .int v12, .int v13, .int v14, .ref q15, .int v16])), (q0, .inl (cA 0, 60, .inl ss)), (q1, .inl (cA 0, 60, .inl o1.1)), (q4, .inl (cA 0, 480, .inl pp))] H := hP
  have hD : va_D A [(m0, .inr (10, [.ref q0, .ref q1, .ref q2, .int v3, .ref q4, .int v5, .int o1.2, .ref q7, .int v8, .ref q9, .int v10, .int v11, .int v12, .int v13, .int v14, .ref q15, .int v16])), (q0, .inl (cA 0, 60, .inl ss)), (q1, .inl (cA 0, 60, .inl o1.1)), (q4, .inl (cA 0, 480, .inl pp))] := hD
  refine lv_aload_n hx hb dX6_advance_4 rfl (lv_at hl 0 rfl) ?_
  refine lv_aload_n hx hb dX6_advance_5 rfl (lv_at hl 0 rfl) ?_
  refine lv_iload_n hx hb dX6_advance_6 rfl (lv_at hl 1 rfl) ?_
  obtain ⟨o2, ho2, h⟩ := bnd_i h
  refine gq_V (v := (fun as => (some (.int o2.1)))) (As := [.int x1]) (rest := [.ref m0]) (wc := [(m0, .inr (10, [.ref q0, .ref q1, .ref q2, .int v3, .ref q4, .int v5, .int o1.2, .ref q7, .int v8, .ref q9, .int v10, .int v11, .int v12, .int v13, .int v14, .ref q15, .int v16])), (q0, .inl (cA 0, 60, .inl ss))]) (wr := [(q1, .inl (cA 0, 60, .inl o1.1)), (q4, .inl (cA 0, 480, .inl pp))]) (w1 := (fun as => [(m0, .inr (10, [.ref q0, .ref q1, .ref q2, .int v3, .ref q4, .int v5, .int o2.2.2, .ref q7, .int v8, .ref q9, .int v10, .int v11, .int v12, .int v13, .int v14, .ref q15, .int v16])), (q0, .inl (cA 0, 60, .inl o2.2.1))])) (ws2 := (fun as => [(m0, .inr (10, [.ref q0, .ref q1, .ref q2, .int v3, .ref q4, .int v5, .int o2.2.2, .ref q7, .int v8, .ref q9, .int v10, .int v11, .int v12, .int v13, .int v14, .ref q15, .int v16])), (q0, .inl (cA 0, 60, .inl o2.2.1)), (q1, .inl (cA 0, 60, .inl o1.1)), (q4, .inl (cA 0, 480, .inl pp))])) (st1 := (fun as => [.int o2.1, .ref m0])) ⟨hx, hb, hml, hfc, hts⟩ hK hP hD hS hA (kX6_doAdvance l D cA m0 q0 q1 q2 q4 q7 q9 q15 N v3 v5 o1.2 v8 v10 v11 v12 v13 v14 v16 ss x1 ho2) (cwV 1 hts gX6_advance_X6_doAdvance rfl rfl rfl (by decide +kernel) ⟨(Nat.le_of_ble_eq_true rfl), (Nat.le_of_ble_eq_true rfl)⟩) [0, 1] [2, 3] [2, 3, 0, 1] rfl rfl rfl rfl (by decide) (fun _ => rfl) rfl 0 10 rfl rfl rfl rfl (fun _ => rfl) rfl hl.1 (Nat.le_of_ble_eq_true rfl) dX6_advance_7 ⟨(Nat.zero_le _), (Nat.zero_le _)⟩ (fun as H locs hP hD hS => ?_)
  have hP : va_P D vwCl [(m0, .inr (10, [.ref q0, .ref q1, .ref q2, .int v3, .ref q4, .int v5, .int o2.2.2, .ref q7, .int v8, .ref q9, .int v10, .int v11, .int v12, .int v13, .int v14, .ref q15, .int v16])), (q0, .inl (cA 0, 60, .inl o2.2.1)), (q1, .inl (cA 0, 60, .inl o1.1)), (q4, .inl (cA 0, 480, .inl pp))] H := hP
  have hD : va_D A [(m0, .inr (10, [.ref q0, .ref q1, .ref q2, .int v3, .ref q4, .int v5, .int o2.2.2, .ref q7, .int v8, .ref q9, .int v10, .int v11, .int v12, .int v13, .int v14, .ref q15, .int v16])), (q0, .inl (cA 0, 60, .inl o2.2.1)), (q1, .inl (cA 0, 60, .inl o1.1)), (q4, .inl (cA 0, 480, .inl pp))] := hD
  obtain ⟨o3, ho3, h⟩ := bnd_i h
  refine gq_V (v := (fun as => (some (.int o3.1)))) (As := [.int o2.1]) (rest := []) (wc := [(m0, .inr (10, [.ref q0, .ref q1, .ref q2, .int v3, .ref q4, .int v5, .int o2.2.2, .ref q7, .int v8, .ref q9, .int v10, .int v11, .int v12, .int v13, .int v14, .ref q15, .int v16])), (q0, .inl (cA 0, 60, .inl o2.2.1)), (q1, .inl (cA 0, 60, .inl o1.1)), (q4, .inl (cA 0, 480, .inl pp))]) (wr := []) (w1 := (fun as => [(m0, .inr (10, [.ref q0, .ref q1, .ref q2, .int v3, .ref q4, .int o3.2.2.2, .int o2.2.2, .ref q7, .int v8, .ref q9, .int v10, .int v11, .int v12, .int v13, .int v14, .ref q15, .int v16])), (q0, .inl (cA 0, 60, .inl o3.2.1)), (q1, .inl (cA 0, 60, .inl o1.1)), (q4, .inl (cA 0, 480, .inl o3.2.2.1))])) (ws2 := (fun as => [(m0, .inr (10, [.ref q0, .ref q1, .ref q2, .int v3, .ref q4, .int o3.2.2.2, .int o2.2.2, .ref q7, .int v8, .ref q9, .int v10, .int v11, .int v12, .int v13, .int v14, .ref q15, .int v16])), (q0, .inl (cA 0, 60, .inl o3.2.1)), (q1, .inl (cA 0, 60, .inl o1.1)), (q4, .inl (cA 0, 480, .inl o3.2.2.1))])) (st1 := (fun as => [.int o3.1])) ⟨hx, hb, hml, hfc, hts⟩ hK hP hD hS hA (kX6_ends l D cA m0 q0 q1 q2 q4 q7 q9 q15 v3 v5 o2.2.2 v8 v10 v11 v12 v13 v14 v16 o2.2.1 o1.1 pp o2.1 ho3) (cwV 1 hts gX6_advance_X6_ends rfl rfl rfl (by decide +kernel) ⟨(Nat.le_of_ble_eq_true rfl), (Nat.le_of_ble_eq_true rfl)⟩) [0, 1, 2, 3] [] [0, 1, 2, 3] rfl rfl rfl rfl (by decide) (fun _ => rfl) rfl 0 10 rfl rfl rfl rfl (fun _ => rfl) rfl hl.1 (Nat.le_of_ble_eq_true rfl) dX6_advance_10 ⟨(Nat.zero_le _), (Nat.zero_le _)⟩ (fun as H locs hP hD hS => ?_)
  have hP : va_P D vwCl [(m0, .inr (10, [.ref q0, .ref q1, .ref q2, .int v3, .ref q4, .int o3.2.2.2, .int o2.2.2, .ref q7, .int v8, .ref q9, .int v10, .int v11, .int v12, .int v13, .int v14, .ref q15, .int v16])), (q0, .inl (cA 0, 60, .inl o3.2.1)), (q1, .inl (cA 0, 60, .inl o1.1)), (q4, .inl (cA 0, 480, .inl o3.2.2.1))] H := hP
  have hD : va_D A [(m0, .inr (10, [.ref q0, .ref q1, .ref q2, .int v3, .ref q4, .int o3.2.2.2, .int o2.2.2, .ref q7, .int v8, .ref q9, .int v10, .int v11, .int v12, .int v13, .int v14, .ref q15, .int v16])), (q0, .inl (cA 0, 60, .inl o3.2.1)), (q1, .inl (cA 0, 60, .inl o1.1)), (q4, .inl (cA 0, 480, .inl o3.2.2.1))] := hD
  have h := Option.some.inj h
  subst h
  exact hend (adr []) _ _ _ _ _ _ _ rfl rfl (rtn_i _) hP hD hS dX6_advance_13
noncomputable def SX6_time (ss : Nat → Int32) : Int32 × Int32 := (ss 2, 0)
theorem iX6_time_X6 : ∀ w ∈ wsX60, w ∈ wsX6_time := fun _ h => List.mem_cons_of_mem _ (List.mem_append_left _ (List.mem_append_right _ h))
abbrev RM_X6_time : Room := { frames := 0, cells := 0, slots := 0, locals := 0 }
set_option maxHeartbeats 4000000 in
theorem kX6_time (l : Launch) (D : va_G) (cA : Nat → ClassId) (m0 q0 q1 q2 q4 q7 q9 q15 : Nat) (v3 : Int32) (v5 : Int32) (v6 : Int32) (v8 : Int32) (v10 : Int32) (v11 : Int32) (v12 : Int32) (v13 : Int32) (v14 : Int32) (v16 : Int32) (ss : Nat → Int32) {r : Int32 × Int32} (hr : SX6_time ss = r) {sz : Nat} : Met l yX6_time wsX6_time RM_X6_time (va_Pc [.ref m0] (gqB D cA [(m0, .inr (10, [.ref q0, .ref q1, .ref q2, .int v3, .ref q4, .int v5, .int v6, .ref q7, .int v8, .ref q9, .int v10, .int v11, .int v12, .int v13, .int v14, .ref q15, .int v16])), (q0, .inl (cA 0, 60, .inl ss))] sz)) (gqQ D (fun as => (some (.int r.1))) (fun as => [(m0, .inr (10, [.ref q0, .ref q1, .ref q2, .int v3, .ref q4, .int v5, .int r.2, .ref q7, .int v8, .ref q9, .int v10, .int v11, .int v12, .int v13, .int v14, .ref q15, .int v16])), (q0, .inl (cA 0, 60, .inl ss))]) (va_A [(m0, .inr (10, [.ref q0, .ref q1, .ref q2, .int v3, .ref q4, .int v5, .int v6, .ref q7, .int v8, .ref q9, .int v10, .int v11, .int v12, .int v13, .int v14, .ref q15, .int v16])), (q0, .inl (cA 0, 60, .inl ss))] sz)) 0 0 (va_A [(m0, .inr (10, [.ref q0, .ref q1, .ref q2, .int v3, .ref q4, .int v5, .int v6, .ref q7, .int v8, .ref q9, .int v10, .int v11, .int v12, .int v13, .int v14, .ref q15, .int v16])), (q0, .inl (cA 0, 60, .inl ss))] sz) := by
  refine gq_ofW (cc := cX6_time) (maxL := 1) (ret := (some .int)) (by decide) rfl (Nat.le_of_ble_eq_true rfl) (fun p e s m args below meth c ls Q A hx hb hml hts hfc hmn hK hP hD hS hA hl hend => ?_)
  have hfc : s.vm.findClass RX6 = some m.cls := hfc
  have hl : lv_has ls 1 [(0, .ref m0)] := hl
  have h := hr
  clear hr
  unfold SX6_time at h
  refine lv_aload_n hx hb dX6_time_0 rfl (lv_at hl 0 rfl) ?_
  refine lv_iconst (v := 0) hx hb dX6_time_1 (by decide) ?_
  refine va_put (D := D) (ci := 10) (v := .int 0) (ty := .int) (C := RX6) (T := TX6) (N := 17) hx hb hts iX6_time_X6 tyX6 tyX6_ok nmX6 hfc hK hP hD hS 0 rfl rfl 6 (by decide) (hts (.fieldLink RX6 39 "BathtubTidesModel" "thrown" "I") (List.mem_of_getElem? (i := 1) rfl)) (fun _ h9 => h9) rfl (by decide +kernel) rfl rfl (Nat.le_of_ble_eq_true rfl) dX6_time_2 (fun H locs hP hD hS => ?_)
  have hP : va_P D vwCl [(m0, .inr (10, [.ref q0, .ref q1, .ref q2, .int v3, .ref q4, .int v5, .int 0, .ref q7, .int v8, .ref q9, .int v10, .int v11, .int v12, .int v13, .int v14, .ref q15, .int v16])), (q0, .inl (cA 0, 60, .inl ss))] H := hP
  have hD : va_D A [(m0, .inr (10, [.ref q0, .ref q1, .ref q2, .int v3, .ref q4, .int v5, .int 0, .ref q7, .int v8, .ref q9, .int v10, .int v11, .int v12, .int v13, .int v14, .ref q15, .int v16])), (q0, .inl (cA 0, 60, .inl ss))] := hD
  refine lv_aload_n hx hb dX6_time_5 rfl (lv_at hl 0 rfl) ?_
  refine va_get (D := D) (ci := 10) (v := .ref q0) (C := RX6) (T := TX6) (N := 17) hx hb hts iX6_time_X6 hfc hK hP 0 rfl rfl 0 (by decide) (hts (.fieldLink RX6 9 "BathtubTidesModel" "s" "[I") (List.mem_of_getElem? (i := 2) rfl)) (fun _ h9 => h9) rfl dX6_time_6 ?_
  refine lv_iconst (v := 2) hx hb dX6_time_9 (by decide) ?_
  refine va_iald hx hb hK hP 1 0 rfl rfl (vin _ _ (by decide)) dX6_time_10 ?_
  subst h
  exact hend (adr []) _ _ _ _ _ _ _ rfl rfl (rtn_i _) hP hD hS dX6_time_11
noncomputable def SX6_baseLevel (ss : Nat → Int32) : Int32 × Int32 := (ss 3, 0)
theorem iX6_baseLevel_X6 : ∀ w ∈ wsX60, w ∈ wsX6_baseLevel := fun _ h => List.mem_cons_of_mem _ (List.mem_append_left _ (List.mem_append_right _ h))
abbrev RM_X6_baseLevel : Room := { frames := 0, cells := 0, slots := 0, locals := 0 }
set_option maxHeartbeats 4000000 in
theorem kX6_baseLevel (l : Launch) (D : va_G) (cA : Nat → ClassId) (m0 q0 q1 q2 q4 q7 q9 q15 : Nat) (v3 : Int32) (v5 : Int32) (v6 : Int32) (v8 : Int32) (v10 : Int32) (v11 : Int32) (v12 : Int32) (v13 : Int32) (v14 : Int32) (v16 : Int32) (ss : Nat → Int32) {r : Int32 × Int32} (hr : SX6_baseLevel ss = r) {sz : Nat} : Met l yX6_baseLevel wsX6_baseLevel RM_X6_baseLevel (va_Pc [.ref m0] (gqB D cA [(m0, .inr (10, [.ref q0, .ref q1, .ref q2, .int v3, .ref q4, .int v5, .int v6, .ref q7, .int v8, .ref q9, .int v10, .int v11, .int v12, .int v13, .int v14, .ref q15, .int v16])), (q0, .inl (cA 0, 60, .inl ss))] sz)) (gqQ D (fun as => (some (.int r.1))) (fun as => [(m0, .inr (10, [.ref q0, .ref q1, .ref q2, .int v3, .ref q4, .int v5, .int r.2, .ref q7, .int v8, .ref q9, .int v10, .int v11, .int v12, .int v13, .int v14, .ref q15, .int v16])), (q0, .inl (cA 0, 60, .inl ss))]) (va_A [(m0, .inr (10, [.ref q0, .ref q1, .ref q2, .int v3, .ref q4, .int v5, .int v6, .ref q7, .int v8, .ref q9, .int v10, .int v11, .int v12, .int v13, .int v14, .ref q15, .int v16])), (q0, .inl (cA 0, 60, .inl ss))] sz)) 0 0 (va_A [(m0, .inr (10, [.ref q0, .ref q1, .ref q2, .int v3, .ref q4, .int v5, .int v6, .ref q7, .int v8, .ref q9, .int v10, .int v11, .int v12, .int v13, .int v14, .ref q15, .int v16])), (q0, .inl (cA 0, 60, .inl ss))] sz) := by
  refine gq_ofW (cc := cX6_baseLevel) (maxL := 1) (ret := (some .int)) (by decide) rfl (Nat.le_of_ble_eq_true rfl) (fun p e s m args below meth c ls Q A hx hb hml hts hfc hmn hK hP hD hS hA hl hend => ?_)
  have hfc : s.vm.findClass RX6 = some m.cls := hfc
  have hl : lv_has ls 1 [(0, .ref m0)] := hl
  have h := hr
  clear hr
  unfold SX6_baseLevel at h
  refine lv_aload_n hx hb dX6_baseLevel_0 rfl (lv_at hl 0 rfl) ?_
  refine lv_iconst (v := 0) hx hb dX6_baseLevel_1 (by decide) ?_
  refine va_put (D := D) (ci := 10) (v := .int 0) (ty := .int) (C := RX6) (T := TX6) (N := 17) hx hb hts iX6_baseLevel_X6 tyX6 tyX6_ok nmX6 hfc hK hP hD hS 0 rfl rfl 6 (by decide) (hts (.fieldLink RX6 39 "BathtubTidesModel" "thrown" "I") (List.mem_of_getElem? (i := 1) rfl)) (fun _ h9 => h9) rfl (by decide +kernel) rfl rfl (Nat.le_of_ble_eq_true rfl) dX6_baseLevel_2 (fun H locs hP hD hS => ?_)
  have hP : va_P D vwCl [(m0, .inr (10, [.ref q0, .ref q1, .ref q2, .int v3, .ref q4, .int v5, .int 0, .ref q7, .int v8, .ref q9, .int v10, .int v11, .int v12, .int v13, .int v14, .ref q15, .int v16])), (q0, .inl (cA 0, 60, .inl ss))] H := hP
  have hD : va_D A [(m0, .inr (10, [.ref q0, .ref q1, .ref q2, .int v3, .ref q4, .int v5, .int 0, .ref q7, .int v8, .ref q9, .int v10, .int v11, .int v12, .int v13, .int v14, .ref q15, .int v16])), (q0, .inl (cA 0, 60, .inl ss))] := hD
  refine lv_aload_n hx hb dX6_baseLevel_5 rfl (lv_at hl 0 rfl) ?_
  refine va_get (D := D) (ci := 10) (v := .ref q0) (C := RX6) (T := TX6) (N := 17) hx hb hts iX6_baseLevel_X6 hfc hK hP 0 rfl rfl 0 (by decide) (hts (.fieldLink RX6 9 "BathtubTidesModel" "s" "[I") (List.mem_of_getElem? (i := 2) rfl)) (fun _ h9 => h9) rfl dX6_baseLevel_6 ?_
  refine lv_iconst (v := 3) hx hb dX6_baseLevel_9 (by decide) ?_
  refine va_iald hx hb hK hP 1 0 rfl rfl (vin _ _ (by decide)) dX6_baseLevel_10 ?_
  subst h
  exact hend (adr []) _ _ _ _ _ _ _ rfl rfl (rtn_i _) hP hD hS dX6_baseLevel_11
noncomputable def SX6_flow (ss : Nat → Int32) : Int32 × Int32 := (ss 4, 0)
theorem iX6_flow_X6 : ∀ w ∈ wsX60, w ∈ wsX6_flow := fun _ h => List.mem_cons_of_mem _ (List.mem_append_left _ (List.mem_append_right _ h))
abbrev RM_X6_flow : Room := { frames := 0, cells := 0, slots := 0, locals := 0 }
set_option maxHeartbeats 4000000 in
theorem kX6_flow (l : Launch) (D : va_G) (cA : Nat → ClassId) (m0 q0 q1 q2 q4 q7 q9 q15 : Nat) (v3 : Int32) (v5 : Int32) (v6 : Int32) (v8 : Int32) (v10 : Int32) (v11 : Int32) (v12 : Int32) (v13 : Int32) (v14 : Int32) (v16 : Int32) (ss : Nat → Int32) {r : Int32 × Int32} (hr : SX6_flow ss = r) {sz : Nat} : Met l yX6_flow wsX6_flow RM_X6_flow (va_Pc [.ref m0] (gqB D cA [(m0, .inr (10, [.ref q0, .ref q1, .ref q2, .int v3, .ref q4, .int v5, .int v6, .ref q7, .int v8, .ref q9, .int v10, .int v11, .int v12, .int v13, .int v14, .ref q15, .int v16])), (q0, .inl (cA 0, 60, .inl ss))] sz)) (gqQ D (fun as => (some (.int r.1))) (fun as => [(m0, .inr (10, [.ref q0, .ref q1, .ref q2, .int v3, .ref q4, .int v5, .int r.2, .ref q7, .int v8, .ref q9, .int v10, .int v11, .int v12, .int v13, .int v14, .ref q15, .int v16])), (q0, .inl (cA 0, 60, .inl ss))]) (va_A [(m0, .inr (10, [.ref q0, .ref q1, .ref q2, .int v3, .ref q4, .int v5, .int v6, .ref q7, .int v8, .ref q9, .int v10, .int v11, .int v12, .int v13, .int v14, .ref q15, .int v16])), (q0, .inl (cA 0, 60, .inl ss))] sz)) 0 0 (va_A [(m0, .inr (10, [.ref q0, .ref q1, .ref q2, .int v3, .ref q4, .int v5, .int v6, .ref q7, .int v8, .ref q9, .int v10, .int v11, .int v12, .int v13, .int v14, .ref q15, .int v16])), (q0, .inl (cA 0, 60, .inl ss))] sz) := by
  refine gq_ofW (cc := cX6_flow) (maxL := 1) (ret := (some .int)) (by decide) rfl (Nat.le_of_ble_eq_true rfl) (fun p e s m args below meth c ls Q A hx hb hml hts hfc hmn hK hP hD hS hA hl hend => ?_)
  have hfc : s.vm.findClass RX6 = some m.cls := hfc
  have hl : lv_has ls 1 [(0, .ref m0)] := hl
  have h := hr
  clear hr
  unfold SX6_flow at h
  refine lv_aload_n hx hb dX6_flow_0 rfl (lv_at hl 0 rfl) ?_
  refine lv_iconst (v := 0) hx hb dX6_flow_1 (by decide) ?_
  refine va_put (D := D) (ci := 10) (v := .int 0) (ty := .int) (C := RX6) (T := TX6) (N := 17) hx hb hts iX6_flow_X6 tyX6 tyX6_ok nmX6 hfc hK hP hD hS 0 rfl rfl 6 (by decide) (hts (.fieldLink RX6 39 "BathtubTidesModel" "thrown" "I") (List.mem_of_getElem? (i := 1) rfl)) (fun _ h9 => h9) rfl (by decide +kernel) rfl rfl (Nat.le_of_ble_eq_true rfl) dX6_flow_2 (fun H locs hP hD hS => ?_)
  have hP : va_P D vwCl [(m0, .inr (10, [.ref q0, .ref q1, .ref q2, .int v3, .ref q4, .int v5, .int 0, .ref q7, .int v8, .ref q9, .int v10, .int v11, .int v12, .int v13, .int v14, .ref q15, .int v16])), (q0, .inl (cA 0, 60, .inl ss))] H := hP
  have hD : va_D A [(m0, .inr (10, [.ref q0, .ref q1, .ref q2, .int v3, .ref q4, .int v5, .int 0, .ref q7, .int v8, .ref q9, .int v10, .int v11, .int v12, .int v13, .int v14, .ref q15, .int v16])), (q0, .inl (cA 0, 60, .inl ss))] := hD
  refine lv_aload_n hx hb dX6_flow_5 rfl (lv_at hl 0 rfl) ?_
  refine va_get (D := D) (ci := 10) (v := .ref q0) (C := RX6) (T := TX6) (N := 17) hx hb hts iX6_flow_X6 hfc hK hP 0 rfl rfl 0 (by decide) (hts (.fieldLink RX6 9 "BathtubTidesModel" "s" "[I") (List.mem_of_getElem? (i := 2) rfl)) (fun _ h9 => h9) rfl dX6_flow_6 ?_
  refine lv_iconst (v := 4) hx hb dX6_flow_9 (by decide) ?_
  refine va_iald hx hb hK hP 1 0 rfl rfl (vin _ _ (by decide)) dX6_flow_10 ?_
  subst h
  exact hend (adr []) _ _ _ _ _ _ _ rfl rfl (rtn_i _) hP hD hS dX6_flow_11
noncomputable def SX6_spilled (ss : Nat → Int32) : Int32 × Int32 := (ss 5, 0)
theorem iX6_spilled_X6 : ∀ w ∈ wsX60, w ∈ wsX6_spilled := fun _ h => List.mem_cons_of_mem _ (List.mem_append_left _ (List.mem_append_right _ h))
abbrev RM_X6_spilled : Room := { frames := 0, cells := 0, slots := 0, locals := 0 }
set_option maxHeartbeats 4000000 in
theorem kX6_spilled (l : Launch) (D : va_G) (cA : Nat → ClassId) (m0 q0 q1 q2 q4 q7 q9 q15 : Nat) (v3 : Int32) (v5 : Int32) (v6 : Int32) (v8 : Int32) (v10 : Int32) (v11 : Int32) (v12 : Int32) (v13 : Int32) (v14 : Int32) (v16 : Int32) (ss : Nat → Int32) {r : Int32 × Int32} (hr : SX6_spilled ss = r) {sz : Nat} : Met l yX6_spilled wsX6_spilled RM_X6_spilled (va_Pc [.ref m0] (gqB D cA [(m0, .inr (10, [.ref q0, .ref q1, .ref q2, .int v3, .ref q4, .int v5, .int v6, .ref q7, .int v8, .ref q9, .int v10, .int v11, .int v12, .int v13, .int v14, .ref q15, .int v16])), (q0, .inl (cA 0, 60, .inl ss))] sz)) (gqQ D (fun as => (some (.int r.1))) (fun as => [(m0, .inr (10, [.ref q0, .ref q1, .ref q2, .int v3, .ref q4, .int v5, .int r.2, .ref q7, .int v8, .ref q9, .int v10, .int v11, .int v12, .int v13, .int v14, .ref q15, .int v16])), (q0, .inl (cA 0, 60, .inl ss))]) (va_A [(m0, .inr (10, [.ref q0, .ref q1, .ref q2, .int v3, .ref q4, .int v5, .int v6, .ref q7, .int v8, .ref q9, .int v10, .int v11, .int v12, .int v13, .int v14, .ref q15, .int v16])), (q0, .inl (cA 0, 60, .inl ss))] sz)) 0 0 (va_A [(m0, .inr (10, [.ref q0, .ref q1, .ref q2, .int v3, .ref q4, .int v5, .int v6, .ref q7, .int v8, .ref q9, .int v10, .int v11, .int v12, .int v13, .int v14, .ref q15, .int v16])), (q0, .inl (cA 0, 60, .inl ss))] sz) := by
  refine gq_ofW (cc := cX6_spilled) (maxL := 1) (ret := (some .int)) (by decide) rfl (Nat.le_of_ble_eq_true rfl) (fun p e s m args below meth c ls Q A hx hb hml hts hfc hmn hK hP hD hS hA hl hend => ?_)
  have hfc : s.vm.findClass RX6 = some m.cls := hfc
  have hl : lv_has ls 1 [(0, .ref m0)] := hl
  have h := hr
  clear hr
  unfold SX6_spilled at h
  refine lv_aload_n hx hb dX6_spilled_0 rfl (lv_at hl 0 rfl) ?_
  refine lv_iconst (v := 0) hx hb dX6_spilled_1 (by decide) ?_
  refine va_put (D := D) (ci := 10) (v := .int 0) (ty := .int) (C := RX6) (T := TX6) (N := 17) hx hb hts iX6_spilled_X6 tyX6 tyX6_ok nmX6 hfc hK hP hD hS 0 rfl rfl 6 (by decide) (hts (.fieldLink RX6 39 "BathtubTidesModel" "thrown" "I") (List.mem_of_getElem? (i := 1) rfl)) (fun _ h9 => h9) rfl (by decide +kernel) rfl rfl (Nat.le_of_ble_eq_true rfl) dX6_spilled_2 (fun H locs hP hD hS => ?_)
  have hP : va_P D vwCl [(m0, .inr (10, [.ref q0, .ref q1, .ref q2, .int v3, .ref q4, .int v5, .int 0, .ref q7, .int v8, .ref q9, .int v10, .int v11, .int v12, .int v13, .int v14, .ref q15, .int v16])), (q0, .inl (cA 0, 60, .inl ss))] H := hP
  have hD : va_D A [(m0, .inr (10, [.ref q0, .ref q1, .ref q2, .int v3, .ref q4, .int v5, .int 0, .ref q7, .int v8, .ref q9, .int v10, .int v11, .int v12, .int v13, .int v14, .ref q15, .int v16])), (q0, .inl (cA 0, 60, .inl ss))] := hD
  refine lv_aload_n hx hb dX6_spilled_5 rfl (lv_at hl 0 rfl) ?_
  refine va_get (D := D) (ci := 10) (v := .ref q0) (C := RX6) (T := TX6) (N := 17) hx hb hts iX6_spilled_X6 hfc hK hP 0 rfl rfl 0 (by decide) (hts (.fieldLink RX6 9 "BathtubTidesModel" "s" "[I") (List.mem_of_getElem? (i := 2) rfl)) (fun _ h9 => h9) rfl dX6_spilled_6 ?_
  refine lv_iconst (v := 5) hx hb dX6_spilled_9 (by decide) ?_
  refine va_iald hx hb hK hP 1 0 rfl rfl (vin _ _ (by decide)) dX6_spilled_10 ?_
  subst h
  exact hend (adr []) _ _ _ _ _ _ _ rfl rfl (rtn_i _) hP hD hS dX6_spilled_11
noncomputable def SX6_tideAt (N : Nat) (ss : Nat → Int32) (x1 : Int32) : Option (Int32 × Int32) := bnd (SX6_isPosition x1) (fun o1 : Int32 => bnd (SX6_isThere o1) (fun o2 : Int32 × Int32 => if o2.1 = 0 then (some ((0, o2.2))) else (bnd (SX6_tide N ss x1 0) (fun o4 : Int32 => some ((o4, o2.2))))))
abbrev RM_X6_tideAt : Room := { frames := 5, cells := 0, slots := 0, locals := 116 }
set_option maxHeartbeats 4000000 in
theorem kX6_tideAt (l : Launch) (D : va_G) (cA : Nat → ClassId) (m0 q0 q1 q2 q4 q7 q9 q15 : Nat) (N : Nat) (v3 : Int32) (v5 : Int32) (v6 : Int32) (v8 : Int32) (v10 : Int32) (v11 : Int32) (v12 : Int32) (v13 : Int32) (v14 : Int32) (v16 : Int32) (ss : Nat → Int32) (x1 : Int32) {r : Int32 × Int32} (hr : SX6_tideAt N ss x1 = some r) {sz : Nat} : Met l yX6_tideAt wsX6_tideAt RM_X6_tideAt (va_Pc [.ref m0, .int x1] (gqB D cA [(m0, .inr (10, [.ref q0, .ref q1, .ref q2, .int v3, .ref q4, .int v5, .int v6, .ref q7, .int v8, .ref q9, .int v10, .int v11, .int v12, .int v13, .int v14, .ref q15, .int v16])), (q0, .inl (cA 0, 60, .inl ss))] sz)) (gqQ D (fun as => (some (.int r.1))) (fun as => [(m0, .inr (10, [.ref q0, .ref q1, .ref q2, .int v3, .ref q4, .int v5, .int r.2, .ref q7, .int v8, .ref q9, .int v10, .int v11, .int v12, .int v13, .int v14, .ref q15, .int v16])), (q0, .inl (cA 0, 60, .inl ss))]) (va_A [(m0, .inr (10, [.ref q0, .ref q1, .ref q2, .int v3, .ref q4, .int v5, .int v6, .ref q7, .int v8, .ref q9, .int v10, .int v11, .int v12, .int v13, .int v14, .ref q15, .int v16])), (q0, .inl (cA 0, 60, .inl ss))] sz)) 0 0 (va_A [(m0, .inr (10, [.ref q0, .ref q1, .ref q2, .int v3, .ref q4, .int v5, .int v6, .ref q7, .int v8, .ref q9, .int v10, .int v11, .int v12, .int v13, .int v14, .ref q15, .int v16])), (q0, .inl (cA 0, 60, .inl ss))] sz) := by
  refine gq_ofW (cc := cX6_tideAt) (maxL := 2) (ret := (some .int)) (by decide) rfl (Nat.le_of_ble_eq_true rfl) (fun p e s m args below meth c ls Q A hx hb hml hts hfc hmn hK hP hD hS hA hl hend => ?_)
  have hfc : s.vm.findClass RX6 = some m.cls := hfc
  have hl : lv_has ls 2 [(0, .ref m0), (1, .int x1)] := hl
  have h := hr
  clear hr
  unfold SX6_tideAt at h
  refine lv_aload_n hx hb dX6_tideAt_0 rfl (lv_at hl 0 rfl) ?_
  refine lv_iload_n hx hb dX6_tideAt_1 rfl (lv_at hl 1 rfl) ?_
  obtain ⟨o1, ho1, h⟩ := bnd_i h
  refine rq_S (v := (some (.int o1))) (As := [.int x1]) (rest := [.ref m0]) (wc := []) ⟨hx, hb, hml, hfc, hts⟩ hK hP (kX6_isPosition l D cA x1 ho1) (va_cwS 1 hts gX6_tideAt_X6_isPosition rfl rfl rfl (by decide +kernel) ⟨(Nat.le_of_ble_eq_true rfl), (Nat.le_of_ble_eq_true rfl)⟩) [] rfl rfl rfl rfl hl.1 (Nat.le_of_ble_eq_true rfl) dX6_tideAt_2 ⟨(Nat.zero_le _), (Nat.zero_le _)⟩ ?_
  obtain ⟨o2, ho2, h⟩ := bnd_i h
  refine gq_V (v := (fun as => (some (.int o2.1)))) (As := [.int o1]) (rest := []) (wc := [(m0, .inr (10, [.ref q0, .ref q1, .ref q2, .int v3, .ref q4, .int v5, .int v6, .ref q7, .int v8, .ref q9, .int v10, .int v11, .int v12, .int v13, .int v14, .ref q15, .int v16]))]) (wr := [(q0, .inl (cA 0, 60, .inl ss))]) (w1 := (fun as => [(m0, .inr (10, [.ref q0, .ref q1, .ref q2, .int v3, .ref q4, .int v5, .int o2.2, .ref q7, .int v8, .ref q9, .int v10, .int v11, .int v12, .int v13, .int v14, .ref q15, .int v16]))])) (ws2 := (fun as => [(m0, .inr (10, [.ref q0, .ref q1, .ref q2, .int v3, .ref q4, .int v5, .int o2.2, .ref q7, .int v8, .ref q9, .int v10, .int v11, .int v12, .int v13, .int v14, .ref q15, .int v16])), (q0, .inl (cA 0, 60, .inl ss))])) (st1 := (fun as => [.int o2.1])) ⟨hx, hb, hml, hfc, hts⟩ hK hP hD hS hA (kX6_isThere l D cA m0 q0 q1 q2 q4 q7 q9 q15 v3 v5 v6 v8 v10 v11 v12 v13 v14 v16 o1 ho2) (cwV 1 hts gX6_tideAt_X6_isThere rfl rfl rfl (by decide +kernel) ⟨(Nat.le_of_ble_eq_true rfl), (Nat.le_of_ble_eq_true rfl)⟩) [0] [1] [1, 0] rfl rfl rfl rfl (by decide) (fun _ => rfl) rfl 0 10 rfl rfl rfl rfl (fun _ => rfl) rfl hl.1 (Nat.le_of_ble_eq_true rfl) dX6_tideAt_5 ⟨(Nat.zero_le _), (Nat.zero_le _)⟩ (fun as H locs hP hD hS => ?_)
  have hP : va_P D vwCl [(m0, .inr (10, [.ref q0, .ref q1, .ref q2, .int v3, .ref q4, .int v5, .int o2.2, .ref q7, .int v8, .ref q9, .int v10, .int v11, .int v12, .int v13, .int v14, .ref q15, .int v16])), (q0, .inl (cA 0, 60, .inl ss))] H := hP
  have hD : va_D A [(m0, .inr (10, [.ref q0, .ref q1, .ref q2, .int v3, .ref q4, .int v5, .int o2.2, .ref q7, .int v8, .ref q9, .int v10, .int v11, .int v12, .int v13, .int v14, .ref q15, .int v16])), (q0, .inl (cA 0, 60, .inl ss))] := hD
  refine lv_if_eq (tgt := 20) hx hb dX6_tideAt_8 (by decide) (fun c3 => ?_) (fun c3 => ?_)
  · have h := ite_t c3 h
    refine lv_iconst (v := 0) hx hb dX6_tideAt_20 (by decide) ?_
    have h := Option.some.inj h
    subst h
    exact hend (adr []) _ _ _ _ _ _ _ rfl rfl (rtn_i _) hP hD hS dX6_tideAt_21
  · have h := ite_f c3 h
    refine lv_aload_n hx hb dX6_tideAt_11 rfl (lv_at hl 0 rfl) ?_
    refine lv_iload_n hx hb dX6_tideAt_12 rfl (lv_at hl 1 rfl) ?_
    refine lv_iconst (v := 0) hx hb dX6_tideAt_13 (by decide) ?_
    obtain ⟨o4, ho4, h⟩ := bnd_i h
    refine rq_V (v := (some (.int o4))) (As := [.int x1, .int 0]) (rest := []) (wc := [(m0, .inr (10, [.ref q0, .ref q1, .ref q2, .int v3, .ref q4, .int v5, .int o2.2, .ref q7, .int v8, .ref q9, .int v10, .int v11, .int v12, .int v13, .int v14, .ref q15, .int v16])), (q0, .inl (cA 0, 60, .inl ss))]) ⟨hx, hb, hml, hfc, hts⟩ hK hP (kX6_tide l D cA m0 q0 q1 q2 q4 q7 q9 q15 N v3 v5 o2.2 v8 v10 v11 v12 v13 v14 v16 ss x1 0 ho4) (cwV 2 hts gX6_tideAt_X6_tide rfl rfl rfl (by decide +kernel) ⟨(Nat.le_of_ble_eq_true rfl), (Nat.le_of_ble_eq_true rfl)⟩) [0, 1] rfl 0 10 rfl rfl rfl rfl rfl rfl hl.1 (Nat.le_of_ble_eq_true rfl) dX6_tideAt_14 ⟨(Nat.zero_le _), (Nat.zero_le _)⟩ ?_
    refine lv_goto (tgt := 21) hx hb dX6_tideAt_17 (by decide) ?_
    have h := Option.some.inj h
    subst h
    exact hend (adr []) _ _ _ _ _ _ _ rfl rfl (rtn_i _) hP hD hS dX6_tideAt_21
noncomputable def SX6_levelAt (N : Nat) (ss : Nat → Int32) (x1 : Int32) : Option (Int32 × Int32) := bnd (SX6_isPosition x1) (fun o1 : Int32 => bnd (SX6_isThere o1) (fun o2 : Int32 × Int32 => if o2.1 = 0 then (some ((0, o2.2))) else (bnd (SX6_level N ss x1) (fun o4 : Int32 => some ((o4, o2.2))))))
abbrev RM_X6_levelAt : Room := { frames := 6, cells := 0, slots := 0, locals := 139 }
set_option maxHeartbeats 4000000 in
theorem kX6_levelAt (l : Launch) (D : va_G) (cA : Nat → ClassId) (m0 q0 q1 q2 q4 q7 q9 q15 : Nat) (N : Nat) (v3 : Int32) (v5 : Int32) (v6 : Int32) (v8 : Int32) (v10 : Int32) (v11 : Int32) (v12 : Int32) (v13 : Int32) (v14 : Int32) (v16 : Int32) (ss : Nat → Int32) (x1 : Int32) {r : Int32 × Int32} (hr : SX6_levelAt N ss x1 = some r) {sz : Nat} : Met l yX6_levelAt wsX6_levelAt RM_X6_levelAt (va_Pc [.ref m0, .int x1] (gqB D cA [(m0, .inr (10, [.ref q0, .ref q1, .ref q2, .int v3, .ref q4, .int v5, .int v6, .ref q7, .int v8, .ref q9, .int v10, .int v11, .int v12, .int v13, .int v14, .ref q15, .int v16])), (q0, .inl (cA 0, 60, .inl ss))] sz)) (gqQ D (fun as => (some (.int r.1))) (fun as => [(m0, .inr (10, [.ref q0, .ref q1, .ref q2, .int v3, .ref q4, .int v5, .int r.2, .ref q7, .int v8, .ref q9, .int v10, .int v11, .int v12, .int v13, .int v14, .ref q15, .int v16])), (q0, .inl (cA 0, 60, .inl ss))]) (va_A [(m0, .inr (10, [.ref q0, .ref q1, .ref q2, .int v3, .ref q4, .int v5, .int v6, .ref q7, .int v8, .ref q9, .int v10, .int v11, .int v12, .int v13, .int v14, .ref q15, .int v16])), (q0, .inl (cA 0, 60, .inl ss))] sz)) 0 0 (va_A [(m0, .inr (10, [.ref q0, .ref q1, .ref q2, .int v3, .ref q4, .int v5, .int v6, .ref q7, .int v8, .ref q9, .int v10, .int v11, .int v12, .int v13, .int v14, .ref q15, .int v16])), (q0, .inl (cA 0, 60, .inl ss))] sz) := by
  refine gq_ofW (cc := cX6_levelAt) (maxL := 2) (ret := (some .int)) (by decide) rfl (Nat.le_of_ble_eq_true rfl) (fun p e s m args below meth c ls Q A hx hb hml hts hfc hmn hK hP hD hS hA hl hend => ?_)
  have hfc : s.vm.findClass RX6 = some m.cls := hfc
  have hl : lv_has ls 2 [(0, .ref m0), (1, .int x1)] := hl
  have h := hr
  clear hr
  unfold SX6_levelAt at h
  refine lv_aload_n hx hb dX6_levelAt_0 rfl (lv_at hl 0 rfl) ?_
  refine lv_iload_n hx hb dX6_levelAt_1 rfl (lv_at hl 1 rfl) ?_
  obtain ⟨o1, ho1, h⟩ := bnd_i h
  refine rq_S (v := (some (.int o1))) (As := [.int x1]) (rest := [.ref m0]) (wc := []) ⟨hx, hb, hml, hfc, hts⟩ hK hP (kX6_isPosition l D cA x1 ho1) (va_cwS 1 hts gX6_levelAt_X6_isPosition rfl rfl rfl (by decide +kernel) ⟨(Nat.le_of_ble_eq_true rfl), (Nat.le_of_ble_eq_true rfl)⟩) [] rfl rfl rfl rfl hl.1 (Nat.le_of_ble_eq_true rfl) dX6_levelAt_2 ⟨(Nat.zero_le _), (Nat.zero_le _)⟩ ?_
  obtain ⟨o2, ho2, h⟩ := bnd_i h
  refine gq_V (v := (fun as => (some (.int o2.1)))) (As := [.int o1]) (rest := []) (wc := [(m0, .inr (10, [.ref q0, .ref q1, .ref q2, .int v3, .ref q4, .int v5, .int v6, .ref q7, .int v8, .ref q9, .int v10, .int v11, .int v12, .int v13, .int v14, .ref q15, .int v16]))]) (wr := [(q0, .inl (cA 0, 60, .inl ss))]) (w1 := (fun as => [(m0, .inr (10, [.ref q0, .ref q1, .ref q2, .int v3, .ref q4, .int v5, .int o2.2, .ref q7, .int v8, .ref q9, .int v10, .int v11, .int v12, .int v13, .int v14, .ref q15, .int v16]))])) (ws2 := (fun as => [(m0, .inr (10, [.ref q0, .ref q1, .ref q2, .int v3, .ref q4, .int v5, .int o2.2, .ref q7, .int v8, .ref q9, .int v10, .int v11, .int v12, .int v13, .int v14, .ref q15, .int v16])), (q0, .inl (cA 0, 60, .inl ss))])) (st1 := (fun as => [.int o2.1])) ⟨hx, hb, hml, hfc, hts⟩ hK hP hD hS hA (kX6_isThere l D cA m0 q0 q1 q2 q4 q7 q9 q15 v3 v5 v6 v8 v10 v11 v12 v13 v14 v16 o1 ho2) (cwV 1 hts gX6_levelAt_X6_isThere rfl rfl rfl (by decide +kernel) ⟨(Nat.le_of_ble_eq_true rfl), (Nat.le_of_ble_eq_true rfl)⟩) [0] [1] [1, 0] rfl rfl rfl rfl (by decide) (fun _ => rfl) rfl 0 10 rfl rfl rfl rfl (fun _ => rfl) rfl hl.1 (Nat.le_of_ble_eq_true rfl) dX6_levelAt_5 ⟨(Nat.zero_le _), (Nat.zero_le _)⟩ (fun as H locs hP hD hS => ?_)
  have hP : va_P D vwCl [(m0, .inr (10, [.ref q0, .ref q1, .ref q2, .int v3, .ref q4, .int v5, .int o2.2, .ref q7, .int v8, .ref q9, .int v10, .int v11, .int v12, .int v13, .int v14, .ref q15, .int v16])), (q0, .inl (cA 0, 60, .inl ss))] H := hP
  have hD : va_D A [(m0, .inr (10, [.ref q0, .ref q1, .ref q2, .int v3, .ref q4, .int v5, .int o2.2, .ref q7, .int v8, .ref q9, .int v10, .int v11, .int v12, .int v13, .int v14, .ref q15, .int v16])), (q0, .inl (cA 0, 60, .inl ss))] := hD
  refine lv_if_eq (tgt := 19) hx hb dX6_levelAt_8 (by decide) (fun c3 => ?_) (fun c3 => ?_)
  · have h := ite_t c3 h
    refine lv_iconst (v := 0) hx hb dX6_levelAt_19 (by decide) ?_
    have h := Option.some.inj h
    subst h
    exact hend (adr []) _ _ _ _ _ _ _ rfl rfl (rtn_i _) hP hD hS dX6_levelAt_20
  · have h := ite_f c3 h
    refine lv_aload_n hx hb dX6_levelAt_11 rfl (lv_at hl 0 rfl) ?_
    refine lv_iload_n hx hb dX6_levelAt_12 rfl (lv_at hl 1 rfl) ?_
    obtain ⟨o4, ho4, h⟩ := bnd_i h
    refine rq_V (v := (some (.int o4))) (As := [.int x1]) (rest := []) (wc := [(m0, .inr (10, [.ref q0, .ref q1, .ref q2, .int v3, .ref q4, .int v5, .int o2.2, .ref q7, .int v8, .ref q9, .int v10, .int v11, .int v12, .int v13, .int v14, .ref q15, .int v16])), (q0, .inl (cA 0, 60, .inl ss))]) ⟨hx, hb, hml, hfc, hts⟩ hK hP (kX6_level l D cA m0 q0 q1 q2 q4 q7 q9 q15 N v3 v5 o2.2 v8 v10 v11 v12 v13 v14 v16 ss x1 ho4) (cwV 1 hts gX6_levelAt_X6_level rfl rfl rfl (by decide +kernel) ⟨(Nat.le_of_ble_eq_true rfl), (Nat.le_of_ble_eq_true rfl)⟩) [0, 1] rfl 0 10 rfl rfl rfl rfl rfl rfl hl.1 (Nat.le_of_ble_eq_true rfl) dX6_levelAt_13 ⟨(Nat.zero_le _), (Nat.zero_le _)⟩ ?_
    refine lv_goto (tgt := 20) hx hb dX6_levelAt_16 (by decide) ?_
    have h := Option.some.inj h
    subst h
    exact hend (adr []) _ _ _ _ _ _ _ rfl rfl (rtn_i _) hP hD hS dX6_levelAt_20
noncomputable def LX6_highestShore_9 (N : Nat) (ss : Nat → Int32) : Nat → Int32 → Int32 → Option (Int32 × Int32)
  | 0, _, _ => none
  | fu + 1, x1_9, x2_9 => if 12 ≤ x2_9 then (some ((x1_9, 0))) else (bnd (SX6_level N ss x2_9) (fun o2 : Int32 => bnd (SX6_level N ss x1_9) (fun o3 : Int32 => lt_ (if o2 ≤ o3 then (x1_9) else (x2_9)) (fun o5 : Int32 => LX6_highestShore_9 N ss fu o5 (x2_9 + 1)))))
noncomputable def SX6_highestShore (N : Nat) (ss : Nat → Int32) : Option (Int32 × Int32) := LX6_highestShore_9 N ss N 0 1
theorem iX6_highestShore_X6 : ∀ w ∈ wsX60, w ∈ wsX6_highestShore := fun _ h => List.mem_cons_of_mem _ (List.mem_append_left _ (List.mem_append_left _ (List.mem_append_right _ h)))
abbrev RM_X6_highestShore : Room := { frames := 6, cells := 0, slots := 0, locals := 140 }
set_option maxHeartbeats 4000000 in
theorem kX6_highestShore (l : Launch) (D : va_G) (cA : Nat → ClassId) (m0 q0 q1 q2 q4 q7 q9 q15 : Nat) (N : Nat) (v3 : Int32) (v5 : Int32) (v6 : Int32) (v8 : Int32) (v10 : Int32) (v11 : Int32) (v12 : Int32) (v13 : Int32) (v14 : Int32) (v16 : Int32) (ss : Nat → Int32) {r : Int32 × Int32} (hr : SX6_highestShore N ss = some r) {sz : Nat} : Met l yX6_highestShore wsX6_highestShore RM_X6_highestShore (va_Pc [.ref m0] (gqB D cA [(m0, .inr (10, [.ref q0, .ref q1, .ref q2, .int v3, .ref q4, .int v5, .int v6, .ref q7, .int v8, .ref q9, .int v10, .int v11, .int v12, .int v13, .int v14, .ref q15, .int v16])), (q0, .inl (cA 0, 60, .inl ss))] sz)) (gqQ D (fun as => (some (.int r.1))) (fun as => [(m0, .inr (10, [.ref q0, .ref q1, .ref q2, .int v3, .ref q4, .int v5, .int r.2, .ref q7, .int v8, .ref q9, .int v10, .int v11, .int v12, .int v13, .int v14, .ref q15, .int v16])), (q0, .inl (cA 0, 60, .inl ss))]) (va_A [(m0, .inr (10, [.ref q0, .ref q1, .ref q2, .int v3, .ref q4, .int v5, .int v6, .ref q7, .int v8, .ref q9, .int v10, .int v11, .int v12, .int v13, .int v14, .ref q15, .int v16])), (q0, .inl (cA 0, 60, .inl ss))] sz)) 0 0 (va_A [(m0, .inr (10, [.ref q0, .ref q1, .ref q2, .int v3, .ref q4, .int v5, .int v6, .ref q7, .int v8, .ref q9, .int v10, .int v11, .int v12, .int v13, .int v14, .ref q15, .int v16])), (q0, .inl (cA 0, 60, .inl ss))] sz) := by
  refine gq_ofW (cc := cX6_highestShore) (maxL := 3) (ret := (some .int)) (by decide) rfl (Nat.le_of_ble_eq_true rfl) (fun p e s m args below meth c ls Q A hx hb hml hts hfc hmn hK hP hD hS hA hl hend => ?_)
  have hfc : s.vm.findClass RX6 = some m.cls := hfc
  have hl : lv_has ls 3 [(0, .ref m0)] := hl
  have h := hr
  clear hr
  unfold SX6_highestShore at h
  refine lv_aload_n hx hb dX6_highestShore_0 rfl (lv_at hl 0 rfl) ?_
  refine lv_iconst (v := 0) hx hb dX6_highestShore_1 (by decide) ?_
  refine va_put (D := D) (ci := 10) (v := .int 0) (ty := .int) (C := RX6) (T := TX6) (N := 17) hx hb hts iX6_highestShore_X6 tyX6 tyX6_ok nmX6 hfc hK hP hD hS 0 rfl rfl 6 (by decide) (hts (.fieldLink RX6 39 "BathtubTidesModel" "thrown" "I") (List.mem_of_getElem? (i := 1) rfl)) (fun _ h9 => h9) rfl (by decide +kernel) rfl rfl (Nat.le_of_ble_eq_true rfl) dX6_highestShore_2 (fun H locs hP hD hS => ?_)
  have hP : va_P D vwCl [(m0, .inr (10, [.ref q0, .ref q1, .ref q2, .int v3, .ref q4, .int v5, .int 0, .ref q7, .int v8, .ref q9, .int v10, .int v11, .int v12, .int v13, .int v14, .ref q15, .int v16])), (q0, .inl (cA 0, 60, .inl ss))] H := hP
  have hD : va_D A [(m0, .inr (10, [.ref q0, .ref q1, .ref q2, .int v3, .ref q4, .int v5, .int 0, .ref q7, .int v8, .ref q9, .int v10, .int v11, .int v12, .int v13, .int v14, .ref q15, .int v16])), (q0, .inl (cA 0, 60, .inl ss))] := hD
  refine lv_iconst (v := 0) hx hb dX6_highestShore_5 (by decide) ?_
  refine lv_istore_n hx hb dX6_highestShore_6 rfl hl (Nat.le_of_ble_eq_true rfl) rfl (fun ls hl => ?_)
  have hl : lv_has ls 3 [(1, .int 0), (0, .ref m0)] := hl
  refine lv_iconst (v := 1) hx hb dX6_highestShore_7 (by decide) ?_
  refine lv_istore_n hx hb dX6_highestShore_8 rfl hl (Nat.le_of_ble_eq_true rfl) rfl (fun ls hl => ?_)
  have hl : lv_has ls 3 [(2, .int 1), (1, .int 0), (0, .ref m0)] := hl
  have hLX6_highestShore_9 : ∀ (fu : Nat) (x1_9 : Int32) (x2_9 : Int32) (ls : Array Slot) (H : Heap) (locs : List Loc), lv_has ls 3 [(0, .ref m0), (1, .int x1_9), (2, .int x2_9)] → va_P D vwCl [(m0, .inr (10, [.ref q0, .ref q1, .ref q2, .int v3, .ref q4, .int v5, .int 0, .ref q7, .int v8, .ref q9, .int v10, .int v11, .int v12, .int v13, .int v14, .ref q15, .int v16])), (q0, .inl (cA 0, 60, .inl ss))] H → va_D A [(m0, .inr (10, [.ref q0, .ref q1, .ref q2, .int v3, .ref q4, .int v5, .int 0, .ref q7, .int v8, .ref q9, .int v10, .int v11, .int v12, .int v13, .int v14, .ref q15, .int v16])), (q0, .inl (cA 0, 60, .inl ss))] → va_S A s.heap H locs → LX6_highestShore_9 N ss fu x1_9 x2_9 = some r → W p l e RM_X6_highestShore s m args below meth c H locs 0 0 Q (F0 m 9 ls []) := by
    intro fu
    induction fu with
    | zero =>
      intro x1_9 x2_9 ls H locs hl hP hD hS h
      rw [LX6_highestShore_9] at h
      exact nn h
    | succ fu ih =>
      intro x1_9 x2_9 ls H locs hl hP hD hS h
      rw [LX6_highestShore_9] at h
      refine lv_iload_n hx hb dX6_highestShore_9 rfl (lv_at hl 2 rfl) ?_
      refine lv_bipush (v := 12) hx hb dX6_highestShore_10 (by decide) ?_
      refine lv_icmp_ge (tgt := 40) hx hb dX6_highestShore_12 (by decide) (fun c1 => ?_) (fun c1 => ?_)
      · have h := ite_t c1 h
        refine lv_iload_n hx hb dX6_highestShore_40 rfl (lv_at hl 1 rfl) ?_
        have h := Option.some.inj h
        subst h
        exact hend (adr []) _ _ _ _ _ _ _ rfl rfl (rtn_i _) hP hD hS dX6_highestShore_41
      · have h := ite_f c1 h
        refine lv_aload_n hx hb dX6_highestShore_15 rfl (lv_at hl 0 rfl) ?_
        refine lv_iload_n hx hb dX6_highestShore_16 rfl (lv_at hl 2 rfl) ?_
        obtain ⟨o2, ho2, h⟩ := bnd_i h
        refine rq_V (v := (some (.int o2))) (As := [.int x2_9]) (rest := []) (wc := [(m0, .inr (10, [.ref q0, .ref q1, .ref q2, .int v3, .ref q4, .int v5, .int 0, .ref q7, .int v8, .ref q9, .int v10, .int v11, .int v12, .int v13, .int v14, .ref q15, .int v16])), (q0, .inl (cA 0, 60, .inl ss))]) ⟨hx, hb, hml, hfc, hts⟩ hK hP (kX6_level l D cA m0 q0 q1 q2 q4 q7 q9 q15 N v3 v5 0 v8 v10 v11 v12 v13 v14 v16 ss x2_9 ho2) (cwV 1 hts gX6_highestShore_X6_level rfl rfl rfl (by decide +kernel) ⟨(Nat.le_of_ble_eq_true rfl), (Nat.le_of_ble_eq_true rfl)⟩) [0, 1] rfl 0 10 rfl rfl rfl rfl rfl rfl hl.1 (Nat.le_of_ble_eq_true rfl) dX6_highestShore_17 ⟨(Nat.zero_le _), (Nat.zero_le _)⟩ ?_
        refine lv_aload_n hx hb dX6_highestShore_20 rfl (lv_at hl 0 rfl) ?_
        refine lv_iload_n hx hb dX6_highestShore_21 rfl (lv_at hl 1 rfl) ?_
        obtain ⟨o3, ho3, h⟩ := bnd_i h
        refine rq_V (v := (some (.int o3))) (As := [.int x1_9]) (rest := [.int o2]) (wc := [(m0, .inr (10, [.ref q0, .ref q1, .ref q2, .int v3, .ref q4, .int v5, .int 0, .ref q7, .int v8, .ref q9, .int v10, .int v11, .int v12, .int v13, .int v14, .ref q15, .int v16])), (q0, .inl (cA 0, 60, .inl ss))]) ⟨hx, hb, hml, hfc, hts⟩ hK hP (kX6_level l D cA m0 q0 q1 q2 q4 q7 q9 q15 N v3 v5 0 v8 v10 v11 v12 v13 v14 v16 ss x1_9 ho3) (cwV 1 hts gX6_highestShore_X6_level rfl rfl rfl (by decide +kernel) ⟨(Nat.le_of_ble_eq_true rfl), (Nat.le_of_ble_eq_true rfl)⟩) [0, 1] rfl 0 10 rfl rfl rfl rfl rfl rfl hl.1 (Nat.le_of_ble_eq_true rfl) dX6_highestShore_22 ⟨(Nat.zero_le _), (Nat.zero_le _)⟩ ?_
        obtain ⟨o5, ho5, h⟩ := lt_i h
        have ko5 : ∀ (ls : Array Slot) (H : Heap) (locs : List Loc), lv_has ls 3 [(0, .ref m0), (1, .int x1_9), (2, .int x2_9)] → va_P D vwCl [(m0, .inr (10, [.ref q0, .ref q1, .ref q2, .int v3, .ref q4, .int v5, .int 0, .ref q7, .int v8, .ref q9, .int v10, .int v11, .int v12, .int v13, .int v14, .ref q15, .int v16])), (q0, .inl (cA 0, 60, .inl ss))] H → va_D A [(m0, .inr (10, [.ref q0, .ref q1, .ref q2, .int v3, .ref q4, .int v5, .int 0, .ref q7, .int v8, .ref q9, .int v10, .int v11, .int v12, .int v13, .int v14, .ref q15, .int v16])), (q0, .inl (cA 0, 60, .inl ss))] → va_S A s.heap H locs → W p l e RM_X6_highestShore s m args below meth c H locs 0 0 Q (F0 m 33 ls [.int o5]) := by
          intro ls H locs hl hP hD hS
          refine lv_istore_n hx hb dX6_highestShore_33 rfl hl (Nat.le_of_ble_eq_true rfl) rfl (fun ls hl => ?_)
          have hl : lv_has ls 3 [(1, .int o5), (0, .ref m0), (2, .int x2_9)] := hl
          refine lv_iinc (k := 2) (v := x2_9 + 1) hx hb dX6_highestShore_34 hl rfl (congrArg (fun z => x2_9 + z) lit1) (Nat.le_of_ble_eq_true rfl) rfl (fun ls hl => ?_)
          have hl : lv_has ls 3 [(2, .int (x2_9 + 1)), (1, .int o5), (0, .ref m0)] := hl
          refine lv_goto (tgt := 9) hx hb dX6_highestShore_37 (by decide) ?_
          exact ih o5 (x2_9 + 1) _ _ _ (lv_sub hl [2, 1, 0] rfl) hP hD hS h
        clear h
        have h := ho5
        clear ho5
        refine lv_icmp_le (tgt := 32) hx hb dX6_highestShore_25 (by decide) (fun c4 => ?_) (fun c4 => ?_)
        · have h := ite_t c4 h
          refine lv_iload_n hx hb dX6_highestShore_32 rfl (lv_at hl 1 rfl) ?_
          subst h
          exact ko5 _ _ _ (lv_sub hl [0, 1, 2] rfl) hP hD hS
        · have h := ite_f c4 h
          refine lv_iload_n hx hb dX6_highestShore_28 rfl (lv_at hl 2 rfl) ?_
          refine lv_goto (tgt := 33) hx hb dX6_highestShore_29 (by decide) ?_
          subst h
          exact ko5 _ _ _ (lv_sub hl [0, 1, 2] rfl) hP hD hS
  exact hLX6_highestShore_9 N 0 1 _ _ _ (lv_sub hl [2, 1, 0] rfl) hP hD hS h
noncomputable def SX6_tideIn (N : Nat) (ss : Nat → Int32) (x1 : Int32) (x2 : Int32) : Option (Int32 × Int32) := bnd (SX6_isPosition x1) (fun o1 : Int32 => lt_ (if o1 = 0 then (1) else (if (SX6_in x2 0 144) = 0 then (2) else (0))) (fun o3 : Int32 => if o3 ≤ 0 then (bnd (SX6_tide N ss x1 x2) (fun o6 : Int32 => some ((o6, o3)))) else (some ((0, o3)))))
theorem iX6_tideIn_X6 : ∀ w ∈ wsX60, w ∈ wsX6_tideIn := fun _ h => List.mem_cons_of_mem _ (List.mem_append_left _ (List.mem_append_left _ (List.mem_append_right _ h)))
abbrev RM_X6_tideIn : Room := { frames := 5, cells := 0, slots := 0, locals := 116 }
set_option maxHeartbeats 4000000 in
theorem kX6_tideIn (l : Launch) (D : va_G) (cA : Nat → ClassId) (m0 q0 q1 q2 q4 q7 q9 q15 : Nat) (N : Nat) (v3 : Int32) (v5 : Int32) (v6 : Int32) (v8 : Int32) (v10 : Int32) (v11 : Int32) (v12 : Int32) (v13 : Int32) (v14 : Int32) (v16 : Int32) (ss : Nat → Int32) (x1 : Int32) (x2 : Int32) {r : Int32 × Int32} (hr : SX6_tideIn N ss x1 x2 = some r) {sz : Nat} : Met l yX6_tideIn wsX6_tideIn RM_X6_tideIn (va_Pc [.ref m0, .int x1, .int x2] (gqB D cA [(m0, .inr (10, [.ref q0, .ref q1, .ref q2, .int v3, .ref q4, .int v5, .int v6, .ref q7, .int v8, .ref q9, .int v10, .int v11, .int v12, .int v13, .int v14, .ref q15, .int v16])), (q0, .inl (cA 0, 60, .inl ss))] sz)) (gqQ D (fun as => (some (.int r.1))) (fun as => [(m0, .inr (10, [.ref q0, .ref q1, .ref q2, .int v3, .ref q4, .int v5, .int r.2, .ref q7, .int v8, .ref q9, .int v10, .int v11, .int v12, .int v13, .int v14, .ref q15, .int v16])), (q0, .inl (cA 0, 60, .inl ss))]) (va_A [(m0, .inr (10, [.ref q0, .ref q1, .ref q2, .int v3, .ref q4, .int v5, .int v6, .ref q7, .int v8, .ref q9, .int v10, .int v11, .int v12, .int v13, .int v14, .ref q15, .int v16])), (q0, .inl (cA 0, 60, .inl ss))] sz)) 0 0 (va_A [(m0, .inr (10, [.ref q0, .ref q1, .ref q2, .int v3, .ref q4, .int v5, .int v6, .ref q7, .int v8, .ref q9, .int v10, .int v11, .int v12, .int v13, .int v14, .ref q15, .int v16])), (q0, .inl (cA 0, 60, .inl ss))] sz) := by
  refine gq_ofW (cc := cX6_tideIn) (maxL := 3) (ret := (some .int)) (by decide) rfl (Nat.le_of_ble_eq_true rfl) (fun p e s m args below meth c ls Q A hx hb hml hts hfc hmn hK hP hD hS hA hl hend => ?_)
  have hfc : s.vm.findClass RX6 = some m.cls := hfc
  have hl : lv_has ls 3 [(0, .ref m0), (1, .int x1), (2, .int x2)] := hl
  have h := hr
  clear hr
  unfold SX6_tideIn at h
  refine lv_aload_n hx hb dX6_tideIn_0 rfl (lv_at hl 0 rfl) ?_
  refine lv_iload_n hx hb dX6_tideIn_1 rfl (lv_at hl 1 rfl) ?_
  obtain ⟨o1, ho1, h⟩ := bnd_i h
  refine rq_S (v := (some (.int o1))) (As := [.int x1]) (rest := [.ref m0]) (wc := []) ⟨hx, hb, hml, hfc, hts⟩ hK hP (kX6_isPosition l D cA x1 ho1) (va_cwS 1 hts gX6_tideIn_X6_isPosition rfl rfl rfl (by decide +kernel) ⟨(Nat.le_of_ble_eq_true rfl), (Nat.le_of_ble_eq_true rfl)⟩) [] rfl rfl rfl rfl hl.1 (Nat.le_of_ble_eq_true rfl) dX6_tideIn_2 ⟨(Nat.zero_le _), (Nat.zero_le _)⟩ ?_
  obtain ⟨o3, ho3, h⟩ := lt_i h
  have ko3 : ∀ (ls : Array Slot) (H : Heap) (locs : List Loc), lv_has ls 3 [(0, .ref m0), (1, .int x1), (2, .int x2)] → va_P D vwCl [(m0, .inr (10, [.ref q0, .ref q1, .ref q2, .int v3, .ref q4, .int v5, .int v6, .ref q7, .int v8, .ref q9, .int v10, .int v11, .int v12, .int v13, .int v14, .ref q15, .int v16])), (q0, .inl (cA 0, 60, .inl ss))] H → va_D A [(m0, .inr (10, [.ref q0, .ref q1, .ref q2, .int v3, .ref q4, .int v5, .int v6, .ref q7, .int v8, .ref q9, .int v10, .int v11, .int v12, .int v13, .int v14, .ref q15, .int v16])), (q0, .inl (cA 0, 60, .inl ss))] → va_S A s.heap H locs → W p l e RM_X6_tideIn s m args below meth c H locs 0 0 Q (F0 m 28 ls [.int o3, .ref m0]) := by
    intro ls H locs hl hP hD hS
    refine va_put (D := D) (ci := 10) (v := .int o3) (ty := .int) (C := RX6) (T := TX6) (N := 17) hx hb hts iX6_tideIn_X6 tyX6 tyX6_ok nmX6 hfc hK hP hD hS 0 rfl rfl 6 (by decide) (hts (.fieldLink RX6 39 "BathtubTidesModel" "thrown" "I") (List.mem_of_getElem? (i := 1) rfl)) (fun _ h9 => h9) rfl (by decide +kernel) rfl rfl (Nat.le_of_ble_eq_true rfl) dX6_tideIn_28 (fun H locs hP hD hS => ?_)
    have hP : va_P D vwCl [(m0, .inr (10, [.ref q0, .ref q1, .ref q2, .int v3, .ref q4, .int v5, .int o3, .ref q7, .int v8, .ref q9, .int v10, .int v11, .int v12, .int v13, .int v14, .ref q15, .int v16])), (q0, .inl (cA 0, 60, .inl ss))] H := hP
    have hD : va_D A [(m0, .inr (10, [.ref q0, .ref q1, .ref q2, .int v3, .ref q4, .int v5, .int o3, .ref q7, .int v8, .ref q9, .int v10, .int v11, .int v12, .int v13, .int v14, .ref q15, .int v16])), (q0, .inl (cA 0, 60, .inl ss))] := hD
    refine lv_aload_n hx hb dX6_tideIn_31 rfl (lv_at hl 0 rfl) ?_
    refine va_get (D := D) (ci := 10) (v := .int o3) (C := RX6) (T := TX6) (N := 17) hx hb hts iX6_tideIn_X6 hfc hK hP 0 rfl rfl 6 (by decide) (hts (.fieldLink RX6 39 "BathtubTidesModel" "thrown" "I") (List.mem_of_getElem? (i := 1) rfl)) (fun _ h9 => h9) rfl dX6_tideIn_32 ?_
    refine lv_if_le (tgt := 42) hx hb dX6_tideIn_35 (by decide) (fun c5 => ?_) (fun c5 => ?_)
    · have h := ite_t c5 h
      refine lv_aload_n hx hb dX6_tideIn_42 rfl (lv_at hl 0 rfl) ?_
      refine lv_iload_n hx hb dX6_tideIn_43 rfl (lv_at hl 1 rfl) ?_
      refine lv_iload_n hx hb dX6_tideIn_44 rfl (lv_at hl 2 rfl) ?_
      obtain ⟨o6, ho6, h⟩ := bnd_i h
      refine rq_V (v := (some (.int o6))) (As := [.int x1, .int x2]) (rest := []) (wc := [(m0, .inr (10, [.ref q0, .ref q1, .ref q2, .int v3, .ref q4, .int v5, .int o3, .ref q7, .int v8, .ref q9, .int v10, .int v11, .int v12, .int v13, .int v14, .ref q15, .int v16])), (q0, .inl (cA 0, 60, .inl ss))]) ⟨hx, hb, hml, hfc, hts⟩ hK hP (kX6_tide l D cA m0 q0 q1 q2 q4 q7 q9 q15 N v3 v5 o3 v8 v10 v11 v12 v13 v14 v16 ss x1 x2 ho6) (cwV 2 hts gX6_tideIn_X6_tide rfl rfl rfl (by decide +kernel) ⟨(Nat.le_of_ble_eq_true rfl), (Nat.le_of_ble_eq_true rfl)⟩) [0, 1] rfl 0 10 rfl rfl rfl rfl rfl rfl hl.1 (Nat.le_of_ble_eq_true rfl) dX6_tideIn_45 ⟨(Nat.zero_le _), (Nat.zero_le _)⟩ ?_
      have h := Option.some.inj h
      subst h
      exact hend (adr []) _ _ _ _ _ _ _ rfl rfl (rtn_i _) hP hD hS dX6_tideIn_48
    · have h := ite_f c5 h
      refine lv_iconst (v := 0) hx hb dX6_tideIn_38 (by decide) ?_
      refine lv_goto (tgt := 48) hx hb dX6_tideIn_39 (by decide) ?_
      have h := Option.some.inj h
      subst h
      exact hend (adr []) _ _ _ _ _ _ _ rfl rfl (rtn_i _) hP hD hS dX6_tideIn_48
  clear h
  have h := ho3
  clear ho3
  refine lv_if_ne (tgt := 12) hx hb dX6_tideIn_5 (by decide) (fun c2 => ?_) (fun c2 => ?_)
  · have h := ite_f c2 h
    refine lv_iload_n hx hb dX6_tideIn_12 rfl (lv_at hl 2 rfl) ?_
    refine lv_iconst (v := 0) hx hb dX6_tideIn_13 (by decide) ?_
    refine lv_sipush (v := 144) hx hb dX6_tideIn_14 (by decide) ?_
    refine rq_S (v := (some (.int (SX6_in x2 0 144)))) (As := [.int x2, .int 0, .int 144]) (rest := [.ref m0]) (wc := []) ⟨hx, hb, hml, hfc, hts⟩ hK hP (kX6_in l D cA x2 0 144 rfl) (va_cwS 3 hts gX6_tideIn_X6_in rfl rfl rfl (by decide +kernel) ⟨(Nat.le_of_ble_eq_true rfl), (Nat.le_of_ble_eq_true rfl)⟩) [] rfl rfl rfl rfl hl.1 (Nat.le_of_ble_eq_true rfl) dX6_tideIn_17 ⟨(Nat.zero_le _), (Nat.zero_le _)⟩ ?_
    refine lv_if_ne (tgt := 27) hx hb dX6_tideIn_20 (by decide) (fun c4 => ?_) (fun c4 => ?_)
    · have h := ite_f c4 h
      refine lv_iconst (v := 0) hx hb dX6_tideIn_27 (by decide) ?_
      subst h
      exact ko3 _ _ _ (lv_sub hl [0, 1, 2] rfl) hP hD hS
    · have h := ite_t c4 h
      refine lv_iconst (v := 2) hx hb dX6_tideIn_23 (by decide) ?_
      refine lv_goto (tgt := 28) hx hb dX6_tideIn_24 (by decide) ?_
      subst h
      exact ko3 _ _ _ (lv_sub hl [0, 1, 2] rfl) hP hD hS
  · have h := ite_t c2 h
    refine lv_iconst (v := 1) hx hb dX6_tideIn_8 (by decide) ?_
    refine lv_goto (tgt := 28) hx hb dX6_tideIn_9 (by decide) ?_
    subst h
    exact ko3 _ _ _ (lv_sub hl [0, 1, 2] rfl) hP hD hS
noncomputable def SX6_tideBySteps (N : Nat) (ss : Nat → Int32) (x1 : Int32) (x2 : Int32) : Option (Int32 × Int32) := bnd (SX6_tideIn N ss x1 x2) (fun o1 : Int32 × Int32 => some ((o1.1, o1.2)))
abbrev RM_X6_tideBySteps : Room := { frames := 6, cells := 0, slots := 0, locals := 138 }
set_option maxHeartbeats 4000000 in
theorem kX6_tideBySteps (l : Launch) (D : va_G) (cA : Nat → ClassId) (m0 q0 q1 q2 q4 q7 q9 q15 : Nat) (N : Nat) (v3 : Int32) (v5 : Int32) (v6 : Int32) (v8 : Int32) (v10 : Int32) (v11 : Int32) (v12 : Int32) (v13 : Int32) (v14 : Int32) (v16 : Int32) (ss : Nat → Int32) (x1 : Int32) (x2 : Int32) {r : Int32 × Int32} (hr : SX6_tideBySteps N ss x1 x2 = some r) {sz : Nat} : Met l yX6_tideBySteps wsX6_tideBySteps RM_X6_tideBySteps (va_Pc [.ref m0, .int x1, .int x2] (gqB D cA [(m0, .inr (10, [.ref q0, .ref q1, .ref q2, .int v3, .ref q4, .int v5, .int v6, .ref q7, .int v8, .ref q9, .int v10, .int v11, .int v12, .int v13, .int v14, .ref q15, .int v16])), (q0, .inl (cA 0, 60, .inl ss))] sz)) (gqQ D (fun as => (some (.int r.1))) (fun as => [(m0, .inr (10, [.ref q0, .ref q1, .ref q2, .int v3, .ref q4, .int v5, .int r.2, .ref q7, .int v8, .ref q9, .int v10, .int v11, .int v12, .int v13, .int v14, .ref q15, .int v16])), (q0, .inl (cA 0, 60, .inl ss))]) (va_A [(m0, .inr (10, [.ref q0, .ref q1, .ref q2, .int v3, .ref q4, .int v5, .int v6, .ref q7, .int v8, .ref q9, .int v10, .int v11, .int v12, .int v13, .int v14, .ref q15, .int v16])), (q0, .inl (cA 0, 60, .inl ss))] sz)) 0 0 (va_A [(m0, .inr (10, [.ref q0, .ref q1, .ref q2, .int v3, .ref q4, .int v5, .int v6, .ref q7, .int v8, .ref q9, .int v10, .int v11, .int v12, .int v13, .int v14, .ref q15, .int v16])), (q0, .inl (cA 0, 60, .inl ss))] sz) := by
  refine gq_ofW (cc := cX6_tideBySteps) (maxL := 3) (ret := (some .int)) (by decide) rfl (Nat.le_of_ble_eq_true rfl) (fun p e s m args below meth c ls Q A hx hb hml hts hfc hmn hK hP hD hS hA hl hend => ?_)
  have hfc : s.vm.findClass RX6 = some m.cls := hfc
  have hl : lv_has ls 3 [(0, .ref m0), (1, .int x1), (2, .int x2)] := hl
  have h := hr
  clear hr
  unfold SX6_tideBySteps at h
  refine lv_aload_n hx hb dX6_tideBySteps_0 rfl (lv_at hl 0 rfl) ?_
  refine lv_iload_n hx hb dX6_tideBySteps_1 rfl (lv_at hl 1 rfl) ?_
  refine lv_iload_n hx hb dX6_tideBySteps_2 rfl (lv_at hl 2 rfl) ?_
  obtain ⟨o1, ho1, h⟩ := bnd_i h
  refine gq_V (v := (fun as => (some (.int o1.1)))) (As := [.int x1, .int x2]) (rest := []) (wc := [(m0, .inr (10, [.ref q0, .ref q1, .ref q2, .int v3, .ref q4, .int v5, .int v6, .ref q7, .int v8, .ref q9, .int v10, .int v11, .int v12, .int v13, .int v14, .ref q15, .int v16])), (q0, .inl (cA 0, 60, .inl ss))]) (wr := []) (w1 := (fun as => [(m0, .inr (10, [.ref q0, .ref q1, .ref q2, .int v3, .ref q4, .int v5, .int o1.2, .ref q7, .int v8, .ref q9, .int v10, .int v11, .int v12, .int v13, .int v14, .ref q15, .int v16])), (q0, .inl (cA 0, 60, .inl ss))])) (ws2 := (fun as => [(m0, .inr (10, [.ref q0, .ref q1, .ref q2, .int v3, .ref q4, .int v5, .int o1.2, .ref q7, .int v8, .ref q9, .int v10, .int v11, .int v12, .int v13, .int v14, .ref q15, .int v16])), (q0, .inl (cA 0, 60, .inl ss))])) (st1 := (fun as => [.int o1.1])) ⟨hx, hb, hml, hfc, hts⟩ hK hP hD hS hA (kX6_tideIn l D cA m0 q0 q1 q2 q4 q7 q9 q15 N v3 v5 v6 v8 v10 v11 v12 v13 v14 v16 ss x1 x2 ho1) (cwV 2 hts gX6_tideBySteps_X6_tideIn rfl rfl rfl (by decide +kernel) ⟨(Nat.le_of_ble_eq_true rfl), (Nat.le_of_ble_eq_true rfl)⟩) [0, 1] [] [0, 1] rfl rfl rfl rfl (by decide) (fun _ => rfl) rfl 0 10 rfl rfl rfl rfl (fun _ => rfl) rfl hl.1 (Nat.le_of_ble_eq_true rfl) dX6_tideBySteps_3 ⟨(Nat.zero_le _), (Nat.zero_le _)⟩ (fun as H locs hP hD hS => ?_)
  have hP : va_P D vwCl [(m0, .inr (10, [.ref q0, .ref q1, .ref q2, .int v3, .ref q4, .int v5, .int o1.2, .ref q7, .int v8, .ref q9, .int v10, .int v11, .int v12, .int v13, .int v14, .ref q15, .int v16])), (q0, .inl (cA 0, 60, .inl ss))] H := hP
  have hD : va_D A [(m0, .inr (10, [.ref q0, .ref q1, .ref q2, .int v3, .ref q4, .int v5, .int o1.2, .ref q7, .int v8, .ref q9, .int v10, .int v11, .int v12, .int v13, .int v14, .ref q15, .int v16])), (q0, .inl (cA 0, 60, .inl ss))] := hD
  have h := Option.some.inj h
  subst h
  exact hend (adr []) _ _ _ _ _ _ _ rfl rfl (rtn_i _) hP hD hS dX6_tideBySteps_6
noncomputable def LX6_extreme_5 (N : Nat) (x1 : Int32) (ss : Nat → Int32) (x2 : Int32) : Nat → Int32 → Int32 → Int32 → Option (Int32 × Int32)
  | 0, _, _, _ => none
  | fu + 1, v0_6_5, x3_5, x4_5 => if 144 < x4_5 then (some ((x3_5, v0_6_5))) else (bnd (SX6_isPosition x1) (fun o2 : Int32 => bnd (SX6_isThere o2) (fun o3 : Int32 × Int32 => if o3.1 = 0 then (some ((x3_5, o3.2))) else (bnd (SX6_tide N ss x1 x4_5) (fun o5 : Int32 => bnd (SX6_tide N ss x1 x3_5) (fun o6 : Int32 => lt_ (if (x2 * (o5 - o6)) ≤ 0 then (x3_5) else (x4_5)) (fun o8 : Int32 => LX6_extreme_5 N x1 ss x2 fu o3.2 o8 (x4_5 + 1))))))))
noncomputable def SX6_extreme (N : Nat) (v6 : Int32) (ss : Nat → Int32) (x1 : Int32) (x2 : Int32) : Option (Int32 × Int32) := LX6_extreme_5 N x1 ss x2 N v6 0 1
abbrev RM_X6_extreme : Room := { frames := 5, cells := 0, slots := 0, locals := 118 }
set_option maxHeartbeats 4000000 in
theorem kX6_extreme (l : Launch) (D : va_G) (cA : Nat → ClassId) (m0 q0 q1 q2 q4 q7 q9 q15 : Nat) (N : Nat) (v3 : Int32) (v5 : Int32) (v6 : Int32) (v8 : Int32) (v10 : Int32) (v11 : Int32) (v12 : Int32) (v13 : Int32) (v14 : Int32) (v16 : Int32) (ss : Nat → Int32) (x1 : Int32) (x2 : Int32) {r : Int32 × Int32} (hr : SX6_extreme N v6 ss x1 x2 = some r) {sz : Nat} : Met l yX6_extreme wsX6_extreme RM_X6_extreme (va_Pc [.ref m0, .int x1, .int x2] (gqB D cA [(m0, .inr (10, [.ref q0, .ref q1, .ref q2, .int v3, .ref q4, .int v5, .int v6, .ref q7, .int v8, .ref q9, .int v10, .int v11, .int v12, .int v13, .int v14, .ref q15, .int v16])), (q0, .inl (cA 0, 60, .inl ss))] sz)) (gqQ D (fun as => (some (.int r.1))) (fun as => [(m0, .inr (10, [.ref q0, .ref q1, .ref q2, .int v3, .ref q4, .int v5, .int r.2, .ref q7, .int v8, .ref q9, .int v10, .int v11, .int v12, .int v13, .int v14, .ref q15, .int v16])), (q0, .inl (cA 0, 60, .inl ss))]) (va_A [(m0, .inr (10, [.ref q0, .ref q1, .ref q2, .int v3, .ref q4, .int v5, .int v6, .ref q7, .int v8, .ref q9, .int v10, .int v11, .int v12, .int v13, .int v14, .ref q15, .int v16])), (q0, .inl (cA 0, 60, .inl ss))] sz)) 0 0 (va_A [(m0, .inr (10, [.ref q0, .ref q1, .ref q2, .int v3, .ref q4, .int v5, .int v6, .ref q7, .int v8, .ref q9, .int v10, .int v11, .int v12, .int v13, .int v14, .ref q15, .int v16])), (q0, .inl (cA 0, 60, .inl ss))] sz) := by
  refine gq_ofW (cc := cX6_extreme) (maxL := 5) (ret := (some .int)) (by decide) rfl (Nat.le_of_ble_eq_true rfl) (fun p e s m args below meth c ls Q A hx hb hml hts hfc hmn hK hP hD hS hA hl hend => ?_)
  have hfc : s.vm.findClass RX6 = some m.cls := hfc
  have hl : lv_has ls 5 [(0, .ref m0), (1, .int x1), (2, .int x2)] := hl
  have h := hr
  clear hr
  unfold SX6_extreme at h
  refine lv_iconst (v := 0) hx hb dX6_extreme_0 (by decide) ?_
  refine lv_istore_n hx hb dX6_extreme_1 rfl hl (Nat.le_of_ble_eq_true rfl) rfl (fun ls hl => ?_)
  have hl : lv_has ls 5 [(3, .int 0), (0, .ref m0), (1, .int x1), (2, .int x2)] := hl
  refine lv_iconst (v := 1) hx hb dX6_extreme_2 (by decide) ?_
  refine lv_istore hx hb dX6_extreme_3 hl (Nat.le_of_ble_eq_true rfl) rfl (fun ls hl => ?_)
  have hl : lv_has ls 5 [(4, .int 1), (3, .int 0), (0, .ref m0), (1, .int x1), (2, .int x2)] := hl
  have hLX6_extreme_5 : ∀ (fu : Nat) (v0_6_5 : Int32) (x3_5 : Int32) (x4_5 : Int32) (ls : Array Slot) (H : Heap) (locs : List Loc), lv_has ls 5 [(0, .ref m0), (1, .int x1), (2, .int x2), (3, .int x3_5), (4, .int x4_5)] → va_P D vwCl [(m0, .inr (10, [.ref q0, .ref q1, .ref q2, .int v3, .ref q4, .int v5, .int v0_6_5, .ref q7, .int v8, .ref q9, .int v10, .int v11, .int v12, .int v13, .int v14, .ref q15, .int v16])), (q0, .inl (cA 0, 60, .inl ss))] H → va_D A [(m0, .inr (10, [.ref q0, .ref q1, .ref q2, .int v3, .ref q4, .int v5, .int v0_6_5, .ref q7, .int v8, .ref q9, .int v10, .int v11, .int v12, .int v13, .int v14, .ref q15, .int v16])), (q0, .inl (cA 0, 60, .inl ss))] → va_S A s.heap H locs → LX6_extreme_5 N x1 ss x2 fu v0_6_5 x3_5 x4_5 = some r → W p l e RM_X6_extreme s m args below meth c H locs 0 0 Q (F0 m 5 ls []) := by
    intro fu
    induction fu with
    | zero =>
      intro v0_6_5 x3_5 x4_5 ls H locs hl hP hD hS h
      rw [LX6_extreme_5] at h
      exact nn h
    | succ fu ih =>
      intro v0_6_5 x3_5 x4_5 ls H locs hl hP hD hS h
      rw [LX6_extreme_5] at h
      refine lv_iload hx hb dX6_extreme_5 (lv_at hl 4 rfl) ?_
      refine lv_sipush (v := 144) hx hb dX6_extreme_7 (by decide) ?_
      refine lv_icmp_gt (tgt := 56) hx hb dX6_extreme_10 (by decide) (fun c1 => ?_) (fun c1 => ?_)
      · have h := ite_t c1 h
        refine lv_iload_n hx hb dX6_extreme_56 rfl (lv_at hl 3 rfl) ?_
        have h := Option.some.inj h
        subst h
        exact hend (adr []) _ _ _ _ _ _ _ rfl rfl (rtn_i _) hP hD hS dX6_extreme_57
      · have h := ite_f c1 h
        refine lv_aload_n hx hb dX6_extreme_13 rfl (lv_at hl 0 rfl) ?_
        refine lv_iload_n hx hb dX6_extreme_14 rfl (lv_at hl 1 rfl) ?_
        obtain ⟨o2, ho2, h⟩ := bnd_i h
        refine rq_S (v := (some (.int o2))) (As := [.int x1]) (rest := [.ref m0]) (wc := []) ⟨hx, hb, hml, hfc, hts⟩ hK hP (kX6_isPosition l D cA x1 ho2) (va_cwS 1 hts gX6_extreme_X6_isPosition rfl rfl rfl (by decide +kernel) ⟨(Nat.le_of_ble_eq_true rfl), (Nat.le_of_ble_eq_true rfl)⟩) [] rfl rfl rfl rfl hl.1 (Nat.le_of_ble_eq_true rfl) dX6_extreme_15 ⟨(Nat.zero_le _), (Nat.zero_le _)⟩ ?_
        obtain ⟨o3, ho3, h⟩ := bnd_i h
        refine gq_V (v := (fun as => (some (.int o3.1)))) (As := [.int o2]) (rest := []) (wc := [(m0, .inr (10, [.ref q0, .ref q1, .ref q2, .int v3, .ref q4, .int v5, .int v0_6_5, .ref q7, .int v8, .ref q9, .int v10, .int v11, .int v12, .int v13, .int v14, .ref q15, .int v16]))]) (wr := [(q0, .inl (cA 0, 60, .inl ss))]) (w1 := (fun as => [(m0, .inr (10, [.ref q0, .ref q1, .ref q2, .int v3, .ref q4, .int v5, .int o3.2, .ref q7, .int v8, .ref q9, .int v10, .int v11, .int v12, .int v13, .int v14, .ref q15, .int v16]))])) (ws2 := (fun as => [(m0, .inr (10, [.ref q0, .ref q1, .ref q2, .int v3, .ref q4, .int v5, .int o3.2, .ref q7, .int v8, .ref q9, .int v10, .int v11, .int v12, .int v13, .int v14, .ref q15, .int v16])), (q0, .inl (cA 0, 60, .inl ss))])) (st1 := (fun as => [.int o3.1])) ⟨hx, hb, hml, hfc, hts⟩ hK hP hD hS hA (kX6_isThere l D cA m0 q0 q1 q2 q4 q7 q9 q15 v3 v5 v0_6_5 v8 v10 v11 v12 v13 v14 v16 o2 ho3) (cwV 1 hts gX6_extreme_X6_isThere rfl rfl rfl (by decide +kernel) ⟨(Nat.le_of_ble_eq_true rfl), (Nat.le_of_ble_eq_true rfl)⟩) [0] [1] [1, 0] rfl rfl rfl rfl (by decide) (fun _ => rfl) rfl 0 10 rfl rfl rfl rfl (fun _ => rfl) rfl hl.1 (Nat.le_of_ble_eq_true rfl) dX6_extreme_18 ⟨(Nat.zero_le _), (Nat.zero_le _)⟩ (fun as H locs hP hD hS => ?_)
        have hP : va_P D vwCl [(m0, .inr (10, [.ref q0, .ref q1, .ref q2, .int v3, .ref q4, .int v5, .int o3.2, .ref q7, .int v8, .ref q9, .int v10, .int v11, .int v12, .int v13, .int v14, .ref q15, .int v16])), (q0, .inl (cA 0, 60, .inl ss))] H := hP
        have hD : va_D A [(m0, .inr (10, [.ref q0, .ref q1, .ref q2, .int v3, .ref q4, .int v5, .int o3.2, .ref q7, .int v8, .ref q9, .int v10, .int v11, .int v12, .int v13, .int v14, .ref q15, .int v16])), (q0, .inl (cA 0, 60, .inl ss))] := hD
        refine lv_if_eq (tgt := 56) hx hb dX6_extreme_21 (by decide) (fun c4 => ?_) (fun c4 => ?_)
        · have h := ite_t c4 h
          refine lv_iload_n hx hb dX6_extreme_56 rfl (lv_at hl 3 rfl) ?_
          have h := Option.some.inj h
          subst h
          exact hend (adr []) _ _ _ _ _ _ _ rfl rfl (rtn_i _) hP hD hS dX6_extreme_57
        · have h := ite_f c4 h
          refine lv_iload_n hx hb dX6_extreme_24 rfl (lv_at hl 2 rfl) ?_
          refine lv_aload_n hx hb dX6_extreme_25 rfl (lv_at hl 0 rfl) ?_
          refine lv_iload_n hx hb dX6_extreme_26 rfl (lv_at hl 1 rfl) ?_
          refine lv_iload hx hb dX6_extreme_27 (lv_at hl 4 rfl) ?_
          obtain ⟨o5, ho5, h⟩ := bnd_i h
          refine rq_V (v := (some (.int o5))) (As := [.int x1, .int x4_5]) (rest := [.int x2]) (wc := [(m0, .inr (10, [.ref q0, .ref q1, .ref q2, .int v3, .ref q4, .int v5, .int o3.2, .ref q7, .int v8, .ref q9, .int v10, .int v11, .int v12, .int v13, .int v14, .ref q15, .int v16])), (q0, .inl (cA 0, 60, .inl ss))]) ⟨hx, hb, hml, hfc, hts⟩ hK hP (kX6_tide l D cA m0 q0 q1 q2 q4 q7 q9 q15 N v3 v5 o3.2 v8 v10 v11 v12 v13 v14 v16 ss x1 x4_5 ho5) (cwV 2 hts gX6_extreme_X6_tide rfl rfl rfl (by decide +kernel) ⟨(Nat.le_of_ble_eq_true rfl), (Nat.le_of_ble_eq_true rfl)⟩) [0, 1] rfl 0 10 rfl rfl rfl rfl rfl rfl hl.1 (Nat.le_of_ble_eq_true rfl) dX6_extreme_29 ⟨(Nat.zero_le _), (Nat.zero_le _)⟩ ?_
          refine lv_aload_n hx hb dX6_extreme_32 rfl (lv_at hl 0 rfl) ?_
          refine lv_iload_n hx hb dX6_extreme_33 rfl (lv_at hl 1 rfl) ?_
          refine lv_iload_n hx hb dX6_extreme_34 rfl (lv_at hl 3 rfl) ?_
          obtain ⟨o6, ho6, h⟩ := bnd_i h
          refine rq_V (v := (some (.int o6))) (As := [.int x1, .int x3_5]) (rest := [.int o5, .int x2]) (wc := [(m0, .inr (10, [.ref q0, .ref q1, .ref q2, .int v3, .ref q4, .int v5, .int o3.2, .ref q7, .int v8, .ref q9, .int v10, .int v11, .int v12, .int v13, .int v14, .ref q15, .int v16])), (q0, .inl (cA 0, 60, .inl ss))]) ⟨hx, hb, hml, hfc, hts⟩ hK hP (kX6_tide l D cA m0 q0 q1 q2 q4 q7 q9 q15 N v3 v5 o3.2 v8 v10 v11 v12 v13 v14 v16 ss x1 x3_5 ho6) (cwV 2 hts gX6_extreme_X6_tide rfl rfl rfl (by decide +kernel) ⟨(Nat.le_of_ble_eq_true rfl), (Nat.le_of_ble_eq_true rfl)⟩) [0, 1] rfl 0 10 rfl rfl rfl rfl rfl rfl hl.1 (Nat.le_of_ble_eq_true rfl) dX6_extreme_35 ⟨(Nat.zero_le _), (Nat.zero_le _)⟩ ?_
          refine lv_isub hx hb dX6_extreme_38 ?_
          refine lv_imul hx hb dX6_extreme_39 ?_
          obtain ⟨o8, ho8, h⟩ := lt_i h
          have ko8 : ∀ (ls : Array Slot) (H : Heap) (locs : List Loc), lv_has ls 5 [(0, .ref m0), (1, .int x1), (2, .int x2), (3, .int x3_5), (4, .int x4_5)] → va_P D vwCl [(m0, .inr (10, [.ref q0, .ref q1, .ref q2, .int v3, .ref q4, .int v5, .int o3.2, .ref q7, .int v8, .ref q9, .int v10, .int v11, .int v12, .int v13, .int v14, .ref q15, .int v16])), (q0, .inl (cA 0, 60, .inl ss))] H → va_D A [(m0, .inr (10, [.ref q0, .ref q1, .ref q2, .int v3, .ref q4, .int v5, .int o3.2, .ref q7, .int v8, .ref q9, .int v10, .int v11, .int v12, .int v13, .int v14, .ref q15, .int v16])), (q0, .inl (cA 0, 60, .inl ss))] → va_S A s.heap H locs → W p l e RM_X6_extreme s m args below meth c H locs 0 0 Q (F0 m 49 ls [.int o8]) := by
            intro ls H locs hl hP hD hS
            refine lv_istore_n hx hb dX6_extreme_49 rfl hl (Nat.le_of_ble_eq_true rfl) rfl (fun ls hl => ?_)
            have hl : lv_has ls 5 [(3, .int o8), (0, .ref m0), (1, .int x1), (2, .int x2), (4, .int x4_5)] := hl
            refine lv_iinc (k := 4) (v := x4_5 + 1) hx hb dX6_extreme_50 hl rfl (congrArg (fun z => x4_5 + z) lit1) (Nat.le_of_ble_eq_true rfl) rfl (fun ls hl => ?_)
            have hl : lv_has ls 5 [(4, .int (x4_5 + 1)), (3, .int o8), (0, .ref m0), (1, .int x1), (2, .int x2)] := hl
            refine lv_goto (tgt := 5) hx hb dX6_extreme_53 (by decide) ?_
            exact ih o3.2 o8 (x4_5 + 1) _ _ _ (lv_sub hl [2, 3, 4, 1, 0] rfl) hP hD hS h
          clear h
          have h := ho8
          clear ho8
          refine lv_if_le (tgt := 48) hx hb dX6_extreme_40 (by decide) (fun c7 => ?_) (fun c7 => ?_)
          · have h := ite_t c7 h
            refine lv_iload_n hx hb dX6_extreme_48 rfl (lv_at hl 3 rfl) ?_
            subst h
            exact ko8 _ _ _ (lv_sub hl [0, 1, 2, 3, 4] rfl) hP hD hS
          · have h := ite_f c7 h
            refine lv_iload hx hb dX6_extreme_43 (lv_at hl 4 rfl) ?_
            refine lv_goto (tgt := 49) hx hb dX6_extreme_45 (by decide) ?_
            subst h
            exact ko8 _ _ _ (lv_sub hl [0, 1, 2, 3, 4] rfl) hP hD hS
  exact hLX6_extreme_5 N v6 0 1 _ _ _ (lv_sub hl [2, 3, 4, 1, 0] rfl) hP hD hS h
noncomputable def SX6_highTideIn (N : Nat) (v6 : Int32) (ss : Nat → Int32) (x1 : Int32) : Option (Int32 × Int32) := bnd (SX6_extreme N v6 ss x1 1) (fun o1 : Int32 × Int32 => some ((o1.1, o1.2)))
abbrev RM_X6_highTideIn : Room := { frames := 6, cells := 0, slots := 0, locals := 142 }
set_option maxHeartbeats 4000000 in
theorem kX6_highTideIn (l : Launch) (D : va_G) (cA : Nat → ClassId) (m0 q0 q1 q2 q4 q7 q9 q15 : Nat) (N : Nat) (v3 : Int32) (v5 : Int32) (v6 : Int32) (v8 : Int32) (v10 : Int32) (v11 : Int32) (v12 : Int32) (v13 : Int32) (v14 : Int32) (v16 : Int32) (ss : Nat → Int32) (x1 : Int32) {r : Int32 × Int32} (hr : SX6_highTideIn N v6 ss x1 = some r) {sz : Nat} : Met l yX6_highTideIn wsX6_highTideIn RM_X6_highTideIn (va_Pc [.ref m0, .int x1] (gqB D cA [(m0, .inr (10, [.ref q0, .ref q1, .ref q2, .int v3, .ref q4, .int v5, .int v6, .ref q7, .int v8, .ref q9, .int v10, .int v11, .int v12, .int v13, .int v14, .ref q15, .int v16])), (q0, .inl (cA 0, 60, .inl ss))] sz)) (gqQ D (fun as => (some (.int r.1))) (fun as => [(m0, .inr (10, [.ref q0, .ref q1, .ref q2, .int v3, .ref q4, .int v5, .int r.2, .ref q7, .int v8, .ref q9, .int v10, .int v11, .int v12, .int v13, .int v14, .ref q15, .int v16])), (q0, .inl (cA 0, 60, .inl ss))]) (va_A [(m0, .inr (10, [.ref q0, .ref q1, .ref q2, .int v3, .ref q4, .int v5, .int v6, .ref q7, .int v8, .ref q9, .int v10, .int v11, .int v12, .int v13, .int v14, .ref q15, .int v16])), (q0, .inl (cA 0, 60, .inl ss))] sz)) 0 0 (va_A [(m0, .inr (10, [.ref q0, .ref q1, .ref q2, .int v3, .ref q4, .int v5, .int v6, .ref q7, .int v8, .ref q9, .int v10, .int v11, .int v12, .int v13, .int v14, .ref q15, .int v16])), (q0, .inl (cA 0, 60, .inl ss))] sz) := by
  refine gq_ofW (cc := cX6_highTideIn) (maxL := 2) (ret := (some .int)) (by decide) rfl (Nat.le_of_ble_eq_true rfl) (fun p e s m args below meth c ls Q A hx hb hml hts hfc hmn hK hP hD hS hA hl hend => ?_)
  have hfc : s.vm.findClass RX6 = some m.cls := hfc
  have hl : lv_has ls 2 [(0, .ref m0), (1, .int x1)] := hl
  have h := hr
  clear hr
  unfold SX6_highTideIn at h
  refine lv_aload_n hx hb dX6_highTideIn_0 rfl (lv_at hl 0 rfl) ?_
  refine lv_iload_n hx hb dX6_highTideIn_1 rfl (lv_at hl 1 rfl) ?_
  refine lv_iconst (v := 1) hx hb dX6_highTideIn_2 (by decide) ?_
  obtain ⟨o1, ho1, h⟩ := bnd_i h
  refine gq_V (v := (fun as => (some (.int o1.1)))) (As := [.int x1, .int 1]) (rest := []) (wc := [(m0, .inr (10, [.ref q0, .ref q1, .ref q2, .int v3, .ref q4, .int v5, .int v6, .ref q7, .int v8, .ref q9, .int v10, .int v11, .int v12, .int v13, .int v14, .ref q15, .int v16])), (q0, .inl (cA 0, 60, .inl ss))]) (wr := []) (w1 := (fun as => [(m0, .inr (10, [.ref q0, .ref q1, .ref q2, .int v3, .ref q4, .int v5, .int o1.2, .ref q7, .int v8, .ref q9, .int v10, .int v11, .int v12, .int v13, .int v14, .ref q15, .int v16])), (q0, .inl (cA 0, 60, .inl ss))])) (ws2 := (fun as => [(m0, .inr (10, [.ref q0, .ref q1, .ref q2, .int v3, .ref q4, .int v5, .int o1.2, .ref q7, .int v8, .ref q9, .int v10, .int v11, .int v12, .int v13, .int v14, .ref q15, .int v16])), (q0, .inl (cA 0, 60, .inl ss))])) (st1 := (fun as => [.int o1.1])) ⟨hx, hb, hml, hfc, hts⟩ hK hP hD hS hA (kX6_extreme l D cA m0 q0 q1 q2 q4 q7 q9 q15 N v3 v5 v6 v8 v10 v11 v12 v13 v14 v16 ss x1 1 ho1) (cwV 2 hts gX6_highTideIn_X6_extreme rfl rfl rfl (by decide +kernel) ⟨(Nat.le_of_ble_eq_true rfl), (Nat.le_of_ble_eq_true rfl)⟩) [0, 1] [] [0, 1] rfl rfl rfl rfl (by decide) (fun _ => rfl) rfl 0 10 rfl rfl rfl rfl (fun _ => rfl) rfl hl.1 (Nat.le_of_ble_eq_true rfl) dX6_highTideIn_3 ⟨(Nat.zero_le _), (Nat.zero_le _)⟩ (fun as H locs hP hD hS => ?_)
  have hP : va_P D vwCl [(m0, .inr (10, [.ref q0, .ref q1, .ref q2, .int v3, .ref q4, .int v5, .int o1.2, .ref q7, .int v8, .ref q9, .int v10, .int v11, .int v12, .int v13, .int v14, .ref q15, .int v16])), (q0, .inl (cA 0, 60, .inl ss))] H := hP
  have hD : va_D A [(m0, .inr (10, [.ref q0, .ref q1, .ref q2, .int v3, .ref q4, .int v5, .int o1.2, .ref q7, .int v8, .ref q9, .int v10, .int v11, .int v12, .int v13, .int v14, .ref q15, .int v16])), (q0, .inl (cA 0, 60, .inl ss))] := hD
  have h := Option.some.inj h
  subst h
  exact hend (adr []) _ _ _ _ _ _ _ rfl rfl (rtn_i _) hP hD hS dX6_highTideIn_6
noncomputable def SX6_lowTideIn (N : Nat) (v6 : Int32) (ss : Nat → Int32) (x1 : Int32) : Option (Int32 × Int32) := bnd (SX6_extreme N v6 ss x1 (-1)) (fun o1 : Int32 × Int32 => some ((o1.1, o1.2)))
abbrev RM_X6_lowTideIn : Room := { frames := 6, cells := 0, slots := 0, locals := 142 }
set_option maxHeartbeats 4000000 in
theorem kX6_lowTideIn (l : Launch) (D : va_G) (cA : Nat → ClassId) (m0 q0 q1 q2 q4 q7 q9 q15 : Nat) (N : Nat) (v3 : Int32) (v5 : Int32) (v6 : Int32) (v8 : Int32) (v10 : Int32) (v11 : Int32) (v12 : Int32) (v13 : Int32) (v14 : Int32) (v16 : Int32) (ss : Nat → Int32) (x1 : Int32) {r : Int32 × Int32} (hr : SX6_lowTideIn N v6 ss x1 = some r) {sz : Nat} : Met l yX6_lowTideIn wsX6_lowTideIn RM_X6_lowTideIn (va_Pc [.ref m0, .int x1] (gqB D cA [(m0, .inr (10, [.ref q0, .ref q1, .ref q2, .int v3, .ref q4, .int v5, .int v6, .ref q7, .int v8, .ref q9, .int v10, .int v11, .int v12, .int v13, .int v14, .ref q15, .int v16])), (q0, .inl (cA 0, 60, .inl ss))] sz)) (gqQ D (fun as => (some (.int r.1))) (fun as => [(m0, .inr (10, [.ref q0, .ref q1, .ref q2, .int v3, .ref q4, .int v5, .int r.2, .ref q7, .int v8, .ref q9, .int v10, .int v11, .int v12, .int v13, .int v14, .ref q15, .int v16])), (q0, .inl (cA 0, 60, .inl ss))]) (va_A [(m0, .inr (10, [.ref q0, .ref q1, .ref q2, .int v3, .ref q4, .int v5, .int v6, .ref q7, .int v8, .ref q9, .int v10, .int v11, .int v12, .int v13, .int v14, .ref q15, .int v16])), (q0, .inl (cA 0, 60, .inl ss))] sz)) 0 0 (va_A [(m0, .inr (10, [.ref q0, .ref q1, .ref q2, .int v3, .ref q4, .int v5, .int v6, .ref q7, .int v8, .ref q9, .int v10, .int v11, .int v12, .int v13, .int v14, .ref q15, .int v16])), (q0, .inl (cA 0, 60, .inl ss))] sz) := by
  refine gq_ofW (cc := cX6_lowTideIn) (maxL := 2) (ret := (some .int)) (by decide) rfl (Nat.le_of_ble_eq_true rfl) (fun p e s m args below meth c ls Q A hx hb hml hts hfc hmn hK hP hD hS hA hl hend => ?_)
  have hfc : s.vm.findClass RX6 = some m.cls := hfc
  have hl : lv_has ls 2 [(0, .ref m0), (1, .int x1)] := hl
  have h := hr
  clear hr
  unfold SX6_lowTideIn at h
  refine lv_aload_n hx hb dX6_lowTideIn_0 rfl (lv_at hl 0 rfl) ?_
  refine lv_iload_n hx hb dX6_lowTideIn_1 rfl (lv_at hl 1 rfl) ?_
  refine lv_iconst (v := (-1)) hx hb dX6_lowTideIn_2 (by decide) ?_
  obtain ⟨o1, ho1, h⟩ := bnd_i h
  refine gq_V (v := (fun as => (some (.int o1.1)))) (As := [.int x1, .int (-1)]) (rest := []) (wc := [(m0, .inr (10, [.ref q0, .ref q1, .ref q2, .int v3, .ref q4, .int v5, .int v6, .ref q7, .int v8, .ref q9, .int v10, .int v11, .int v12, .int v13, .int v14, .ref q15, .int v16])), (q0, .inl (cA 0, 60, .inl ss))]) (wr := []) (w1 := (fun as => [(m0, .inr (10, [.ref q0, .ref q1, .ref q2, .int v3, .ref q4, .int v5, .int o1.2, .ref q7, .int v8, .ref q9, .int v10, .int v11, .int v12, .int v13, .int v14, .ref q15, .int v16])), (q0, .inl (cA 0, 60, .inl ss))])) (ws2 := (fun as => [(m0, .inr (10, [.ref q0, .ref q1, .ref q2, .int v3, .ref q4, .int v5, .int o1.2, .ref q7, .int v8, .ref q9, .int v10, .int v11, .int v12, .int v13, .int v14, .ref q15, .int v16])), (q0, .inl (cA 0, 60, .inl ss))])) (st1 := (fun as => [.int o1.1])) ⟨hx, hb, hml, hfc, hts⟩ hK hP hD hS hA (kX6_extreme l D cA m0 q0 q1 q2 q4 q7 q9 q15 N v3 v5 v6 v8 v10 v11 v12 v13 v14 v16 ss x1 (-1) ho1) (cwV 2 hts gX6_lowTideIn_X6_extreme rfl rfl rfl (by decide +kernel) ⟨(Nat.le_of_ble_eq_true rfl), (Nat.le_of_ble_eq_true rfl)⟩) [0, 1] [] [0, 1] rfl rfl rfl rfl (by decide) (fun _ => rfl) rfl 0 10 rfl rfl rfl rfl (fun _ => rfl) rfl hl.1 (Nat.le_of_ble_eq_true rfl) dX6_lowTideIn_3 ⟨(Nat.zero_le _), (Nat.zero_le _)⟩ (fun as H locs hP hD hS => ?_)
  have hP : va_P D vwCl [(m0, .inr (10, [.ref q0, .ref q1, .ref q2, .int v3, .ref q4, .int v5, .int o1.2, .ref q7, .int v8, .ref q9, .int v10, .int v11, .int v12, .int v13, .int v14, .ref q15, .int v16])), (q0, .inl (cA 0, 60, .inl ss))] H := hP
  have hD : va_D A [(m0, .inr (10, [.ref q0, .ref q1, .ref q2, .int v3, .ref q4, .int v5, .int o1.2, .ref q7, .int v8, .ref q9, .int v10, .int v11, .int v12, .int v13, .int v14, .ref q15, .int v16])), (q0, .inl (cA 0, 60, .inl ss))] := hD
  have h := Option.some.inj h
  subst h
  exact hend (adr []) _ _ _ _ _ _ _ rfl rfl (rtn_i _) hP hD hS dX6_lowTideIn_6
noncomputable def LX6_eclipseIn_33 (o3 : Int32) (ss : Nat → Int32) (x1 : Int32) : Nat → Int32 → Option (Int32 × Int32)
  | 0, _ => none
  | fu + 1, x2_33 => if o3 = 0 then (bnd (SX6_isShaded ss x1 x2_33) (fun o6 : Int32 => if o6 = 0 then (LX6_eclipseIn_33 o3 ss x1 fu (x2_33 + 1)) else (some ((x2_33, o3))))) else (some ((x2_33, o3)))
noncomputable def SX6_eclipseIn (N : Nat) (ss : Nat → Int32) (x1 : Int32) : Option (Int32 × Int32) := bnd (SX6_isMoon ss x1) (fun o1 : Int32 => lt_ (if o1 = 0 then (1) else (if 0 ≤ (ss 6) then (0) else (2))) (fun o3 : Int32 => LX6_eclipseIn_33 o3 ss x1 N 0))
theorem iX6_eclipseIn_X6 : ∀ w ∈ wsX60, w ∈ wsX6_eclipseIn := fun _ h => List.mem_cons_of_mem _ (List.mem_append_left _ (List.mem_append_left _ (List.mem_append_right _ h)))
abbrev RM_X6_eclipseIn : Room := { frames := 4, cells := 0, slots := 0, locals := 90 }
set_option maxHeartbeats 4000000 in
theorem kX6_eclipseIn (l : Launch) (D : va_G) (cA : Nat → ClassId) (m0 q0 q1 q2 q4 q7 q9 q15 : Nat) (N : Nat) (v3 : Int32) (v5 : Int32) (v6 : Int32) (v8 : Int32) (v10 : Int32) (v11 : Int32) (v12 : Int32) (v13 : Int32) (v14 : Int32) (v16 : Int32) (ss : Nat → Int32) (x1 : Int32) {r : Int32 × Int32} (hr : SX6_eclipseIn N ss x1 = some r) {sz : Nat} : Met l yX6_eclipseIn wsX6_eclipseIn RM_X6_eclipseIn (va_Pc [.ref m0, .int x1] (gqB D cA [(m0, .inr (10, [.ref q0, .ref q1, .ref q2, .int v3, .ref q4, .int v5, .int v6, .ref q7, .int v8, .ref q9, .int v10, .int v11, .int v12, .int v13, .int v14, .ref q15, .int v16])), (q0, .inl (cA 0, 60, .inl ss))] sz)) (gqQ D (fun as => (some (.int r.1))) (fun as => [(m0, .inr (10, [.ref q0, .ref q1, .ref q2, .int v3, .ref q4, .int v5, .int r.2, .ref q7, .int v8, .ref q9, .int v10, .int v11, .int v12, .int v13, .int v14, .ref q15, .int v16])), (q0, .inl (cA 0, 60, .inl ss))]) (va_A [(m0, .inr (10, [.ref q0, .ref q1, .ref q2, .int v3, .ref q4, .int v5, .int v6, .ref q7, .int v8, .ref q9, .int v10, .int v11, .int v12, .int v13, .int v14, .ref q15, .int v16])), (q0, .inl (cA 0, 60, .inl ss))] sz)) 0 0 (va_A [(m0, .inr (10, [.ref q0, .ref q1, .ref q2, .int v3, .ref q4, .int v5, .int v6, .ref q7, .int v8, .ref q9, .int v10, .int v11, .int v12, .int v13, .int v14, .ref q15, .int v16])), (q0, .inl (cA 0, 60, .inl ss))] sz) := by
  refine gq_ofW (cc := cX6_eclipseIn) (maxL := 3) (ret := (some .int)) (by decide) rfl (Nat.le_of_ble_eq_true rfl) (fun p e s m args below meth c ls Q A hx hb hml hts hfc hmn hK hP hD hS hA hl hend => ?_)
  have hfc : s.vm.findClass RX6 = some m.cls := hfc
  have hl : lv_has ls 3 [(0, .ref m0), (1, .int x1)] := hl
  have h := hr
  clear hr
  unfold SX6_eclipseIn at h
  refine lv_aload_n hx hb dX6_eclipseIn_0 rfl (lv_at hl 0 rfl) ?_
  refine lv_aload_n hx hb dX6_eclipseIn_1 rfl (lv_at hl 0 rfl) ?_
  refine lv_iload_n hx hb dX6_eclipseIn_2 rfl (lv_at hl 1 rfl) ?_
  obtain ⟨o1, ho1, h⟩ := bnd_i h
  refine rq_V (v := (some (.int o1))) (As := [.int x1]) (rest := [.ref m0]) (wc := [(m0, .inr (10, [.ref q0, .ref q1, .ref q2, .int v3, .ref q4, .int v5, .int v6, .ref q7, .int v8, .ref q9, .int v10, .int v11, .int v12, .int v13, .int v14, .ref q15, .int v16])), (q0, .inl (cA 0, 60, .inl ss))]) ⟨hx, hb, hml, hfc, hts⟩ hK hP (kX6_isMoon l D cA m0 q0 q1 q2 q4 q7 q9 q15 v3 v5 v6 v8 v10 v11 v12 v13 v14 v16 ss x1 ho1) (cwV 1 hts gX6_eclipseIn_X6_isMoon rfl rfl rfl (by decide +kernel) ⟨(Nat.le_of_ble_eq_true rfl), (Nat.le_of_ble_eq_true rfl)⟩) [0, 1] rfl 0 10 rfl rfl rfl rfl rfl rfl hl.1 (Nat.le_of_ble_eq_true rfl) dX6_eclipseIn_3 ⟨(Nat.zero_le _), (Nat.zero_le _)⟩ ?_
  obtain ⟨o3, ho3, h⟩ := lt_i h
  have ko3 : ∀ (ls : Array Slot) (H : Heap) (locs : List Loc), lv_has ls 3 [(0, .ref m0), (1, .int x1)] → va_P D vwCl [(m0, .inr (10, [.ref q0, .ref q1, .ref q2, .int v3, .ref q4, .int v5, .int v6, .ref q7, .int v8, .ref q9, .int v10, .int v11, .int v12, .int v13, .int v14, .ref q15, .int v16])), (q0, .inl (cA 0, 60, .inl ss))] H → va_D A [(m0, .inr (10, [.ref q0, .ref q1, .ref q2, .int v3, .ref q4, .int v5, .int v6, .ref q7, .int v8, .ref q9, .int v10, .int v11, .int v12, .int v13, .int v14, .ref q15, .int v16])), (q0, .inl (cA 0, 60, .inl ss))] → va_S A s.heap H locs → W p l e RM_X6_eclipseIn s m args below meth c H locs 0 0 Q (F0 m 28 ls [.int o3, .ref m0]) := by
    intro ls H locs hl hP hD hS
    refine va_put (D := D) (ci := 10) (v := .int o3) (ty := .int) (C := RX6) (T := TX6) (N := 17) hx hb hts iX6_eclipseIn_X6 tyX6 tyX6_ok nmX6 hfc hK hP hD hS 0 rfl rfl 6 (by decide) (hts (.fieldLink RX6 39 "BathtubTidesModel" "thrown" "I") (List.mem_of_getElem? (i := 2) rfl)) (fun _ h9 => h9) rfl (by decide +kernel) rfl rfl (Nat.le_of_ble_eq_true rfl) dX6_eclipseIn_28 (fun H locs hP hD hS => ?_)
    have hP : va_P D vwCl [(m0, .inr (10, [.ref q0, .ref q1, .ref q2, .int v3, .ref q4, .int v5, .int o3, .ref q7, .int v8, .ref q9, .int v10, .int v11, .int v12, .int v13, .int v14, .ref q15, .int v16])), (q0, .inl (cA 0, 60, .inl ss))] H := hP
    have hD : va_D A [(m0, .inr (10, [.ref q0, .ref q1, .ref q2, .int v3, .ref q4, .int v5, .int o3, .ref q7, .int v8, .ref q9, .int v10, .int v11, .int v12, .int v13, .int v14, .ref q15, .int v16])), (q0, .inl (cA 0, 60, .inl ss))] := hD
    refine lv_iconst (v := 0) hx hb dX6_eclipseIn_31 (by decide) ?_
    refine lv_istore_n hx hb dX6_eclipseIn_32 rfl hl (Nat.le_of_ble_eq_true rfl) rfl (fun ls hl => ?_)
    have hl : lv_has ls 3 [(2, .int 0), (0, .ref m0), (1, .int x1)] := hl
    have hLX6_eclipseIn_33 : ∀ (fu : Nat) (x2_33 : Int32) (ls : Array Slot) (H : Heap) (locs : List Loc), lv_has ls 3 [(0, .ref m0), (1, .int x1), (2, .int x2_33)] → va_P D vwCl [(m0, .inr (10, [.ref q0, .ref q1, .ref q2, .int v3, .ref q4, .int v5, .int o3, .ref q7, .int v8, .ref q9, .int v10, .int v11, .int v12, .int v13, .int v14, .ref q15, .int v16])), (q0, .inl (cA 0, 60, .inl ss))] H → va_D A [(m0, .inr (10, [.ref q0, .ref q1, .ref q2, .int v3, .ref q4, .int v5, .int o3, .ref q7, .int v8, .ref q9, .int v10, .int v11, .int v12, .int v13, .int v14, .ref q15, .int v16])), (q0, .inl (cA 0, 60, .inl ss))] → va_S A s.heap H locs → LX6_eclipseIn_33 o3 ss x1 fu x2_33 = some r → W p l e RM_X6_eclipseIn s m args below meth c H locs 0 0 Q (F0 m 33 ls []) := by
      intro fu
      induction fu with
      | zero =>
        intro x2_33 ls H locs hl hP hD hS h
        rw [LX6_eclipseIn_33] at h
        exact nn h
      | succ fu ih =>
        intro x2_33 ls H locs hl hP hD hS h
        rw [LX6_eclipseIn_33] at h
        refine lv_aload_n hx hb dX6_eclipseIn_33 rfl (lv_at hl 0 rfl) ?_
        refine va_get (D := D) (ci := 10) (v := .int o3) (C := RX6) (T := TX6) (N := 17) hx hb hts iX6_eclipseIn_X6 hfc hK hP 0 rfl rfl 6 (by decide) (hts (.fieldLink RX6 39 "BathtubTidesModel" "thrown" "I") (List.mem_of_getElem? (i := 2) rfl)) (fun _ h9 => h9) rfl dX6_eclipseIn_34 ?_
        refine lv_if_ne (tgt := 55) hx hb dX6_eclipseIn_37 (by decide) (fun c5 => ?_) (fun c5 => ?_)
        · have h := ite_f c5 h
          refine lv_iload_n hx hb dX6_eclipseIn_55 rfl (lv_at hl 2 rfl) ?_
          have h := Option.some.inj h
          subst h
          exact hend (adr []) _ _ _ _ _ _ _ rfl rfl (rtn_i _) hP hD hS dX6_eclipseIn_56
        · have h := ite_t c5 h
          refine lv_aload_n hx hb dX6_eclipseIn_40 rfl (lv_at hl 0 rfl) ?_
          refine lv_iload_n hx hb dX6_eclipseIn_41 rfl (lv_at hl 1 rfl) ?_
          refine lv_iload_n hx hb dX6_eclipseIn_42 rfl (lv_at hl 2 rfl) ?_
          obtain ⟨o6, ho6, h⟩ := bnd_i h
          refine rq_V (v := (some (.int o6))) (As := [.int x1, .int x2_33]) (rest := []) (wc := [(m0, .inr (10, [.ref q0, .ref q1, .ref q2, .int v3, .ref q4, .int v5, .int o3, .ref q7, .int v8, .ref q9, .int v10, .int v11, .int v12, .int v13, .int v14, .ref q15, .int v16])), (q0, .inl (cA 0, 60, .inl ss))]) ⟨hx, hb, hml, hfc, hts⟩ hK hP (kX6_isShaded l D cA m0 q0 q1 q2 q4 q7 q9 q15 v3 v5 o3 v8 v10 v11 v12 v13 v14 v16 ss x1 x2_33 ho6) (cwV 2 hts gX6_eclipseIn_X6_isShaded rfl rfl rfl (by decide +kernel) ⟨(Nat.le_of_ble_eq_true rfl), (Nat.le_of_ble_eq_true rfl)⟩) [0, 1] rfl 0 10 rfl rfl rfl rfl rfl rfl hl.1 (Nat.le_of_ble_eq_true rfl) dX6_eclipseIn_43 ⟨(Nat.zero_le _), (Nat.zero_le _)⟩ ?_
          refine lv_if_ne (tgt := 55) hx hb dX6_eclipseIn_46 (by decide) (fun c7 => ?_) (fun c7 => ?_)
          · have h := ite_f c7 h
            refine lv_iload_n hx hb dX6_eclipseIn_55 rfl (lv_at hl 2 rfl) ?_
            have h := Option.some.inj h
            subst h
            exact hend (adr []) _ _ _ _ _ _ _ rfl rfl (rtn_i _) hP hD hS dX6_eclipseIn_56
          · have h := ite_t c7 h
            refine lv_iinc (k := 2) (v := x2_33 + 1) hx hb dX6_eclipseIn_49 hl rfl (congrArg (fun z => x2_33 + z) lit1) (Nat.le_of_ble_eq_true rfl) rfl (fun ls hl => ?_)
            have hl : lv_has ls 3 [(2, .int (x2_33 + 1)), (0, .ref m0), (1, .int x1)] := hl
            refine lv_goto (tgt := 33) hx hb dX6_eclipseIn_52 (by decide) ?_
            exact ih (x2_33 + 1) _ _ _ (lv_sub hl [1, 2, 0] rfl) hP hD hS h
    exact hLX6_eclipseIn_33 N 0 _ _ _ (lv_sub hl [1, 2, 0] rfl) hP hD hS h
  clear h
  have h := ho3
  clear ho3
  refine lv_if_ne (tgt := 13) hx hb dX6_eclipseIn_6 (by decide) (fun c2 => ?_) (fun c2 => ?_)
  · have h := ite_f c2 h
    refine lv_aload_n hx hb dX6_eclipseIn_13 rfl (lv_at hl 0 rfl) ?_
    refine va_get (D := D) (ci := 10) (v := .ref q0) (C := RX6) (T := TX6) (N := 17) hx hb hts iX6_eclipseIn_X6 hfc hK hP 0 rfl rfl 0 (by decide) (hts (.fieldLink RX6 9 "BathtubTidesModel" "s" "[I") (List.mem_of_getElem? (i := 1) rfl)) (fun _ h9 => h9) rfl dX6_eclipseIn_14 ?_
    refine lv_bipush (v := 6) hx hb dX6_eclipseIn_17 (by decide) ?_
    refine va_iald hx hb hK hP 1 0 rfl rfl (vin _ _ (by decide)) dX6_eclipseIn_19 ?_
    refine lv_if_ge (tgt := 27) hx hb dX6_eclipseIn_20 (by decide) (fun c4 => ?_) (fun c4 => ?_)
    · have h := ite_t c4 h
      refine lv_iconst (v := 0) hx hb dX6_eclipseIn_27 (by decide) ?_
      subst h
      exact ko3 _ _ _ (lv_sub hl [0, 1] rfl) hP hD hS
    · have h := ite_f c4 h
      refine lv_iconst (v := 2) hx hb dX6_eclipseIn_23 (by decide) ?_
      refine lv_goto (tgt := 28) hx hb dX6_eclipseIn_24 (by decide) ?_
      subst h
      exact ko3 _ _ _ (lv_sub hl [0, 1] rfl) hP hD hS
  · have h := ite_t c2 h
    refine lv_iconst (v := 1) hx hb dX6_eclipseIn_9 (by decide) ?_
    refine lv_goto (tgt := 28) hx hb dX6_eclipseIn_10 (by decide) ?_
    subst h
    exact ko3 _ _ _ (lv_sub hl [0, 1] rfl) hP hD hS
noncomputable def LX6_conjunctionIn_24 (ss : Nat → Int32) (x1 : Int32) (x2 : Int32) : Nat → Int32 → Option (Int32 × Int32)
  | 0, _ => none
  | fu + 1, x3_24 => if 2000 < x3_24 then (lt_ (SX6_fails 2) (fun o7 : Int32 × Int32 => some ((o7.1, o7.2)))) else (bnd (SX6_placeIn ss x1 x3_24) (fun o8 : Int32 => bnd (SX6_placeIn ss x2 x3_24) (fun o9 : Int32 => if o8 = o9 then (some ((x3_24, 0))) else (LX6_conjunctionIn_24 ss x1 x2 fu (x3_24 + 1)))))
noncomputable def SX6_conjunctionIn (N : Nat) (ss : Nat → Int32) (x1 : Int32) (x2 : Int32) : Option (Int32 × Int32) := bnd (SX6_isMoon ss x1) (fun o1 : Int32 => if o1 = 0 then (lt_ (SX6_fails 1) (fun o3 : Int32 × Int32 => some ((o3.1, o3.2)))) else (bnd (SX6_isMoon ss x2) (fun o4 : Int32 => if o4 = 0 then (lt_ (SX6_fails 1) (fun o11 : Int32 × Int32 => some ((o11.1, o11.2)))) else (LX6_conjunctionIn_24 ss x1 x2 N 0))))
theorem iX6_conjunctionIn_X6 : ∀ w ∈ wsX60, w ∈ wsX6_conjunctionIn := fun _ h => List.mem_cons_of_mem _ (List.mem_append_left _ (List.mem_append_left _ (List.mem_append_right _ h)))
abbrev RM_X6_conjunctionIn : Room := { frames := 3, cells := 0, slots := 0, locals := 69 }
set_option maxHeartbeats 4000000 in
theorem kX6_conjunctionIn (l : Launch) (D : va_G) (cA : Nat → ClassId) (m0 q0 q1 q2 q4 q7 q9 q15 : Nat) (N : Nat) (v3 : Int32) (v5 : Int32) (v6 : Int32) (v8 : Int32) (v10 : Int32) (v11 : Int32) (v12 : Int32) (v13 : Int32) (v14 : Int32) (v16 : Int32) (ss : Nat → Int32) (x1 : Int32) (x2 : Int32) {r : Int32 × Int32} (hr : SX6_conjunctionIn N ss x1 x2 = some r) {sz : Nat} : Met l yX6_conjunctionIn wsX6_conjunctionIn RM_X6_conjunctionIn (va_Pc [.ref m0, .int x1, .int x2] (gqB D cA [(m0, .inr (10, [.ref q0, .ref q1, .ref q2, .int v3, .ref q4, .int v5, .int v6, .ref q7, .int v8, .ref q9, .int v10, .int v11, .int v12, .int v13, .int v14, .ref q15, .int v16])), (q0, .inl (cA 0, 60, .inl ss))] sz)) (gqQ D (fun as => (some (.int r.1))) (fun as => [(m0, .inr (10, [.ref q0, .ref q1, .ref q2, .int v3, .ref q4, .int v5, .int r.2, .ref q7, .int v8, .ref q9, .int v10, .int v11, .int v12, .int v13, .int v14, .ref q15, .int v16])), (q0, .inl (cA 0, 60, .inl ss))]) (va_A [(m0, .inr (10, [.ref q0, .ref q1, .ref q2, .int v3, .ref q4, .int v5, .int v6, .ref q7, .int v8, .ref q9, .int v10, .int v11, .int v12, .int v13, .int v14, .ref q15, .int v16])), (q0, .inl (cA 0, 60, .inl ss))] sz)) 0 0 (va_A [(m0, .inr (10, [.ref q0, .ref q1, .ref q2, .int v3, .ref q4, .int v5, .int v6, .ref q7, .int v8, .ref q9, .int v10, .int v11, .int v12, .int v13, .int v14, .ref q15, .int v16])), (q0, .inl (cA 0, 60, .inl ss))] sz) := by
  refine gq_ofW (cc := cX6_conjunctionIn) (maxL := 4) (ret := (some .int)) (by decide) rfl (Nat.le_of_ble_eq_true rfl) (fun p e s m args below meth c ls Q A hx hb hml hts hfc hmn hK hP hD hS hA hl hend => ?_)
  have hfc : s.vm.findClass RX6 = some m.cls := hfc
  have hl : lv_has ls 4 [(0, .ref m0), (1, .int x1), (2, .int x2)] := hl
  have h := hr
  clear hr
  unfold SX6_conjunctionIn at h
  refine lv_aload_n hx hb dX6_conjunctionIn_0 rfl (lv_at hl 0 rfl) ?_
  refine lv_iload_n hx hb dX6_conjunctionIn_1 rfl (lv_at hl 1 rfl) ?_
  obtain ⟨o1, ho1, h⟩ := bnd_i h
  refine rq_V (v := (some (.int o1))) (As := [.int x1]) (rest := []) (wc := [(m0, .inr (10, [.ref q0, .ref q1, .ref q2, .int v3, .ref q4, .int v5, .int v6, .ref q7, .int v8, .ref q9, .int v10, .int v11, .int v12, .int v13, .int v14, .ref q15, .int v16])), (q0, .inl (cA 0, 60, .inl ss))]) ⟨hx, hb, hml, hfc, hts⟩ hK hP (kX6_isMoon l D cA m0 q0 q1 q2 q4 q7 q9 q15 v3 v5 v6 v8 v10 v11 v12 v13 v14 v16 ss x1 ho1) (cwV 1 hts gX6_conjunctionIn_X6_isMoon rfl rfl rfl (by decide +kernel) ⟨(Nat.le_of_ble_eq_true rfl), (Nat.le_of_ble_eq_true rfl)⟩) [0, 1] rfl 0 10 rfl rfl rfl rfl rfl rfl hl.1 (Nat.le_of_ble_eq_true rfl) dX6_conjunctionIn_2 ⟨(Nat.zero_le _), (Nat.zero_le _)⟩ ?_
  refine lv_if_eq (tgt := 16) hx hb dX6_conjunctionIn_5 (by decide) (fun c2 => ?_) (fun c2 => ?_)
  · have h := ite_t c2 h
    refine lv_aload_n hx hb dX6_conjunctionIn_16 rfl (lv_at hl 0 rfl) ?_
    refine lv_iconst (v := 1) hx hb dX6_conjunctionIn_17 (by decide) ?_
    obtain ⟨o3, ho3, h⟩ := lt_i h
    refine gq_V (v := (fun as => (some (.int o3.1)))) (As := [.int 1]) (rest := []) (wc := [(m0, .inr (10, [.ref q0, .ref q1, .ref q2, .int v3, .ref q4, .int v5, .int v6, .ref q7, .int v8, .ref q9, .int v10, .int v11, .int v12, .int v13, .int v14, .ref q15, .int v16]))]) (wr := [(q0, .inl (cA 0, 60, .inl ss))]) (w1 := (fun as => [(m0, .inr (10, [.ref q0, .ref q1, .ref q2, .int v3, .ref q4, .int v5, .int o3.2, .ref q7, .int v8, .ref q9, .int v10, .int v11, .int v12, .int v13, .int v14, .ref q15, .int v16]))])) (ws2 := (fun as => [(m0, .inr (10, [.ref q0, .ref q1, .ref q2, .int v3, .ref q4, .int v5, .int o3.2, .ref q7, .int v8, .ref q9, .int v10, .int v11, .int v12, .int v13, .int v14, .ref q15, .int v16])), (q0, .inl (cA 0, 60, .inl ss))])) (st1 := (fun as => [.int o3.1])) ⟨hx, hb, hml, hfc, hts⟩ hK hP hD hS hA (kX6_fails l D cA m0 q0 q1 q2 q4 q7 q9 q15 v3 v5 v6 v8 v10 v11 v12 v13 v14 v16 1 ho3) (cwV 1 hts gX6_conjunctionIn_X6_fails rfl rfl rfl (by decide +kernel) ⟨(Nat.le_of_ble_eq_true rfl), (Nat.le_of_ble_eq_true rfl)⟩) [0] [1] [1, 0] rfl rfl rfl rfl (by decide) (fun _ => rfl) rfl 0 10 rfl rfl rfl rfl (fun _ => rfl) rfl hl.1 (Nat.le_of_ble_eq_true rfl) dX6_conjunctionIn_18 ⟨(Nat.zero_le _), (Nat.zero_le _)⟩ (fun as H locs hP hD hS => ?_)
    have hP : va_P D vwCl [(m0, .inr (10, [.ref q0, .ref q1, .ref q2, .int v3, .ref q4, .int v5, .int o3.2, .ref q7, .int v8, .ref q9, .int v10, .int v11, .int v12, .int v13, .int v14, .ref q15, .int v16])), (q0, .inl (cA 0, 60, .inl ss))] H := hP
    have hD : va_D A [(m0, .inr (10, [.ref q0, .ref q1, .ref q2, .int v3, .ref q4, .int v5, .int o3.2, .ref q7, .int v8, .ref q9, .int v10, .int v11, .int v12, .int v13, .int v14, .ref q15, .int v16])), (q0, .inl (cA 0, 60, .inl ss))] := hD
    have h := Option.some.inj h
    subst h
    exact hend (adr []) _ _ _ _ _ _ _ rfl rfl (rtn_i _) hP hD hS dX6_conjunctionIn_21
  · have h := ite_f c2 h
    refine lv_aload_n hx hb dX6_conjunctionIn_8 rfl (lv_at hl 0 rfl) ?_
    refine lv_iload_n hx hb dX6_conjunctionIn_9 rfl (lv_at hl 2 rfl) ?_
    obtain ⟨o4, ho4, h⟩ := bnd_i h
    refine rq_V (v := (some (.int o4))) (As := [.int x2]) (rest := []) (wc := [(m0, .inr (10, [.ref q0, .ref q1, .ref q2, .int v3, .ref q4, .int v5, .int v6, .ref q7, .int v8, .ref q9, .int v10, .int v11, .int v12, .int v13, .int v14, .ref q15, .int v16])), (q0, .inl (cA 0, 60, .inl ss))]) ⟨hx, hb, hml, hfc, hts⟩ hK hP (kX6_isMoon l D cA m0 q0 q1 q2 q4 q7 q9 q15 v3 v5 v6 v8 v10 v11 v12 v13 v14 v16 ss x2 ho4) (cwV 1 hts gX6_conjunctionIn_X6_isMoon rfl rfl rfl (by decide +kernel) ⟨(Nat.le_of_ble_eq_true rfl), (Nat.le_of_ble_eq_true rfl)⟩) [0, 1] rfl 0 10 rfl rfl rfl rfl rfl rfl hl.1 (Nat.le_of_ble_eq_true rfl) dX6_conjunctionIn_10 ⟨(Nat.zero_le _), (Nat.zero_le _)⟩ ?_
    refine lv_if_ne (tgt := 22) hx hb dX6_conjunctionIn_13 (by decide) (fun c5 => ?_) (fun c5 => ?_)
    · have h := ite_f c5 h
      refine lv_iconst (v := 0) hx hb dX6_conjunctionIn_22 (by decide) ?_
      refine lv_istore_n hx hb dX6_conjunctionIn_23 rfl hl (Nat.le_of_ble_eq_true rfl) rfl (fun ls hl => ?_)
      have hl : lv_has ls 4 [(3, .int 0), (0, .ref m0), (1, .int x1), (2, .int x2)] := hl
      have hLX6_conjunctionIn_24 : ∀ (fu : Nat) (x3_24 : Int32) (ls : Array Slot) (H : Heap) (locs : List Loc), lv_has ls 4 [(0, .ref m0), (1, .int x1), (2, .int x2), (3, .int x3_24)] → va_P D vwCl [(m0, .inr (10, [.ref q0, .ref q1, .ref q2, .int v3, .ref q4, .int v5, .int v6, .ref q7, .int v8, .ref q9, .int v10, .int v11, .int v12, .int v13, .int v14, .ref q15, .int v16])), (q0, .inl (cA 0, 60, .inl ss))] H → va_D A [(m0, .inr (10, [.ref q0, .ref q1, .ref q2, .int v3, .ref q4, .int v5, .int v6, .ref q7, .int v8, .ref q9, .int v10, .int v11, .int v12, .int v13, .int v14, .ref q15, .int v16])), (q0, .inl (cA 0, 60, .inl ss))] → va_S A s.heap H locs → LX6_conjunctionIn_24 ss x1 x2 fu x3_24 = some r → W p l e RM_X6_conjunctionIn s m args below meth c H locs 0 0 Q (F0 m 24 ls []) := by
        intro fu
        induction fu with
        | zero =>
          intro x3_24 ls H locs hl hP hD hS h
          rw [LX6_conjunctionIn_24] at h
          exact nn h
        | succ fu ih =>
          intro x3_24 ls H locs hl hP hD hS h
          rw [LX6_conjunctionIn_24] at h
          refine lv_iload_n hx hb dX6_conjunctionIn_24 rfl (lv_at hl 3 rfl) ?_
          refine lv_sipush (v := 2000) hx hb dX6_conjunctionIn_25 (by decide) ?_
          refine lv_icmp_gt (tgt := 59) hx hb dX6_conjunctionIn_28 (by decide) (fun c6 => ?_) (fun c6 => ?_)
          · have h := ite_t c6 h
            refine lv_aload_n hx hb dX6_conjunctionIn_59 rfl (lv_at hl 0 rfl) ?_
            refine lv_iconst (v := 2) hx hb dX6_conjunctionIn_60 (by decide) ?_
            obtain ⟨o7, ho7, h⟩ := lt_i h
            refine gq_V (v := (fun as => (some (.int o7.1)))) (As := [.int 2]) (rest := []) (wc := [(m0, .inr (10, [.ref q0, .ref q1, .ref q2, .int v3, .ref q4, .int v5, .int v6, .ref q7, .int v8, .ref q9, .int v10, .int v11, .int v12, .int v13, .int v14, .ref q15, .int v16]))]) (wr := [(q0, .inl (cA 0, 60, .inl ss))]) (w1 := (fun as => [(m0, .inr (10, [.ref q0, .ref q1, .ref q2, .int v3, .ref q4, .int v5, .int o7.2, .ref q7, .int v8, .ref q9, .int v10, .int v11, .int v12, .int v13, .int v14, .ref q15, .int v16]))])) (ws2 := (fun as => [(m0, .inr (10, [.ref q0, .ref q1, .ref q2, .int v3, .ref q4, .int v5, .int o7.2, .ref q7, .int v8, .ref q9, .int v10, .int v11, .int v12, .int v13, .int v14, .ref q15, .int v16])), (q0, .inl (cA 0, 60, .inl ss))])) (st1 := (fun as => [.int o7.1])) ⟨hx, hb, hml, hfc, hts⟩ hK hP hD hS hA (kX6_fails l D cA m0 q0 q1 q2 q4 q7 q9 q15 v3 v5 v6 v8 v10 v11 v12 v13 v14 v16 2 ho7) (cwV 1 hts gX6_conjunctionIn_X6_fails rfl rfl rfl (by decide +kernel) ⟨(Nat.le_of_ble_eq_true rfl), (Nat.le_of_ble_eq_true rfl)⟩) [0] [1] [1, 0] rfl rfl rfl rfl (by decide) (fun _ => rfl) rfl 0 10 rfl rfl rfl rfl (fun _ => rfl) rfl hl.1 (Nat.le_of_ble_eq_true rfl) dX6_conjunctionIn_61 ⟨(Nat.zero_le _), (Nat.zero_le _)⟩ (fun as H locs hP hD hS => ?_)
            have hP : va_P D vwCl [(m0, .inr (10, [.ref q0, .ref q1, .ref q2, .int v3, .ref q4, .int v5, .int o7.2, .ref q7, .int v8, .ref q9, .int v10, .int v11, .int v12, .int v13, .int v14, .ref q15, .int v16])), (q0, .inl (cA 0, 60, .inl ss))] H := hP
            have hD : va_D A [(m0, .inr (10, [.ref q0, .ref q1, .ref q2, .int v3, .ref q4, .int v5, .int o7.2, .ref q7, .int v8, .ref q9, .int v10, .int v11, .int v12, .int v13, .int v14, .ref q15, .int v16])), (q0, .inl (cA 0, 60, .inl ss))] := hD
            have h := Option.some.inj h
            subst h
            exact hend (adr []) _ _ _ _ _ _ _ rfl rfl (rtn_i _) hP hD hS dX6_conjunctionIn_64
          · have h := ite_f c6 h
            refine lv_aload_n hx hb dX6_conjunctionIn_31 rfl (lv_at hl 0 rfl) ?_
            refine lv_iload_n hx hb dX6_conjunctionIn_32 rfl (lv_at hl 1 rfl) ?_
            refine lv_iload_n hx hb dX6_conjunctionIn_33 rfl (lv_at hl 3 rfl) ?_
            obtain ⟨o8, ho8, h⟩ := bnd_i h
            refine rq_V (v := (some (.int o8))) (As := [.int x1, .int x3_24]) (rest := []) (wc := [(m0, .inr (10, [.ref q0, .ref q1, .ref q2, .int v3, .ref q4, .int v5, .int v6, .ref q7, .int v8, .ref q9, .int v10, .int v11, .int v12, .int v13, .int v14, .ref q15, .int v16])), (q0, .inl (cA 0, 60, .inl ss))]) ⟨hx, hb, hml, hfc, hts⟩ hK hP (kX6_placeIn l D cA m0 q0 q1 q2 q4 q7 q9 q15 v3 v5 v6 v8 v10 v11 v12 v13 v14 v16 ss x1 x3_24 ho8) (cwV 2 hts gX6_conjunctionIn_X6_placeIn rfl rfl rfl (by decide +kernel) ⟨(Nat.le_of_ble_eq_true rfl), (Nat.le_of_ble_eq_true rfl)⟩) [0, 1] rfl 0 10 rfl rfl rfl rfl rfl rfl hl.1 (Nat.le_of_ble_eq_true rfl) dX6_conjunctionIn_34 ⟨(Nat.zero_le _), (Nat.zero_le _)⟩ ?_
            refine lv_aload_n hx hb dX6_conjunctionIn_37 rfl (lv_at hl 0 rfl) ?_
            refine lv_iload_n hx hb dX6_conjunctionIn_38 rfl (lv_at hl 2 rfl) ?_
            refine lv_iload_n hx hb dX6_conjunctionIn_39 rfl (lv_at hl 3 rfl) ?_
            obtain ⟨o9, ho9, h⟩ := bnd_i h
            refine rq_V (v := (some (.int o9))) (As := [.int x2, .int x3_24]) (rest := [.int o8]) (wc := [(m0, .inr (10, [.ref q0, .ref q1, .ref q2, .int v3, .ref q4, .int v5, .int v6, .ref q7, .int v8, .ref q9, .int v10, .int v11, .int v12, .int v13, .int v14, .ref q15, .int v16])), (q0, .inl (cA 0, 60, .inl ss))]) ⟨hx, hb, hml, hfc, hts⟩ hK hP (kX6_placeIn l D cA m0 q0 q1 q2 q4 q7 q9 q15 v3 v5 v6 v8 v10 v11 v12 v13 v14 v16 ss x2 x3_24 ho9) (cwV 2 hts gX6_conjunctionIn_X6_placeIn rfl rfl rfl (by decide +kernel) ⟨(Nat.le_of_ble_eq_true rfl), (Nat.le_of_ble_eq_true rfl)⟩) [0, 1] rfl 0 10 rfl rfl rfl rfl rfl rfl hl.1 (Nat.le_of_ble_eq_true rfl) dX6_conjunctionIn_40 ⟨(Nat.zero_le _), (Nat.zero_le _)⟩ ?_
            refine lv_icmp_ne (tgt := 53) hx hb dX6_conjunctionIn_43 (by decide) (fun c10 => ?_) (fun c10 => ?_)
            · have h := ite_f c10 h
              refine lv_iinc (k := 3) (v := x3_24 + 1) hx hb dX6_conjunctionIn_53 hl rfl (congrArg (fun z => x3_24 + z) lit1) (Nat.le_of_ble_eq_true rfl) rfl (fun ls hl => ?_)
              have hl : lv_has ls 4 [(3, .int (x3_24 + 1)), (0, .ref m0), (1, .int x1), (2, .int x2)] := hl
              refine lv_goto (tgt := 24) hx hb dX6_conjunctionIn_56 (by decide) ?_
              exact ih (x3_24 + 1) _ _ _ (lv_sub hl [1, 2, 3, 0] rfl) hP hD hS h
            · have h := ite_t c10 h
              refine lv_aload_n hx hb dX6_conjunctionIn_46 rfl (lv_at hl 0 rfl) ?_
              refine lv_iconst (v := 0) hx hb dX6_conjunctionIn_47 (by decide) ?_
              refine va_put (D := D) (ci := 10) (v := .int 0) (ty := .int) (C := RX6) (T := TX6) (N := 17) hx hb hts iX6_conjunctionIn_X6 tyX6 tyX6_ok nmX6 hfc hK hP hD hS 0 rfl rfl 6 (by decide) (hts (.fieldLink RX6 39 "BathtubTidesModel" "thrown" "I") (List.mem_of_getElem? (i := 1) rfl)) (fun _ h9 => h9) rfl (by decide +kernel) rfl rfl (Nat.le_of_ble_eq_true rfl) dX6_conjunctionIn_48 (fun H locs hP hD hS => ?_)
              have hP : va_P D vwCl [(m0, .inr (10, [.ref q0, .ref q1, .ref q2, .int v3, .ref q4, .int v5, .int 0, .ref q7, .int v8, .ref q9, .int v10, .int v11, .int v12, .int v13, .int v14, .ref q15, .int v16])), (q0, .inl (cA 0, 60, .inl ss))] H := hP
              have hD : va_D A [(m0, .inr (10, [.ref q0, .ref q1, .ref q2, .int v3, .ref q4, .int v5, .int 0, .ref q7, .int v8, .ref q9, .int v10, .int v11, .int v12, .int v13, .int v14, .ref q15, .int v16])), (q0, .inl (cA 0, 60, .inl ss))] := hD
              refine lv_iload_n hx hb dX6_conjunctionIn_51 rfl (lv_at hl 3 rfl) ?_
              have h := Option.some.inj h
              subst h
              exact hend (adr []) _ _ _ _ _ _ _ rfl rfl (rtn_i _) hP hD hS dX6_conjunctionIn_52
      exact hLX6_conjunctionIn_24 N 0 _ _ _ (lv_sub hl [1, 2, 3, 0] rfl) hP hD hS h
    · have h := ite_t c5 h
      refine lv_aload_n hx hb dX6_conjunctionIn_16 rfl (lv_at hl 0 rfl) ?_
      refine lv_iconst (v := 1) hx hb dX6_conjunctionIn_17 (by decide) ?_
      obtain ⟨o11, ho11, h⟩ := lt_i h
      refine gq_V (v := (fun as => (some (.int o11.1)))) (As := [.int 1]) (rest := []) (wc := [(m0, .inr (10, [.ref q0, .ref q1, .ref q2, .int v3, .ref q4, .int v5, .int v6, .ref q7, .int v8, .ref q9, .int v10, .int v11, .int v12, .int v13, .int v14, .ref q15, .int v16]))]) (wr := [(q0, .inl (cA 0, 60, .inl ss))]) (w1 := (fun as => [(m0, .inr (10, [.ref q0, .ref q1, .ref q2, .int v3, .ref q4, .int v5, .int o11.2, .ref q7, .int v8, .ref q9, .int v10, .int v11, .int v12, .int v13, .int v14, .ref q15, .int v16]))])) (ws2 := (fun as => [(m0, .inr (10, [.ref q0, .ref q1, .ref q2, .int v3, .ref q4, .int v5, .int o11.2, .ref q7, .int v8, .ref q9, .int v10, .int v11, .int v12, .int v13, .int v14, .ref q15, .int v16])), (q0, .inl (cA 0, 60, .inl ss))])) (st1 := (fun as => [.int o11.1])) ⟨hx, hb, hml, hfc, hts⟩ hK hP hD hS hA (kX6_fails l D cA m0 q0 q1 q2 q4 q7 q9 q15 v3 v5 v6 v8 v10 v11 v12 v13 v14 v16 1 ho11) (cwV 1 hts gX6_conjunctionIn_X6_fails rfl rfl rfl (by decide +kernel) ⟨(Nat.le_of_ble_eq_true rfl), (Nat.le_of_ble_eq_true rfl)⟩) [0] [1] [1, 0] rfl rfl rfl rfl (by decide) (fun _ => rfl) rfl 0 10 rfl rfl rfl rfl (fun _ => rfl) rfl hl.1 (Nat.le_of_ble_eq_true rfl) dX6_conjunctionIn_18 ⟨(Nat.zero_le _), (Nat.zero_le _)⟩ (fun as H locs hP hD hS => ?_)
      have hP : va_P D vwCl [(m0, .inr (10, [.ref q0, .ref q1, .ref q2, .int v3, .ref q4, .int v5, .int o11.2, .ref q7, .int v8, .ref q9, .int v10, .int v11, .int v12, .int v13, .int v14, .ref q15, .int v16])), (q0, .inl (cA 0, 60, .inl ss))] H := hP
      have hD : va_D A [(m0, .inr (10, [.ref q0, .ref q1, .ref q2, .int v3, .ref q4, .int v5, .int o11.2, .ref q7, .int v8, .ref q9, .int v10, .int v11, .int v12, .int v13, .int v14, .ref q15, .int v16])), (q0, .inl (cA 0, 60, .inl ss))] := hD
      have h := Option.some.inj h
      subst h
      exact hend (adr []) _ _ _ _ _ _ _ rfl rfl (rtn_i _) hP hD hS dX6_conjunctionIn_21
noncomputable def SX6_conjunctionByMoves (N : Nat) (ss : Nat → Int32) (x1 : Int32) (x2 : Int32) : Option (Int32 × Int32) := bnd (SX6_conjunctionIn N ss x1 x2) (fun o1 : Int32 × Int32 => some ((o1.1, o1.2)))
abbrev RM_X6_conjunctionByMoves : Room := { frames := 4, cells := 0, slots := 0, locals := 92 }
set_option maxHeartbeats 4000000 in
theorem kX6_conjunctionByMoves (l : Launch) (D : va_G) (cA : Nat → ClassId) (m0 q0 q1 q2 q4 q7 q9 q15 : Nat) (N : Nat) (v3 : Int32) (v5 : Int32) (v6 : Int32) (v8 : Int32) (v10 : Int32) (v11 : Int32) (v12 : Int32) (v13 : Int32) (v14 : Int32) (v16 : Int32) (ss : Nat → Int32) (x1 : Int32) (x2 : Int32) {r : Int32 × Int32} (hr : SX6_conjunctionByMoves N ss x1 x2 = some r) {sz : Nat} : Met l yX6_conjunctionByMoves wsX6_conjunctionByMoves RM_X6_conjunctionByMoves (va_Pc [.ref m0, .int x1, .int x2] (gqB D cA [(m0, .inr (10, [.ref q0, .ref q1, .ref q2, .int v3, .ref q4, .int v5, .int v6, .ref q7, .int v8, .ref q9, .int v10, .int v11, .int v12, .int v13, .int v14, .ref q15, .int v16])), (q0, .inl (cA 0, 60, .inl ss))] sz)) (gqQ D (fun as => (some (.int r.1))) (fun as => [(m0, .inr (10, [.ref q0, .ref q1, .ref q2, .int v3, .ref q4, .int v5, .int r.2, .ref q7, .int v8, .ref q9, .int v10, .int v11, .int v12, .int v13, .int v14, .ref q15, .int v16])), (q0, .inl (cA 0, 60, .inl ss))]) (va_A [(m0, .inr (10, [.ref q0, .ref q1, .ref q2, .int v3, .ref q4, .int v5, .int v6, .ref q7, .int v8, .ref q9, .int v10, .int v11, .int v12, .int v13, .int v14, .ref q15, .int v16])), (q0, .inl (cA 0, 60, .inl ss))] sz)) 0 0 (va_A [(m0, .inr (10, [.ref q0, .ref q1, .ref q2, .int v3, .ref q4, .int v5, .int v6, .ref q7, .int v8, .ref q9, .int v10, .int v11, .int v12, .int v13, .int v14, .ref q15, .int v16])), (q0, .inl (cA 0, 60, .inl ss))] sz) := by
  refine gq_ofW (cc := cX6_conjunctionByMoves) (maxL := 3) (ret := (some .int)) (by decide) rfl (Nat.le_of_ble_eq_true rfl) (fun p e s m args below meth c ls Q A hx hb hml hts hfc hmn hK hP hD hS hA hl hend => ?_)
  have hfc : s.vm.findClass RX6 = some m.cls := hfc
  have hl : lv_has ls 3 [(0, .ref m0), (1, .int x1), (2, .int x2)] := hl
  have h := hr
  clear hr
  unfold SX6_conjunctionByMoves at h
  refine lv_aload_n hx hb dX6_conjunctionByMoves_0 rfl (lv_at hl 0 rfl) ?_
  refine lv_iload_n hx hb dX6_conjunctionByMoves_1 rfl (lv_at hl 1 rfl) ?_
  refine lv_iload_n hx hb dX6_conjunctionByMoves_2 rfl (lv_at hl 2 rfl) ?_
  obtain ⟨o1, ho1, h⟩ := bnd_i h
  refine gq_V (v := (fun as => (some (.int o1.1)))) (As := [.int x1, .int x2]) (rest := []) (wc := [(m0, .inr (10, [.ref q0, .ref q1, .ref q2, .int v3, .ref q4, .int v5, .int v6, .ref q7, .int v8, .ref q9, .int v10, .int v11, .int v12, .int v13, .int v14, .ref q15, .int v16])), (q0, .inl (cA 0, 60, .inl ss))]) (wr := []) (w1 := (fun as => [(m0, .inr (10, [.ref q0, .ref q1, .ref q2, .int v3, .ref q4, .int v5, .int o1.2, .ref q7, .int v8, .ref q9, .int v10, .int v11, .int v12, .int v13, .int v14, .ref q15, .int v16])), (q0, .inl (cA 0, 60, .inl ss))])) (ws2 := (fun as => [(m0, .inr (10, [.ref q0, .ref q1, .ref q2, .int v3, .ref q4, .int v5, .int o1.2, .ref q7, .int v8, .ref q9, .int v10, .int v11, .int v12, .int v13, .int v14, .ref q15, .int v16])), (q0, .inl (cA 0, 60, .inl ss))])) (st1 := (fun as => [.int o1.1])) ⟨hx, hb, hml, hfc, hts⟩ hK hP hD hS hA (kX6_conjunctionIn l D cA m0 q0 q1 q2 q4 q7 q9 q15 N v3 v5 v6 v8 v10 v11 v12 v13 v14 v16 ss x1 x2 ho1) (cwV 2 hts gX6_conjunctionByMoves_X6_conjunctionIn rfl rfl rfl (by decide +kernel) ⟨(Nat.le_of_ble_eq_true rfl), (Nat.le_of_ble_eq_true rfl)⟩) [0, 1] [] [0, 1] rfl rfl rfl rfl (by decide) (fun _ => rfl) rfl 0 10 rfl rfl rfl rfl (fun _ => rfl) rfl hl.1 (Nat.le_of_ble_eq_true rfl) dX6_conjunctionByMoves_3 ⟨(Nat.zero_le _), (Nat.zero_le _)⟩ (fun as H locs hP hD hS => ?_)
  have hP : va_P D vwCl [(m0, .inr (10, [.ref q0, .ref q1, .ref q2, .int v3, .ref q4, .int v5, .int o1.2, .ref q7, .int v8, .ref q9, .int v10, .int v11, .int v12, .int v13, .int v14, .ref q15, .int v16])), (q0, .inl (cA 0, 60, .inl ss))] H := hP
  have hD : va_D A [(m0, .inr (10, [.ref q0, .ref q1, .ref q2, .int v3, .ref q4, .int v5, .int o1.2, .ref q7, .int v8, .ref q9, .int v10, .int v11, .int v12, .int v13, .int v14, .ref q15, .int v16])), (q0, .inl (cA 0, 60, .inl ss))] := hD
  have h := Option.some.inj h
  subst h
  exact hend (adr []) _ _ _ _ _ _ _ rfl rfl (rtn_i _) hP hD hS dX6_conjunctionByMoves_6
noncomputable def SX6_says (v8 : Int32) (ln : Nat → Int32) (x1 : Int32) : Option ((Nat → Int32) × Int32) := gd (vp_in v8 90) (some ((upd ln (Int32.toNatClampNeg v8) (vp_nar .char x1), v8 + 1)))
theorem iX6_says_X6 : ∀ w ∈ wsX60, w ∈ wsX6_says := fun _ h => List.mem_cons_of_mem _ (List.mem_append_left _ (List.mem_append_right _ h))
abbrev RM_X6_says : Room := { frames := 0, cells := 0, slots := 0, locals := 0 }
set_option maxHeartbeats 4000000 in
theorem kX6_says (l : Launch) (D : va_G) (cA : Nat → ClassId) (m0 q0 q1 q2 q4 q7 q9 q15 : Nat) (v3 : Int32) (v5 : Int32) (v6 : Int32) (v8 : Int32) (v10 : Int32) (v11 : Int32) (v12 : Int32) (v13 : Int32) (v14 : Int32) (v16 : Int32) (ln : Nat → Int32) (x1 : Int32) {r : (Nat → Int32) × Int32} (hr : SX6_says v8 ln x1 = some r) {sz : Nat} : Met l yX6_says wsX6_says RM_X6_says (va_Pc [.ref m0, .int x1] (gqB D cA [(m0, .inr (10, [.ref q0, .ref q1, .ref q2, .int v3, .ref q4, .int v5, .int v6, .ref q7, .int v8, .ref q9, .int v10, .int v11, .int v12, .int v13, .int v14, .ref q15, .int v16])), (q7, .inl (cA 2, 90, .inl ln))] sz)) (gqQ D (fun as => none) (fun as => [(m0, .inr (10, [.ref q0, .ref q1, .ref q2, .int v3, .ref q4, .int v5, .int v6, .ref q7, .int r.2, .ref q9, .int v10, .int v11, .int v12, .int v13, .int v14, .ref q15, .int v16])), (q7, .inl (cA 2, 90, .inl r.1))]) (va_A [(m0, .inr (10, [.ref q0, .ref q1, .ref q2, .int v3, .ref q4, .int v5, .int v6, .ref q7, .int v8, .ref q9, .int v10, .int v11, .int v12, .int v13, .int v14, .ref q15, .int v16])), (q7, .inl (cA 2, 90, .inl ln))] sz)) 0 0 (va_A [(m0, .inr (10, [.ref q0, .ref q1, .ref q2, .int v3, .ref q4, .int v5, .int v6, .ref q7, .int v8, .ref q9, .int v10, .int v11, .int v12, .int v13, .int v14, .ref q15, .int v16])), (q7, .inl (cA 2, 90, .inl ln))] sz) := by
  refine gq_ofW (cc := cX6_says) (maxL := 2) (ret := none) (by decide) rfl (Nat.le_of_ble_eq_true rfl) (fun p e s m args below meth c ls Q A hx hb hml hts hfc hmn hK hP hD hS hA hl hend => ?_)
  have hfc : s.vm.findClass RX6 = some m.cls := hfc
  have hl : lv_has ls 2 [(0, .ref m0), (1, .int x1)] := hl
  have h := hr
  clear hr
  unfold SX6_says at h
  refine lv_aload_n hx hb dX6_says_0 rfl (lv_at hl 0 rfl) ?_
  refine va_get (D := D) (ci := 10) (v := .ref q7) (C := RX6) (T := TX6) (N := 17) hx hb hts iX6_says_X6 hfc hK hP 0 rfl rfl 7 (by decide) (hts (.fieldLink RX6 22 "BathtubTidesModel" "line" "[C") (List.mem_of_getElem? (i := 1) rfl)) (fun _ h9 => h9) rfl dX6_says_1 ?_
  refine lv_aload_n hx hb dX6_says_4 rfl (lv_at hl 0 rfl) ?_
  refine va_get (D := D) (ci := 10) (v := .int v8) (C := RX6) (T := TX6) (N := 17) hx hb hts iX6_says_X6 hfc hK hP 0 rfl rfl 8 (by decide) (hts (.fieldLink RX6 175 "BathtubTidesModel" "lineMany" "I") (List.mem_of_getElem? (i := 2) rfl)) (fun _ h9 => h9) rfl dX6_says_5 ?_
  refine lv_iload_n hx hb dX6_says_8 rfl (lv_at hl 1 rfl) ?_
  obtain ⟨g1, h⟩ := gd_i h
  refine va_cast hx hb hK hP hD hS 1 2 rfl rfl g1 dX6_says_9 (fun H locs hP hD hS => ?_)
  have hP : va_P D vwCl [(m0, .inr (10, [.ref q0, .ref q1, .ref q2, .int v3, .ref q4, .int v5, .int v6, .ref q7, .int v8, .ref q9, .int v10, .int v11, .int v12, .int v13, .int v14, .ref q15, .int v16])), (q7, .inl (cA 2, 90, .inl (upd ln (Int32.toNatClampNeg v8) (vp_nar .char x1))))] H := hP
  have hD : va_D A [(m0, .inr (10, [.ref q0, .ref q1, .ref q2, .int v3, .ref q4, .int v5, .int v6, .ref q7, .int v8, .ref q9, .int v10, .int v11, .int v12, .int v13, .int v14, .ref q15, .int v16])), (q7, .inl (cA 2, 90, .inl (upd ln (Int32.toNatClampNeg v8) (vp_nar .char x1))))] := hD
  refine lv_aload_n hx hb dX6_says_10 rfl (lv_at hl 0 rfl) ?_
  refine lv_dup hx hb dX6_says_11 rfl ?_
  refine va_get (D := D) (ci := 10) (v := .int v8) (C := RX6) (T := TX6) (N := 17) hx hb hts iX6_says_X6 hfc hK hP 0 rfl rfl 8 (by decide) (hts (.fieldLink RX6 175 "BathtubTidesModel" "lineMany" "I") (List.mem_of_getElem? (i := 2) rfl)) (fun _ h9 => h9) rfl dX6_says_12 ?_
  refine lv_iconst (v := 1) hx hb dX6_says_15 (by decide) ?_
  refine lv_iadd hx hb dX6_says_16 ?_
  refine va_put (D := D) (ci := 10) (v := .int (v8 + 1)) (ty := .int) (C := RX6) (T := TX6) (N := 17) hx hb hts iX6_says_X6 tyX6 tyX6_ok nmX6 hfc hK hP hD hS 0 rfl rfl 8 (by decide) (hts (.fieldLink RX6 175 "BathtubTidesModel" "lineMany" "I") (List.mem_of_getElem? (i := 2) rfl)) (fun _ h9 => h9) rfl (by decide +kernel) rfl rfl (Nat.le_of_ble_eq_true rfl) dX6_says_17 (fun H locs hP hD hS => ?_)
  have hP : va_P D vwCl [(m0, .inr (10, [.ref q0, .ref q1, .ref q2, .int v3, .ref q4, .int v5, .int v6, .ref q7, .int (v8 + 1), .ref q9, .int v10, .int v11, .int v12, .int v13, .int v14, .ref q15, .int v16])), (q7, .inl (cA 2, 90, .inl (upd ln (Int32.toNatClampNeg v8) (vp_nar .char x1))))] H := hP
  have hD : va_D A [(m0, .inr (10, [.ref q0, .ref q1, .ref q2, .int v3, .ref q4, .int v5, .int v6, .ref q7, .int (v8 + 1), .ref q9, .int v10, .int v11, .int v12, .int v13, .int v14, .ref q15, .int v16])), (q7, .inl (cA 2, 90, .inl (upd ln (Int32.toNatClampNeg v8) (vp_nar .char x1))))] := hD
  have h := Option.some.inj h
  subst h
  exact hend (adr []) _ _ _ _ _ _ _ rfl rfl (rtn_v) hP hD hS dX6_says_20
noncomputable def SX6_saysIf (v8 : Int32) (ln : Nat → Int32) (x1 : Int32) (x2 : Int32) : Option ((Nat → Int32) × Int32) := if x1 = 0 then (some ((ln, v8))) else (bnd (SX6_says v8 ln x2) (fun o2 : (Nat → Int32) × Int32 => some ((o2.1, o2.2))))
abbrev RM_X6_saysIf : Room := { frames := 1, cells := 0, slots := 0, locals := 21 }
set_option maxHeartbeats 4000000 in
theorem kX6_saysIf (l : Launch) (D : va_G) (cA : Nat → ClassId) (m0 q0 q1 q2 q4 q7 q9 q15 : Nat) (v3 : Int32) (v5 : Int32) (v6 : Int32) (v8 : Int32) (v10 : Int32) (v11 : Int32) (v12 : Int32) (v13 : Int32) (v14 : Int32) (v16 : Int32) (ln : Nat → Int32) (x1 : Int32) (x2 : Int32) {r : (Nat → Int32) × Int32} (hr : SX6_saysIf v8 ln x1 x2 = some r) {sz : Nat} : Met l yX6_saysIf wsX6_saysIf RM_X6_saysIf (va_Pc [.ref m0, .int x1, .int x2] (gqB D cA [(m0, .inr (10, [.ref q0, .ref q1, .ref q2, .int v3, .ref q4, .int v5, .int v6, .ref q7, .int v8, .ref q9, .int v10, .int v11, .int v12, .int v13, .int v14, .ref q15, .int v16])), (q7, .inl (cA 2, 90, .inl ln))] sz)) (gqQ D (fun as => none) (fun as => [(m0, .inr (10, [.ref q0, .ref q1, .ref q2, .int v3, .ref q4, .int v5, .int v6, .ref q7, .int r.2, .ref q9, .int v10, .int v11, .int v12, .int v13, .int v14, .ref q15, .int v16])), (q7, .inl (cA 2, 90, .inl r.1))]) (va_A [(m0, .inr (10, [.ref q0, .ref q1, .ref q2, .int v3, .ref q4, .int v5, .int v6, .ref q7, .int v8, .ref q9, .int v10, .int v11, .int v12, .int v13, .int v14, .ref q15, .int v16])), (q7, .inl (cA 2, 90, .inl ln))] sz)) 0 0 (va_A [(m0, .inr (10, [.ref q0, .ref q1, .ref q2, .int v3, .ref q4, .int v5, .int v6, .ref q7, .int v8, .ref q9, .int v10, .int v11, .int v12, .int v13, .int v14, .ref q15, .int v16])), (q7, .inl (cA 2, 90, .inl ln))] sz) := by
  refine gq_ofW (cc := cX6_saysIf) (maxL := 3) (ret := none) (by decide) rfl (Nat.le_of_ble_eq_true rfl) (fun p e s m args below meth c ls Q A hx hb hml hts hfc hmn hK hP hD hS hA hl hend => ?_)
  have hfc : s.vm.findClass RX6 = some m.cls := hfc
  have hl : lv_has ls 3 [(0, .ref m0), (1, .int x1), (2, .int x2)] := hl
  have h := hr
  clear hr
  unfold SX6_saysIf at h
  refine lv_iload_n hx hb dX6_saysIf_0 rfl (lv_at hl 1 rfl) ?_
  refine lv_if_eq (tgt := 9) hx hb dX6_saysIf_1 (by decide) (fun c1 => ?_) (fun c1 => ?_)
  · have h := ite_t c1 h
    have h := Option.some.inj h
    subst h
    exact hend (adr []) _ _ _ _ _ _ _ rfl rfl (rtn_v) hP hD hS dX6_saysIf_9
  · have h := ite_f c1 h
    refine lv_aload_n hx hb dX6_saysIf_4 rfl (lv_at hl 0 rfl) ?_
    refine lv_iload_n hx hb dX6_saysIf_5 rfl (lv_at hl 2 rfl) ?_
    obtain ⟨o2, ho2, h⟩ := bnd_i h
    refine gq_V (v := (fun as => none)) (As := [.int x2]) (rest := []) (wc := [(m0, .inr (10, [.ref q0, .ref q1, .ref q2, .int v3, .ref q4, .int v5, .int v6, .ref q7, .int v8, .ref q9, .int v10, .int v11, .int v12, .int v13, .int v14, .ref q15, .int v16])), (q7, .inl (cA 2, 90, .inl ln))]) (wr := []) (w1 := (fun as => [(m0, .inr (10, [.ref q0, .ref q1, .ref q2, .int v3, .ref q4, .int v5, .int v6, .ref q7, .int o2.2, .ref q9, .int v10, .int v11, .int v12, .int v13, .int v14, .ref q15, .int v16])), (q7, .inl (cA 2, 90, .inl o2.1))])) (ws2 := (fun as => [(m0, .inr (10, [.ref q0, .ref q1, .ref q2, .int v3, .ref q4, .int v5, .int v6, .ref q7, .int o2.2, .ref q9, .int v10, .int v11, .int v12, .int v13, .int v14, .ref q15, .int v16])), (q7, .inl (cA 2, 90, .inl o2.1))])) (st1 := (fun as => [])) ⟨hx, hb, hml, hfc, hts⟩ hK hP hD hS hA (kX6_says l D cA m0 q0 q1 q2 q4 q7 q9 q15 v3 v5 v6 v8 v10 v11 v12 v13 v14 v16 ln x2 ho2) (cwV 1 hts gX6_saysIf_X6_says rfl rfl rfl (by decide +kernel) ⟨(Nat.le_of_ble_eq_true rfl), (Nat.le_of_ble_eq_true rfl)⟩) [0, 1] [] [0, 1] rfl rfl rfl rfl (by decide) (fun _ => rfl) rfl 0 10 rfl rfl rfl rfl (fun _ => rfl) rfl hl.1 (Nat.le_of_ble_eq_true rfl) dX6_saysIf_6 ⟨(Nat.zero_le _), (Nat.zero_le _)⟩ (fun as H locs hP hD hS => ?_)
    have hP : va_P D vwCl [(m0, .inr (10, [.ref q0, .ref q1, .ref q2, .int v3, .ref q4, .int v5, .int v6, .ref q7, .int o2.2, .ref q9, .int v10, .int v11, .int v12, .int v13, .int v14, .ref q15, .int v16])), (q7, .inl (cA 2, 90, .inl o2.1))] H := hP
    have hD : va_D A [(m0, .inr (10, [.ref q0, .ref q1, .ref q2, .int v3, .ref q4, .int v5, .int v6, .ref q7, .int o2.2, .ref q9, .int v10, .int v11, .int v12, .int v13, .int v14, .ref q15, .int v16])), (q7, .inl (cA 2, 90, .inl o2.1))] := hD
    have h := Option.some.inj h
    subst h
    exact hend (adr []) _ _ _ _ _ _ _ rfl rfl (rtn_v) hP hD hS dX6_saysIf_9
noncomputable def SX6_lineAt (v8 : Int32) (ln : Nat → Int32) (x1 : Int32) : Option (Int32 × Int32) := bnd (SX6_isThere (SX6_in x1 0 (v8 - 1))) (fun o1 : Int32 × Int32 => if o1.1 = 0 then (some ((32, o1.2))) else (gd (vp_in x1 90) (gd (narrow .char (.int (ln (Int32.toNatClampNeg x1))) = .int (ln (Int32.toNatClampNeg x1))) (some ((ln (Int32.toNatClampNeg x1), o1.2))))))
theorem iX6_lineAt_X6 : ∀ w ∈ wsX60, w ∈ wsX6_lineAt := fun _ h => List.mem_cons_of_mem _ (List.mem_append_left _ (List.mem_append_right _ h))
abbrev RM_X6_lineAt : Room := { frames := 1, cells := 0, slots := 0, locals := 23 }
set_option maxHeartbeats 4000000 in
theorem kX6_lineAt (l : Launch) (D : va_G) (cA : Nat → ClassId) (m0 q0 q1 q2 q4 q7 q9 q15 : Nat) (v3 : Int32) (v5 : Int32) (v6 : Int32) (v8 : Int32) (v10 : Int32) (v11 : Int32) (v12 : Int32) (v13 : Int32) (v14 : Int32) (v16 : Int32) (ln : Nat → Int32) (x1 : Int32) {r : Int32 × Int32} (hr : SX6_lineAt v8 ln x1 = some r) {sz : Nat} : Met l yX6_lineAt wsX6_lineAt RM_X6_lineAt (va_Pc [.ref m0, .int x1] (gqB D cA [(m0, .inr (10, [.ref q0, .ref q1, .ref q2, .int v3, .ref q4, .int v5, .int v6, .ref q7, .int v8, .ref q9, .int v10, .int v11, .int v12, .int v13, .int v14, .ref q15, .int v16])), (q7, .inl (cA 2, 90, .inl ln))] sz)) (gqQ D (fun as => (some (.int r.1))) (fun as => [(m0, .inr (10, [.ref q0, .ref q1, .ref q2, .int v3, .ref q4, .int v5, .int r.2, .ref q7, .int v8, .ref q9, .int v10, .int v11, .int v12, .int v13, .int v14, .ref q15, .int v16])), (q7, .inl (cA 2, 90, .inl ln))]) (va_A [(m0, .inr (10, [.ref q0, .ref q1, .ref q2, .int v3, .ref q4, .int v5, .int v6, .ref q7, .int v8, .ref q9, .int v10, .int v11, .int v12, .int v13, .int v14, .ref q15, .int v16])), (q7, .inl (cA 2, 90, .inl ln))] sz)) 0 0 (va_A [(m0, .inr (10, [.ref q0, .ref q1, .ref q2, .int v3, .ref q4, .int v5, .int v6, .ref q7, .int v8, .ref q9, .int v10, .int v11, .int v12, .int v13, .int v14, .ref q15, .int v16])), (q7, .inl (cA 2, 90, .inl ln))] sz) := by
  refine gq_ofW (cc := cX6_lineAt) (maxL := 2) (ret := (some .char)) (by decide) rfl (Nat.le_of_ble_eq_true rfl) (fun p e s m args below meth c ls Q A hx hb hml hts hfc hmn hK hP hD hS hA hl hend => ?_)
  have hfc : s.vm.findClass RX6 = some m.cls := hfc
  have hl : lv_has ls 2 [(0, .ref m0), (1, .int x1)] := hl
  have h := hr
  clear hr
  unfold SX6_lineAt at h
  refine lv_aload_n hx hb dX6_lineAt_0 rfl (lv_at hl 0 rfl) ?_
  refine lv_iload_n hx hb dX6_lineAt_1 rfl (lv_at hl 1 rfl) ?_
  refine lv_iconst (v := 0) hx hb dX6_lineAt_2 (by decide) ?_
  refine lv_aload_n hx hb dX6_lineAt_3 rfl (lv_at hl 0 rfl) ?_
  refine va_get (D := D) (ci := 10) (v := .int v8) (C := RX6) (T := TX6) (N := 17) hx hb hts iX6_lineAt_X6 hfc hK hP 0 rfl rfl 8 (by decide) (hts (.fieldLink RX6 175 "BathtubTidesModel" "lineMany" "I") (List.mem_of_getElem? (i := 1) rfl)) (fun _ h9 => h9) rfl dX6_lineAt_4 ?_
  refine lv_iconst (v := 1) hx hb dX6_lineAt_7 (by decide) ?_
  refine lv_isub hx hb dX6_lineAt_8 ?_
  refine rq_S (v := (some (.int (SX6_in x1 0 (v8 - 1))))) (As := [.int x1, .int 0, .int (v8 - 1)]) (rest := [.ref m0]) (wc := []) ⟨hx, hb, hml, hfc, hts⟩ hK hP (kX6_in l D cA x1 0 (v8 - 1) rfl) (va_cwS 3 hts gX6_lineAt_X6_in rfl rfl rfl (by decide +kernel) ⟨(Nat.le_of_ble_eq_true rfl), (Nat.le_of_ble_eq_true rfl)⟩) [] rfl rfl rfl rfl hl.1 (Nat.le_of_ble_eq_true rfl) dX6_lineAt_9 ⟨(Nat.zero_le _), (Nat.zero_le _)⟩ ?_
  obtain ⟨o1, ho1, h⟩ := bnd_i h
  refine gq_V (v := (fun as => (some (.int o1.1)))) (As := [.int (SX6_in x1 0 (v8 - 1))]) (rest := []) (wc := [(m0, .inr (10, [.ref q0, .ref q1, .ref q2, .int v3, .ref q4, .int v5, .int v6, .ref q7, .int v8, .ref q9, .int v10, .int v11, .int v12, .int v13, .int v14, .ref q15, .int v16]))]) (wr := [(q7, .inl (cA 2, 90, .inl ln))]) (w1 := (fun as => [(m0, .inr (10, [.ref q0, .ref q1, .ref q2, .int v3, .ref q4, .int v5, .int o1.2, .ref q7, .int v8, .ref q9, .int v10, .int v11, .int v12, .int v13, .int v14, .ref q15, .int v16]))])) (ws2 := (fun as => [(m0, .inr (10, [.ref q0, .ref q1, .ref q2, .int v3, .ref q4, .int v5, .int o1.2, .ref q7, .int v8, .ref q9, .int v10, .int v11, .int v12, .int v13, .int v14, .ref q15, .int v16])), (q7, .inl (cA 2, 90, .inl ln))])) (st1 := (fun as => [.int o1.1])) ⟨hx, hb, hml, hfc, hts⟩ hK hP hD hS hA (kX6_isThere l D cA m0 q0 q1 q2 q4 q7 q9 q15 v3 v5 v6 v8 v10 v11 v12 v13 v14 v16 (SX6_in x1 0 (v8 - 1)) ho1) (cwV 1 hts gX6_lineAt_X6_isThere rfl rfl rfl (by decide +kernel) ⟨(Nat.le_of_ble_eq_true rfl), (Nat.le_of_ble_eq_true rfl)⟩) [0] [1] [1, 0] rfl rfl rfl rfl (by decide) (fun _ => rfl) rfl 0 10 rfl rfl rfl rfl (fun _ => rfl) rfl hl.1 (Nat.le_of_ble_eq_true rfl) dX6_lineAt_12 ⟨(Nat.zero_le _), (Nat.zero_le _)⟩ (fun as H locs hP hD hS => ?_)
  have hP : va_P D vwCl [(m0, .inr (10, [.ref q0, .ref q1, .ref q2, .int v3, .ref q4, .int v5, .int o1.2, .ref q7, .int v8, .ref q9, .int v10, .int v11, .int v12, .int v13, .int v14, .ref q15, .int v16])), (q7, .inl (cA 2, 90, .inl ln))] H := hP
  have hD : va_D A [(m0, .inr (10, [.ref q0, .ref q1, .ref q2, .int v3, .ref q4, .int v5, .int o1.2, .ref q7, .int v8, .ref q9, .int v10, .int v11, .int v12, .int v13, .int v14, .ref q15, .int v16])), (q7, .inl (cA 2, 90, .inl ln))] := hD
  refine lv_if_eq (tgt := 27) hx hb dX6_lineAt_15 (by decide) (fun c2 => ?_) (fun c2 => ?_)
  · have h := ite_t c2 h
    refine lv_bipush (v := 32) hx hb dX6_lineAt_27 (by decide) ?_
    have h := Option.some.inj h
    subst h
    exact hend (adr []) _ _ _ _ _ _ _ rfl rfl (rtn_n (x := 32) rfl) hP hD hS dX6_lineAt_29
  · have h := ite_f c2 h
    refine lv_aload_n hx hb dX6_lineAt_18 rfl (lv_at hl 0 rfl) ?_
    refine va_get (D := D) (ci := 10) (v := .ref q7) (C := RX6) (T := TX6) (N := 17) hx hb hts iX6_lineAt_X6 hfc hK hP 0 rfl rfl 7 (by decide) (hts (.fieldLink RX6 22 "BathtubTidesModel" "line" "[C") (List.mem_of_getElem? (i := 2) rfl)) (fun _ h9 => h9) rfl dX6_lineAt_19 ?_
    refine lv_iload_n hx hb dX6_lineAt_22 rfl (lv_at hl 1 rfl) ?_
    obtain ⟨g3, h⟩ := gd_i h
    refine va_cald hx hb hK hP 1 2 rfl rfl g3 dX6_lineAt_23 ?_
    refine lv_goto (tgt := 29) hx hb dX6_lineAt_24 (by decide) ?_
    obtain ⟨g4, h⟩ := gd_i h
    have h := Option.some.inj h
    subst h
    exact hend (adr []) _ _ _ _ _ _ _ rfl rfl (rtn_n g4) hP hD hS dX6_lineAt_29
noncomputable def LX6_meanLevel_9 (N : Nat) (ss : Nat → Int32) : Nat → Int32 → Int32 → Option (UInt64 × Int32)
  | 0, _, _ => none
  | fu + 1, x1_9, x2_9 => if 12 ≤ x2_9 then (gd (vf_n64 (FP.ddiv (FP.i2d x1_9) 4622945017495814144)) (some ((FP.ddiv (FP.i2d x1_9) 4622945017495814144, 0)))) else (bnd (SX6_level N ss x2_9) (fun o3 : Int32 => LX6_meanLevel_9 N ss fu (x1_9 + o3) (x2_9 + 1)))
noncomputable def SX6_meanLevel (N : Nat) (ss : Nat → Int32) : Option (UInt64 × Int32) := LX6_meanLevel_9 N ss N 0 0
theorem iX6_meanLevel_X6 : ∀ w ∈ wsX60, w ∈ wsX6_meanLevel := fun _ h => List.mem_cons_of_mem _ (List.mem_append_left _ (List.mem_append_left _ (List.mem_append_right _ h)))
abbrev RM_X6_meanLevel : Room := { frames := 6, cells := 0, slots := 0, locals := 140 }
set_option maxHeartbeats 4000000 in
theorem kX6_meanLevel (l : Launch) (D : va_G) (cA : Nat → ClassId) (m0 q0 q1 q2 q4 q7 q9 q15 : Nat) (N : Nat) (v3 : Int32) (v5 : Int32) (v6 : Int32) (v8 : Int32) (v10 : Int32) (v11 : Int32) (v12 : Int32) (v13 : Int32) (v14 : Int32) (v16 : Int32) (ss : Nat → Int32) {r : UInt64 × Int32} (hr : SX6_meanLevel N ss = some r) {sz : Nat} : Met l yX6_meanLevel wsX6_meanLevel RM_X6_meanLevel (va_Pc [.ref m0] (gqB D cA [(m0, .inr (10, [.ref q0, .ref q1, .ref q2, .int v3, .ref q4, .int v5, .int v6, .ref q7, .int v8, .ref q9, .int v10, .int v11, .int v12, .int v13, .int v14, .ref q15, .int v16])), (q0, .inl (cA 0, 60, .inl ss))] sz)) (gqQ D (fun as => (some (.double r.1))) (fun as => [(m0, .inr (10, [.ref q0, .ref q1, .ref q2, .int v3, .ref q4, .int v5, .int r.2, .ref q7, .int v8, .ref q9, .int v10, .int v11, .int v12, .int v13, .int v14, .ref q15, .int v16])), (q0, .inl (cA 0, 60, .inl ss))]) (va_A [(m0, .inr (10, [.ref q0, .ref q1, .ref q2, .int v3, .ref q4, .int v5, .int v6, .ref q7, .int v8, .ref q9, .int v10, .int v11, .int v12, .int v13, .int v14, .ref q15, .int v16])), (q0, .inl (cA 0, 60, .inl ss))] sz)) 0 0 (va_A [(m0, .inr (10, [.ref q0, .ref q1, .ref q2, .int v3, .ref q4, .int v5, .int v6, .ref q7, .int v8, .ref q9, .int v10, .int v11, .int v12, .int v13, .int v14, .ref q15, .int v16])), (q0, .inl (cA 0, 60, .inl ss))] sz) := by
  refine gq_ofW (cc := cX6_meanLevel) (maxL := 3) (ret := (some .double)) (by decide) rfl (Nat.le_of_ble_eq_true rfl) (fun p e s m args below meth c ls Q A hx hb hml hts hfc hmn hK hP hD hS hA hl hend => ?_)
  have hfc : s.vm.findClass RX6 = some m.cls := hfc
  have hl : lv_has ls 3 [(0, .ref m0)] := hl
  have h := hr
  clear hr
  unfold SX6_meanLevel at h
  refine lv_aload_n hx hb dX6_meanLevel_0 rfl (lv_at hl 0 rfl) ?_
  refine lv_iconst (v := 0) hx hb dX6_meanLevel_1 (by decide) ?_
  refine va_put (D := D) (ci := 10) (v := .int 0) (ty := .int) (C := RX6) (T := TX6) (N := 17) hx hb hts iX6_meanLevel_X6 tyX6 tyX6_ok nmX6 hfc hK hP hD hS 0 rfl rfl 6 (by decide) (hts (.fieldLink RX6 39 "BathtubTidesModel" "thrown" "I") (List.mem_of_getElem? (i := 1) rfl)) (fun _ h9 => h9) rfl (by decide +kernel) rfl rfl (Nat.le_of_ble_eq_true rfl) dX6_meanLevel_2 (fun H locs hP hD hS => ?_)
  have hP : va_P D vwCl [(m0, .inr (10, [.ref q0, .ref q1, .ref q2, .int v3, .ref q4, .int v5, .int 0, .ref q7, .int v8, .ref q9, .int v10, .int v11, .int v12, .int v13, .int v14, .ref q15, .int v16])), (q0, .inl (cA 0, 60, .inl ss))] H := hP
  have hD : va_D A [(m0, .inr (10, [.ref q0, .ref q1, .ref q2, .int v3, .ref q4, .int v5, .int 0, .ref q7, .int v8, .ref q9, .int v10, .int v11, .int v12, .int v13, .int v14, .ref q15, .int v16])), (q0, .inl (cA 0, 60, .inl ss))] := hD
  refine lv_iconst (v := 0) hx hb dX6_meanLevel_5 (by decide) ?_
  refine lv_istore_n hx hb dX6_meanLevel_6 rfl hl (Nat.le_of_ble_eq_true rfl) rfl (fun ls hl => ?_)
  have hl : lv_has ls 3 [(1, .int 0), (0, .ref m0)] := hl
  refine lv_iconst (v := 0) hx hb dX6_meanLevel_7 (by decide) ?_
  refine lv_istore_n hx hb dX6_meanLevel_8 rfl hl (Nat.le_of_ble_eq_true rfl) rfl (fun ls hl => ?_)
  have hl : lv_has ls 3 [(2, .int 0), (1, .int 0), (0, .ref m0)] := hl
  have hLX6_meanLevel_9 : ∀ (fu : Nat) (x1_9 : Int32) (x2_9 : Int32) (ls : Array Slot) (H : Heap) (locs : List Loc), lv_has ls 3 [(0, .ref m0), (1, .int x1_9), (2, .int x2_9)] → va_P D vwCl [(m0, .inr (10, [.ref q0, .ref q1, .ref q2, .int v3, .ref q4, .int v5, .int 0, .ref q7, .int v8, .ref q9, .int v10, .int v11, .int v12, .int v13, .int v14, .ref q15, .int v16])), (q0, .inl (cA 0, 60, .inl ss))] H → va_D A [(m0, .inr (10, [.ref q0, .ref q1, .ref q2, .int v3, .ref q4, .int v5, .int 0, .ref q7, .int v8, .ref q9, .int v10, .int v11, .int v12, .int v13, .int v14, .ref q15, .int v16])), (q0, .inl (cA 0, 60, .inl ss))] → va_S A s.heap H locs → LX6_meanLevel_9 N ss fu x1_9 x2_9 = some r → W p l e RM_X6_meanLevel s m args below meth c H locs 0 0 Q (F0 m 9 ls []) := by
    intro fu
    induction fu with
    | zero =>
      intro x1_9 x2_9 ls H locs hl hP hD hS h
      rw [LX6_meanLevel_9] at h
      exact nn h
    | succ fu ih =>
      intro x1_9 x2_9 ls H locs hl hP hD hS h
      rw [LX6_meanLevel_9] at h
      refine lv_iload_n hx hb dX6_meanLevel_9 rfl (lv_at hl 2 rfl) ?_
      refine lv_bipush (v := 12) hx hb dX6_meanLevel_10 (by decide) ?_
      refine lv_icmp_ge (tgt := 29) hx hb dX6_meanLevel_12 (by decide) (fun c1 => ?_) (fun c1 => ?_)
      · have h := ite_t c1 h
        refine lv_iload_n hx hb dX6_meanLevel_29 rfl (lv_at hl 1 rfl) ?_
        refine lv_i2d hx hb dX6_meanLevel_30 ?_
        refine lv_ldc2d (v := 4622945017495814144) hx hb hfc (hts (.constantDouble RX6 190 (4622945017495814144)) (List.mem_of_getElem? (i := 2) rfl)) dX6_meanLevel_31 ?_
        obtain ⟨g2, h⟩ := gd_i h
        refine lv_ddiv hx hb dX6_meanLevel_34 g2 ?_
        have h := Option.some.inj h
        subst h
        exact hend (adr []) _ _ _ _ _ _ _ rfl rfl (rtn_d _) hP hD hS dX6_meanLevel_35
      · have h := ite_f c1 h
        refine lv_iload_n hx hb dX6_meanLevel_15 rfl (lv_at hl 1 rfl) ?_
        refine lv_aload_n hx hb dX6_meanLevel_16 rfl (lv_at hl 0 rfl) ?_
        refine lv_iload_n hx hb dX6_meanLevel_17 rfl (lv_at hl 2 rfl) ?_
        obtain ⟨o3, ho3, h⟩ := bnd_i h
        refine rq_V (v := (some (.int o3))) (As := [.int x2_9]) (rest := [.int x1_9]) (wc := [(m0, .inr (10, [.ref q0, .ref q1, .ref q2, .int v3, .ref q4, .int v5, .int 0, .ref q7, .int v8, .ref q9, .int v10, .int v11, .int v12, .int v13, .int v14, .ref q15, .int v16])), (q0, .inl (cA 0, 60, .inl ss))]) ⟨hx, hb, hml, hfc, hts⟩ hK hP (kX6_level l D cA m0 q0 q1 q2 q4 q7 q9 q15 N v3 v5 0 v8 v10 v11 v12 v13 v14 v16 ss x2_9 ho3) (cwV 1 hts gX6_meanLevel_X6_level rfl rfl rfl (by decide +kernel) ⟨(Nat.le_of_ble_eq_true rfl), (Nat.le_of_ble_eq_true rfl)⟩) [0, 1] rfl 0 10 rfl rfl rfl rfl rfl rfl hl.1 (Nat.le_of_ble_eq_true rfl) dX6_meanLevel_18 ⟨(Nat.zero_le _), (Nat.zero_le _)⟩ ?_
        refine lv_iadd hx hb dX6_meanLevel_21 ?_
        refine lv_istore_n hx hb dX6_meanLevel_22 rfl hl (Nat.le_of_ble_eq_true rfl) rfl (fun ls hl => ?_)
        have hl : lv_has ls 3 [(1, .int (x1_9 + o3)), (0, .ref m0), (2, .int x2_9)] := hl
        refine lv_iinc (k := 2) (v := x2_9 + 1) hx hb dX6_meanLevel_23 hl rfl (congrArg (fun z => x2_9 + z) lit1) (Nat.le_of_ble_eq_true rfl) rfl (fun ls hl => ?_)
        have hl : lv_has ls 3 [(2, .int (x2_9 + 1)), (1, .int (x1_9 + o3)), (0, .ref m0)] := hl
        refine lv_goto (tgt := 9) hx hb dX6_meanLevel_26 (by decide) ?_
        exact ih (x1_9 + o3) (x2_9 + 1) _ _ _ (lv_sub hl [2, 1, 0] rfl) hP hD hS h
  exact hLX6_meanLevel_9 N 0 0 _ _ _ (lv_sub hl [2, 1, 0] rfl) hP hD hS h
noncomputable def LX6_eclipsedShare_24 (ss : Nat → Int32) (o2 : Int32) : Nat → Int32 → Int32 → Option (UInt32 × Int32)
  | 0, _, _ => none
  | fu + 1, x2_24, x3_24 => if (ss 0) ≤ x3_24 then (if o2 ≤ 0 then (gd (vf_n32 (FP.fdiv (FP.i2f x2_24) (FP.i2f (ss 0)))) (some ((FP.fdiv (FP.i2f x2_24) (FP.i2f (ss 0)), o2)))) else (some ((FP.fconst0, o2)))) else (bnd (SX6_isShaded ss x3_24 0) (fun o6 : Int32 => lt_ (if o6 = 0 then (0) else (1)) (fun o8 : Int32 => LX6_eclipsedShare_24 ss o2 fu (x2_24 + o8) (x3_24 + 1))))
noncomputable def SX6_eclipsedShare (N : Nat) (ss : Nat → Int32) : Option (UInt32 × Int32) := lt_ (if (ss 0) = 0 then (1) else (0)) (fun o2 : Int32 => LX6_eclipsedShare_24 ss o2 N 0 0)
theorem iX6_eclipsedShare_X6 : ∀ w ∈ wsX60, w ∈ wsX6_eclipsedShare := fun _ h => List.mem_cons_of_mem _ (List.mem_append_left _ (List.mem_append_left _ (List.mem_append_right _ h)))
abbrev RM_X6_eclipsedShare : Room := { frames := 4, cells := 0, slots := 0, locals := 91 }
set_option maxHeartbeats 4000000 in
theorem kX6_eclipsedShare (l : Launch) (D : va_G) (cA : Nat → ClassId) (m0 q0 q1 q2 q4 q7 q9 q15 : Nat) (N : Nat) (v3 : Int32) (v5 : Int32) (v6 : Int32) (v8 : Int32) (v10 : Int32) (v11 : Int32) (v12 : Int32) (v13 : Int32) (v14 : Int32) (v16 : Int32) (ss : Nat → Int32) {r : UInt32 × Int32} (hr : SX6_eclipsedShare N ss = some r) {sz : Nat} : Met l yX6_eclipsedShare wsX6_eclipsedShare RM_X6_eclipsedShare (va_Pc [.ref m0] (gqB D cA [(m0, .inr (10, [.ref q0, .ref q1, .ref q2, .int v3, .ref q4, .int v5, .int v6, .ref q7, .int v8, .ref q9, .int v10, .int v11, .int v12, .int v13, .int v14, .ref q15, .int v16])), (q0, .inl (cA 0, 60, .inl ss))] sz)) (gqQ D (fun as => (some (.float r.1))) (fun as => [(m0, .inr (10, [.ref q0, .ref q1, .ref q2, .int v3, .ref q4, .int v5, .int r.2, .ref q7, .int v8, .ref q9, .int v10, .int v11, .int v12, .int v13, .int v14, .ref q15, .int v16])), (q0, .inl (cA 0, 60, .inl ss))]) (va_A [(m0, .inr (10, [.ref q0, .ref q1, .ref q2, .int v3, .ref q4, .int v5, .int v6, .ref q7, .int v8, .ref q9, .int v10, .int v11, .int v12, .int v13, .int v14, .ref q15, .int v16])), (q0, .inl (cA 0, 60, .inl ss))] sz)) 0 0 (va_A [(m0, .inr (10, [.ref q0, .ref q1, .ref q2, .int v3, .ref q4, .int v5, .int v6, .ref q7, .int v8, .ref q9, .int v10, .int v11, .int v12, .int v13, .int v14, .ref q15, .int v16])), (q0, .inl (cA 0, 60, .inl ss))] sz) := by
  refine gq_ofW (cc := cX6_eclipsedShare) (maxL := 4) (ret := (some .float)) (by decide) rfl (Nat.le_of_ble_eq_true rfl) (fun p e s m args below meth c ls Q A hx hb hml hts hfc hmn hK hP hD hS hA hl hend => ?_)
  have hfc : s.vm.findClass RX6 = some m.cls := hfc
  have hl : lv_has ls 4 [(0, .ref m0)] := hl
  have h := hr
  clear hr
  unfold SX6_eclipsedShare at h
  refine lv_aload_n hx hb dX6_eclipsedShare_0 rfl (lv_at hl 0 rfl) ?_
  refine va_get (D := D) (ci := 10) (v := .ref q0) (C := RX6) (T := TX6) (N := 17) hx hb hts iX6_eclipsedShare_X6 hfc hK hP 0 rfl rfl 0 (by decide) (hts (.fieldLink RX6 9 "BathtubTidesModel" "s" "[I") (List.mem_of_getElem? (i := 1) rfl)) (fun _ h9 => h9) rfl dX6_eclipsedShare_1 ?_
  refine lv_iconst (v := 0) hx hb dX6_eclipsedShare_4 (by decide) ?_
  refine va_iald hx hb hK hP 1 0 rfl rfl (vin _ _ (by decide)) dX6_eclipsedShare_5 ?_
  refine lv_istore_n hx hb dX6_eclipsedShare_6 rfl hl (Nat.le_of_ble_eq_true rfl) rfl (fun ls hl => ?_)
  have hl : lv_has ls 4 [(1, .int (ss 0)), (0, .ref m0)] := hl
  refine lv_aload_n hx hb dX6_eclipsedShare_7 rfl (lv_at hl 1 rfl) ?_
  refine lv_iload_n hx hb dX6_eclipsedShare_8 rfl (lv_at hl 0 rfl) ?_
  obtain ⟨o2, ho2, h⟩ := lt_i h
  have ko2 : ∀ (ls : Array Slot) (H : Heap) (locs : List Loc), lv_has ls 4 [(0, .ref m0), (1, .int (ss 0))] → va_P D vwCl [(m0, .inr (10, [.ref q0, .ref q1, .ref q2, .int v3, .ref q4, .int v5, .int v6, .ref q7, .int v8, .ref q9, .int v10, .int v11, .int v12, .int v13, .int v14, .ref q15, .int v16])), (q0, .inl (cA 0, 60, .inl ss))] H → va_D A [(m0, .inr (10, [.ref q0, .ref q1, .ref q2, .int v3, .ref q4, .int v5, .int v6, .ref q7, .int v8, .ref q9, .int v10, .int v11, .int v12, .int v13, .int v14, .ref q15, .int v16])), (q0, .inl (cA 0, 60, .inl ss))] → va_S A s.heap H locs → W p l e RM_X6_eclipsedShare s m args below meth c H locs 0 0 Q (F0 m 17 ls [.int o2, .ref m0]) := by
    intro ls H locs hl hP hD hS
    refine va_put (D := D) (ci := 10) (v := .int o2) (ty := .int) (C := RX6) (T := TX6) (N := 17) hx hb hts iX6_eclipsedShare_X6 tyX6 tyX6_ok nmX6 hfc hK hP hD hS 0 rfl rfl 6 (by decide) (hts (.fieldLink RX6 39 "BathtubTidesModel" "thrown" "I") (List.mem_of_getElem? (i := 2) rfl)) (fun _ h9 => h9) rfl (by decide +kernel) rfl rfl (Nat.le_of_ble_eq_true rfl) dX6_eclipsedShare_17 (fun H locs hP hD hS => ?_)
    have hP : va_P D vwCl [(m0, .inr (10, [.ref q0, .ref q1, .ref q2, .int v3, .ref q4, .int v5, .int o2, .ref q7, .int v8, .ref q9, .int v10, .int v11, .int v12, .int v13, .int v14, .ref q15, .int v16])), (q0, .inl (cA 0, 60, .inl ss))] H := hP
    have hD : va_D A [(m0, .inr (10, [.ref q0, .ref q1, .ref q2, .int v3, .ref q4, .int v5, .int o2, .ref q7, .int v8, .ref q9, .int v10, .int v11, .int v12, .int v13, .int v14, .ref q15, .int v16])), (q0, .inl (cA 0, 60, .inl ss))] := hD
    refine lv_iconst (v := 0) hx hb dX6_eclipsedShare_20 (by decide) ?_
    refine lv_istore_n hx hb dX6_eclipsedShare_21 rfl hl (Nat.le_of_ble_eq_true rfl) rfl (fun ls hl => ?_)
    have hl : lv_has ls 4 [(2, .int 0), (0, .ref m0), (1, .int (ss 0))] := hl
    refine lv_iconst (v := 0) hx hb dX6_eclipsedShare_22 (by decide) ?_
    refine lv_istore_n hx hb dX6_eclipsedShare_23 rfl hl (Nat.le_of_ble_eq_true rfl) rfl (fun ls hl => ?_)
    have hl : lv_has ls 4 [(3, .int 0), (2, .int 0), (0, .ref m0), (1, .int (ss 0))] := hl
    have hLX6_eclipsedShare_24 : ∀ (fu : Nat) (x2_24 : Int32) (x3_24 : Int32) (ls : Array Slot) (H : Heap) (locs : List Loc), lv_has ls 4 [(0, .ref m0), (1, .int (ss 0)), (2, .int x2_24), (3, .int x3_24)] → va_P D vwCl [(m0, .inr (10, [.ref q0, .ref q1, .ref q2, .int v3, .ref q4, .int v5, .int o2, .ref q7, .int v8, .ref q9, .int v10, .int v11, .int v12, .int v13, .int v14, .ref q15, .int v16])), (q0, .inl (cA 0, 60, .inl ss))] H → va_D A [(m0, .inr (10, [.ref q0, .ref q1, .ref q2, .int v3, .ref q4, .int v5, .int o2, .ref q7, .int v8, .ref q9, .int v10, .int v11, .int v12, .int v13, .int v14, .ref q15, .int v16])), (q0, .inl (cA 0, 60, .inl ss))] → va_S A s.heap H locs → LX6_eclipsedShare_24 ss o2 fu x2_24 x3_24 = some r → W p l e RM_X6_eclipsedShare s m args below meth c H locs 0 0 Q (F0 m 24 ls []) := by
      intro fu
      induction fu with
      | zero =>
        intro x2_24 x3_24 ls H locs hl hP hD hS h
        rw [LX6_eclipsedShare_24] at h
        exact nn h
      | succ fu ih =>
        intro x2_24 x3_24 ls H locs hl hP hD hS h
        rw [LX6_eclipsedShare_24] at h
        refine lv_iload_n hx hb dX6_eclipsedShare_24 rfl (lv_at hl 3 rfl) ?_
        refine lv_iload_n hx hb dX6_eclipsedShare_25 rfl (lv_at hl 1 rfl) ?_
        refine lv_icmp_ge (tgt := 52) hx hb dX6_eclipsedShare_26 (by decide) (fun c3 => ?_) (fun c3 => ?_)
        · have h := ite_t c3 h
          refine lv_aload_n hx hb dX6_eclipsedShare_52 rfl (lv_at hl 0 rfl) ?_
          refine va_get (D := D) (ci := 10) (v := .int o2) (C := RX6) (T := TX6) (N := 17) hx hb hts iX6_eclipsedShare_X6 hfc hK hP 0 rfl rfl 6 (by decide) (hts (.fieldLink RX6 39 "BathtubTidesModel" "thrown" "I") (List.mem_of_getElem? (i := 2) rfl)) (fun _ h9 => h9) rfl dX6_eclipsedShare_53 ?_
          refine lv_if_le (tgt := 63) hx hb dX6_eclipsedShare_56 (by decide) (fun c4 => ?_) (fun c4 => ?_)
          · have h := ite_t c4 h
            refine lv_iload_n hx hb dX6_eclipsedShare_63 rfl (lv_at hl 2 rfl) ?_
            refine lv_i2f hx hb dX6_eclipsedShare_64 ?_
            refine lv_iload_n hx hb dX6_eclipsedShare_65 rfl (lv_at hl 1 rfl) ?_
            refine lv_i2f hx hb dX6_eclipsedShare_66 ?_
            obtain ⟨g5, h⟩ := gd_i h
            refine lv_fdiv hx hb dX6_eclipsedShare_67 g5 ?_
            have h := Option.some.inj h
            subst h
            exact hend (adr []) _ _ _ _ _ _ _ rfl rfl (rtn_f _) hP hD hS dX6_eclipsedShare_68
          · have h := ite_f c4 h
            refine lv_fconst0 hx hb dX6_eclipsedShare_59 ?_
            refine lv_goto (tgt := 68) hx hb dX6_eclipsedShare_60 (by decide) ?_
            have h := Option.some.inj h
            subst h
            exact hend (adr []) _ _ _ _ _ _ _ rfl rfl (rtn_f _) hP hD hS dX6_eclipsedShare_68
        · have h := ite_f c3 h
          refine lv_iload_n hx hb dX6_eclipsedShare_29 rfl (lv_at hl 2 rfl) ?_
          refine lv_aload_n hx hb dX6_eclipsedShare_30 rfl (lv_at hl 0 rfl) ?_
          refine lv_iload_n hx hb dX6_eclipsedShare_31 rfl (lv_at hl 3 rfl) ?_
          refine lv_iconst (v := 0) hx hb dX6_eclipsedShare_32 (by decide) ?_
          obtain ⟨o6, ho6, h⟩ := bnd_i h
          refine rq_V (v := (some (.int o6))) (As := [.int x3_24, .int 0]) (rest := [.int x2_24]) (wc := [(m0, .inr (10, [.ref q0, .ref q1, .ref q2, .int v3, .ref q4, .int v5, .int o2, .ref q7, .int v8, .ref q9, .int v10, .int v11, .int v12, .int v13, .int v14, .ref q15, .int v16])), (q0, .inl (cA 0, 60, .inl ss))]) ⟨hx, hb, hml, hfc, hts⟩ hK hP (kX6_isShaded l D cA m0 q0 q1 q2 q4 q7 q9 q15 v3 v5 o2 v8 v10 v11 v12 v13 v14 v16 ss x3_24 0 ho6) (cwV 2 hts gX6_eclipsedShare_X6_isShaded rfl rfl rfl (by decide +kernel) ⟨(Nat.le_of_ble_eq_true rfl), (Nat.le_of_ble_eq_true rfl)⟩) [0, 1] rfl 0 10 rfl rfl rfl rfl rfl rfl hl.1 (Nat.le_of_ble_eq_true rfl) dX6_eclipsedShare_33 ⟨(Nat.zero_le _), (Nat.zero_le _)⟩ ?_
          obtain ⟨o8, ho8, h⟩ := lt_i h
          have ko8 : ∀ (ls : Array Slot) (H : Heap) (locs : List Loc), lv_has ls 4 [(0, .ref m0), (1, .int (ss 0)), (2, .int x2_24), (3, .int x3_24)] → va_P D vwCl [(m0, .inr (10, [.ref q0, .ref q1, .ref q2, .int v3, .ref q4, .int v5, .int o2, .ref q7, .int v8, .ref q9, .int v10, .int v11, .int v12, .int v13, .int v14, .ref q15, .int v16])), (q0, .inl (cA 0, 60, .inl ss))] H → va_D A [(m0, .inr (10, [.ref q0, .ref q1, .ref q2, .int v3, .ref q4, .int v5, .int o2, .ref q7, .int v8, .ref q9, .int v10, .int v11, .int v12, .int v13, .int v14, .ref q15, .int v16])), (q0, .inl (cA 0, 60, .inl ss))] → va_S A s.heap H locs → W p l e RM_X6_eclipsedShare s m args below meth c H locs 0 0 Q (F0 m 44 ls [.int o8, .int x2_24]) := by
            intro ls H locs hl hP hD hS
            refine lv_iadd hx hb dX6_eclipsedShare_44 ?_
            refine lv_istore_n hx hb dX6_eclipsedShare_45 rfl hl (Nat.le_of_ble_eq_true rfl) rfl (fun ls hl => ?_)
            have hl : lv_has ls 4 [(2, .int (x2_24 + o8)), (0, .ref m0), (1, .int (ss 0)), (3, .int x3_24)] := hl
            refine lv_iinc (k := 3) (v := x3_24 + 1) hx hb dX6_eclipsedShare_46 hl rfl (congrArg (fun z => x3_24 + z) lit1) (Nat.le_of_ble_eq_true rfl) rfl (fun ls hl => ?_)
            have hl : lv_has ls 4 [(3, .int (x3_24 + 1)), (2, .int (x2_24 + o8)), (0, .ref m0), (1, .int (ss 0))] := hl
            refine lv_goto (tgt := 24) hx hb dX6_eclipsedShare_49 (by decide) ?_
            exact ih (x2_24 + o8) (x3_24 + 1) _ _ _ (lv_sub hl [2, 3, 1, 0] rfl) hP hD hS h
          clear h
          have h := ho8
          clear ho8
          refine lv_if_eq (tgt := 43) hx hb dX6_eclipsedShare_36 (by decide) (fun c7 => ?_) (fun c7 => ?_)
          · have h := ite_t c7 h
            refine lv_iconst (v := 0) hx hb dX6_eclipsedShare_43 (by decide) ?_
            subst h
            exact ko8 _ _ _ (lv_sub hl [0, 1, 2, 3] rfl) hP hD hS
          · have h := ite_f c7 h
            refine lv_iconst (v := 1) hx hb dX6_eclipsedShare_39 (by decide) ?_
            refine lv_goto (tgt := 44) hx hb dX6_eclipsedShare_40 (by decide) ?_
            subst h
            exact ko8 _ _ _ (lv_sub hl [0, 1, 2, 3] rfl) hP hD hS
    exact hLX6_eclipsedShare_24 N 0 0 _ _ _ (lv_sub hl [2, 3, 1, 0] rfl) hP hD hS h
  clear h
  have h := ho2
  clear ho2
  refine lv_if_ne (tgt := 16) hx hb dX6_eclipsedShare_9 (by decide) (fun c1 => ?_) (fun c1 => ?_)
  · have h := ite_f c1 h
    refine lv_iconst (v := 0) hx hb dX6_eclipsedShare_16 (by decide) ?_
    subst h
    exact ko2 _ _ _ (lv_sub hl [1, 0] rfl) hP hD hS
  · have h := ite_t c1 h
    refine lv_iconst (v := 1) hx hb dX6_eclipsedShare_12 (by decide) ?_
    refine lv_goto (tgt := 17) hx hb dX6_eclipsedShare_13 (by decide) ?_
    subst h
    exact ko2 _ _ _ (lv_sub hl [1, 0] rfl) hP hD hS
noncomputable def SX6_isBalanced : Int32 × Int32 := (1, 0)
theorem iX6_isBalanced_X6 : ∀ w ∈ wsX60, w ∈ wsX6_isBalanced := fun _ h => List.mem_cons_of_mem _ (List.mem_append_right _ h)
abbrev RM_X6_isBalanced : Room := { frames := 0, cells := 0, slots := 0, locals := 0 }
set_option maxHeartbeats 4000000 in
theorem kX6_isBalanced (l : Launch) (D : va_G) (cA : Nat → ClassId) (m0 q0 q1 q2 q4 q7 q9 q15 : Nat) (v3 : Int32) (v5 : Int32) (v6 : Int32) (v8 : Int32) (v10 : Int32) (v11 : Int32) (v12 : Int32) (v13 : Int32) (v14 : Int32) (v16 : Int32) (ss : Nat → Int32) {r : Int32 × Int32} (hr : SX6_isBalanced = r) {sz : Nat} : Met l yX6_isBalanced wsX6_isBalanced RM_X6_isBalanced (va_Pc [.ref m0] (gqB D cA [(m0, .inr (10, [.ref q0, .ref q1, .ref q2, .int v3, .ref q4, .int v5, .int v6, .ref q7, .int v8, .ref q9, .int v10, .int v11, .int v12, .int v13, .int v14, .ref q15, .int v16])), (q0, .inl (cA 0, 60, .inl ss))] sz)) (gqQ D (fun as => (some (.int r.1))) (fun as => [(m0, .inr (10, [.ref q0, .ref q1, .ref q2, .int v3, .ref q4, .int v5, .int r.2, .ref q7, .int v8, .ref q9, .int v10, .int v11, .int v12, .int v13, .int v14, .ref q15, .int v16])), (q0, .inl (cA 0, 60, .inl ss))]) (va_A [(m0, .inr (10, [.ref q0, .ref q1, .ref q2, .int v3, .ref q4, .int v5, .int v6, .ref q7, .int v8, .ref q9, .int v10, .int v11, .int v12, .int v13, .int v14, .ref q15, .int v16])), (q0, .inl (cA 0, 60, .inl ss))] sz)) 0 0 (va_A [(m0, .inr (10, [.ref q0, .ref q1, .ref q2, .int v3, .ref q4, .int v5, .int v6, .ref q7, .int v8, .ref q9, .int v10, .int v11, .int v12, .int v13, .int v14, .ref q15, .int v16])), (q0, .inl (cA 0, 60, .inl ss))] sz) := by
  refine gq_ofW (cc := cX6_isBalanced) (maxL := 1) (ret := (some .boolean)) (by decide) rfl (Nat.le_of_ble_eq_true rfl) (fun p e s m args below meth c ls Q A hx hb hml hts hfc hmn hK hP hD hS hA hl hend => ?_)
  have hfc : s.vm.findClass RX6 = some m.cls := hfc
  have hl : lv_has ls 1 [(0, .ref m0)] := hl
  have h := hr
  clear hr
  unfold SX6_isBalanced at h
  refine lv_aload_n hx hb dX6_isBalanced_0 rfl (lv_at hl 0 rfl) ?_
  refine lv_iconst (v := 0) hx hb dX6_isBalanced_1 (by decide) ?_
  refine va_put (D := D) (ci := 10) (v := .int 0) (ty := .int) (C := RX6) (T := TX6) (N := 17) hx hb hts iX6_isBalanced_X6 tyX6 tyX6_ok nmX6 hfc hK hP hD hS 0 rfl rfl 6 (by decide) (hts (.fieldLink RX6 39 "BathtubTidesModel" "thrown" "I") (List.mem_of_getElem? (i := 1) rfl)) (fun _ h9 => h9) rfl (by decide +kernel) rfl rfl (Nat.le_of_ble_eq_true rfl) dX6_isBalanced_2 (fun H locs hP hD hS => ?_)
  have hP : va_P D vwCl [(m0, .inr (10, [.ref q0, .ref q1, .ref q2, .int v3, .ref q4, .int v5, .int 0, .ref q7, .int v8, .ref q9, .int v10, .int v11, .int v12, .int v13, .int v14, .ref q15, .int v16])), (q0, .inl (cA 0, 60, .inl ss))] H := hP
  have hD : va_D A [(m0, .inr (10, [.ref q0, .ref q1, .ref q2, .int v3, .ref q4, .int v5, .int 0, .ref q7, .int v8, .ref q9, .int v10, .int v11, .int v12, .int v13, .int v14, .ref q15, .int v16])), (q0, .inl (cA 0, 60, .inl ss))] := hD
  refine lv_iconst (v := 1) hx hb dX6_isBalanced_5 (by decide) ?_
  subst h
  exact hend (adr []) _ _ _ _ _ _ _ rfl rfl (rtn_n (x := 1) rfl) hP hD hS dX6_isBalanced_6
noncomputable def SX6_type (v10 : Int32) (tx : Nat → Int32) (x1 : Int32) : Option (Int32 × (Nat → Int32) × Int32 × Int32) := lt_ (if (SX6_in x1 32 126) = 0 then (1) else (if v10 = 60 then (2) else (0))) (fun o2 : Int32 => if o2 ≤ 0 then (gd (vp_in v10 60) (some ((v10 + 1, upd tx (Int32.toNatClampNeg v10) (vp_nar .char x1), v10 + 1, o2)))) else (some ((0, tx, v10, o2))))
theorem iX6_type_X6 : ∀ w ∈ wsX60, w ∈ wsX6_type := fun _ h => List.mem_cons_of_mem _ (List.mem_append_left _ (List.mem_append_right _ h))
abbrev RM_X6_type : Room := { frames := 1, cells := 0, slots := 0, locals := 23 }
set_option maxHeartbeats 4000000 in
theorem kX6_type (l : Launch) (D : va_G) (cA : Nat → ClassId) (m0 q0 q1 q2 q4 q7 q9 q15 : Nat) (v3 : Int32) (v5 : Int32) (v6 : Int32) (v8 : Int32) (v10 : Int32) (v11 : Int32) (v12 : Int32) (v13 : Int32) (v14 : Int32) (v16 : Int32) (tx : Nat → Int32) (x1 : Int32) {r : Int32 × (Nat → Int32) × Int32 × Int32} (hr : SX6_type v10 tx x1 = some r) {sz : Nat} : Met l yX6_type wsX6_type RM_X6_type (va_Pc [.ref m0, .int x1] (gqB D cA [(m0, .inr (10, [.ref q0, .ref q1, .ref q2, .int v3, .ref q4, .int v5, .int v6, .ref q7, .int v8, .ref q9, .int v10, .int v11, .int v12, .int v13, .int v14, .ref q15, .int v16])), (q9, .inl (cA 2, 60, .inl tx))] sz)) (gqQ D (fun as => (some (.int r.1))) (fun as => [(m0, .inr (10, [.ref q0, .ref q1, .ref q2, .int v3, .ref q4, .int v5, .int r.2.2.2, .ref q7, .int v8, .ref q9, .int r.2.2.1, .int v11, .int v12, .int v13, .int v14, .ref q15, .int v16])), (q9, .inl (cA 2, 60, .inl r.2.1))]) (va_A [(m0, .inr (10, [.ref q0, .ref q1, .ref q2, .int v3, .ref q4, .int v5, .int v6, .ref q7, .int v8, .ref q9, .int v10, .int v11, .int v12, .int v13, .int v14, .ref q15, .int v16])), (q9, .inl (cA 2, 60, .inl tx))] sz)) 0 0 (va_A [(m0, .inr (10, [.ref q0, .ref q1, .ref q2, .int v3, .ref q4, .int v5, .int v6, .ref q7, .int v8, .ref q9, .int v10, .int v11, .int v12, .int v13, .int v14, .ref q15, .int v16])), (q9, .inl (cA 2, 60, .inl tx))] sz) := by
  refine gq_ofW (cc := cX6_type) (maxL := 2) (ret := (some .int)) (by decide) rfl (Nat.le_of_ble_eq_true rfl) (fun p e s m args below meth c ls Q A hx hb hml hts hfc hmn hK hP hD hS hA hl hend => ?_)
  have hfc : s.vm.findClass RX6 = some m.cls := hfc
  have hl : lv_has ls 2 [(0, .ref m0), (1, .int x1)] := hl
  have h := hr
  clear hr
  unfold SX6_type at h
  refine lv_aload_n hx hb dX6_type_0 rfl (lv_at hl 0 rfl) ?_
  refine lv_iload_n hx hb dX6_type_1 rfl (lv_at hl 1 rfl) ?_
  refine lv_bipush (v := 32) hx hb dX6_type_2 (by decide) ?_
  refine lv_bipush (v := 126) hx hb dX6_type_4 (by decide) ?_
  refine rq_S (v := (some (.int (SX6_in x1 32 126)))) (As := [.int x1, .int 32, .int 126]) (rest := [.ref m0]) (wc := []) ⟨hx, hb, hml, hfc, hts⟩ hK hP (kX6_in l D cA x1 32 126 rfl) (va_cwS 3 hts gX6_type_X6_in rfl rfl rfl (by decide +kernel) ⟨(Nat.le_of_ble_eq_true rfl), (Nat.le_of_ble_eq_true rfl)⟩) [] rfl rfl rfl rfl hl.1 (Nat.le_of_ble_eq_true rfl) dX6_type_6 ⟨(Nat.zero_le _), (Nat.zero_le _)⟩ ?_
  obtain ⟨o2, ho2, h⟩ := lt_i h
  have ko2 : ∀ (ls : Array Slot) (H : Heap) (locs : List Loc), lv_has ls 2 [(0, .ref m0), (1, .int x1)] → va_P D vwCl [(m0, .inr (10, [.ref q0, .ref q1, .ref q2, .int v3, .ref q4, .int v5, .int v6, .ref q7, .int v8, .ref q9, .int v10, .int v11, .int v12, .int v13, .int v14, .ref q15, .int v16])), (q9, .inl (cA 2, 60, .inl tx))] H → va_D A [(m0, .inr (10, [.ref q0, .ref q1, .ref q2, .int v3, .ref q4, .int v5, .int v6, .ref q7, .int v8, .ref q9, .int v10, .int v11, .int v12, .int v13, .int v14, .ref q15, .int v16])), (q9, .inl (cA 2, 60, .inl tx))] → va_S A s.heap H locs → W p l e RM_X6_type s m args below meth c H locs 0 0 Q (F0 m 30 ls [.int o2, .ref m0]) := by
    intro ls H locs hl hP hD hS
    refine va_put (D := D) (ci := 10) (v := .int o2) (ty := .int) (C := RX6) (T := TX6) (N := 17) hx hb hts iX6_type_X6 tyX6 tyX6_ok nmX6 hfc hK hP hD hS 0 rfl rfl 6 (by decide) (hts (.fieldLink RX6 39 "BathtubTidesModel" "thrown" "I") (List.mem_of_getElem? (i := 2) rfl)) (fun _ h9 => h9) rfl (by decide +kernel) rfl rfl (Nat.le_of_ble_eq_true rfl) dX6_type_30 (fun H locs hP hD hS => ?_)
    have hP : va_P D vwCl [(m0, .inr (10, [.ref q0, .ref q1, .ref q2, .int v3, .ref q4, .int v5, .int o2, .ref q7, .int v8, .ref q9, .int v10, .int v11, .int v12, .int v13, .int v14, .ref q15, .int v16])), (q9, .inl (cA 2, 60, .inl tx))] H := hP
    have hD : va_D A [(m0, .inr (10, [.ref q0, .ref q1, .ref q2, .int v3, .ref q4, .int v5, .int o2, .ref q7, .int v8, .ref q9, .int v10, .int v11, .int v12, .int v13, .int v14, .ref q15, .int v16])), (q9, .inl (cA 2, 60, .inl tx))] := hD
    refine lv_aload_n hx hb dX6_type_33 rfl (lv_at hl 0 rfl) ?_
    refine va_get (D := D) (ci := 10) (v := .int o2) (C := RX6) (T := TX6) (N := 17) hx hb hts iX6_type_X6 hfc hK hP 0 rfl rfl 6 (by decide) (hts (.fieldLink RX6 39 "BathtubTidesModel" "thrown" "I") (List.mem_of_getElem? (i := 2) rfl)) (fun _ h9 => h9) rfl dX6_type_34 ?_
    refine lv_if_le (tgt := 42) hx hb dX6_type_37 (by decide) (fun c4 => ?_) (fun c4 => ?_)
    · have h := ite_t c4 h
      refine lv_aload_n hx hb dX6_type_42 rfl (lv_at hl 0 rfl) ?_
      refine va_get (D := D) (ci := 10) (v := .ref q9) (C := RX6) (T := TX6) (N := 17) hx hb hts iX6_type_X6 hfc hK hP 0 rfl rfl 9 (by decide) (hts (.fieldLink RX6 26 "BathtubTidesModel" "text" "[C") (List.mem_of_getElem? (i := 3) rfl)) (fun _ h9 => h9) rfl dX6_type_43 ?_
      refine lv_aload_n hx hb dX6_type_46 rfl (lv_at hl 0 rfl) ?_
      refine va_get (D := D) (ci := 10) (v := .int v10) (C := RX6) (T := TX6) (N := 17) hx hb hts iX6_type_X6 hfc hK hP 0 rfl rfl 10 (by decide) (hts (.fieldLink RX6 192 "BathtubTidesModel" "length" "I") (List.mem_of_getElem? (i := 1) rfl)) (fun _ h9 => h9) rfl dX6_type_47 ?_
      refine lv_iload_n hx hb dX6_type_50 rfl (lv_at hl 1 rfl) ?_
      obtain ⟨g5, h⟩ := gd_i h
      refine va_cast hx hb hK hP hD hS 1 2 rfl rfl g5 dX6_type_51 (fun H locs hP hD hS => ?_)
      have hP : va_P D vwCl [(m0, .inr (10, [.ref q0, .ref q1, .ref q2, .int v3, .ref q4, .int v5, .int o2, .ref q7, .int v8, .ref q9, .int v10, .int v11, .int v12, .int v13, .int v14, .ref q15, .int v16])), (q9, .inl (cA 2, 60, .inl (upd tx (Int32.toNatClampNeg v10) (vp_nar .char x1))))] H := hP
      have hD : va_D A [(m0, .inr (10, [.ref q0, .ref q1, .ref q2, .int v3, .ref q4, .int v5, .int o2, .ref q7, .int v8, .ref q9, .int v10, .int v11, .int v12, .int v13, .int v14, .ref q15, .int v16])), (q9, .inl (cA 2, 60, .inl (upd tx (Int32.toNatClampNeg v10) (vp_nar .char x1))))] := hD
      refine lv_aload_n hx hb dX6_type_52 rfl (lv_at hl 0 rfl) ?_
      refine lv_dup hx hb dX6_type_53 rfl ?_
      refine va_get (D := D) (ci := 10) (v := .int v10) (C := RX6) (T := TX6) (N := 17) hx hb hts iX6_type_X6 hfc hK hP 0 rfl rfl 10 (by decide) (hts (.fieldLink RX6 192 "BathtubTidesModel" "length" "I") (List.mem_of_getElem? (i := 1) rfl)) (fun _ h9 => h9) rfl dX6_type_54 ?_
      refine lv_iconst (v := 1) hx hb dX6_type_57 (by decide) ?_
      refine lv_iadd hx hb dX6_type_58 ?_
      refine va_put (D := D) (ci := 10) (v := .int (v10 + 1)) (ty := .int) (C := RX6) (T := TX6) (N := 17) hx hb hts iX6_type_X6 tyX6 tyX6_ok nmX6 hfc hK hP hD hS 0 rfl rfl 10 (by decide) (hts (.fieldLink RX6 192 "BathtubTidesModel" "length" "I") (List.mem_of_getElem? (i := 1) rfl)) (fun _ h9 => h9) rfl (by decide +kernel) rfl rfl (Nat.le_of_ble_eq_true rfl) dX6_type_59 (fun H locs hP hD hS => ?_)
      have hP : va_P D vwCl [(m0, .inr (10, [.ref q0, .ref q1, .ref q2, .int v3, .ref q4, .int v5, .int o2, .ref q7, .int v8, .ref q9, .int (v10 + 1), .int v11, .int v12, .int v13, .int v14, .ref q15, .int v16])), (q9, .inl (cA 2, 60, .inl (upd tx (Int32.toNatClampNeg v10) (vp_nar .char x1))))] H := hP
      have hD : va_D A [(m0, .inr (10, [.ref q0, .ref q1, .ref q2, .int v3, .ref q4, .int v5, .int o2, .ref q7, .int v8, .ref q9, .int (v10 + 1), .int v11, .int v12, .int v13, .int v14, .ref q15, .int v16])), (q9, .inl (cA 2, 60, .inl (upd tx (Int32.toNatClampNeg v10) (vp_nar .char x1))))] := hD
      refine lv_aload_n hx hb dX6_type_62 rfl (lv_at hl 0 rfl) ?_
      refine va_get (D := D) (ci := 10) (v := .int (v10 + 1)) (C := RX6) (T := TX6) (N := 17) hx hb hts iX6_type_X6 hfc hK hP 0 rfl rfl 10 (by decide) (hts (.fieldLink RX6 192 "BathtubTidesModel" "length" "I") (List.mem_of_getElem? (i := 1) rfl)) (fun _ h9 => h9) rfl dX6_type_63 ?_
      have h := Option.some.inj h
      subst h
      exact hend (adr []) _ _ _ _ _ _ _ rfl rfl (rtn_i _) hP hD hS dX6_type_66
    · have h := ite_f c4 h
      refine lv_iconst (v := 0) hx hb dX6_type_40 (by decide) ?_
      have h := Option.some.inj h
      subst h
      exact hend (adr []) _ _ _ _ _ _ _ rfl rfl (rtn_i _) hP hD hS dX6_type_41
  clear h
  have h := ho2
  clear ho2
  refine lv_if_ne (tgt := 16) hx hb dX6_type_9 (by decide) (fun c1 => ?_) (fun c1 => ?_)
  · have h := ite_f c1 h
    refine lv_aload_n hx hb dX6_type_16 rfl (lv_at hl 0 rfl) ?_
    refine va_get (D := D) (ci := 10) (v := .int v10) (C := RX6) (T := TX6) (N := 17) hx hb hts iX6_type_X6 hfc hK hP 0 rfl rfl 10 (by decide) (hts (.fieldLink RX6 192 "BathtubTidesModel" "length" "I") (List.mem_of_getElem? (i := 1) rfl)) (fun _ h9 => h9) rfl dX6_type_17 ?_
    refine lv_bipush (v := 60) hx hb dX6_type_20 (by decide) ?_
    refine lv_icmp_ne (tgt := 29) hx hb dX6_type_22 (by decide) (fun c3 => ?_) (fun c3 => ?_)
    · have h := ite_f c3 h
      refine lv_iconst (v := 0) hx hb dX6_type_29 (by decide) ?_
      subst h
      exact ko2 _ _ _ (lv_sub hl [0, 1] rfl) hP hD hS
    · have h := ite_t c3 h
      refine lv_iconst (v := 2) hx hb dX6_type_25 (by decide) ?_
      refine lv_goto (tgt := 30) hx hb dX6_type_26 (by decide) ?_
      subst h
      exact ko2 _ _ _ (lv_sub hl [0, 1] rfl) hP hD hS
  · have h := ite_t c1 h
    refine lv_iconst (v := 1) hx hb dX6_type_12 (by decide) ?_
    refine lv_goto (tgt := 30) hx hb dX6_type_13 (by decide) ?_
    subst h
    exact ko2 _ _ _ (lv_sub hl [0, 1] rfl) hP hD hS
noncomputable def SX6_behind (v10 : Int32) (v11 : Int32) (tx : Nat → Int32) (x1 : Int32) : Option (Int32) := if v10 ≤ (v11 + x1) then (some (0)) else (gd (vp_in (v11 + x1) 60) (gd (narrow .char (.int (tx (Int32.toNatClampNeg (v11 + x1)))) = .int (tx (Int32.toNatClampNeg (v11 + x1)))) (some (tx (Int32.toNatClampNeg (v11 + x1))))))
theorem iX6_behind_X6 : ∀ w ∈ wsX60, w ∈ wsX6_behind := fun _ h => List.mem_cons_of_mem _ (List.mem_append_left _ (List.mem_append_right _ h))
abbrev RM_X6_behind : Room := { frames := 0, cells := 0, slots := 0, locals := 0 }
set_option maxHeartbeats 4000000 in
theorem kX6_behind (l : Launch) (D : va_G) (cA : Nat → ClassId) (m0 q0 q1 q2 q4 q7 q9 q15 : Nat) (v3 : Int32) (v5 : Int32) (v6 : Int32) (v8 : Int32) (v10 : Int32) (v11 : Int32) (v12 : Int32) (v13 : Int32) (v14 : Int32) (v16 : Int32) (tx : Nat → Int32) (x1 : Int32) {r : Int32} (hr : SX6_behind v10 v11 tx x1 = some r) : Met l yX6_behind wsX6_behind RM_X6_behind (va_Pc [.ref m0, .int x1] (rqB D cA [(m0, .inr (10, [.ref q0, .ref q1, .ref q2, .int v3, .ref q4, .int v5, .int v6, .ref q7, .int v8, .ref q9, .int v10, .int v11, .int v12, .int v13, .int v14, .ref q15, .int v16])), (q9, .inl (cA 2, 60, .inl tx))])) (rqQ (some (.int r))) 0 0 (fun _ => False) := by
  refine rq_ofW (cc := cX6_behind) (maxL := 2) (ret := (some .char)) (by decide) rfl (Nat.le_of_ble_eq_true rfl) (fun p e s m args below meth c ls Q hx hb hml hts hfc hK hP hl hend => ?_)
  have hfc : s.vm.findClass RX6 = some m.cls := hfc
  have hl : lv_has ls 2 [(0, .ref m0), (1, .int x1)] := hl
  have h := hr
  clear hr
  unfold SX6_behind at h
  refine lv_aload_n hx hb dX6_behind_0 rfl (lv_at hl 0 rfl) ?_
  refine va_get (D := D) (ci := 10) (v := .int v11) (C := RX6) (T := TX6) (N := 17) hx hb hts iX6_behind_X6 hfc hK hP 0 rfl rfl 11 (by decide) (hts (.fieldLink RX6 195 "BathtubTidesModel" "at" "I") (List.mem_of_getElem? (i := 1) rfl)) (fun _ h9 => h9) rfl dX6_behind_1 ?_
  refine lv_iload_n hx hb dX6_behind_4 rfl (lv_at hl 1 rfl) ?_
  refine lv_iadd hx hb dX6_behind_5 ?_
  refine lv_aload_n hx hb dX6_behind_6 rfl (lv_at hl 0 rfl) ?_
  refine va_get (D := D) (ci := 10) (v := .int v10) (C := RX6) (T := TX6) (N := 17) hx hb hts iX6_behind_X6 hfc hK hP 0 rfl rfl 10 (by decide) (hts (.fieldLink RX6 192 "BathtubTidesModel" "length" "I") (List.mem_of_getElem? (i := 2) rfl)) (fun _ h9 => h9) rfl dX6_behind_7 ?_
  refine lv_icmp_ge (tgt := 27) hx hb dX6_behind_10 (by decide) (fun c1 => ?_) (fun c1 => ?_)
  · have h := ite_t c1 h
    refine lv_iconst (v := 0) hx hb dX6_behind_27 (by decide) ?_
    have h := Option.some.inj h
    subst h
    exact hend _ _ _ _ rfl (rtn_n (x := 0) rfl) dX6_behind_28
  · have h := ite_f c1 h
    refine lv_aload_n hx hb dX6_behind_13 rfl (lv_at hl 0 rfl) ?_
    refine va_get (D := D) (ci := 10) (v := .ref q9) (C := RX6) (T := TX6) (N := 17) hx hb hts iX6_behind_X6 hfc hK hP 0 rfl rfl 9 (by decide) (hts (.fieldLink RX6 26 "BathtubTidesModel" "text" "[C") (List.mem_of_getElem? (i := 3) rfl)) (fun _ h9 => h9) rfl dX6_behind_14 ?_
    refine lv_aload_n hx hb dX6_behind_17 rfl (lv_at hl 0 rfl) ?_
    refine va_get (D := D) (ci := 10) (v := .int v11) (C := RX6) (T := TX6) (N := 17) hx hb hts iX6_behind_X6 hfc hK hP 0 rfl rfl 11 (by decide) (hts (.fieldLink RX6 195 "BathtubTidesModel" "at" "I") (List.mem_of_getElem? (i := 1) rfl)) (fun _ h9 => h9) rfl dX6_behind_18 ?_
    refine lv_iload_n hx hb dX6_behind_21 rfl (lv_at hl 1 rfl) ?_
    refine lv_iadd hx hb dX6_behind_22 ?_
    obtain ⟨g2, h⟩ := gd_i h
    refine va_cald hx hb hK hP 1 2 rfl rfl g2 dX6_behind_23 ?_
    refine lv_goto (tgt := 28) hx hb dX6_behind_24 (by decide) ?_
    obtain ⟨g3, h⟩ := gd_i h
    have h := Option.some.inj h
    subst h
    exact hend _ _ _ _ rfl (rtn_n g3) dX6_behind_28
noncomputable def SX6_isDigit (v10 : Int32) (v11 : Int32) (v12 : Int32) (tx : Nat → Int32) : Option (Int32) := if v12 = 0 then (bnd (SX6_behind v10 v11 tx 0) (fun o2 : Int32 => if (SX6_in o2 48 57) = 0 then (some (0)) else (some (1)))) else (some (0))
theorem iX6_isDigit_X6 : ∀ w ∈ wsX60, w ∈ wsX6_isDigit := fun _ h => List.mem_cons_of_mem _ (List.mem_append_left _ (List.mem_append_right _ h))
abbrev RM_X6_isDigit : Room := { frames := 1, cells := 0, slots := 0, locals := 22 }
set_option maxHeartbeats 4000000 in
theorem kX6_isDigit (l : Launch) (D : va_G) (cA : Nat → ClassId) (m0 q0 q1 q2 q4 q7 q9 q15 : Nat) (v3 : Int32) (v5 : Int32) (v6 : Int32) (v8 : Int32) (v10 : Int32) (v11 : Int32) (v12 : Int32) (v13 : Int32) (v14 : Int32) (v16 : Int32) (tx : Nat → Int32) {r : Int32} (hr : SX6_isDigit v10 v11 v12 tx = some r) : Met l yX6_isDigit wsX6_isDigit RM_X6_isDigit (va_Pc [.ref m0] (rqB D cA [(m0, .inr (10, [.ref q0, .ref q1, .ref q2, .int v3, .ref q4, .int v5, .int v6, .ref q7, .int v8, .ref q9, .int v10, .int v11, .int v12, .int v13, .int v14, .ref q15, .int v16])), (q9, .inl (cA 2, 60, .inl tx))])) (rqQ (some (.int r))) 0 0 (fun _ => False) := by
  refine rq_ofW (cc := cX6_isDigit) (maxL := 1) (ret := (some .boolean)) (by decide) rfl (Nat.le_of_ble_eq_true rfl) (fun p e s m args below meth c ls Q hx hb hml hts hfc hK hP hl hend => ?_)
  have hfc : s.vm.findClass RX6 = some m.cls := hfc
  have hl : lv_has ls 1 [(0, .ref m0)] := hl
  have h := hr
  clear hr
  unfold SX6_isDigit at h
  refine lv_aload_n hx hb dX6_isDigit_0 rfl (lv_at hl 0 rfl) ?_
  refine va_get (D := D) (ci := 10) (v := .int v12) (C := RX6) (T := TX6) (N := 17) hx hb hts iX6_isDigit_X6 hfc hK hP 0 rfl rfl 12 (by decide) (hts (.fieldLink RX6 202 "BathtubTidesModel" "isWrong" "Z") (List.mem_of_getElem? (i := 1) rfl)) (fun _ h9 => h9) rfl dX6_isDigit_1 ?_
  refine lv_if_ne (tgt := 26) hx hb dX6_isDigit_4 (by decide) (fun c1 => ?_) (fun c1 => ?_)
  · have h := ite_f c1 h
    refine lv_iconst (v := 0) hx hb dX6_isDigit_26 (by decide) ?_
    have h := Option.some.inj h
    subst h
    exact hend _ _ _ _ rfl (rtn_n (x := 0) rfl) dX6_isDigit_27
  · have h := ite_t c1 h
    refine lv_aload_n hx hb dX6_isDigit_7 rfl (lv_at hl 0 rfl) ?_
    refine lv_iconst (v := 0) hx hb dX6_isDigit_8 (by decide) ?_
    obtain ⟨o2, ho2, h⟩ := bnd_i h
    refine rq_V (v := (some (.int o2))) (As := [.int 0]) (rest := []) (wc := [(m0, .inr (10, [.ref q0, .ref q1, .ref q2, .int v3, .ref q4, .int v5, .int v6, .ref q7, .int v8, .ref q9, .int v10, .int v11, .int v12, .int v13, .int v14, .ref q15, .int v16])), (q9, .inl (cA 2, 60, .inl tx))]) ⟨hx, hb, hml, hfc, hts⟩ hK hP (kX6_behind l D cA m0 q0 q1 q2 q4 q7 q9 q15 v3 v5 v6 v8 v10 v11 v12 v13 v14 v16 tx 0 ho2) (cwV 1 hts gX6_isDigit_X6_behind rfl rfl rfl (by decide +kernel) ⟨(Nat.le_of_ble_eq_true rfl), (Nat.le_of_ble_eq_true rfl)⟩) [0, 1] rfl 0 10 rfl rfl rfl rfl rfl rfl hl.1 (Nat.le_of_ble_eq_true rfl) dX6_isDigit_9 ⟨(Nat.zero_le _), (Nat.zero_le _)⟩ ?_
    refine lv_bipush (v := 48) hx hb dX6_isDigit_12 (by decide) ?_
    refine lv_bipush (v := 57) hx hb dX6_isDigit_14 (by decide) ?_
    refine rq_S (v := (some (.int (SX6_in o2 48 57)))) (As := [.int o2, .int 48, .int 57]) (rest := []) (wc := []) ⟨hx, hb, hml, hfc, hts⟩ hK hP (kX6_in l D cA o2 48 57 rfl) (va_cwS 3 hts gX6_isDigit_X6_in rfl rfl rfl (by decide +kernel) ⟨(Nat.le_of_ble_eq_true rfl), (Nat.le_of_ble_eq_true rfl)⟩) [] rfl rfl rfl rfl hl.1 (Nat.le_of_ble_eq_true rfl) dX6_isDigit_16 ⟨(Nat.zero_le _), (Nat.zero_le _)⟩ ?_
    refine lv_if_eq (tgt := 26) hx hb dX6_isDigit_19 (by decide) (fun c3 => ?_) (fun c3 => ?_)
    · have h := ite_t c3 h
      refine lv_iconst (v := 0) hx hb dX6_isDigit_26 (by decide) ?_
      have h := Option.some.inj h
      subst h
      exact hend _ _ _ _ rfl (rtn_n (x := 0) rfl) dX6_isDigit_27
    · have h := ite_f c3 h
      refine lv_iconst (v := 1) hx hb dX6_isDigit_22 (by decide) ?_
      refine lv_goto (tgt := 27) hx hb dX6_isDigit_23 (by decide) ?_
      have h := Option.some.inj h
      subst h
      exact hend _ _ _ _ rfl (rtn_n (x := 1) rfl) dX6_isDigit_27
noncomputable def SX6_digit (v10 : Int32) (v11 : Int32) (v12 : Int32) (tx : Nat → Int32) : Option (Int32 × Int32 × Int32) := bnd (if v12 = 0 then (bnd (SX6_isDigit v10 v11 v12 tx) (fun o3 : Int32 => if o3 = 0 then (some (1)) else (some (0)))) else (some (1))) (fun o2 : Int32 => gd (narrow .boolean (.int o2) = .int o2 ∧ fits .boolean (.int o2) = true) (if o2 = 0 then (gd (vp_in ((v11 + 1) - 1) 60) (some (((tx (Int32.toNatClampNeg ((v11 + 1) - 1))) - 48, v11 + 1, o2)))) else (some ((0, v11, o2)))))
theorem iX6_digit_X6 : ∀ w ∈ wsX60, w ∈ wsX6_digit := fun _ h => List.mem_cons_of_mem _ (List.mem_append_left _ (List.mem_append_right _ h))
abbrev RM_X6_digit : Room := { frames := 2, cells := 0, slots := 0, locals := 43 }
set_option maxHeartbeats 4000000 in
theorem kX6_digit (l : Launch) (D : va_G) (cA : Nat → ClassId) (m0 q0 q1 q2 q4 q7 q9 q15 : Nat) (v3 : Int32) (v5 : Int32) (v6 : Int32) (v8 : Int32) (v10 : Int32) (v11 : Int32) (v12 : Int32) (v13 : Int32) (v14 : Int32) (v16 : Int32) (tx : Nat → Int32) {r : Int32 × Int32 × Int32} (hr : SX6_digit v10 v11 v12 tx = some r) {sz : Nat} : Met l yX6_digit wsX6_digit RM_X6_digit (va_Pc [.ref m0] (gqB D cA [(m0, .inr (10, [.ref q0, .ref q1, .ref q2, .int v3, .ref q4, .int v5, .int v6, .ref q7, .int v8, .ref q9, .int v10, .int v11, .int v12, .int v13, .int v14, .ref q15, .int v16])), (q9, .inl (cA 2, 60, .inl tx))] sz)) (gqQ D (fun as => (some (.int r.1))) (fun as => [(m0, .inr (10, [.ref q0, .ref q1, .ref q2, .int v3, .ref q4, .int v5, .int v6, .ref q7, .int v8, .ref q9, .int v10, .int r.2.1, .int r.2.2, .int v13, .int v14, .ref q15, .int v16])), (q9, .inl (cA 2, 60, .inl tx))]) (va_A [(m0, .inr (10, [.ref q0, .ref q1, .ref q2, .int v3, .ref q4, .int v5, .int v6, .ref q7, .int v8, .ref q9, .int v10, .int v11, .int v12, .int v13, .int v14, .ref q15, .int v16])), (q9, .inl (cA 2, 60, .inl tx))] sz)) 0 0 (va_A [(m0, .inr (10, [.ref q0, .ref q1, .ref q2, .int v3, .ref q4, .int v5, .int v6, .ref q7, .int v8, .ref q9, .int v10, .int v11, .int v12, .int v13, .int v14, .ref q15, .int v16])), (q9, .inl (cA 2, 60, .inl tx))] sz) := by
  refine gq_ofW (cc := cX6_digit) (maxL := 1) (ret := (some .int)) (by decide) rfl (Nat.le_of_ble_eq_true rfl) (fun p e s m args below meth c ls Q A hx hb hml hts hfc hmn hK hP hD hS hA hl hend => ?_)
  have hfc : s.vm.findClass RX6 = some m.cls := hfc
  have hl : lv_has ls 1 [(0, .ref m0)] := hl
  have h := hr
  clear hr
  unfold SX6_digit at h
  refine lv_aload_n hx hb dX6_digit_0 rfl (lv_at hl 0 rfl) ?_
  refine lv_aload_n hx hb dX6_digit_1 rfl (lv_at hl 0 rfl) ?_
  refine va_get (D := D) (ci := 10) (v := .int v12) (C := RX6) (T := TX6) (N := 17) hx hb hts iX6_digit_X6 hfc hK hP 0 rfl rfl 12 (by decide) (hts (.fieldLink RX6 202 "BathtubTidesModel" "isWrong" "Z") (List.mem_of_getElem? (i := 1) rfl)) (fun _ h9 => h9) rfl dX6_digit_2 ?_
  obtain ⟨o2, ho2, h⟩ := bnd_i h
  have ko2 : ∀ (ls : Array Slot) (H : Heap) (locs : List Loc), lv_has ls 1 [(0, .ref m0)] → va_P D vwCl [(m0, .inr (10, [.ref q0, .ref q1, .ref q2, .int v3, .ref q4, .int v5, .int v6, .ref q7, .int v8, .ref q9, .int v10, .int v11, .int v12, .int v13, .int v14, .ref q15, .int v16])), (q9, .inl (cA 2, 60, .inl tx))] H → va_D A [(m0, .inr (10, [.ref q0, .ref q1, .ref q2, .int v3, .ref q4, .int v5, .int v6, .ref q7, .int v8, .ref q9, .int v10, .int v11, .int v12, .int v13, .int v14, .ref q15, .int v16])), (q9, .inl (cA 2, 60, .inl tx))] → va_S A s.heap H locs → W p l e RM_X6_digit s m args below meth c H locs 0 0 Q (F0 m 20 ls [.int o2, .ref m0]) := by
    intro ls H locs hl hP hD hS
    obtain ⟨g5, h⟩ := gd_i h
    refine va_put (D := D) (ci := 10) (v := .int o2) (ty := .boolean) (C := RX6) (T := TX6) (N := 17) hx hb hts iX6_digit_X6 tyX6 tyX6_ok nmX6 hfc hK hP hD hS 0 rfl rfl 12 (by decide) (hts (.fieldLink RX6 202 "BathtubTidesModel" "isWrong" "Z") (List.mem_of_getElem? (i := 1) rfl)) (fun _ h9 => h9) rfl (by decide +kernel) g5.1 g5.2 (Nat.le_of_ble_eq_true rfl) dX6_digit_20 (fun H locs hP hD hS => ?_)
    have hP : va_P D vwCl [(m0, .inr (10, [.ref q0, .ref q1, .ref q2, .int v3, .ref q4, .int v5, .int v6, .ref q7, .int v8, .ref q9, .int v10, .int v11, .int o2, .int v13, .int v14, .ref q15, .int v16])), (q9, .inl (cA 2, 60, .inl tx))] H := hP
    have hD : va_D A [(m0, .inr (10, [.ref q0, .ref q1, .ref q2, .int v3, .ref q4, .int v5, .int v6, .ref q7, .int v8, .ref q9, .int v10, .int v11, .int o2, .int v13, .int v14, .ref q15, .int v16])), (q9, .inl (cA 2, 60, .inl tx))] := hD
    refine lv_aload_n hx hb dX6_digit_23 rfl (lv_at hl 0 rfl) ?_
    refine va_get (D := D) (ci := 10) (v := .int o2) (C := RX6) (T := TX6) (N := 17) hx hb hts iX6_digit_X6 hfc hK hP 0 rfl rfl 12 (by decide) (hts (.fieldLink RX6 202 "BathtubTidesModel" "isWrong" "Z") (List.mem_of_getElem? (i := 1) rfl)) (fun _ h9 => h9) rfl dX6_digit_24 ?_
    refine lv_if_eq (tgt := 32) hx hb dX6_digit_27 (by decide) (fun c6 => ?_) (fun c6 => ?_)
    · have h := ite_t c6 h
      refine lv_aload_n hx hb dX6_digit_32 rfl (lv_at hl 0 rfl) ?_
      refine lv_dup hx hb dX6_digit_33 rfl ?_
      refine va_get (D := D) (ci := 10) (v := .int v11) (C := RX6) (T := TX6) (N := 17) hx hb hts iX6_digit_X6 hfc hK hP 0 rfl rfl 11 (by decide) (hts (.fieldLink RX6 195 "BathtubTidesModel" "at" "I") (List.mem_of_getElem? (i := 2) rfl)) (fun _ h9 => h9) rfl dX6_digit_34 ?_
      refine lv_iconst (v := 1) hx hb dX6_digit_37 (by decide) ?_
      refine lv_iadd hx hb dX6_digit_38 ?_
      refine va_put (D := D) (ci := 10) (v := .int (v11 + 1)) (ty := .int) (C := RX6) (T := TX6) (N := 17) hx hb hts iX6_digit_X6 tyX6 tyX6_ok nmX6 hfc hK hP hD hS 0 rfl rfl 11 (by decide) (hts (.fieldLink RX6 195 "BathtubTidesModel" "at" "I") (List.mem_of_getElem? (i := 2) rfl)) (fun _ h9 => h9) rfl (by decide +kernel) rfl rfl (Nat.le_of_ble_eq_true rfl) dX6_digit_39 (fun H locs hP hD hS => ?_)
      have hP : va_P D vwCl [(m0, .inr (10, [.ref q0, .ref q1, .ref q2, .int v3, .ref q4, .int v5, .int v6, .ref q7, .int v8, .ref q9, .int v10, .int (v11 + 1), .int o2, .int v13, .int v14, .ref q15, .int v16])), (q9, .inl (cA 2, 60, .inl tx))] H := hP
      have hD : va_D A [(m0, .inr (10, [.ref q0, .ref q1, .ref q2, .int v3, .ref q4, .int v5, .int v6, .ref q7, .int v8, .ref q9, .int v10, .int (v11 + 1), .int o2, .int v13, .int v14, .ref q15, .int v16])), (q9, .inl (cA 2, 60, .inl tx))] := hD
      refine lv_aload_n hx hb dX6_digit_42 rfl (lv_at hl 0 rfl) ?_
      refine va_get (D := D) (ci := 10) (v := .ref q9) (C := RX6) (T := TX6) (N := 17) hx hb hts iX6_digit_X6 hfc hK hP 0 rfl rfl 9 (by decide) (hts (.fieldLink RX6 26 "BathtubTidesModel" "text" "[C") (List.mem_of_getElem? (i := 3) rfl)) (fun _ h9 => h9) rfl dX6_digit_43 ?_
      refine lv_aload_n hx hb dX6_digit_46 rfl (lv_at hl 0 rfl) ?_
      refine va_get (D := D) (ci := 10) (v := .int (v11 + 1)) (C := RX6) (T := TX6) (N := 17) hx hb hts iX6_digit_X6 hfc hK hP 0 rfl rfl 11 (by decide) (hts (.fieldLink RX6 195 "BathtubTidesModel" "at" "I") (List.mem_of_getElem? (i := 2) rfl)) (fun _ h9 => h9) rfl dX6_digit_47 ?_
      refine lv_iconst (v := 1) hx hb dX6_digit_50 (by decide) ?_
      refine lv_isub hx hb dX6_digit_51 ?_
      obtain ⟨g7, h⟩ := gd_i h
      refine va_cald hx hb hK hP 1 2 rfl rfl g7 dX6_digit_52 ?_
      refine lv_bipush (v := 48) hx hb dX6_digit_53 (by decide) ?_
      refine lv_isub hx hb dX6_digit_55 ?_
      have h := Option.some.inj h
      subst h
      exact hend (adr []) _ _ _ _ _ _ _ rfl rfl (rtn_i _) hP hD hS dX6_digit_56
    · have h := ite_f c6 h
      refine lv_iconst (v := 0) hx hb dX6_digit_30 (by decide) ?_
      have h := Option.some.inj h
      subst h
      exact hend (adr []) _ _ _ _ _ _ _ rfl rfl (rtn_i _) hP hD hS dX6_digit_31
  clear h
  have h := ho2
  clear ho2
  refine lv_if_ne (tgt := 15) hx hb dX6_digit_5 (by decide) (fun c1 => ?_) (fun c1 => ?_)
  · have h := ite_f c1 h
    refine lv_iconst (v := 1) hx hb dX6_digit_15 (by decide) ?_
    refine lv_goto (tgt := 20) hx hb dX6_digit_16 (by decide) ?_
    have h := Option.some.inj h
    subst h
    exact ko2 _ _ _ (lv_sub hl [0] rfl) hP hD hS
  · have h := ite_t c1 h
    refine lv_aload_n hx hb dX6_digit_8 rfl (lv_at hl 0 rfl) ?_
    obtain ⟨o3, ho3, h⟩ := bnd_i h
    refine rq_V (v := (some (.int o3))) (As := []) (rest := [.ref m0]) (wc := [(m0, .inr (10, [.ref q0, .ref q1, .ref q2, .int v3, .ref q4, .int v5, .int v6, .ref q7, .int v8, .ref q9, .int v10, .int v11, .int v12, .int v13, .int v14, .ref q15, .int v16])), (q9, .inl (cA 2, 60, .inl tx))]) ⟨hx, hb, hml, hfc, hts⟩ hK hP (kX6_isDigit l D cA m0 q0 q1 q2 q4 q7 q9 q15 v3 v5 v6 v8 v10 v11 v12 v13 v14 v16 tx ho3) (cwV 0 hts gX6_digit_X6_isDigit rfl rfl rfl (by decide +kernel) ⟨(Nat.le_of_ble_eq_true rfl), (Nat.le_of_ble_eq_true rfl)⟩) [0, 1] rfl 0 10 rfl rfl rfl rfl rfl rfl hl.1 (Nat.le_of_ble_eq_true rfl) dX6_digit_9 ⟨(Nat.zero_le _), (Nat.zero_le _)⟩ ?_
    refine lv_if_ne (tgt := 19) hx hb dX6_digit_12 (by decide) (fun c4 => ?_) (fun c4 => ?_)
    · have h := ite_f c4 h
      refine lv_iconst (v := 0) hx hb dX6_digit_19 (by decide) ?_
      have h := Option.some.inj h
      subst h
      exact ko2 _ _ _ (lv_sub hl [0] rfl) hP hD hS
    · have h := ite_t c4 h
      refine lv_iconst (v := 1) hx hb dX6_digit_15 (by decide) ?_
      refine lv_goto (tgt := 20) hx hb dX6_digit_16 (by decide) ?_
      have h := Option.some.inj h
      subst h
      exact ko2 _ _ _ (lv_sub hl [0] rfl) hP hD hS
noncomputable def SX6_word (v10 : Int32) (v11 : Int32) (tx : Nat → Int32) : Option (Int32) := bnd (SX6_behind v10 v11 tx 1) (fun o1 : Int32 => bnd (SX6_behind v10 v11 tx 0) (fun o2 : Int32 => if o2 = 98 then (some (2)) else (if o2 = 99 then (some (10)) else (if o2 = 100 then (some (10)) else (if o2 = 101 then (some (10)) else (if o2 = 102 then (some (10)) else (if o2 = 103 then (some (10)) else (if o2 = 104 then (some (0)) else (if o2 = 105 then (some (10)) else (if o2 = 106 then (some (10)) else (if o2 = 107 then (some (10)) else (if o2 = 108 then (some (10)) else (if o2 = 109 then (some (10)) else (if o2 = 110 then (some (10)) else (if o2 = 111 then (some (10)) else (if o2 = 112 then (if o1 = 117 then (some (7)) else (some (6))) else (if o2 = 113 then (some (10)) else (if o2 = 114 then (some (3)) else (if o2 = 115 then (if o1 = 104 then (some (5)) else (some (1))) else (if o2 = 116 then (bnd (SX6_behind v10 v11 tx 2) (fun o24 : Int32 => if o24 = 119 then (some (8)) else (some (4)))) else (if o2 = 117 then (some (10)) else (if o2 = 118 then (some (10)) else (if o2 = 119 then (if o1 = 114 then (some (9)) else (some (11))) else (some (10)))))))))))))))))))))))))
abbrev RM_X6_word : Room := { frames := 1, cells := 0, slots := 0, locals := 21 }
set_option maxHeartbeats 4000000 in
theorem kX6_word (l : Launch) (D : va_G) (cA : Nat → ClassId) (m0 q0 q1 q2 q4 q7 q9 q15 : Nat) (v3 : Int32) (v5 : Int32) (v6 : Int32) (v8 : Int32) (v10 : Int32) (v11 : Int32) (v12 : Int32) (v13 : Int32) (v14 : Int32) (v16 : Int32) (tx : Nat → Int32) {r : Int32} (hr : SX6_word v10 v11 tx = some r) : Met l yX6_word wsX6_word RM_X6_word (va_Pc [.ref m0] (rqB D cA [(m0, .inr (10, [.ref q0, .ref q1, .ref q2, .int v3, .ref q4, .int v5, .int v6, .ref q7, .int v8, .ref q9, .int v10, .int v11, .int v12, .int v13, .int v14, .ref q15, .int v16])), (q9, .inl (cA 2, 60, .inl tx))])) (rqQ (some (.int r))) 0 0 (fun _ => False) := by
  refine rq_ofW (cc := cX6_word) (maxL := 2) (ret := (some .int)) (by decide) rfl (Nat.le_of_ble_eq_true rfl) (fun p e s m args below meth c ls Q hx hb hml hts hfc hK hP hl hend => ?_)
  have hfc : s.vm.findClass RX6 = some m.cls := hfc
  have hl : lv_has ls 2 [(0, .ref m0)] := hl
  have h := hr
  clear hr
  unfold SX6_word at h
  refine lv_aload_n hx hb dX6_word_0 rfl (lv_at hl 0 rfl) ?_
  refine lv_iconst (v := 1) hx hb dX6_word_1 (by decide) ?_
  obtain ⟨o1, ho1, h⟩ := bnd_i h
  refine rq_V (v := (some (.int o1))) (As := [.int 1]) (rest := []) (wc := [(m0, .inr (10, [.ref q0, .ref q1, .ref q2, .int v3, .ref q4, .int v5, .int v6, .ref q7, .int v8, .ref q9, .int v10, .int v11, .int v12, .int v13, .int v14, .ref q15, .int v16])), (q9, .inl (cA 2, 60, .inl tx))]) ⟨hx, hb, hml, hfc, hts⟩ hK hP (kX6_behind l D cA m0 q0 q1 q2 q4 q7 q9 q15 v3 v5 v6 v8 v10 v11 v12 v13 v14 v16 tx 1 ho1) (cwV 1 hts gX6_word_X6_behind rfl rfl rfl (by decide +kernel) ⟨(Nat.le_of_ble_eq_true rfl), (Nat.le_of_ble_eq_true rfl)⟩) [0, 1] rfl 0 10 rfl rfl rfl rfl rfl rfl hl.1 (Nat.le_of_ble_eq_true rfl) dX6_word_2 ⟨(Nat.zero_le _), (Nat.zero_le _)⟩ ?_
  refine lv_istore_n hx hb dX6_word_5 rfl hl (Nat.le_of_ble_eq_true rfl) rfl (fun ls hl => ?_)
  have hl : lv_has ls 2 [(1, .int o1), (0, .ref m0)] := hl
  refine lv_aload_n hx hb dX6_word_6 rfl (lv_at hl 1 rfl) ?_
  refine lv_iconst (v := 0) hx hb dX6_word_7 (by decide) ?_
  obtain ⟨o2, ho2, h⟩ := bnd_i h
  refine rq_V (v := (some (.int o2))) (As := [.int 0]) (rest := []) (wc := [(m0, .inr (10, [.ref q0, .ref q1, .ref q2, .int v3, .ref q4, .int v5, .int v6, .ref q7, .int v8, .ref q9, .int v10, .int v11, .int v12, .int v13, .int v14, .ref q15, .int v16])), (q9, .inl (cA 2, 60, .inl tx))]) ⟨hx, hb, hml, hfc, hts⟩ hK hP (kX6_behind l D cA m0 q0 q1 q2 q4 q7 q9 q15 v3 v5 v6 v8 v10 v11 v12 v13 v14 v16 tx 0 ho2) (cwV 1 hts gX6_word_X6_behind rfl rfl rfl (by decide +kernel) ⟨(Nat.le_of_ble_eq_true rfl), (Nat.le_of_ble_eq_true rfl)⟩) [0, 1] rfl 0 10 rfl rfl rfl rfl rfl rfl hl.1 (Nat.le_of_ble_eq_true rfl) dX6_word_8 ⟨(Nat.zero_le _), (Nat.zero_le _)⟩ ?_
  by_cases c3 : o2 = 98
  · have h := ite_t c3 h
    refine lv_tableIn (off := 115) (tgt := 126) hx hb dX6_word_11 (by rw [c3]; decide) (by rw [c3]; decide) (by rw [c3]; decide) (by decide) ?_
    refine lv_iconst (v := 2) hx hb dX6_word_126 (by decide) ?_
    have h := Option.some.inj h
    subst h
    exact hend _ _ _ _ rfl (rtn_i _) dX6_word_127
  · have h := ite_f c3 h
    by_cases c4 : o2 = 99
    · have h := ite_t c4 h
      refine lv_tableIn (off := 164) (tgt := 175) hx hb dX6_word_11 (by rw [c4]; decide) (by rw [c4]; decide) (by rw [c4]; decide) (by decide) ?_
      refine lv_bipush (v := 10) hx hb dX6_word_175 (by decide) ?_
      have h := Option.some.inj h
      subst h
      exact hend _ _ _ _ rfl (rtn_i _) dX6_word_177
    · have h := ite_f c4 h
      by_cases c5 : o2 = 100
      · have h := ite_t c5 h
        refine lv_tableIn (off := 164) (tgt := 175) hx hb dX6_word_11 (by rw [c5]; decide) (by rw [c5]; decide) (by rw [c5]; decide) (by decide) ?_
        refine lv_bipush (v := 10) hx hb dX6_word_175 (by decide) ?_
        have h := Option.some.inj h
        subst h
        exact hend _ _ _ _ rfl (rtn_i _) dX6_word_177
      · have h := ite_f c5 h
        by_cases c6 : o2 = 101
        · have h := ite_t c6 h
          refine lv_tableIn (off := 164) (tgt := 175) hx hb dX6_word_11 (by rw [c6]; decide) (by rw [c6]; decide) (by rw [c6]; decide) (by decide) ?_
          refine lv_bipush (v := 10) hx hb dX6_word_175 (by decide) ?_
          have h := Option.some.inj h
          subst h
          exact hend _ _ _ _ rfl (rtn_i _) dX6_word_177
        · have h := ite_f c6 h
          by_cases c7 : o2 = 102
          · have h := ite_t c7 h
            refine lv_tableIn (off := 164) (tgt := 175) hx hb dX6_word_11 (by rw [c7]; decide) (by rw [c7]; decide) (by rw [c7]; decide) (by decide) ?_
            refine lv_bipush (v := 10) hx hb dX6_word_175 (by decide) ?_
            have h := Option.some.inj h
            subst h
            exact hend _ _ _ _ rfl (rtn_i _) dX6_word_177
          · have h := ite_f c7 h
            by_cases c8 : o2 = 103
            · have h := ite_t c8 h
              refine lv_tableIn (off := 164) (tgt := 175) hx hb dX6_word_11 (by rw [c8]; decide) (by rw [c8]; decide) (by rw [c8]; decide) (by decide) ?_
              refine lv_bipush (v := 10) hx hb dX6_word_175 (by decide) ?_
              have h := Option.some.inj h
              subst h
              exact hend _ _ _ _ rfl (rtn_i _) dX6_word_177
            · have h := ite_f c8 h
              by_cases c9 : o2 = 104
              · have h := ite_t c9 h
                refine lv_tableIn (off := 101) (tgt := 112) hx hb dX6_word_11 (by rw [c9]; decide) (by rw [c9]; decide) (by rw [c9]; decide) (by decide) ?_
                refine lv_iconst (v := 0) hx hb dX6_word_112 (by decide) ?_
                have h := Option.some.inj h
                subst h
                exact hend _ _ _ _ rfl (rtn_i _) dX6_word_113
              · have h := ite_f c9 h
                by_cases c10 : o2 = 105
                · have h := ite_t c10 h
                  refine lv_tableIn (off := 164) (tgt := 175) hx hb dX6_word_11 (by rw [c10]; decide) (by rw [c10]; decide) (by rw [c10]; decide) (by decide) ?_
                  refine lv_bipush (v := 10) hx hb dX6_word_175 (by decide) ?_
                  have h := Option.some.inj h
                  subst h
                  exact hend _ _ _ _ rfl (rtn_i _) dX6_word_177
                · have h := ite_f c10 h
                  by_cases c11 : o2 = 106
                  · have h := ite_t c11 h
                    refine lv_tableIn (off := 164) (tgt := 175) hx hb dX6_word_11 (by rw [c11]; decide) (by rw [c11]; decide) (by rw [c11]; decide) (by decide) ?_
                    refine lv_bipush (v := 10) hx hb dX6_word_175 (by decide) ?_
                    have h := Option.some.inj h
                    subst h
                    exact hend _ _ _ _ rfl (rtn_i _) dX6_word_177
                  · have h := ite_f c11 h
                    by_cases c12 : o2 = 107
                    · have h := ite_t c12 h
                      refine lv_tableIn (off := 164) (tgt := 175) hx hb dX6_word_11 (by rw [c12]; decide) (by rw [c12]; decide) (by rw [c12]; decide) (by decide) ?_
                      refine lv_bipush (v := 10) hx hb dX6_word_175 (by decide) ?_
                      have h := Option.some.inj h
                      subst h
                      exact hend _ _ _ _ rfl (rtn_i _) dX6_word_177
                    · have h := ite_f c12 h
                      by_cases c13 : o2 = 108
                      · have h := ite_t c13 h
                        refine lv_tableIn (off := 164) (tgt := 175) hx hb dX6_word_11 (by rw [c13]; decide) (by rw [c13]; decide) (by rw [c13]; decide) (by decide) ?_
                        refine lv_bipush (v := 10) hx hb dX6_word_175 (by decide) ?_
                        have h := Option.some.inj h
                        subst h
                        exact hend _ _ _ _ rfl (rtn_i _) dX6_word_177
                      · have h := ite_f c13 h
                        by_cases c14 : o2 = 109
                        · have h := ite_t c14 h
                          refine lv_tableIn (off := 164) (tgt := 175) hx hb dX6_word_11 (by rw [c14]; decide) (by rw [c14]; decide) (by rw [c14]; decide) (by decide) ?_
                          refine lv_bipush (v := 10) hx hb dX6_word_175 (by decide) ?_
                          have h := Option.some.inj h
                          subst h
                          exact hend _ _ _ _ rfl (rtn_i _) dX6_word_177
                        · have h := ite_f c14 h
                          by_cases c15 : o2 = 110
                          · have h := ite_t c15 h
                            refine lv_tableIn (off := 164) (tgt := 175) hx hb dX6_word_11 (by rw [c15]; decide) (by rw [c15]; decide) (by rw [c15]; decide) (by decide) ?_
                            refine lv_bipush (v := 10) hx hb dX6_word_175 (by decide) ?_
                            have h := Option.some.inj h
                            subst h
                            exact hend _ _ _ _ rfl (rtn_i _) dX6_word_177
                          · have h := ite_f c15 h
                            by_cases c16 : o2 = 111
                            · have h := ite_t c16 h
                              refine lv_tableIn (off := 164) (tgt := 175) hx hb dX6_word_11 (by rw [c16]; decide) (by rw [c16]; decide) (by rw [c16]; decide) (by decide) ?_
                              refine lv_bipush (v := 10) hx hb dX6_word_175 (by decide) ?_
                              have h := Option.some.inj h
                              subst h
                              exact hend _ _ _ _ rfl (rtn_i _) dX6_word_177
                            · have h := ite_f c16 h
                              by_cases c17 : o2 = 112
                              · have h := ite_t c17 h
                                refine lv_tableIn (off := 136) (tgt := 147) hx hb dX6_word_11 (by rw [c17]; decide) (by rw [c17]; decide) (by rw [c17]; decide) (by decide) ?_
                                refine lv_iload_n hx hb dX6_word_147 rfl (lv_at hl 0 rfl) ?_
                                refine lv_bipush (v := 117) hx hb dX6_word_148 (by decide) ?_
                                refine lv_icmp_ne (tgt := 158) hx hb dX6_word_150 (by decide) (fun c18 => ?_) (fun c18 => ?_)
                                · have h := ite_f c18 h
                                  refine lv_bipush (v := 6) hx hb dX6_word_158 (by decide) ?_
                                  have h := Option.some.inj h
                                  subst h
                                  exact hend _ _ _ _ rfl (rtn_i _) dX6_word_160
                                · have h := ite_t c18 h
                                  refine lv_bipush (v := 7) hx hb dX6_word_153 (by decide) ?_
                                  refine lv_goto (tgt := 160) hx hb dX6_word_155 (by decide) ?_
                                  have h := Option.some.inj h
                                  subst h
                                  exact hend _ _ _ _ rfl (rtn_i _) dX6_word_160
                              · have h := ite_f c17 h
                                by_cases c19 : o2 = 113
                                · have h := ite_t c19 h
                                  refine lv_tableIn (off := 164) (tgt := 175) hx hb dX6_word_11 (by rw [c19]; decide) (by rw [c19]; decide) (by rw [c19]; decide) (by decide) ?_
                                  refine lv_bipush (v := 10) hx hb dX6_word_175 (by decide) ?_
                                  have h := Option.some.inj h
                                  subst h
                                  exact hend _ _ _ _ rfl (rtn_i _) dX6_word_177
                                · have h := ite_f c19 h
                                  by_cases c20 : o2 = 114
                                  · have h := ite_t c20 h
                                    refine lv_tableIn (off := 117) (tgt := 128) hx hb dX6_word_11 (by rw [c20]; decide) (by rw [c20]; decide) (by rw [c20]; decide) (by decide) ?_
                                    refine lv_iconst (v := 3) hx hb dX6_word_128 (by decide) ?_
                                    have h := Option.some.inj h
                                    subst h
                                    exact hend _ _ _ _ rfl (rtn_i _) dX6_word_129
                                  · have h := ite_f c20 h
                                    by_cases c21 : o2 = 115
                                    · have h := ite_t c21 h
                                      refine lv_tableIn (off := 103) (tgt := 114) hx hb dX6_word_11 (by rw [c21]; decide) (by rw [c21]; decide) (by rw [c21]; decide) (by decide) ?_
                                      refine lv_iload_n hx hb dX6_word_114 rfl (lv_at hl 0 rfl) ?_
                                      refine lv_bipush (v := 104) hx hb dX6_word_115 (by decide) ?_
                                      refine lv_icmp_ne (tgt := 124) hx hb dX6_word_117 (by decide) (fun c22 => ?_) (fun c22 => ?_)
                                      · have h := ite_f c22 h
                                        refine lv_iconst (v := 1) hx hb dX6_word_124 (by decide) ?_
                                        have h := Option.some.inj h
                                        subst h
                                        exact hend _ _ _ _ rfl (rtn_i _) dX6_word_125
                                      · have h := ite_t c22 h
                                        refine lv_iconst (v := 5) hx hb dX6_word_120 (by decide) ?_
                                        refine lv_goto (tgt := 125) hx hb dX6_word_121 (by decide) ?_
                                        have h := Option.some.inj h
                                        subst h
                                        exact hend _ _ _ _ rfl (rtn_i _) dX6_word_125
                                    · have h := ite_f c21 h
                                      by_cases c23 : o2 = 116
                                      · have h := ite_t c23 h
                                        refine lv_tableIn (off := 119) (tgt := 130) hx hb dX6_word_11 (by rw [c23]; decide) (by rw [c23]; decide) (by rw [c23]; decide) (by decide) ?_
                                        refine lv_aload_n hx hb dX6_word_130 rfl (lv_at hl 1 rfl) ?_
                                        refine lv_iconst (v := 2) hx hb dX6_word_131 (by decide) ?_
                                        obtain ⟨o24, ho24, h⟩ := bnd_i h
                                        refine rq_V (v := (some (.int o24))) (As := [.int 2]) (rest := []) (wc := [(m0, .inr (10, [.ref q0, .ref q1, .ref q2, .int v3, .ref q4, .int v5, .int v6, .ref q7, .int v8, .ref q9, .int v10, .int v11, .int v12, .int v13, .int v14, .ref q15, .int v16])), (q9, .inl (cA 2, 60, .inl tx))]) ⟨hx, hb, hml, hfc, hts⟩ hK hP (kX6_behind l D cA m0 q0 q1 q2 q4 q7 q9 q15 v3 v5 v6 v8 v10 v11 v12 v13 v14 v16 tx 2 ho24) (cwV 1 hts gX6_word_X6_behind rfl rfl rfl (by decide +kernel) ⟨(Nat.le_of_ble_eq_true rfl), (Nat.le_of_ble_eq_true rfl)⟩) [0, 1] rfl 0 10 rfl rfl rfl rfl rfl rfl hl.1 (Nat.le_of_ble_eq_true rfl) dX6_word_132 ⟨(Nat.zero_le _), (Nat.zero_le _)⟩ ?_
                                        refine lv_bipush (v := 119) hx hb dX6_word_135 (by decide) ?_
                                        refine lv_icmp_ne (tgt := 145) hx hb dX6_word_137 (by decide) (fun c25 => ?_) (fun c25 => ?_)
                                        · have h := ite_f c25 h
                                          refine lv_iconst (v := 4) hx hb dX6_word_145 (by decide) ?_
                                          have h := Option.some.inj h
                                          subst h
                                          exact hend _ _ _ _ rfl (rtn_i _) dX6_word_146
                                        · have h := ite_t c25 h
                                          refine lv_bipush (v := 8) hx hb dX6_word_140 (by decide) ?_
                                          refine lv_goto (tgt := 146) hx hb dX6_word_142 (by decide) ?_
                                          have h := Option.some.inj h
                                          subst h
                                          exact hend _ _ _ _ rfl (rtn_i _) dX6_word_146
                                      · have h := ite_f c23 h
                                        by_cases c26 : o2 = 117
                                        · have h := ite_t c26 h
                                          refine lv_tableIn (off := 164) (tgt := 175) hx hb dX6_word_11 (by rw [c26]; decide) (by rw [c26]; decide) (by rw [c26]; decide) (by decide) ?_
                                          refine lv_bipush (v := 10) hx hb dX6_word_175 (by decide) ?_
                                          have h := Option.some.inj h
                                          subst h
                                          exact hend _ _ _ _ rfl (rtn_i _) dX6_word_177
                                        · have h := ite_f c26 h
                                          by_cases c27 : o2 = 118
                                          · have h := ite_t c27 h
                                            refine lv_tableIn (off := 164) (tgt := 175) hx hb dX6_word_11 (by rw [c27]; decide) (by rw [c27]; decide) (by rw [c27]; decide) (by decide) ?_
                                            refine lv_bipush (v := 10) hx hb dX6_word_175 (by decide) ?_
                                            have h := Option.some.inj h
                                            subst h
                                            exact hend _ _ _ _ rfl (rtn_i _) dX6_word_177
                                          · have h := ite_f c27 h
                                            by_cases c28 : o2 = 119
                                            · have h := ite_t c28 h
                                              refine lv_tableIn (off := 150) (tgt := 161) hx hb dX6_word_11 (by rw [c28]; decide) (by rw [c28]; decide) (by rw [c28]; decide) (by decide) ?_
                                              refine lv_iload_n hx hb dX6_word_161 rfl (lv_at hl 0 rfl) ?_
                                              refine lv_bipush (v := 114) hx hb dX6_word_162 (by decide) ?_
                                              refine lv_icmp_ne (tgt := 172) hx hb dX6_word_164 (by decide) (fun c29 => ?_) (fun c29 => ?_)
                                              · have h := ite_f c29 h
                                                refine lv_bipush (v := 11) hx hb dX6_word_172 (by decide) ?_
                                                have h := Option.some.inj h
                                                subst h
                                                exact hend _ _ _ _ rfl (rtn_i _) dX6_word_174
                                              · have h := ite_t c29 h
                                                refine lv_bipush (v := 9) hx hb dX6_word_167 (by decide) ?_
                                                refine lv_goto (tgt := 174) hx hb dX6_word_169 (by decide) ?_
                                                have h := Option.some.inj h
                                                subst h
                                                exact hend _ _ _ _ rfl (rtn_i _) dX6_word_174
                                            · have h := ite_f c28 h
                                              have n0 := lv_neT (a := 98) c3 (by decide)
                                              have n1 := lv_neT (a := 99) c4 (by decide)
                                              have n2 := lv_neT (a := 100) c5 (by decide)
                                              have n3 := lv_neT (a := 101) c6 (by decide)
                                              have n4 := lv_neT (a := 102) c7 (by decide)
                                              have n5 := lv_neT (a := 103) c8 (by decide)
                                              have n6 := lv_neT (a := 104) c9 (by decide)
                                              have n7 := lv_neT (a := 105) c10 (by decide)
                                              have n8 := lv_neT (a := 106) c11 (by decide)
                                              have n9 := lv_neT (a := 107) c12 (by decide)
                                              have n10 := lv_neT (a := 108) c13 (by decide)
                                              have n11 := lv_neT (a := 109) c14 (by decide)
                                              have n12 := lv_neT (a := 110) c15 (by decide)
                                              have n13 := lv_neT (a := 111) c16 (by decide)
                                              have n14 := lv_neT (a := 112) c17 (by decide)
                                              have n15 := lv_neT (a := 113) c19 (by decide)
                                              have n16 := lv_neT (a := 114) c20 (by decide)
                                              have n17 := lv_neT (a := 115) c21 (by decide)
                                              have n18 := lv_neT (a := 116) c23 (by decide)
                                              have n19 := lv_neT (a := 117) c26 (by decide)
                                              have n20 := lv_neT (a := 118) c27 (by decide)
                                              have n21 := lv_neT (a := 119) c28 (by decide)
                                              refine lv_tableOut (tgt := 175) hx hb dX6_word_11 (by omega) (by decide) ?_
                                              refine lv_bipush (v := 10) hx hb dX6_word_175 (by decide) ?_
                                              have h := Option.some.inj h
                                              subst h
                                              exact hend _ _ _ _ rfl (rtn_i _) dX6_word_177
noncomputable def SX6_errorPosition (v13 : Int32) : Option (Int32 × Int32) := lt_ (if v13 < 0 then (0) else (1)) (fun o2 : Int32 => bnd (SX6_isThere o2) (fun o3 : Int32 × Int32 => if o3.1 = 0 then (some ((0, o3.2))) else (some ((v13, o3.2)))))
theorem iX6_errorPosition_X6 : ∀ w ∈ wsX60, w ∈ wsX6_errorPosition := fun _ h => List.mem_cons_of_mem _ (List.mem_append_right _ h)
abbrev RM_X6_errorPosition : Room := { frames := 1, cells := 0, slots := 0, locals := 21 }
set_option maxHeartbeats 4000000 in
theorem kX6_errorPosition (l : Launch) (D : va_G) (cA : Nat → ClassId) (m0 q0 q1 q2 q4 q7 q9 q15 : Nat) (v3 : Int32) (v5 : Int32) (v6 : Int32) (v8 : Int32) (v10 : Int32) (v11 : Int32) (v12 : Int32) (v13 : Int32) (v14 : Int32) (v16 : Int32) {r : Int32 × Int32} (hr : SX6_errorPosition v13 = some r) {sz : Nat} : Met l yX6_errorPosition wsX6_errorPosition RM_X6_errorPosition (va_Pc [.ref m0] (gqB D cA [(m0, .inr (10, [.ref q0, .ref q1, .ref q2, .int v3, .ref q4, .int v5, .int v6, .ref q7, .int v8, .ref q9, .int v10, .int v11, .int v12, .int v13, .int v14, .ref q15, .int v16]))] sz)) (gqQ D (fun as => (some (.int r.1))) (fun as => [(m0, .inr (10, [.ref q0, .ref q1, .ref q2, .int v3, .ref q4, .int v5, .int r.2, .ref q7, .int v8, .ref q9, .int v10, .int v11, .int v12, .int v13, .int v14, .ref q15, .int v16]))]) (va_A [(m0, .inr (10, [.ref q0, .ref q1, .ref q2, .int v3, .ref q4, .int v5, .int v6, .ref q7, .int v8, .ref q9, .int v10, .int v11, .int v12, .int v13, .int v14, .ref q15, .int v16]))] sz)) 0 0 (va_A [(m0, .inr (10, [.ref q0, .ref q1, .ref q2, .int v3, .ref q4, .int v5, .int v6, .ref q7, .int v8, .ref q9, .int v10, .int v11, .int v12, .int v13, .int v14, .ref q15, .int v16]))] sz) := by
  refine gq_ofW (cc := cX6_errorPosition) (maxL := 1) (ret := (some .int)) (by decide) rfl (Nat.le_of_ble_eq_true rfl) (fun p e s m args below meth c ls Q A hx hb hml hts hfc hmn hK hP hD hS hA hl hend => ?_)
  have hfc : s.vm.findClass RX6 = some m.cls := hfc
  have hl : lv_has ls 1 [(0, .ref m0)] := hl
  have h := hr
  clear hr
  unfold SX6_errorPosition at h
  refine lv_aload_n hx hb dX6_errorPosition_0 rfl (lv_at hl 0 rfl) ?_
  refine lv_aload_n hx hb dX6_errorPosition_1 rfl (lv_at hl 0 rfl) ?_
  refine va_get (D := D) (ci := 10) (v := .int v13) (C := RX6) (T := TX6) (N := 17) hx hb hts iX6_errorPosition_X6 hfc hK hP 0 rfl rfl 13 (by decide) (hts (.fieldLink RX6 29 "BathtubTidesModel" "errorAt" "I") (List.mem_of_getElem? (i := 1) rfl)) (fun _ h9 => h9) rfl dX6_errorPosition_2 ?_
  obtain ⟨o2, ho2, h⟩ := lt_i h
  have ko2 : ∀ (ls : Array Slot) (H : Heap) (locs : List Loc), lv_has ls 1 [(0, .ref m0)] → va_P D vwCl [(m0, .inr (10, [.ref q0, .ref q1, .ref q2, .int v3, .ref q4, .int v5, .int v6, .ref q7, .int v8, .ref q9, .int v10, .int v11, .int v12, .int v13, .int v14, .ref q15, .int v16]))] H → va_D A [(m0, .inr (10, [.ref q0, .ref q1, .ref q2, .int v3, .ref q4, .int v5, .int v6, .ref q7, .int v8, .ref q9, .int v10, .int v11, .int v12, .int v13, .int v14, .ref q15, .int v16]))] → va_S A s.heap H locs → W p l e RM_X6_errorPosition s m args below meth c H locs 0 0 Q (F0 m 13 ls [.int o2, .ref m0]) := by
    intro ls H locs hl hP hD hS
    obtain ⟨o3, ho3, h⟩ := bnd_i h
    refine gq_V (v := (fun as => (some (.int o3.1)))) (As := [.int o2]) (rest := []) (wc := [(m0, .inr (10, [.ref q0, .ref q1, .ref q2, .int v3, .ref q4, .int v5, .int v6, .ref q7, .int v8, .ref q9, .int v10, .int v11, .int v12, .int v13, .int v14, .ref q15, .int v16]))]) (wr := []) (w1 := (fun as => [(m0, .inr (10, [.ref q0, .ref q1, .ref q2, .int v3, .ref q4, .int v5, .int o3.2, .ref q7, .int v8, .ref q9, .int v10, .int v11, .int v12, .int v13, .int v14, .ref q15, .int v16]))])) (ws2 := (fun as => [(m0, .inr (10, [.ref q0, .ref q1, .ref q2, .int v3, .ref q4, .int v5, .int o3.2, .ref q7, .int v8, .ref q9, .int v10, .int v11, .int v12, .int v13, .int v14, .ref q15, .int v16]))])) (st1 := (fun as => [.int o3.1])) ⟨hx, hb, hml, hfc, hts⟩ hK hP hD hS hA (kX6_isThere l D cA m0 q0 q1 q2 q4 q7 q9 q15 v3 v5 v6 v8 v10 v11 v12 v13 v14 v16 o2 ho3) (cwV 1 hts gX6_errorPosition_X6_isThere rfl rfl rfl (by decide +kernel) ⟨(Nat.le_of_ble_eq_true rfl), (Nat.le_of_ble_eq_true rfl)⟩) [0] [] [0] rfl rfl rfl rfl (by decide) (fun _ => rfl) rfl 0 10 rfl rfl rfl rfl (fun _ => rfl) rfl hl.1 (Nat.le_of_ble_eq_true rfl) dX6_errorPosition_13 ⟨(Nat.zero_le _), (Nat.zero_le _)⟩ (fun as H locs hP hD hS => ?_)
    have hP : va_P D vwCl [(m0, .inr (10, [.ref q0, .ref q1, .ref q2, .int v3, .ref q4, .int v5, .int o3.2, .ref q7, .int v8, .ref q9, .int v10, .int v11, .int v12, .int v13, .int v14, .ref q15, .int v16]))] H := hP
    have hD : va_D A [(m0, .inr (10, [.ref q0, .ref q1, .ref q2, .int v3, .ref q4, .int v5, .int o3.2, .ref q7, .int v8, .ref q9, .int v10, .int v11, .int v12, .int v13, .int v14, .ref q15, .int v16]))] := hD
    refine lv_if_eq (tgt := 26) hx hb dX6_errorPosition_16 (by decide) (fun c4 => ?_) (fun c4 => ?_)
    · have h := ite_t c4 h
      refine lv_iconst (v := 0) hx hb dX6_errorPosition_26 (by decide) ?_
      have h := Option.some.inj h
      subst h
      exact hend (adr []) _ _ _ _ _ _ _ rfl rfl (rtn_i _) hP hD hS dX6_errorPosition_27
    · have h := ite_f c4 h
      refine lv_aload_n hx hb dX6_errorPosition_19 rfl (lv_at hl 0 rfl) ?_
      refine va_get (D := D) (ci := 10) (v := .int v13) (C := RX6) (T := TX6) (N := 17) hx hb hts iX6_errorPosition_X6 hfc hK hP 0 rfl rfl 13 (by decide) (hts (.fieldLink RX6 29 "BathtubTidesModel" "errorAt" "I") (List.mem_of_getElem? (i := 1) rfl)) (fun _ h9 => h9) rfl dX6_errorPosition_20 ?_
      refine lv_goto (tgt := 27) hx hb dX6_errorPosition_23 (by decide) ?_
      have h := Option.some.inj h
      subst h
      exact hend (adr []) _ _ _ _ _ _ _ rfl rfl (rtn_i _) hP hD hS dX6_errorPosition_27
  clear h
  have h := ho2
  clear ho2
  refine lv_if_lt (tgt := 12) hx hb dX6_errorPosition_5 (by decide) (fun c1 => ?_) (fun c1 => ?_)
  · have h := ite_t c1 h
    refine lv_iconst (v := 0) hx hb dX6_errorPosition_12 (by decide) ?_
    subst h
    exact ko2 _ _ _ (lv_sub hl [0] rfl) hP hD hS
  · have h := ite_f c1 h
    refine lv_iconst (v := 1) hx hb dX6_errorPosition_8 (by decide) ?_
    refine lv_goto (tgt := 13) hx hb dX6_errorPosition_9 (by decide) ?_
    subst h
    exact ko2 _ _ _ (lv_sub hl [0] rfl) hP hD hS
noncomputable def SX6_failedCommand (v14 : Int32) : Option (Int32 × Int32) := lt_ (if v14 < 0 then (0) else (1)) (fun o2 : Int32 => bnd (SX6_isThere o2) (fun o3 : Int32 × Int32 => if o3.1 = 0 then (some ((0, o3.2))) else (some ((v14, o3.2)))))
theorem iX6_failedCommand_X6 : ∀ w ∈ wsX60, w ∈ wsX6_failedCommand := fun _ h => List.mem_cons_of_mem _ (List.mem_append_right _ h)
abbrev RM_X6_failedCommand : Room := { frames := 1, cells := 0, slots := 0, locals := 21 }
set_option maxHeartbeats 4000000 in
theorem kX6_failedCommand (l : Launch) (D : va_G) (cA : Nat → ClassId) (m0 q0 q1 q2 q4 q7 q9 q15 : Nat) (v3 : Int32) (v5 : Int32) (v6 : Int32) (v8 : Int32) (v10 : Int32) (v11 : Int32) (v12 : Int32) (v13 : Int32) (v14 : Int32) (v16 : Int32) {r : Int32 × Int32} (hr : SX6_failedCommand v14 = some r) {sz : Nat} : Met l yX6_failedCommand wsX6_failedCommand RM_X6_failedCommand (va_Pc [.ref m0] (gqB D cA [(m0, .inr (10, [.ref q0, .ref q1, .ref q2, .int v3, .ref q4, .int v5, .int v6, .ref q7, .int v8, .ref q9, .int v10, .int v11, .int v12, .int v13, .int v14, .ref q15, .int v16]))] sz)) (gqQ D (fun as => (some (.int r.1))) (fun as => [(m0, .inr (10, [.ref q0, .ref q1, .ref q2, .int v3, .ref q4, .int v5, .int r.2, .ref q7, .int v8, .ref q9, .int v10, .int v11, .int v12, .int v13, .int v14, .ref q15, .int v16]))]) (va_A [(m0, .inr (10, [.ref q0, .ref q1, .ref q2, .int v3, .ref q4, .int v5, .int v6, .ref q7, .int v8, .ref q9, .int v10, .int v11, .int v12, .int v13, .int v14, .ref q15, .int v16]))] sz)) 0 0 (va_A [(m0, .inr (10, [.ref q0, .ref q1, .ref q2, .int v3, .ref q4, .int v5, .int v6, .ref q7, .int v8, .ref q9, .int v10, .int v11, .int v12, .int v13, .int v14, .ref q15, .int v16]))] sz) := by
  refine gq_ofW (cc := cX6_failedCommand) (maxL := 1) (ret := (some .int)) (by decide) rfl (Nat.le_of_ble_eq_true rfl) (fun p e s m args below meth c ls Q A hx hb hml hts hfc hmn hK hP hD hS hA hl hend => ?_)
  have hfc : s.vm.findClass RX6 = some m.cls := hfc
  have hl : lv_has ls 1 [(0, .ref m0)] := hl
  have h := hr
  clear hr
  unfold SX6_failedCommand at h
  refine lv_aload_n hx hb dX6_failedCommand_0 rfl (lv_at hl 0 rfl) ?_
  refine lv_aload_n hx hb dX6_failedCommand_1 rfl (lv_at hl 0 rfl) ?_
  refine va_get (D := D) (ci := 10) (v := .int v14) (C := RX6) (T := TX6) (N := 17) hx hb hts iX6_failedCommand_X6 hfc hK hP 0 rfl rfl 14 (by decide) (hts (.fieldLink RX6 33 "BathtubTidesModel" "failedAt" "I") (List.mem_of_getElem? (i := 1) rfl)) (fun _ h9 => h9) rfl dX6_failedCommand_2 ?_
  obtain ⟨o2, ho2, h⟩ := lt_i h
  have ko2 : ∀ (ls : Array Slot) (H : Heap) (locs : List Loc), lv_has ls 1 [(0, .ref m0)] → va_P D vwCl [(m0, .inr (10, [.ref q0, .ref q1, .ref q2, .int v3, .ref q4, .int v5, .int v6, .ref q7, .int v8, .ref q9, .int v10, .int v11, .int v12, .int v13, .int v14, .ref q15, .int v16]))] H → va_D A [(m0, .inr (10, [.ref q0, .ref q1, .ref q2, .int v3, .ref q4, .int v5, .int v6, .ref q7, .int v8, .ref q9, .int v10, .int v11, .int v12, .int v13, .int v14, .ref q15, .int v16]))] → va_S A s.heap H locs → W p l e RM_X6_failedCommand s m args below meth c H locs 0 0 Q (F0 m 13 ls [.int o2, .ref m0]) := by
    intro ls H locs hl hP hD hS
    obtain ⟨o3, ho3, h⟩ := bnd_i h
    refine gq_V (v := (fun as => (some (.int o3.1)))) (As := [.int o2]) (rest := []) (wc := [(m0, .inr (10, [.ref q0, .ref q1, .ref q2, .int v3, .ref q4, .int v5, .int v6, .ref q7, .int v8, .ref q9, .int v10, .int v11, .int v12, .int v13, .int v14, .ref q15, .int v16]))]) (wr := []) (w1 := (fun as => [(m0, .inr (10, [.ref q0, .ref q1, .ref q2, .int v3, .ref q4, .int v5, .int o3.2, .ref q7, .int v8, .ref q9, .int v10, .int v11, .int v12, .int v13, .int v14, .ref q15, .int v16]))])) (ws2 := (fun as => [(m0, .inr (10, [.ref q0, .ref q1, .ref q2, .int v3, .ref q4, .int v5, .int o3.2, .ref q7, .int v8, .ref q9, .int v10, .int v11, .int v12, .int v13, .int v14, .ref q15, .int v16]))])) (st1 := (fun as => [.int o3.1])) ⟨hx, hb, hml, hfc, hts⟩ hK hP hD hS hA (kX6_isThere l D cA m0 q0 q1 q2 q4 q7 q9 q15 v3 v5 v6 v8 v10 v11 v12 v13 v14 v16 o2 ho3) (cwV 1 hts gX6_failedCommand_X6_isThere rfl rfl rfl (by decide +kernel) ⟨(Nat.le_of_ble_eq_true rfl), (Nat.le_of_ble_eq_true rfl)⟩) [0] [] [0] rfl rfl rfl rfl (by decide) (fun _ => rfl) rfl 0 10 rfl rfl rfl rfl (fun _ => rfl) rfl hl.1 (Nat.le_of_ble_eq_true rfl) dX6_failedCommand_13 ⟨(Nat.zero_le _), (Nat.zero_le _)⟩ (fun as H locs hP hD hS => ?_)
    have hP : va_P D vwCl [(m0, .inr (10, [.ref q0, .ref q1, .ref q2, .int v3, .ref q4, .int v5, .int o3.2, .ref q7, .int v8, .ref q9, .int v10, .int v11, .int v12, .int v13, .int v14, .ref q15, .int v16]))] H := hP
    have hD : va_D A [(m0, .inr (10, [.ref q0, .ref q1, .ref q2, .int v3, .ref q4, .int v5, .int o3.2, .ref q7, .int v8, .ref q9, .int v10, .int v11, .int v12, .int v13, .int v14, .ref q15, .int v16]))] := hD
    refine lv_if_eq (tgt := 26) hx hb dX6_failedCommand_16 (by decide) (fun c4 => ?_) (fun c4 => ?_)
    · have h := ite_t c4 h
      refine lv_iconst (v := 0) hx hb dX6_failedCommand_26 (by decide) ?_
      have h := Option.some.inj h
      subst h
      exact hend (adr []) _ _ _ _ _ _ _ rfl rfl (rtn_i _) hP hD hS dX6_failedCommand_27
    · have h := ite_f c4 h
      refine lv_aload_n hx hb dX6_failedCommand_19 rfl (lv_at hl 0 rfl) ?_
      refine va_get (D := D) (ci := 10) (v := .int v14) (C := RX6) (T := TX6) (N := 17) hx hb hts iX6_failedCommand_X6 hfc hK hP 0 rfl rfl 14 (by decide) (hts (.fieldLink RX6 33 "BathtubTidesModel" "failedAt" "I") (List.mem_of_getElem? (i := 1) rfl)) (fun _ h9 => h9) rfl dX6_failedCommand_20 ?_
      refine lv_goto (tgt := 27) hx hb dX6_failedCommand_23 (by decide) ?_
      have h := Option.some.inj h
      subst h
      exact hend (adr []) _ _ _ _ _ _ _ rfl rfl (rtn_i _) hP hD hS dX6_failedCommand_27
  clear h
  have h := ho2
  clear ho2
  refine lv_if_lt (tgt := 12) hx hb dX6_failedCommand_5 (by decide) (fun c1 => ?_) (fun c1 => ?_)
  · have h := ite_t c1 h
    refine lv_iconst (v := 0) hx hb dX6_failedCommand_12 (by decide) ?_
    subst h
    exact ko2 _ _ _ (lv_sub hl [0] rfl) hP hD hS
  · have h := ite_f c1 h
    refine lv_iconst (v := 1) hx hb dX6_failedCommand_8 (by decide) ?_
    refine lv_goto (tgt := 13) hx hb dX6_failedCommand_9 (by decide) ?_
    subst h
    exact ko2 _ _ _ (lv_sub hl [0] rfl) hP hD hS
noncomputable def SX6_undo (v5 : Int32) (ss : Nat → Int32) (pp : Nat → Int32) : Option (Int32 × (Nat → Int32) × Int32 × Int32) := lt_ (if v5 = 0 then (1) else (0)) (fun o2 : Int32 => if o2 ≤ 0 then (gd (¬ (60 * (v5 - 1)) < 0 ∧ Int32.toNatClampNeg (60 * (v5 - 1)) + 60 ≤ 480) (some ((v5 - 1, va_cpy pp ss (Int32.toNatClampNeg (60 * (v5 - 1))) 0 60, v5 - 1, o2)))) else (some ((0, ss, v5, o2))))
theorem iX6_undo_X6 : ∀ w ∈ wsX60, w ∈ wsX6_undo := fun _ h => List.mem_cons_of_mem _ (List.mem_append_right _ h)
abbrev RM_X6_undo : Room := { frames := 1, cells := 0, slots := 0, locals := 18 }
set_option maxHeartbeats 4000000 in
theorem kX6_undo (l : Launch) (D : va_G) (cA : Nat → ClassId) (m0 q0 q1 q2 q4 q7 q9 q15 : Nat) (v3 : Int32) (v5 : Int32) (v6 : Int32) (v8 : Int32) (v10 : Int32) (v11 : Int32) (v12 : Int32) (v13 : Int32) (v14 : Int32) (v16 : Int32) (ss : Nat → Int32) (pp : Nat → Int32) {r : Int32 × (Nat → Int32) × Int32 × Int32} (hr : SX6_undo v5 ss pp = some r) {sz : Nat} : Met l yX6_undo wsX6_undo RM_X6_undo (va_Pc [.ref m0] (gqB D cA [(m0, .inr (10, [.ref q0, .ref q1, .ref q2, .int v3, .ref q4, .int v5, .int v6, .ref q7, .int v8, .ref q9, .int v10, .int v11, .int v12, .int v13, .int v14, .ref q15, .int v16])), (q0, .inl (cA 0, 60, .inl ss)), (q4, .inl (cA 0, 480, .inl pp))] sz)) (gqQ D (fun as => (some (.int r.1))) (fun as => [(m0, .inr (10, [.ref q0, .ref q1, .ref q2, .int v3, .ref q4, .int r.2.2.1, .int r.2.2.2, .ref q7, .int v8, .ref q9, .int v10, .int v11, .int v12, .int v13, .int v14, .ref q15, .int v16])), (q0, .inl (cA 0, 60, .inl r.2.1)), (q4, .inl (cA 0, 480, .inl pp))]) (va_A [(m0, .inr (10, [.ref q0, .ref q1, .ref q2, .int v3, .ref q4, .int v5, .int v6, .ref q7, .int v8, .ref q9, .int v10, .int v11, .int v12, .int v13, .int v14, .ref q15, .int v16])), (q0, .inl (cA 0, 60, .inl ss)), (q4, .inl (cA 0, 480, .inl pp))] sz)) 0 0 (va_A [(m0, .inr (10, [.ref q0, .ref q1, .ref q2, .int v3, .ref q4, .int v5, .int v6, .ref q7, .int v8, .ref q9, .int v10, .int v11, .int v12, .int v13, .int v14, .ref q15, .int v16])), (q0, .inl (cA 0, 60, .inl ss)), (q4, .inl (cA 0, 480, .inl pp))] sz) := by
  refine gq_ofW (cc := cX6_undo) (maxL := 1) (ret := (some .int)) (by decide) rfl (Nat.le_of_ble_eq_true rfl) (fun p e s m args below meth c ls Q A hx hb hml hts hfc hmn hK hP hD hS hA hl hend => ?_)
  have hfc : s.vm.findClass RX6 = some m.cls := hfc
  have hl : lv_has ls 1 [(0, .ref m0)] := hl
  have h := hr
  clear hr
  unfold SX6_undo at h
  refine lv_aload_n hx hb dX6_undo_0 rfl (lv_at hl 0 rfl) ?_
  refine lv_aload_n hx hb dX6_undo_1 rfl (lv_at hl 0 rfl) ?_
  refine va_get (D := D) (ci := 10) (v := .int v5) (C := RX6) (T := TX6) (N := 17) hx hb hts iX6_undo_X6 hfc hK hP 0 rfl rfl 5 (by decide) (hts (.fieldLink RX6 48 "BathtubTidesModel" "pastMany" "I") (List.mem_of_getElem? (i := 1) rfl)) (fun _ h9 => h9) rfl dX6_undo_2 ?_
  obtain ⟨o2, ho2, h⟩ := lt_i h
  have ko2 : ∀ (ls : Array Slot) (H : Heap) (locs : List Loc), lv_has ls 1 [(0, .ref m0)] → va_P D vwCl [(m0, .inr (10, [.ref q0, .ref q1, .ref q2, .int v3, .ref q4, .int v5, .int v6, .ref q7, .int v8, .ref q9, .int v10, .int v11, .int v12, .int v13, .int v14, .ref q15, .int v16])), (q0, .inl (cA 0, 60, .inl ss)), (q4, .inl (cA 0, 480, .inl pp))] H → va_D A [(m0, .inr (10, [.ref q0, .ref q1, .ref q2, .int v3, .ref q4, .int v5, .int v6, .ref q7, .int v8, .ref q9, .int v10, .int v11, .int v12, .int v13, .int v14, .ref q15, .int v16])), (q0, .inl (cA 0, 60, .inl ss)), (q4, .inl (cA 0, 480, .inl pp))] → va_S A s.heap H locs → W p l e RM_X6_undo s m args below meth c H locs 0 0 Q (F0 m 13 ls [.int o2, .ref m0]) := by
    intro ls H locs hl hP hD hS
    refine va_put (D := D) (ci := 10) (v := .int o2) (ty := .int) (C := RX6) (T := TX6) (N := 17) hx hb hts iX6_undo_X6 tyX6 tyX6_ok nmX6 hfc hK hP hD hS 0 rfl rfl 6 (by decide) (hts (.fieldLink RX6 39 "BathtubTidesModel" "thrown" "I") (List.mem_of_getElem? (i := 2) rfl)) (fun _ h9 => h9) rfl (by decide +kernel) rfl rfl (Nat.le_of_ble_eq_true rfl) dX6_undo_13 (fun H locs hP hD hS => ?_)
    have hP : va_P D vwCl [(m0, .inr (10, [.ref q0, .ref q1, .ref q2, .int v3, .ref q4, .int v5, .int o2, .ref q7, .int v8, .ref q9, .int v10, .int v11, .int v12, .int v13, .int v14, .ref q15, .int v16])), (q0, .inl (cA 0, 60, .inl ss)), (q4, .inl (cA 0, 480, .inl pp))] H := hP
    have hD : va_D A [(m0, .inr (10, [.ref q0, .ref q1, .ref q2, .int v3, .ref q4, .int v5, .int o2, .ref q7, .int v8, .ref q9, .int v10, .int v11, .int v12, .int v13, .int v14, .ref q15, .int v16])), (q0, .inl (cA 0, 60, .inl ss)), (q4, .inl (cA 0, 480, .inl pp))] := hD
    refine lv_aload_n hx hb dX6_undo_16 rfl (lv_at hl 0 rfl) ?_
    refine va_get (D := D) (ci := 10) (v := .int o2) (C := RX6) (T := TX6) (N := 17) hx hb hts iX6_undo_X6 hfc hK hP 0 rfl rfl 6 (by decide) (hts (.fieldLink RX6 39 "BathtubTidesModel" "thrown" "I") (List.mem_of_getElem? (i := 2) rfl)) (fun _ h9 => h9) rfl dX6_undo_17 ?_
    refine lv_if_le (tgt := 25) hx hb dX6_undo_20 (by decide) (fun c3 => ?_) (fun c3 => ?_)
    · have h := ite_t c3 h
      refine lv_aload_n hx hb dX6_undo_25 rfl (lv_at hl 0 rfl) ?_
      refine lv_dup hx hb dX6_undo_26 rfl ?_
      refine va_get (D := D) (ci := 10) (v := .int v5) (C := RX6) (T := TX6) (N := 17) hx hb hts iX6_undo_X6 hfc hK hP 0 rfl rfl 5 (by decide) (hts (.fieldLink RX6 48 "BathtubTidesModel" "pastMany" "I") (List.mem_of_getElem? (i := 1) rfl)) (fun _ h9 => h9) rfl dX6_undo_27 ?_
      refine lv_iconst (v := 1) hx hb dX6_undo_30 (by decide) ?_
      refine lv_isub hx hb dX6_undo_31 ?_
      refine va_put (D := D) (ci := 10) (v := .int (v5 - 1)) (ty := .int) (C := RX6) (T := TX6) (N := 17) hx hb hts iX6_undo_X6 tyX6 tyX6_ok nmX6 hfc hK hP hD hS 0 rfl rfl 5 (by decide) (hts (.fieldLink RX6 48 "BathtubTidesModel" "pastMany" "I") (List.mem_of_getElem? (i := 1) rfl)) (fun _ h9 => h9) rfl (by decide +kernel) rfl rfl (Nat.le_of_ble_eq_true rfl) dX6_undo_32 (fun H locs hP hD hS => ?_)
      have hP : va_P D vwCl [(m0, .inr (10, [.ref q0, .ref q1, .ref q2, .int v3, .ref q4, .int (v5 - 1), .int o2, .ref q7, .int v8, .ref q9, .int v10, .int v11, .int v12, .int v13, .int v14, .ref q15, .int v16])), (q0, .inl (cA 0, 60, .inl ss)), (q4, .inl (cA 0, 480, .inl pp))] H := hP
      have hD : va_D A [(m0, .inr (10, [.ref q0, .ref q1, .ref q2, .int v3, .ref q4, .int (v5 - 1), .int o2, .ref q7, .int v8, .ref q9, .int v10, .int v11, .int v12, .int v13, .int v14, .ref q15, .int v16])), (q0, .inl (cA 0, 60, .inl ss)), (q4, .inl (cA 0, 480, .inl pp))] := hD
      refine lv_aload_n hx hb dX6_undo_35 rfl (lv_at hl 0 rfl) ?_
      refine va_get (D := D) (ci := 10) (v := .ref q4) (C := RX6) (T := TX6) (N := 17) hx hb hts iX6_undo_X6 hfc hK hP 0 rfl rfl 4 (by decide) (hts (.fieldLink RX6 19 "BathtubTidesModel" "past" "[I") (List.mem_of_getElem? (i := 3) rfl)) (fun _ h9 => h9) rfl dX6_undo_36 ?_
      refine lv_bipush (v := 60) hx hb dX6_undo_39 (by decide) ?_
      refine lv_aload_n hx hb dX6_undo_41 rfl (lv_at hl 0 rfl) ?_
      refine va_get (D := D) (ci := 10) (v := .int (v5 - 1)) (C := RX6) (T := TX6) (N := 17) hx hb hts iX6_undo_X6 hfc hK hP 0 rfl rfl 5 (by decide) (hts (.fieldLink RX6 48 "BathtubTidesModel" "pastMany" "I") (List.mem_of_getElem? (i := 1) rfl)) (fun _ h9 => h9) rfl dX6_undo_42 ?_
      refine lv_imul hx hb dX6_undo_45 ?_
      refine lv_aload_n hx hb dX6_undo_46 rfl (lv_at hl 0 rfl) ?_
      refine va_get (D := D) (ci := 10) (v := .ref q0) (C := RX6) (T := TX6) (N := 17) hx hb hts iX6_undo_X6 hfc hK hP 0 rfl rfl 0 (by decide) (hts (.fieldLink RX6 9 "BathtubTidesModel" "s" "[I") (List.mem_of_getElem? (i := 4) rfl)) (fun _ h9 => h9) rfl dX6_undo_47 ?_
      refine lv_iconst (v := 0) hx hb dX6_undo_50 (by decide) ?_
      refine lv_bipush (v := 60) hx hb dX6_undo_51 (by decide) ?_
      obtain ⟨g4, h⟩ := gd_i h
      refine va_copyi hx hb (hml.trans hl.1.symm) hfc (hts (.methodLink RX6 42 arraycopyName) (List.mem_of_getElem? (i := 5) rfl)) (hts (.native arraycopyName) (List.mem_of_getElem? (i := 6) rfl)) (hts (.static arraycopyName) (List.mem_of_getElem? (i := 7) rfl)) (hts (.initialized "java/lang/System") (List.mem_of_getElem? (i := 8) rfl)) hK hP hD hS 2 1 0 0 rfl rfl rfl rfl rfl g4.1 (by decide) (by decide) g4.2 (by decide) (fun _ _ => rfl) (Nat.le_of_ble_eq_true rfl) (Nat.le_of_ble_eq_true rfl) dX6_undo_53 (fun H locs hP hD hS => ?_)
      have hP : va_P D vwCl [(m0, .inr (10, [.ref q0, .ref q1, .ref q2, .int v3, .ref q4, .int (v5 - 1), .int o2, .ref q7, .int v8, .ref q9, .int v10, .int v11, .int v12, .int v13, .int v14, .ref q15, .int v16])), (q0, .inl (cA 0, 60, .inl (va_cpy pp ss (Int32.toNatClampNeg (60 * (v5 - 1))) 0 60))), (q4, .inl (cA 0, 480, .inl pp))] H := hP
      have hD : va_D A [(m0, .inr (10, [.ref q0, .ref q1, .ref q2, .int v3, .ref q4, .int (v5 - 1), .int o2, .ref q7, .int v8, .ref q9, .int v10, .int v11, .int v12, .int v13, .int v14, .ref q15, .int v16])), (q0, .inl (cA 0, 60, .inl (va_cpy pp ss (Int32.toNatClampNeg (60 * (v5 - 1))) 0 60))), (q4, .inl (cA 0, 480, .inl pp))] := hD
      refine lv_aload_n hx hb dX6_undo_56 rfl (lv_at hl 0 rfl) ?_
      refine va_get (D := D) (ci := 10) (v := .int (v5 - 1)) (C := RX6) (T := TX6) (N := 17) hx hb hts iX6_undo_X6 hfc hK hP 0 rfl rfl 5 (by decide) (hts (.fieldLink RX6 48 "BathtubTidesModel" "pastMany" "I") (List.mem_of_getElem? (i := 1) rfl)) (fun _ h9 => h9) rfl dX6_undo_57 ?_
      have h := Option.some.inj h
      subst h
      exact hend (adr []) _ _ _ _ _ _ _ rfl rfl (rtn_i _) hP hD hS dX6_undo_60
    · have h := ite_f c3 h
      refine lv_iconst (v := 0) hx hb dX6_undo_23 (by decide) ?_
      have h := Option.some.inj h
      subst h
      exact hend (adr []) _ _ _ _ _ _ _ rfl rfl (rtn_i _) hP hD hS dX6_undo_24
  clear h
  have h := ho2
  clear ho2
  refine lv_if_ne (tgt := 12) hx hb dX6_undo_5 (by decide) (fun c1 => ?_) (fun c1 => ?_)
  · have h := ite_f c1 h
    refine lv_iconst (v := 0) hx hb dX6_undo_12 (by decide) ?_
    subst h
    exact ko2 _ _ _ (lv_sub hl [0] rfl) hP hD hS
  · have h := ite_t c1 h
    refine lv_iconst (v := 1) hx hb dX6_undo_8 (by decide) ?_
    refine lv_goto (tgt := 13) hx hb dX6_undo_9 (by decide) ?_
    subst h
    exact ko2 _ _ _ (lv_sub hl [0] rfl) hP hD hS
noncomputable def SX6_save (ss : Nat → Int32) (sv : Nat → Int32) : Int32 × (Nat → Int32) × Int32 × Int32 := (ss 0, va_cpy ss sv 0 0 60, 1, 0)
theorem iX6_save_X6 : ∀ w ∈ wsX60, w ∈ wsX6_save := fun _ h => List.mem_cons_of_mem _ (List.mem_append_left _ (List.mem_append_right _ h))
abbrev RM_X6_save : Room := { frames := 1, cells := 0, slots := 0, locals := 18 }
set_option maxHeartbeats 4000000 in
theorem kX6_save (l : Launch) (D : va_G) (cA : Nat → ClassId) (m0 q0 q1 q2 q4 q7 q9 q15 : Nat) (v3 : Int32) (v5 : Int32) (v6 : Int32) (v8 : Int32) (v10 : Int32) (v11 : Int32) (v12 : Int32) (v13 : Int32) (v14 : Int32) (v16 : Int32) (ss : Nat → Int32) (sv : Nat → Int32) {r : Int32 × (Nat → Int32) × Int32 × Int32} (hr : SX6_save ss sv = r) {sz : Nat} : Met l yX6_save wsX6_save RM_X6_save (va_Pc [.ref m0] (gqB D cA [(m0, .inr (10, [.ref q0, .ref q1, .ref q2, .int v3, .ref q4, .int v5, .int v6, .ref q7, .int v8, .ref q9, .int v10, .int v11, .int v12, .int v13, .int v14, .ref q15, .int v16])), (q0, .inl (cA 0, 60, .inl ss)), (q2, .inl (cA 0, 60, .inl sv))] sz)) (gqQ D (fun as => (some (.int r.1))) (fun as => [(m0, .inr (10, [.ref q0, .ref q1, .ref q2, .int r.2.2.1, .ref q4, .int v5, .int r.2.2.2, .ref q7, .int v8, .ref q9, .int v10, .int v11, .int v12, .int v13, .int v14, .ref q15, .int v16])), (q0, .inl (cA 0, 60, .inl ss)), (q2, .inl (cA 0, 60, .inl r.2.1))]) (va_A [(m0, .inr (10, [.ref q0, .ref q1, .ref q2, .int v3, .ref q4, .int v5, .int v6, .ref q7, .int v8, .ref q9, .int v10, .int v11, .int v12, .int v13, .int v14, .ref q15, .int v16])), (q0, .inl (cA 0, 60, .inl ss)), (q2, .inl (cA 0, 60, .inl sv))] sz)) 0 0 (va_A [(m0, .inr (10, [.ref q0, .ref q1, .ref q2, .int v3, .ref q4, .int v5, .int v6, .ref q7, .int v8, .ref q9, .int v10, .int v11, .int v12, .int v13, .int v14, .ref q15, .int v16])), (q0, .inl (cA 0, 60, .inl ss)), (q2, .inl (cA 0, 60, .inl sv))] sz) := by
  refine gq_ofW (cc := cX6_save) (maxL := 1) (ret := (some .int)) (by decide) rfl (Nat.le_of_ble_eq_true rfl) (fun p e s m args below meth c ls Q A hx hb hml hts hfc hmn hK hP hD hS hA hl hend => ?_)
  have hfc : s.vm.findClass RX6 = some m.cls := hfc
  have hl : lv_has ls 1 [(0, .ref m0)] := hl
  have h := hr
  clear hr
  unfold SX6_save at h
  refine lv_aload_n hx hb dX6_save_0 rfl (lv_at hl 0 rfl) ?_
  refine lv_iconst (v := 0) hx hb dX6_save_1 (by decide) ?_
  refine va_put (D := D) (ci := 10) (v := .int 0) (ty := .int) (C := RX6) (T := TX6) (N := 17) hx hb hts iX6_save_X6 tyX6 tyX6_ok nmX6 hfc hK hP hD hS 0 rfl rfl 6 (by decide) (hts (.fieldLink RX6 39 "BathtubTidesModel" "thrown" "I") (List.mem_of_getElem? (i := 1) rfl)) (fun _ h9 => h9) rfl (by decide +kernel) rfl rfl (Nat.le_of_ble_eq_true rfl) dX6_save_2 (fun H locs hP hD hS => ?_)
  have hP : va_P D vwCl [(m0, .inr (10, [.ref q0, .ref q1, .ref q2, .int v3, .ref q4, .int v5, .int 0, .ref q7, .int v8, .ref q9, .int v10, .int v11, .int v12, .int v13, .int v14, .ref q15, .int v16])), (q0, .inl (cA 0, 60, .inl ss)), (q2, .inl (cA 0, 60, .inl sv))] H := hP
  have hD : va_D A [(m0, .inr (10, [.ref q0, .ref q1, .ref q2, .int v3, .ref q4, .int v5, .int 0, .ref q7, .int v8, .ref q9, .int v10, .int v11, .int v12, .int v13, .int v14, .ref q15, .int v16])), (q0, .inl (cA 0, 60, .inl ss)), (q2, .inl (cA 0, 60, .inl sv))] := hD
  refine lv_aload_n hx hb dX6_save_5 rfl (lv_at hl 0 rfl) ?_
  refine va_get (D := D) (ci := 10) (v := .ref q0) (C := RX6) (T := TX6) (N := 17) hx hb hts iX6_save_X6 hfc hK hP 0 rfl rfl 0 (by decide) (hts (.fieldLink RX6 9 "BathtubTidesModel" "s" "[I") (List.mem_of_getElem? (i := 2) rfl)) (fun _ h9 => h9) rfl dX6_save_6 ?_
  refine lv_iconst (v := 0) hx hb dX6_save_9 (by decide) ?_
  refine lv_aload_n hx hb dX6_save_10 rfl (lv_at hl 0 rfl) ?_
  refine va_get (D := D) (ci := 10) (v := .ref q2) (C := RX6) (T := TX6) (N := 17) hx hb hts iX6_save_X6 hfc hK hP 0 rfl rfl 2 (by decide) (hts (.fieldLink RX6 16 "BathtubTidesModel" "saved" "[I") (List.mem_of_getElem? (i := 3) rfl)) (fun _ h9 => h9) rfl dX6_save_11 ?_
  refine lv_iconst (v := 0) hx hb dX6_save_14 (by decide) ?_
  refine lv_bipush (v := 60) hx hb dX6_save_15 (by decide) ?_
  refine va_copyi hx hb (hml.trans hl.1.symm) hfc (hts (.methodLink RX6 42 arraycopyName) (List.mem_of_getElem? (i := 4) rfl)) (hts (.native arraycopyName) (List.mem_of_getElem? (i := 5) rfl)) (hts (.static arraycopyName) (List.mem_of_getElem? (i := 6) rfl)) (hts (.initialized "java/lang/System") (List.mem_of_getElem? (i := 7) rfl)) hK hP hD hS 1 2 0 0 rfl rfl rfl rfl rfl (by decide) (by decide) (by decide) (by decide) (by decide) (fun _ _ => rfl) (Nat.le_of_ble_eq_true rfl) (Nat.le_of_ble_eq_true rfl) dX6_save_17 (fun H locs hP hD hS => ?_)
  have hP : va_P D vwCl [(m0, .inr (10, [.ref q0, .ref q1, .ref q2, .int v3, .ref q4, .int v5, .int 0, .ref q7, .int v8, .ref q9, .int v10, .int v11, .int v12, .int v13, .int v14, .ref q15, .int v16])), (q0, .inl (cA 0, 60, .inl ss)), (q2, .inl (cA 0, 60, .inl (va_cpy ss sv 0 0 60)))] H := hP
  have hD : va_D A [(m0, .inr (10, [.ref q0, .ref q1, .ref q2, .int v3, .ref q4, .int v5, .int 0, .ref q7, .int v8, .ref q9, .int v10, .int v11, .int v12, .int v13, .int v14, .ref q15, .int v16])), (q0, .inl (cA 0, 60, .inl ss)), (q2, .inl (cA 0, 60, .inl (va_cpy ss sv 0 0 60)))] := hD
  refine lv_aload_n hx hb dX6_save_20 rfl (lv_at hl 0 rfl) ?_
  refine lv_iconst (v := 1) hx hb dX6_save_21 (by decide) ?_
  refine va_put (D := D) (ci := 10) (v := .int 1) (ty := .boolean) (C := RX6) (T := TX6) (N := 17) hx hb hts iX6_save_X6 tyX6 tyX6_ok nmX6 hfc hK hP hD hS 0 rfl rfl 3 (by decide) (hts (.fieldLink RX6 274 "BathtubTidesModel" "isSaved" "Z") (List.mem_of_getElem? (i := 8) rfl)) (fun _ h9 => h9) rfl (by decide +kernel) rfl rfl (Nat.le_of_ble_eq_true rfl) dX6_save_22 (fun H locs hP hD hS => ?_)
  have hP : va_P D vwCl [(m0, .inr (10, [.ref q0, .ref q1, .ref q2, .int 1, .ref q4, .int v5, .int 0, .ref q7, .int v8, .ref q9, .int v10, .int v11, .int v12, .int v13, .int v14, .ref q15, .int v16])), (q0, .inl (cA 0, 60, .inl ss)), (q2, .inl (cA 0, 60, .inl (va_cpy ss sv 0 0 60)))] H := hP
  have hD : va_D A [(m0, .inr (10, [.ref q0, .ref q1, .ref q2, .int 1, .ref q4, .int v5, .int 0, .ref q7, .int v8, .ref q9, .int v10, .int v11, .int v12, .int v13, .int v14, .ref q15, .int v16])), (q0, .inl (cA 0, 60, .inl ss)), (q2, .inl (cA 0, 60, .inl (va_cpy ss sv 0 0 60)))] := hD
  refine lv_aload_n hx hb dX6_save_25 rfl (lv_at hl 0 rfl) ?_
  refine va_get (D := D) (ci := 10) (v := .ref q0) (C := RX6) (T := TX6) (N := 17) hx hb hts iX6_save_X6 hfc hK hP 0 rfl rfl 0 (by decide) (hts (.fieldLink RX6 9 "BathtubTidesModel" "s" "[I") (List.mem_of_getElem? (i := 2) rfl)) (fun _ h9 => h9) rfl dX6_save_26 ?_
  refine lv_iconst (v := 0) hx hb dX6_save_29 (by decide) ?_
  refine va_iald hx hb hK hP 1 0 rfl rfl (vin _ _ (by decide)) dX6_save_30 ?_
  subst h
  exact hend (adr []) _ _ _ _ _ _ _ rfl rfl (rtn_i _) hP hD hS dX6_save_31
noncomputable def SX6_restore (v3 : Int32) (v5 : Int32) (ss : Nat → Int32) (sv : Nat → Int32) : Int32 × (Nat → Int32) × Int32 × Int32 := lt_ (if v3 = 0 then (1) else (0)) (fun o2 : Int32 => if o2 ≤ 0 then (((va_cpy sv ss 0 0 60) 0, va_cpy sv ss 0 0 60, 0, o2)) else ((0, ss, v5, o2)))
theorem iX6_restore_X6 : ∀ w ∈ wsX60, w ∈ wsX6_restore := fun _ h => List.mem_cons_of_mem _ (List.mem_append_left _ (List.mem_append_right _ h))
abbrev RM_X6_restore : Room := { frames := 1, cells := 0, slots := 0, locals := 18 }
set_option maxHeartbeats 4000000 in
theorem kX6_restore (l : Launch) (D : va_G) (cA : Nat → ClassId) (m0 q0 q1 q2 q4 q7 q9 q15 : Nat) (v3 : Int32) (v5 : Int32) (v6 : Int32) (v8 : Int32) (v10 : Int32) (v11 : Int32) (v12 : Int32) (v13 : Int32) (v14 : Int32) (v16 : Int32) (ss : Nat → Int32) (sv : Nat → Int32) {r : Int32 × (Nat → Int32) × Int32 × Int32} (hr : SX6_restore v3 v5 ss sv = r) {sz : Nat} : Met l yX6_restore wsX6_restore RM_X6_restore (va_Pc [.ref m0] (gqB D cA [(m0, .inr (10, [.ref q0, .ref q1, .ref q2, .int v3, .ref q4, .int v5, .int v6, .ref q7, .int v8, .ref q9, .int v10, .int v11, .int v12, .int v13, .int v14, .ref q15, .int v16])), (q0, .inl (cA 0, 60, .inl ss)), (q2, .inl (cA 0, 60, .inl sv))] sz)) (gqQ D (fun as => (some (.int r.1))) (fun as => [(m0, .inr (10, [.ref q0, .ref q1, .ref q2, .int v3, .ref q4, .int r.2.2.1, .int r.2.2.2, .ref q7, .int v8, .ref q9, .int v10, .int v11, .int v12, .int v13, .int v14, .ref q15, .int v16])), (q0, .inl (cA 0, 60, .inl r.2.1)), (q2, .inl (cA 0, 60, .inl sv))]) (va_A [(m0, .inr (10, [.ref q0, .ref q1, .ref q2, .int v3, .ref q4, .int v5, .int v6, .ref q7, .int v8, .ref q9, .int v10, .int v11, .int v12, .int v13, .int v14, .ref q15, .int v16])), (q0, .inl (cA 0, 60, .inl ss)), (q2, .inl (cA 0, 60, .inl sv))] sz)) 0 0 (va_A [(m0, .inr (10, [.ref q0, .ref q1, .ref q2, .int v3, .ref q4, .int v5, .int v6, .ref q7, .int v8, .ref q9, .int v10, .int v11, .int v12, .int v13, .int v14, .ref q15, .int v16])), (q0, .inl (cA 0, 60, .inl ss)), (q2, .inl (cA 0, 60, .inl sv))] sz) := by
  refine gq_ofW (cc := cX6_restore) (maxL := 1) (ret := (some .int)) (by decide) rfl (Nat.le_of_ble_eq_true rfl) (fun p e s m args below meth c ls Q A hx hb hml hts hfc hmn hK hP hD hS hA hl hend => ?_)
  have hfc : s.vm.findClass RX6 = some m.cls := hfc
  have hl : lv_has ls 1 [(0, .ref m0)] := hl
  have h := hr
  clear hr
  unfold SX6_restore at h
  refine lv_aload_n hx hb dX6_restore_0 rfl (lv_at hl 0 rfl) ?_
  refine lv_aload_n hx hb dX6_restore_1 rfl (lv_at hl 0 rfl) ?_
  refine va_get (D := D) (ci := 10) (v := .int v3) (C := RX6) (T := TX6) (N := 17) hx hb hts iX6_restore_X6 hfc hK hP 0 rfl rfl 3 (by decide) (hts (.fieldLink RX6 274 "BathtubTidesModel" "isSaved" "Z") (List.mem_of_getElem? (i := 1) rfl)) (fun _ h9 => h9) rfl dX6_restore_2 ?_
  obtain ⟨o2, ho2, h⟩ := lt_i h
  have ko2 : ∀ (ls : Array Slot) (H : Heap) (locs : List Loc), lv_has ls 1 [(0, .ref m0)] → va_P D vwCl [(m0, .inr (10, [.ref q0, .ref q1, .ref q2, .int v3, .ref q4, .int v5, .int v6, .ref q7, .int v8, .ref q9, .int v10, .int v11, .int v12, .int v13, .int v14, .ref q15, .int v16])), (q0, .inl (cA 0, 60, .inl ss)), (q2, .inl (cA 0, 60, .inl sv))] H → va_D A [(m0, .inr (10, [.ref q0, .ref q1, .ref q2, .int v3, .ref q4, .int v5, .int v6, .ref q7, .int v8, .ref q9, .int v10, .int v11, .int v12, .int v13, .int v14, .ref q15, .int v16])), (q0, .inl (cA 0, 60, .inl ss)), (q2, .inl (cA 0, 60, .inl sv))] → va_S A s.heap H locs → W p l e RM_X6_restore s m args below meth c H locs 0 0 Q (F0 m 13 ls [.int o2, .ref m0]) := by
    intro ls H locs hl hP hD hS
    refine va_put (D := D) (ci := 10) (v := .int o2) (ty := .int) (C := RX6) (T := TX6) (N := 17) hx hb hts iX6_restore_X6 tyX6 tyX6_ok nmX6 hfc hK hP hD hS 0 rfl rfl 6 (by decide) (hts (.fieldLink RX6 39 "BathtubTidesModel" "thrown" "I") (List.mem_of_getElem? (i := 2) rfl)) (fun _ h9 => h9) rfl (by decide +kernel) rfl rfl (Nat.le_of_ble_eq_true rfl) dX6_restore_13 (fun H locs hP hD hS => ?_)
    have hP : va_P D vwCl [(m0, .inr (10, [.ref q0, .ref q1, .ref q2, .int v3, .ref q4, .int v5, .int o2, .ref q7, .int v8, .ref q9, .int v10, .int v11, .int v12, .int v13, .int v14, .ref q15, .int v16])), (q0, .inl (cA 0, 60, .inl ss)), (q2, .inl (cA 0, 60, .inl sv))] H := hP
    have hD : va_D A [(m0, .inr (10, [.ref q0, .ref q1, .ref q2, .int v3, .ref q4, .int v5, .int o2, .ref q7, .int v8, .ref q9, .int v10, .int v11, .int v12, .int v13, .int v14, .ref q15, .int v16])), (q0, .inl (cA 0, 60, .inl ss)), (q2, .inl (cA 0, 60, .inl sv))] := hD
    refine lv_aload_n hx hb dX6_restore_16 rfl (lv_at hl 0 rfl) ?_
    refine va_get (D := D) (ci := 10) (v := .int o2) (C := RX6) (T := TX6) (N := 17) hx hb hts iX6_restore_X6 hfc hK hP 0 rfl rfl 6 (by decide) (hts (.fieldLink RX6 39 "BathtubTidesModel" "thrown" "I") (List.mem_of_getElem? (i := 2) rfl)) (fun _ h9 => h9) rfl dX6_restore_17 ?_
    refine lv_if_le (tgt := 25) hx hb dX6_restore_20 (by decide) (fun c3 => ?_) (fun c3 => ?_)
    · have h := ite_t c3 h
      refine lv_aload_n hx hb dX6_restore_25 rfl (lv_at hl 0 rfl) ?_
      refine va_get (D := D) (ci := 10) (v := .ref q2) (C := RX6) (T := TX6) (N := 17) hx hb hts iX6_restore_X6 hfc hK hP 0 rfl rfl 2 (by decide) (hts (.fieldLink RX6 16 "BathtubTidesModel" "saved" "[I") (List.mem_of_getElem? (i := 3) rfl)) (fun _ h9 => h9) rfl dX6_restore_26 ?_
      refine lv_iconst (v := 0) hx hb dX6_restore_29 (by decide) ?_
      refine lv_aload_n hx hb dX6_restore_30 rfl (lv_at hl 0 rfl) ?_
      refine va_get (D := D) (ci := 10) (v := .ref q0) (C := RX6) (T := TX6) (N := 17) hx hb hts iX6_restore_X6 hfc hK hP 0 rfl rfl 0 (by decide) (hts (.fieldLink RX6 9 "BathtubTidesModel" "s" "[I") (List.mem_of_getElem? (i := 4) rfl)) (fun _ h9 => h9) rfl dX6_restore_31 ?_
      refine lv_iconst (v := 0) hx hb dX6_restore_34 (by decide) ?_
      refine lv_bipush (v := 60) hx hb dX6_restore_35 (by decide) ?_
      refine va_copyi hx hb (hml.trans hl.1.symm) hfc (hts (.methodLink RX6 42 arraycopyName) (List.mem_of_getElem? (i := 5) rfl)) (hts (.native arraycopyName) (List.mem_of_getElem? (i := 6) rfl)) (hts (.static arraycopyName) (List.mem_of_getElem? (i := 7) rfl)) (hts (.initialized "java/lang/System") (List.mem_of_getElem? (i := 8) rfl)) hK hP hD hS 2 1 0 0 rfl rfl rfl rfl rfl (by decide) (by decide) (by decide) (by decide) (by decide) (fun _ _ => rfl) (Nat.le_of_ble_eq_true rfl) (Nat.le_of_ble_eq_true rfl) dX6_restore_37 (fun H locs hP hD hS => ?_)
      have hP : va_P D vwCl [(m0, .inr (10, [.ref q0, .ref q1, .ref q2, .int v3, .ref q4, .int v5, .int o2, .ref q7, .int v8, .ref q9, .int v10, .int v11, .int v12, .int v13, .int v14, .ref q15, .int v16])), (q0, .inl (cA 0, 60, .inl (va_cpy sv ss 0 0 60))), (q2, .inl (cA 0, 60, .inl sv))] H := hP
      have hD : va_D A [(m0, .inr (10, [.ref q0, .ref q1, .ref q2, .int v3, .ref q4, .int v5, .int o2, .ref q7, .int v8, .ref q9, .int v10, .int v11, .int v12, .int v13, .int v14, .ref q15, .int v16])), (q0, .inl (cA 0, 60, .inl (va_cpy sv ss 0 0 60))), (q2, .inl (cA 0, 60, .inl sv))] := hD
      refine lv_aload_n hx hb dX6_restore_40 rfl (lv_at hl 0 rfl) ?_
      refine lv_iconst (v := 0) hx hb dX6_restore_41 (by decide) ?_
      refine va_put (D := D) (ci := 10) (v := .int 0) (ty := .int) (C := RX6) (T := TX6) (N := 17) hx hb hts iX6_restore_X6 tyX6 tyX6_ok nmX6 hfc hK hP hD hS 0 rfl rfl 5 (by decide) (hts (.fieldLink RX6 48 "BathtubTidesModel" "pastMany" "I") (List.mem_of_getElem? (i := 9) rfl)) (fun _ h9 => h9) rfl (by decide +kernel) rfl rfl (Nat.le_of_ble_eq_true rfl) dX6_restore_42 (fun H locs hP hD hS => ?_)
      have hP : va_P D vwCl [(m0, .inr (10, [.ref q0, .ref q1, .ref q2, .int v3, .ref q4, .int 0, .int o2, .ref q7, .int v8, .ref q9, .int v10, .int v11, .int v12, .int v13, .int v14, .ref q15, .int v16])), (q0, .inl (cA 0, 60, .inl (va_cpy sv ss 0 0 60))), (q2, .inl (cA 0, 60, .inl sv))] H := hP
      have hD : va_D A [(m0, .inr (10, [.ref q0, .ref q1, .ref q2, .int v3, .ref q4, .int 0, .int o2, .ref q7, .int v8, .ref q9, .int v10, .int v11, .int v12, .int v13, .int v14, .ref q15, .int v16])), (q0, .inl (cA 0, 60, .inl (va_cpy sv ss 0 0 60))), (q2, .inl (cA 0, 60, .inl sv))] := hD
      refine lv_aload_n hx hb dX6_restore_45 rfl (lv_at hl 0 rfl) ?_
      refine va_get (D := D) (ci := 10) (v := .ref q0) (C := RX6) (T := TX6) (N := 17) hx hb hts iX6_restore_X6 hfc hK hP 0 rfl rfl 0 (by decide) (hts (.fieldLink RX6 9 "BathtubTidesModel" "s" "[I") (List.mem_of_getElem? (i := 4) rfl)) (fun _ h9 => h9) rfl dX6_restore_46 ?_
      refine lv_iconst (v := 0) hx hb dX6_restore_49 (by decide) ?_
      refine va_iald hx hb hK hP 1 0 rfl rfl (vin _ _ (by decide)) dX6_restore_50 ?_
      subst h
      exact hend (adr []) _ _ _ _ _ _ _ rfl rfl (rtn_i _) hP hD hS dX6_restore_51
    · have h := ite_f c3 h
      refine lv_iconst (v := 0) hx hb dX6_restore_23 (by decide) ?_
      subst h
      exact hend (adr []) _ _ _ _ _ _ _ rfl rfl (rtn_i _) hP hD hS dX6_restore_24
  clear h
  have h := ho2
  clear ho2
  refine lv_if_eq (tgt := 12) hx hb dX6_restore_5 (by decide) (fun c1 => ?_) (fun c1 => ?_)
  · have h := ite_t c1 h
    refine lv_iconst (v := 1) hx hb dX6_restore_12 (by decide) ?_
    subst h
    exact ko2 _ _ _ (lv_sub hl [0] rfl) hP hD hS
  · have h := ite_f c1 h
    refine lv_iconst (v := 0) hx hb dX6_restore_8 (by decide) ?_
    refine lv_goto (tgt := 13) hx hb dX6_restore_9 (by decide) ?_
    subst h
    exact ko2 _ _ _ (lv_sub hl [0] rfl) hP hD hS