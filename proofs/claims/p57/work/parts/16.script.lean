noncomputable def SX3_length (c0 : Int32) : Int32 := (SJ4_length_8abf5 c0)
theorem iX3_length_X3 : ∀ w ∈ wsX30, w ∈ wsX3_length := fun _ h => List.mem_cons_of_mem _ (List.mem_append_left _ (List.mem_append_right _ h))
abbrev RM_X3_length : Room := { frames := 2, cells := 0, slots := 0, locals := 40 }
set_option maxHeartbeats 4000000 in
theorem kX3_length (l : Launch) (D : va_G) (cA : Nat → ClassId) (s0 t0 m0 t1 : Nat) (u1 : Int32) (u2 : Int32) (u3 : Int32) (n : Nat) (f : Nat → Int32) (ml : Int32) (c0 : Int32) {r : Int32} (hr : SX3_length c0 = r) : Met l yX3_length wsX3_length RM_X3_length (va_Pc [.ref s0] (rqB D cA [(s0, .inr (7, [.ref t0, .ref m0, .int u1, .int u2, .int u3])), (t0, .inr (1, [.ref t1, .int 0, .int ml, .int c0])), (t1, .inl (cA 1, n, .inl f))])) (rqQ (some (.int r))) 0 0 (fun _ => False) := by
  refine rq_ofW (cc := cX3_length) (maxL := 1) (ret := (some .int)) (by decide) rfl (Nat.le_of_ble_eq_true rfl) (fun p e s m args below meth c ls Q hx hb hml hts hfc hK hP hl hend => ?_)
  have hfc : s.vm.findClass RX3 = some m.cls := hfc
  have hl : lv_has ls 1 [(0, .ref s0)] := hl
  have h := hr
  clear hr
  unfold SX3_length at h
  refine lv_aload_n hx hb dX3_length_0 rfl (lv_at hl 0 rfl) ?_
  refine va_get (D := D) (ci := 7) (v := .ref t0) (C := RX3) (T := TX3) (N := 5) hx hb hts iX3_length_X3 hfc hK hP 0 rfl rfl 0 (by decide) (hts (.fieldLink RX3 12 "BathtubTides$Script" "text" "Ljava/lang/StringBuilder;") (List.mem_of_getElem? (i := 1) rfl)) (fun _ h9 => h9) rfl dX3_length_1 ?_
  refine rq_V (v := (some (.int (SJ4_length_8abf5 c0)))) (As := []) (rest := []) (wc := [(t0, .inr (1, [.ref t1, .int 0, .int ml, .int c0])), (t1, .inl (cA 1, n, .inl f))]) ⟨hx, hb, hml, hfc, hts⟩ hK hP (kJ4_length_8abf5 l D cA t0 t1 n f ml c0 rfl) (cwV 0 hts gX3_length_J4_length_8abf5 rfl rfl rfl (by decide +kernel) ⟨(Nat.le_of_ble_eq_true rfl), (Nat.le_of_ble_eq_true rfl)⟩) [1, 2] rfl 1 1 rfl rfl rfl rfl rfl rfl hl.1 (Nat.le_of_ble_eq_true rfl) dX3_length_4 ⟨(Nat.zero_le _), (Nat.zero_le _)⟩ ?_
  subst h
  exact hend _ _ _ _ rfl (rtn_i _) dX3_length_7

noncomputable def SX3_append (n : Nat) (f : Nat → Int32) (c0 : Int32) (x1 : Int32) : Option (Int32 × Int32 × (Nat → Int32) × Nat) := bnd (SJ4_append_cf468 n f c0 x1) (fun o1 : Int32 × (Nat → Int32) × Nat => some (((SJ4_length_8abf5 o1.1), o1.1, o1.2.1, o1.2.2)))
theorem iX3_append_X3 : ∀ w ∈ wsX30, w ∈ wsX3_append := fun _ h => List.mem_cons_of_mem _ (List.mem_append_left _ (List.mem_append_right _ h))
abbrev RM_X3_append : Room := { frames := 6, cells := 1, slots := 168, locals := 128 }
set_option maxHeartbeats 4000000 in
theorem kX3_append (l : Launch) (D : va_G) (cA : Nat → ClassId) (G : eG) (s0 t0 m0 t1 : Nat) (u1 : Int32) (u2 : Int32) (u3 : Int32) (n : Nat) (f : Nat → Int32) (ml : Int32) (c0 : Int32) (x1 : Int32) {r : Int32 × Int32 × (Nat → Int32) × Nat} (hr : SX3_append n f c0 x1 = some r) {sz : Nat} : Met l yX3_append wsX3_append RM_X3_append (va_Pc [.ref s0, .int x1] (gqEB G D cA [(s0, .inr (7, [.ref t0, .ref m0, .int u1, .int u2, .int u3])), (t0, .inr (1, [.ref t1, .int 0, .int ml, .int c0])), (t1, .inl (cA 1, n, .inl f))] sz)) (gqQ D (fun as => (some (.int r.1))) (fun as => [(s0, .inr (7, [.ref t0, .ref m0, .int u1, .int u2, .int u3])), (t0, .inr (1, [.ref (as 0), .int 0, .int ml, .int r.2.1])), ((as 0), .inl (cA 1, r.2.2.2, .inl r.2.2.1))]) (va_A [(s0, .inr (7, [.ref t0, .ref m0, .int u1, .int u2, .int u3])), (t0, .inr (1, [.ref t1, .int 0, .int ml, .int c0])), (t1, .inl (cA 1, n, .inl f))] sz)) 1 168 (va_A [(s0, .inr (7, [.ref t0, .ref m0, .int u1, .int u2, .int u3])), (t0, .inr (1, [.ref t1, .int 0, .int ml, .int c0])), (t1, .inl (cA 1, n, .inl f))] sz) := by
  refine gqE_ofW (cc := cX3_append) (maxL := 2) (ret := (some .int)) (by decide) rfl (Nat.le_of_ble_eq_true rfl) (fun p e s m args below meth c ls Q A hx hb hml hts hfc hmn hK hP hD hS hA hEV hl hend => ?_)
  have hfc : s.vm.findClass RX3 = some m.cls := hfc
  have hl : lv_has ls 2 [(0, .ref s0), (1, .int x1)] := hl
  have h := hr
  clear hr
  unfold SX3_append at h
  refine lv_aload_n hx hb dX3_append_0 rfl (lv_at hl 0 rfl) ?_
  refine va_get (D := D) (ci := 7) (v := .ref t0) (C := RX3) (T := TX3) (N := 5) hx hb hts iX3_append_X3 hfc hK hP 0 rfl rfl 0 (by decide) (hts (.fieldLink RX3 12 "BathtubTides$Script" "text" "Ljava/lang/StringBuilder;") (List.mem_of_getElem? (i := 1) rfl)) (fun _ h9 => h9) rfl dX3_append_1 ?_
  refine lv_iload_n hx hb dX3_append_4 rfl (lv_at hl 1 rfl) ?_
  obtain ⟨o1, ho1, h⟩ := bnd_i h
  refine gqE_V (G := G) (v := (fun as => (some (.ref t0)))) (As := [.int x1]) (rest := []) (wc := [(t0, .inr (1, [.ref t1, .int 0, .int ml, .int c0])), (t1, .inl (cA 1, n, .inl f))]) (wr := [(s0, .inr (7, [.ref t0, .ref m0, .int u1, .int u2, .int u3]))]) (w1 := (fun as => [(t0, .inr (1, [.ref (as 0), .int 0, .int ml, .int o1.1])), ((as 0), .inl (cA 1, o1.2.2, .inl o1.2.1))])) (ws2 := (fun as => [(s0, .inr (7, [.ref t0, .ref m0, .int u1, .int u2, .int u3])), (t0, .inr (1, [.ref (as 0), .int 0, .int ml, .int o1.1])), ((as 0), .inl (cA 1, o1.2.2, .inl o1.2.1))])) (st1 := (fun as => [.ref t0])) ⟨hx, hb, hml, hfc, hts⟩ hK hP hD hS hA hEV (kJ4_append_cf468 l D cA G t0 t1 n f ml c0 x1 ho1) (cwV 1 hts gX3_append_J4_append_cf468 rfl rfl rfl (by decide +kernel) ⟨(Nat.le_of_ble_eq_true rfl), (Nat.le_of_ble_eq_true rfl)⟩) [1, 2] [0] [0, 1, 2] rfl rfl rfl rfl (by decide) (fun _ => rfl) rfl 1 1 rfl rfl rfl rfl (fun _ => rfl) rfl hl.1 (Nat.le_of_ble_eq_true rfl) dX3_append_5 ⟨(Nat.le_of_ble_eq_true rfl), (Nat.le_of_ble_eq_true rfl)⟩ (fun as2 H locs hP hD hS => ?_)
  have hP : va_P D vwCl [(s0, .inr (7, [.ref t0, .ref m0, .int u1, .int u2, .int u3])), (t0, .inr (1, [.ref (as2 0), .int 0, .int ml, .int o1.1])), ((as2 0), .inl (cA 1, o1.2.2, .inl o1.2.1))] H := hP
  have hD : va_D A [(s0, .inr (7, [.ref t0, .ref m0, .int u1, .int u2, .int u3])), (t0, .inr (1, [.ref (as2 0), .int 0, .int ml, .int o1.1])), ((as2 0), .inl (cA 1, o1.2.2, .inl o1.2.1))] := hD
  refine W.cs (cells' := 1) (slots' := 168) rfl rfl ?_
  refine lv_pop hx hb dX3_append_8 rfl ?_
  refine lv_aload_n hx hb dX3_append_9 rfl (lv_at hl 0 rfl) ?_
  refine va_get (D := D) (ci := 7) (v := .ref t0) (C := RX3) (T := TX3) (N := 5) hx hb hts iX3_append_X3 hfc hK hP 0 rfl rfl 0 (by decide) (hts (.fieldLink RX3 12 "BathtubTides$Script" "text" "Ljava/lang/StringBuilder;") (List.mem_of_getElem? (i := 1) rfl)) (fun _ h9 => h9) rfl dX3_append_10 ?_
  refine rq_V (v := (some (.int (SJ4_length_8abf5 o1.1)))) (As := []) (rest := []) (wc := [(t0, .inr (1, [.ref (as2 0), .int 0, .int ml, .int o1.1])), ((as2 0), .inl (cA 1, o1.2.2, .inl o1.2.1))]) ⟨hx, hb, hml, hfc, hts⟩ hK hP (kJ4_length_8abf5 l D cA t0 (as2 0) o1.2.2 o1.2.1 ml o1.1 rfl) (cwV 0 hts gX3_append_J4_length_8abf5 rfl rfl rfl (by decide +kernel) ⟨(Nat.le_of_ble_eq_true rfl), (Nat.le_of_ble_eq_true rfl)⟩) [1, 2] rfl 1 1 rfl rfl rfl rfl rfl rfl hl.1 (Nat.le_of_ble_eq_true rfl) dX3_append_13 ⟨(Nat.le_of_ble_eq_true rfl), (Nat.le_of_ble_eq_true rfl)⟩ ?_
  have h := Option.some.inj h
  subst h
  refine W.widen (k := 1) (n := 168) (Nat.le_of_ble_eq_true rfl) (Nat.le_of_ble_eq_true rfl) ?_
  exact hend (adr [(as2 0)]) _ _ _ _ _ _ _ rfl rfl (rtn_i _) hP hD hS dX3_append_16

noncomputable def SX3_empty (n : Nat) (f : Nat → Int32) (ml : Int32) (c0 : Int32) : Option (Int32 × Int32 × (Nat → Int32) × Nat) := bnd (SJ4_setLength_d00df n f ml c0 0) (fun o1 : Int32 × Int32 × (Nat → Int32) × Nat => some ((o1.1, o1.2.1, o1.2.2.1, o1.2.2.2)))
theorem iX3_empty_X3 : ∀ w ∈ wsX30, w ∈ wsX3_empty := fun _ h => List.mem_cons_of_mem _ (List.mem_append_left _ (List.mem_append_left _ (List.mem_append_left _ (List.mem_append_right _ h))))
abbrev RM_X3_empty : Room := { frames := 6, cells := 1, slots := 168, locals := 128 }
set_option maxHeartbeats 4000000 in
theorem kX3_empty (l : Launch) (D : va_G) (cA : Nat → ClassId) (G : eG) (s0 t0 m0 t1 : Nat) (u1 : Int32) (u2 : Int32) (u3 : Int32) (n : Nat) (f : Nat → Int32) (ml : Int32) (c0 : Int32) {r : Int32 × Int32 × (Nat → Int32) × Nat} (hr : SX3_empty n f ml c0 = some r) {sz : Nat} : Met l yX3_empty wsX3_empty RM_X3_empty (va_Pc [.ref s0] (gqEB G D cA [(s0, .inr (7, [.ref t0, .ref m0, .int u1, .int u2, .int u3])), (t0, .inr (1, [.ref t1, .int 0, .int ml, .int c0])), (t1, .inl (cA 1, n, .inl f))] sz)) (gqQ D (fun as => none) (fun as => [(s0, .inr (7, [.ref t0, .ref m0, .int u1, .int u2, .int u3])), (t0, .inr (1, [.ref (as 0), .int 0, .int r.1, .int r.2.1])), ((as 0), .inl (cA 1, r.2.2.2, .inl r.2.2.1))]) (va_A [(s0, .inr (7, [.ref t0, .ref m0, .int u1, .int u2, .int u3])), (t0, .inr (1, [.ref t1, .int 0, .int ml, .int c0])), (t1, .inl (cA 1, n, .inl f))] sz)) 1 168 (va_A [(s0, .inr (7, [.ref t0, .ref m0, .int u1, .int u2, .int u3])), (t0, .inr (1, [.ref t1, .int 0, .int ml, .int c0])), (t1, .inl (cA 1, n, .inl f))] sz) := by
  refine gqE_ofW (cc := cX3_empty) (maxL := 1) (ret := none) (by decide) rfl (Nat.le_of_ble_eq_true rfl) (fun p e s m args below meth c ls Q A hx hb hml hts hfc hmn hK hP hD hS hA hEV hl hend => ?_)
  have hfc : s.vm.findClass RX3 = some m.cls := hfc
  have hl : lv_has ls 1 [(0, .ref s0)] := hl
  have h := hr
  clear hr
  unfold SX3_empty at h
  refine lv_aload_n hx hb dX3_empty_0 rfl (lv_at hl 0 rfl) ?_
  refine va_get (D := D) (ci := 7) (v := .ref t0) (C := RX3) (T := TX3) (N := 5) hx hb hts iX3_empty_X3 hfc hK hP 0 rfl rfl 0 (by decide) (hts (.fieldLink RX3 12 "BathtubTides$Script" "text" "Ljava/lang/StringBuilder;") (List.mem_of_getElem? (i := 1) rfl)) (fun _ h9 => h9) rfl dX3_empty_1 ?_
  refine lv_iconst (v := 0) hx hb dX3_empty_4 (by decide) ?_
  obtain ⟨o1, ho1, h⟩ := bnd_i h
  refine gqE_V (G := G) (v := (fun as => none)) (As := [.int 0]) (rest := []) (wc := [(t0, .inr (1, [.ref t1, .int 0, .int ml, .int c0])), (t1, .inl (cA 1, n, .inl f))]) (wr := [(s0, .inr (7, [.ref t0, .ref m0, .int u1, .int u2, .int u3]))]) (w1 := (fun as => [(t0, .inr (1, [.ref (as 0), .int 0, .int o1.1, .int o1.2.1])), ((as 0), .inl (cA 1, o1.2.2.2, .inl o1.2.2.1))])) (ws2 := (fun as => [(s0, .inr (7, [.ref t0, .ref m0, .int u1, .int u2, .int u3])), (t0, .inr (1, [.ref (as 0), .int 0, .int o1.1, .int o1.2.1])), ((as 0), .inl (cA 1, o1.2.2.2, .inl o1.2.2.1))])) (st1 := (fun as => [])) ⟨hx, hb, hml, hfc, hts⟩ hK hP hD hS hA hEV (kJ4_setLength_d00df l D cA G t0 t1 n f ml c0 0 ho1) (cwV 1 hts gX3_empty_J4_setLength_d00df rfl rfl rfl (by decide +kernel) ⟨(Nat.le_of_ble_eq_true rfl), (Nat.le_of_ble_eq_true rfl)⟩) [1, 2] [0] [0, 1, 2] rfl rfl rfl rfl (by decide) (fun _ => rfl) rfl 1 1 rfl rfl rfl rfl (fun _ => rfl) rfl hl.1 (Nat.le_of_ble_eq_true rfl) dX3_empty_5 ⟨(Nat.le_of_ble_eq_true rfl), (Nat.le_of_ble_eq_true rfl)⟩ (fun as2 H locs hP hD hS => ?_)
  have hP : va_P D vwCl [(s0, .inr (7, [.ref t0, .ref m0, .int u1, .int u2, .int u3])), (t0, .inr (1, [.ref (as2 0), .int 0, .int o1.1, .int o1.2.1])), ((as2 0), .inl (cA 1, o1.2.2.2, .inl o1.2.2.1))] H := hP
  have hD : va_D A [(s0, .inr (7, [.ref t0, .ref m0, .int u1, .int u2, .int u3])), (t0, .inr (1, [.ref (as2 0), .int 0, .int o1.1, .int o1.2.1])), ((as2 0), .inl (cA 1, o1.2.2.2, .inl o1.2.2.1))] := hD
  refine W.cs (cells' := 1) (slots' := 168) rfl rfl ?_
  have h := Option.some.inj h
  subst h
  refine W.widen (k := 1) (n := 168) (Nat.le_of_ble_eq_true rfl) (Nat.le_of_ble_eq_true rfl) ?_
  exact hend (adr [(as2 0)]) _ _ _ _ _ _ _ rfl rfl (rtn_v) hP hD hS dX3_empty_8

noncomputable def SX3_commands (u1 : Int32) : Int32 := u1
theorem iX3_commands_X3 : ∀ w ∈ wsX30, w ∈ wsX3_commands := fun _ h => List.mem_cons_of_mem _ (List.mem_append_right _ h)
abbrev RM_X3_commands : Room := { frames := 0, cells := 0, slots := 0, locals := 0 }
set_option maxHeartbeats 4000000 in
theorem kX3_commands (l : Launch) (D : va_G) (cA : Nat → ClassId) (s0 t0 m0 : Nat) (u1 : Int32) (u2 : Int32) (u3 : Int32) {r : Int32} (hr : SX3_commands u1 = r) : Met l yX3_commands wsX3_commands RM_X3_commands (va_Pc [.ref s0] (rqB D cA [(s0, .inr (7, [.ref t0, .ref m0, .int u1, .int u2, .int u3]))])) (rqQ (some (.int r))) 0 0 (fun _ => False) := by
  refine rq_ofW (cc := cX3_commands) (maxL := 1) (ret := (some .int)) (by decide) rfl (Nat.le_of_ble_eq_true rfl) (fun p e s m args below meth c ls Q hx hb hml hts hfc hK hP hl hend => ?_)
  have hfc : s.vm.findClass RX3 = some m.cls := hfc
  have hl : lv_has ls 1 [(0, .ref s0)] := hl
  have h := hr
  clear hr
  unfold SX3_commands at h
  refine lv_aload_n hx hb dX3_commands_0 rfl (lv_at hl 0 rfl) ?_
  refine va_get (D := D) (ci := 7) (v := .int u1) (C := RX3) (T := TX3) (N := 5) hx hb hts iX3_commands_X3 hfc hK hP 0 rfl rfl 2 (by decide) (hts (.fieldLink RX3 27 "BathtubTides$Script" "count" "I") (List.mem_of_getElem? (i := 1) rfl)) (fun _ h9 => h9) rfl dX3_commands_1 ?_
  subst h
  exact hend _ _ _ _ rfl (rtn_i _) dX3_commands_4

noncomputable def SX3_commandAt (g : Nat → Int32) (x1 : Int32) : Int32 := (SX2_at 60 g (x1 * 4))
theorem iX3_commandAt_X3 : ∀ w ∈ wsX30, w ∈ wsX3_commandAt := fun _ h => List.mem_cons_of_mem _ (List.mem_append_left _ (List.mem_append_left _ (List.mem_append_right _ h)))
abbrev RM_X3_commandAt : Room := { frames := 1, cells := 0, slots := 0, locals := 21 }
set_option maxHeartbeats 4000000 in
theorem kX3_commandAt (l : Launch) (D : va_G) (cA : Nat → ClassId) (s0 t0 m0 m1 : Nat) (u1 : Int32) (u2 : Int32) (u3 : Int32) (g : Nat → Int32) (x1 : Int32) {r : Int32} (hr : SX3_commandAt g x1 = r) : Met l yX3_commandAt wsX3_commandAt RM_X3_commandAt (va_Pc [.ref s0, .int x1] (rqB D cA [(s0, .inr (7, [.ref t0, .ref m0, .int u1, .int u2, .int u3])), (m0, .inr (6, [.ref m1])), (m1, .inl (cA 0, 60, .inl g))])) (rqQ (some (.int r))) 0 0 (fun _ => False) := by
  refine rq_ofW (cc := cX3_commandAt) (maxL := 2) (ret := (some .int)) (by decide) rfl (Nat.le_of_ble_eq_true rfl) (fun p e s m args below meth c ls Q hx hb hml hts hfc hK hP hl hend => ?_)
  have hfc : s.vm.findClass RX3 = some m.cls := hfc
  have hl : lv_has ls 2 [(0, .ref s0), (1, .int x1)] := hl
  have h := hr
  clear hr
  unfold SX3_commandAt at h
  refine lv_aload_n hx hb dX3_commandAt_0 rfl (lv_at hl 0 rfl) ?_
  refine va_get (D := D) (ci := 7) (v := .ref m0) (C := RX3) (T := TX3) (N := 5) hx hb hts iX3_commandAt_X3 hfc hK hP 0 rfl rfl 1 (by decide) (hts (.fieldLink RX3 23 "BathtubTides$Script" "commands" "LBathtubTides$Row;") (List.mem_of_getElem? (i := 1) rfl)) (fun _ h9 => h9) rfl dX3_commandAt_1 ?_
  refine lv_iload_n hx hb dX3_commandAt_4 rfl (lv_at hl 1 rfl) ?_
  refine lv_iconst (v := 4) hx hb dX3_commandAt_5 (by decide) ?_
  refine lv_imul hx hb dX3_commandAt_6 ?_
  refine rq_V (v := (some (.int (SX2_at 60 g (x1 * 4))))) (As := [.int (x1 * 4)]) (rest := []) (wc := [(m0, .inr (6, [.ref m1])), (m1, .inl (cA 0, 60, .inl g))]) ⟨hx, hb, hml, hfc, hts⟩ hK hP (kX2_at l D cA m0 m1 60 g (x1 * 4) (Nat.le_of_ble_eq_true rfl) rfl) (cwV 1 hts gX3_commandAt_X2_at rfl rfl rfl (by decide +kernel) ⟨(Nat.le_of_ble_eq_true rfl), (Nat.le_of_ble_eq_true rfl)⟩) [1, 2] rfl 1 6 rfl rfl rfl rfl rfl rfl hl.1 (Nat.le_of_ble_eq_true rfl) dX3_commandAt_7 ⟨(Nat.zero_le _), (Nat.zero_le _)⟩ ?_
  subst h
  exact hend _ _ _ _ rfl (rtn_i _) dX3_commandAt_10

noncomputable def SX3_numberAt (g : Nat → Int32) (x1 : Int32) (x2 : Int32) : Int32 := (SX2_at 60 g (((x1 * 4) + 1) + x2))
theorem iX3_numberAt_X3 : ∀ w ∈ wsX30, w ∈ wsX3_numberAt := fun _ h => List.mem_cons_of_mem _ (List.mem_append_left _ (List.mem_append_left _ (List.mem_append_right _ h)))
abbrev RM_X3_numberAt : Room := { frames := 1, cells := 0, slots := 0, locals := 21 }
set_option maxHeartbeats 4000000 in
theorem kX3_numberAt (l : Launch) (D : va_G) (cA : Nat → ClassId) (s0 t0 m0 m1 : Nat) (u1 : Int32) (u2 : Int32) (u3 : Int32) (g : Nat → Int32) (x1 : Int32) (x2 : Int32) {r : Int32} (hr : SX3_numberAt g x1 x2 = r) : Met l yX3_numberAt wsX3_numberAt RM_X3_numberAt (va_Pc [.ref s0, .int x1, .int x2] (rqB D cA [(s0, .inr (7, [.ref t0, .ref m0, .int u1, .int u2, .int u3])), (m0, .inr (6, [.ref m1])), (m1, .inl (cA 0, 60, .inl g))])) (rqQ (some (.int r))) 0 0 (fun _ => False) := by
  refine rq_ofW (cc := cX3_numberAt) (maxL := 3) (ret := (some .int)) (by decide) rfl (Nat.le_of_ble_eq_true rfl) (fun p e s m args below meth c ls Q hx hb hml hts hfc hK hP hl hend => ?_)
  have hfc : s.vm.findClass RX3 = some m.cls := hfc
  have hl : lv_has ls 3 [(0, .ref s0), (1, .int x1), (2, .int x2)] := hl
  have h := hr
  clear hr
  unfold SX3_numberAt at h
  refine lv_aload_n hx hb dX3_numberAt_0 rfl (lv_at hl 0 rfl) ?_
  refine va_get (D := D) (ci := 7) (v := .ref m0) (C := RX3) (T := TX3) (N := 5) hx hb hts iX3_numberAt_X3 hfc hK hP 0 rfl rfl 1 (by decide) (hts (.fieldLink RX3 23 "BathtubTides$Script" "commands" "LBathtubTides$Row;") (List.mem_of_getElem? (i := 1) rfl)) (fun _ h9 => h9) rfl dX3_numberAt_1 ?_
  refine lv_iload_n hx hb dX3_numberAt_4 rfl (lv_at hl 1 rfl) ?_
  refine lv_iconst (v := 4) hx hb dX3_numberAt_5 (by decide) ?_
  refine lv_imul hx hb dX3_numberAt_6 ?_
  refine lv_iconst (v := 1) hx hb dX3_numberAt_7 (by decide) ?_
  refine lv_iadd hx hb dX3_numberAt_8 ?_
  refine lv_iload_n hx hb dX3_numberAt_9 rfl (lv_at hl 2 rfl) ?_
  refine lv_iadd hx hb dX3_numberAt_10 ?_
  refine rq_V (v := (some (.int (SX2_at 60 g (((x1 * 4) + 1) + x2))))) (As := [.int (((x1 * 4) + 1) + x2)]) (rest := []) (wc := [(m0, .inr (6, [.ref m1])), (m1, .inl (cA 0, 60, .inl g))]) ⟨hx, hb, hml, hfc, hts⟩ hK hP (kX2_at l D cA m0 m1 60 g (((x1 * 4) + 1) + x2) (Nat.le_of_ble_eq_true rfl) rfl) (cwV 1 hts gX3_numberAt_X2_at rfl rfl rfl (by decide +kernel) ⟨(Nat.le_of_ble_eq_true rfl), (Nat.le_of_ble_eq_true rfl)⟩) [1, 2] rfl 1 6 rfl rfl rfl rfl rfl rfl hl.1 (Nat.le_of_ble_eq_true rfl) dX3_numberAt_11 ⟨(Nat.zero_le _), (Nat.zero_le _)⟩ ?_
  subst h
  exact hend _ _ _ _ rfl (rtn_i _) dX3_numberAt_14

noncomputable def SX3_errorPlace (u2 : Int32) : Int32 := u2
theorem iX3_errorPlace_X3 : ∀ w ∈ wsX30, w ∈ wsX3_errorPlace := fun _ h => List.mem_cons_of_mem _ (List.mem_append_right _ h)
abbrev RM_X3_errorPlace : Room := { frames := 0, cells := 0, slots := 0, locals := 0 }
set_option maxHeartbeats 4000000 in
theorem kX3_errorPlace (l : Launch) (D : va_G) (cA : Nat → ClassId) (s0 t0 m0 : Nat) (u1 : Int32) (u2 : Int32) (u3 : Int32) {r : Int32} (hr : SX3_errorPlace u2 = r) : Met l yX3_errorPlace wsX3_errorPlace RM_X3_errorPlace (va_Pc [.ref s0] (rqB D cA [(s0, .inr (7, [.ref t0, .ref m0, .int u1, .int u2, .int u3]))])) (rqQ (some (.int r))) 0 0 (fun _ => False) := by
  refine rq_ofW (cc := cX3_errorPlace) (maxL := 1) (ret := (some .int)) (by decide) rfl (Nat.le_of_ble_eq_true rfl) (fun p e s m args below meth c ls Q hx hb hml hts hfc hK hP hl hend => ?_)
  have hfc : s.vm.findClass RX3 = some m.cls := hfc
  have hl : lv_has ls 1 [(0, .ref s0)] := hl
  have h := hr
  clear hr
  unfold SX3_errorPlace at h
  refine lv_aload_n hx hb dX3_errorPlace_0 rfl (lv_at hl 0 rfl) ?_
  refine va_get (D := D) (ci := 7) (v := .int u2) (C := RX3) (T := TX3) (N := 5) hx hb hts iX3_errorPlace_X3 hfc hK hP 0 rfl rfl 3 (by decide) (hts (.fieldLink RX3 31 "BathtubTides$Script" "at" "I") (List.mem_of_getElem? (i := 1) rfl)) (fun _ h9 => h9) rfl dX3_errorPlace_1 ?_
  subst h
  exact hend _ _ _ _ rfl (rtn_i _) dX3_errorPlace_4

noncomputable def SX3_isDigit (x0 : Int32) : Int32 := if x0 < 48 then (0) else (if 57 < x0 then (0) else (1))
abbrev RM_X3_isDigit : Room := { frames := 0, cells := 0, slots := 0, locals := 0 }
set_option maxHeartbeats 4000000 in
theorem kX3_isDigit (l : Launch) (D : va_G) (cA : Nat → ClassId) (x0 : Int32) {r : Int32} (hr : SX3_isDigit x0 = r) : Met l yX3_isDigit wsX3_isDigit RM_X3_isDigit (va_Pc [.int x0] (rqB D cA [])) (rqQ (some (.int r))) 0 0 (fun _ => False) := by
  refine rq_ofW (cc := cX3_isDigit) (maxL := 1) (ret := (some .boolean)) (by decide) rfl (Nat.le_of_ble_eq_true rfl) (fun p e s m args below meth c ls Q hx hb hml hts hfc hK hP hl hend => ?_)
  have hfc : s.vm.findClass RX3 = some m.cls := hfc
  have hl : lv_has ls 1 [(0, .int x0)] := hl
  have h := hr
  clear hr
  unfold SX3_isDigit at h
  refine lv_iload_n hx hb dX3_isDigit_0 rfl (lv_at hl 0 rfl) ?_
  refine lv_bipush (v := 48) hx hb dX3_isDigit_1 (by decide) ?_
  refine lv_icmp_lt (tgt := 16) hx hb dX3_isDigit_3 (by decide) (fun c1 => ?_) (fun c1 => ?_)
  · have h := ite_t c1 h
    refine lv_iconst (v := 0) hx hb dX3_isDigit_16 (by decide) ?_
    subst h
    exact hend _ _ _ _ rfl (rtn_n (x := 0) rfl) dX3_isDigit_17
  · have h := ite_f c1 h
    refine lv_iload_n hx hb dX3_isDigit_6 rfl (lv_at hl 0 rfl) ?_
    refine lv_bipush (v := 57) hx hb dX3_isDigit_7 (by decide) ?_
    refine lv_icmp_gt (tgt := 16) hx hb dX3_isDigit_9 (by decide) (fun c2 => ?_) (fun c2 => ?_)
    · have h := ite_t c2 h
      refine lv_iconst (v := 0) hx hb dX3_isDigit_16 (by decide) ?_
      subst h
      exact hend _ _ _ _ rfl (rtn_n (x := 0) rfl) dX3_isDigit_17
    · have h := ite_f c2 h
      refine lv_iconst (v := 1) hx hb dX3_isDigit_12 (by decide) ?_
      refine lv_goto (tgt := 17) hx hb dX3_isDigit_13 (by decide) ?_
      subst h
      exact hend _ _ _ _ rfl (rtn_n (x := 1) rfl) dX3_isDigit_17

noncomputable def SX3_numbersOf (x0 : Int32) : Int32 := if x0 = 0 then (3) else (if x0 = 1 then (3) else (if x0 = 2 then (3) else (if x0 = 3 then (1) else (if x0 = 4 then (1) else (if x0 = 5 then (1) else (if x0 = 6 then (1) else (if x0 = 7 then (0) else (if x0 = 8 then (2) else (1)))))))))
abbrev RM_X3_numbersOf : Room := { frames := 0, cells := 0, slots := 0, locals := 0 }
set_option maxHeartbeats 4000000 in
theorem kX3_numbersOf (l : Launch) (D : va_G) (cA : Nat → ClassId) (x0 : Int32) {r : Int32} (hr : SX3_numbersOf x0 = r) : Met l yX3_numbersOf wsX3_numbersOf RM_X3_numbersOf (va_Pc [.int x0] (rqB D cA [])) (rqQ (some (.int r))) 0 0 (fun _ => False) := by
  refine rq_ofW (cc := cX3_numbersOf) (maxL := 1) (ret := (some .int)) (by decide) rfl (Nat.le_of_ble_eq_true rfl) (fun p e s m args below meth c ls Q hx hb hml hts hfc hK hP hl hend => ?_)
  have hfc : s.vm.findClass RX3 = some m.cls := hfc
  have hl : lv_has ls 1 [(0, .int x0)] := hl
  have h := hr
  clear hr
  unfold SX3_numbersOf at h
  refine lv_iload_n hx hb dX3_numbersOf_0 rfl (lv_at hl 0 rfl) ?_
  by_cases c1 : x0 = 0
  · have h := ite_t c1 h
    refine lv_tableIn (off := 51) (tgt := 52) hx hb dX3_numbersOf_1 (by rw [c1]; decide) (by rw [c1]; decide) (by rw [c1]; decide) (by decide) ?_
    refine lv_iconst (v := 3) hx hb dX3_numbersOf_52 (by decide) ?_
    subst h
    exact hend _ _ _ _ rfl (rtn_i _) dX3_numbersOf_53
  · have h := ite_f c1 h
    by_cases c2 : x0 = 1
    · have h := ite_t c2 h
      refine lv_tableIn (off := 51) (tgt := 52) hx hb dX3_numbersOf_1 (by rw [c2]; decide) (by rw [c2]; decide) (by rw [c2]; decide) (by decide) ?_
      refine lv_iconst (v := 3) hx hb dX3_numbersOf_52 (by decide) ?_
      subst h
      exact hend _ _ _ _ rfl (rtn_i _) dX3_numbersOf_53
    · have h := ite_f c2 h
      by_cases c3 : x0 = 2
      · have h := ite_t c3 h
        refine lv_tableIn (off := 51) (tgt := 52) hx hb dX3_numbersOf_1 (by rw [c3]; decide) (by rw [c3]; decide) (by rw [c3]; decide) (by decide) ?_
        refine lv_iconst (v := 3) hx hb dX3_numbersOf_52 (by decide) ?_
        subst h
        exact hend _ _ _ _ rfl (rtn_i _) dX3_numbersOf_53
      · have h := ite_f c3 h
        by_cases c4 : x0 = 3
        · have h := ite_t c4 h
          refine lv_tableIn (off := 57) (tgt := 58) hx hb dX3_numbersOf_1 (by rw [c4]; decide) (by rw [c4]; decide) (by rw [c4]; decide) (by decide) ?_
          refine lv_iconst (v := 1) hx hb dX3_numbersOf_58 (by decide) ?_
          subst h
          exact hend _ _ _ _ rfl (rtn_i _) dX3_numbersOf_59
        · have h := ite_f c4 h
          by_cases c5 : x0 = 4
          · have h := ite_t c5 h
            refine lv_tableIn (off := 57) (tgt := 58) hx hb dX3_numbersOf_1 (by rw [c5]; decide) (by rw [c5]; decide) (by rw [c5]; decide) (by decide) ?_
            refine lv_iconst (v := 1) hx hb dX3_numbersOf_58 (by decide) ?_
            subst h
            exact hend _ _ _ _ rfl (rtn_i _) dX3_numbersOf_59
          · have h := ite_f c5 h
            by_cases c6 : x0 = 5
            · have h := ite_t c6 h
              refine lv_tableIn (off := 57) (tgt := 58) hx hb dX3_numbersOf_1 (by rw [c6]; decide) (by rw [c6]; decide) (by rw [c6]; decide) (by decide) ?_
              refine lv_iconst (v := 1) hx hb dX3_numbersOf_58 (by decide) ?_
              subst h
              exact hend _ _ _ _ rfl (rtn_i _) dX3_numbersOf_59
            · have h := ite_f c6 h
              by_cases c7 : x0 = 6
              · have h := ite_t c7 h
                refine lv_tableIn (off := 57) (tgt := 58) hx hb dX3_numbersOf_1 (by rw [c7]; decide) (by rw [c7]; decide) (by rw [c7]; decide) (by decide) ?_
                refine lv_iconst (v := 1) hx hb dX3_numbersOf_58 (by decide) ?_
                subst h
                exact hend _ _ _ _ rfl (rtn_i _) dX3_numbersOf_59
              · have h := ite_f c7 h
                by_cases c8 : x0 = 7
                · have h := ite_t c8 h
                  refine lv_tableIn (off := 55) (tgt := 56) hx hb dX3_numbersOf_1 (by rw [c8]; decide) (by rw [c8]; decide) (by rw [c8]; decide) (by decide) ?_
                  refine lv_iconst (v := 0) hx hb dX3_numbersOf_56 (by decide) ?_
                  subst h
                  exact hend _ _ _ _ rfl (rtn_i _) dX3_numbersOf_57
                · have h := ite_f c8 h
                  by_cases c9 : x0 = 8
                  · have h := ite_t c9 h
                    refine lv_tableIn (off := 53) (tgt := 54) hx hb dX3_numbersOf_1 (by rw [c9]; decide) (by rw [c9]; decide) (by rw [c9]; decide) (by decide) ?_
                    refine lv_iconst (v := 2) hx hb dX3_numbersOf_54 (by decide) ?_
                    subst h
                    exact hend _ _ _ _ rfl (rtn_i _) dX3_numbersOf_55
                  · have h := ite_f c9 h
                    have n0 := lv_neT (a := 0) c1 (by decide)
                    have n1 := lv_neT (a := 1) c2 (by decide)
                    have n2 := lv_neT (a := 2) c3 (by decide)
                    have n3 := lv_neT (a := 3) c4 (by decide)
                    have n4 := lv_neT (a := 4) c5 (by decide)
                    have n5 := lv_neT (a := 5) c6 (by decide)
                    have n6 := lv_neT (a := 6) c7 (by decide)
                    have n7 := lv_neT (a := 7) c8 (by decide)
                    have n8 := lv_neT (a := 8) c9 (by decide)
                    refine lv_tableOut (tgt := 58) hx hb dX3_numbersOf_1 (by omega) (by decide) ?_
                    refine lv_iconst (v := 1) hx hb dX3_numbersOf_58 (by decide) ?_
                    subst h
                    exact hend _ _ _ _ rfl (rtn_i _) dX3_numbersOf_59

noncomputable def SX3_signAt (n : Nat) (f : Nat → Int32) (c0 : Int32) (x1 : Int32) : Option (Int32) := if x1 < 0 then (some (0)) else (if (SJ4_length_8abf5 c0) ≤ x1 then (some (0)) else (bnd (SJ4_charAt_5068e n f c0 x1) (fun o4 : Int32 => gd (narrow .char (.int o4) = .int o4) (some (o4)))))
theorem iX3_signAt_X3 : ∀ w ∈ wsX30, w ∈ wsX3_signAt := fun _ h => List.mem_cons_of_mem _ (List.mem_append_left _ (List.mem_append_right _ h))
abbrev RM_X3_signAt : Room := { frames := 4, cells := 0, slots := 0, locals := 88 }
set_option maxHeartbeats 4000000 in
theorem kX3_signAt (l : Launch) (D : va_G) (cA : Nat → ClassId) (G : eG) (s0 t0 m0 t1 : Nat) (u1 : Int32) (u2 : Int32) (u3 : Int32) (n : Nat) (f : Nat → Int32) (ml : Int32) (c0 : Int32) (x1 : Int32) {r : Int32} (hr : SX3_signAt n f c0 x1 = some r) : Met l yX3_signAt wsX3_signAt RM_X3_signAt (va_Pc [.ref s0, .int x1] (rqEB G D cA [(s0, .inr (7, [.ref t0, .ref m0, .int u1, .int u2, .int u3])), (t0, .inr (1, [.ref t1, .int 0, .int ml, .int c0])), (t1, .inl (cA 1, n, .inl f))])) (rqQ (some (.int r))) 0 0 (fun _ => False) := by
  refine rqE_ofW (cc := cX3_signAt) (maxL := 2) (ret := (some .char)) (by decide) rfl (Nat.le_of_ble_eq_true rfl) (fun p e s m args below meth c ls Q hx hb hml hts hfc hK hP hS hEV hl hend => ?_)
  have hfc : s.vm.findClass RX3 = some m.cls := hfc
  have hl : lv_has ls 2 [(0, .ref s0), (1, .int x1)] := hl
  have h := hr
  clear hr
  unfold SX3_signAt at h
  refine lv_iload_n hx hb dX3_signAt_0 rfl (lv_at hl 1 rfl) ?_
  refine lv_if_lt (tgt := 26) hx hb dX3_signAt_1 (by decide) (fun c1 => ?_) (fun c1 => ?_)
  · have h := ite_t c1 h
    refine lv_iconst (v := 0) hx hb dX3_signAt_26 (by decide) ?_
    have h := Option.some.inj h
    subst h
    exact hend _ _ _ _ rfl (rtn_n (x := 0) rfl) dX3_signAt_27
  · have h := ite_f c1 h
    refine lv_iload_n hx hb dX3_signAt_4 rfl (lv_at hl 1 rfl) ?_
    refine lv_aload_n hx hb dX3_signAt_5 rfl (lv_at hl 0 rfl) ?_
    refine va_get (D := D) (ci := 7) (v := .ref t0) (C := RX3) (T := TX3) (N := 5) hx hb hts iX3_signAt_X3 hfc hK hP 0 rfl rfl 0 (by decide) (hts (.fieldLink RX3 12 "BathtubTides$Script" "text" "Ljava/lang/StringBuilder;") (List.mem_of_getElem? (i := 1) rfl)) (fun _ h9 => h9) rfl dX3_signAt_6 ?_
    refine rq_V (v := (some (.int (SJ4_length_8abf5 c0)))) (As := []) (rest := [.int x1]) (wc := [(t0, .inr (1, [.ref t1, .int 0, .int ml, .int c0])), (t1, .inl (cA 1, n, .inl f))]) ⟨hx, hb, hml, hfc, hts⟩ hK hP (kJ4_length_8abf5 l D cA t0 t1 n f ml c0 rfl) (cwV 0 hts gX3_signAt_J4_length_8abf5 rfl rfl rfl (by decide +kernel) ⟨(Nat.le_of_ble_eq_true rfl), (Nat.le_of_ble_eq_true rfl)⟩) [1, 2] rfl 1 1 rfl rfl rfl rfl rfl rfl hl.1 (Nat.le_of_ble_eq_true rfl) dX3_signAt_9 ⟨(Nat.zero_le _), (Nat.zero_le _)⟩ ?_
    refine lv_icmp_ge (tgt := 26) hx hb dX3_signAt_12 (by decide) (fun c3 => ?_) (fun c3 => ?_)
    · have h := ite_t c3 h
      refine lv_iconst (v := 0) hx hb dX3_signAt_26 (by decide) ?_
      have h := Option.some.inj h
      subst h
      exact hend _ _ _ _ rfl (rtn_n (x := 0) rfl) dX3_signAt_27
    · have h := ite_f c3 h
      refine lv_aload_n hx hb dX3_signAt_15 rfl (lv_at hl 0 rfl) ?_
      refine va_get (D := D) (ci := 7) (v := .ref t0) (C := RX3) (T := TX3) (N := 5) hx hb hts iX3_signAt_X3 hfc hK hP 0 rfl rfl 0 (by decide) (hts (.fieldLink RX3 12 "BathtubTides$Script" "text" "Ljava/lang/StringBuilder;") (List.mem_of_getElem? (i := 1) rfl)) (fun _ h9 => h9) rfl dX3_signAt_16 ?_
      refine lv_iload_n hx hb dX3_signAt_19 rfl (lv_at hl 1 rfl) ?_
      obtain ⟨o4, ho4, h⟩ := bnd_i h
      refine rqE_V (G := G) (v := (some (.int o4))) (As := [.int x1]) (rest := []) (wc := [(t0, .inr (1, [.ref t1, .int 0, .int ml, .int c0])), (t1, .inl (cA 1, n, .inl f))]) ⟨hx, hb, hml, hfc, hts⟩ hK hP hS hEV (kJ4_charAt_5068e l D cA G t0 t1 n f ml c0 x1 ho4) (cwV 1 hts gX3_signAt_J4_charAt_5068e rfl rfl rfl (by decide +kernel) ⟨(Nat.le_of_ble_eq_true rfl), (Nat.le_of_ble_eq_true rfl)⟩) [1, 2] rfl 1 1 rfl rfl rfl rfl rfl rfl hl.1 (Nat.le_of_ble_eq_true rfl) dX3_signAt_20 ⟨(Nat.zero_le _), (Nat.zero_le _)⟩ ?_
      refine lv_goto (tgt := 27) hx hb dX3_signAt_23 (by decide) ?_
      obtain ⟨g6, h⟩ := gd_i h
      have h := Option.some.inj h
      subst h
      exact hend _ _ _ _ rfl (rtn_n g6) dX3_signAt_27

noncomputable def SX3_wordOf (x0 : Int32) : Nat := if x0 = 0 then (0) else (if x0 = 1 then (1) else (if x0 = 2 then (2) else (if x0 = 3 then (3) else (if x0 = 4 then (4) else (if x0 = 5 then (5) else (if x0 = 6 then (6) else (if x0 = 7 then (7) else (if x0 = 8 then (8) else (if x0 = 9 then (9) else (if x0 = 10 then (10) else (11)))))))))))
abbrev RM_X3_wordOf : Room := { frames := 0, cells := 0, slots := 0, locals := 0 }
set_option maxHeartbeats 4000000 in
theorem kX3_wordOf (l : Launch) (D : va_G) (cA : Nat → ClassId) (G : eG) (x0 : Int32) {r : Nat} (hr : SX3_wordOf x0 = r) : Met l yX3_wordOf wsX3_wordOf RM_X3_wordOf (va_Pc [.int x0] (rqEB G D cA [])) (rqQ (some (.ref (G.1 r)))) 0 0 (fun _ => False) := by
  refine rqE_ofW (cc := cX3_wordOf) (maxL := 1) (ret := (some (.object "java/lang/String"))) (by decide) rfl (Nat.le_of_ble_eq_true rfl) (fun p e s m args below meth c ls Q hx hb hml hts hfc hK hP hS hEV hl hend => ?_)
  have hfc : s.vm.findClass RX3 = some m.cls := hfc
  have hl : lv_has ls 1 [(0, .int x0)] := hl
  have h := hr
  clear hr
  unfold SX3_wordOf at h
  refine lv_iload_n hx hb dX3_wordOf_0 rfl (lv_at hl 0 rfl) ?_
  by_cases c1 : x0 = 0
  · have h := ite_t c1 h
    refine lv_tableIn (off := 59) (tgt := 60) hx hb dX3_wordOf_1 (by rw [c1]; decide) (by rw [c1]; decide) (by rw [c1]; decide) (by decide) ?_
    refine va_ldcS hx hb hfc (hEV.2.2.2.2.2.2.2.2.1 (RX3, 98, "hard", 0) (by decide +kernel)) dX3_wordOf_60 ?_
    subst h
    exact hend _ _ _ _ rfl (rtn_a _ _) dX3_wordOf_62
  · have h := ite_f c1 h
    by_cases c2 : x0 = 1
    · have h := ite_t c2 h
      refine lv_tableIn (off := 62) (tgt := 63) hx hb dX3_wordOf_1 (by rw [c2]; decide) (by rw [c2]; decide) (by rw [c2]; decide) (by decide) ?_
      refine va_ldcS hx hb hfc (hEV.2.2.2.2.2.2.2.2.1 (RX3, 100, "soft", 1) (by decide +kernel)) dX3_wordOf_63 ?_
      subst h
      exact hend _ _ _ _ rfl (rtn_a _ _) dX3_wordOf_65
    · have h := ite_f c2 h
      by_cases c3 : x0 = 2
      · have h := ite_t c3 h
        refine lv_tableIn (off := 65) (tgt := 66) hx hb dX3_wordOf_1 (by rw [c3]; decide) (by rw [c3]; decide) (by rw [c3]; decide) (by decide) ?_
        refine va_ldcS hx hb hfc (hEV.2.2.2.2.2.2.2.2.1 (RX3, 102, "bubble", 2) (by decide +kernel)) dX3_wordOf_66 ?_
        subst h
        exact hend _ _ _ _ rfl (rtn_a _ _) dX3_wordOf_68
      · have h := ite_f c3 h
        by_cases c4 : x0 = 3
        · have h := ite_t c4 h
          refine lv_tableIn (off := 68) (tgt := 69) hx hb dX3_wordOf_1 (by rw [c4]; decide) (by rw [c4]; decide) (by rw [c4]; decide) (by decide) ?_
          refine va_ldcS hx hb hfc (hEV.2.2.2.2.2.2.2.2.1 (RX3, 104, "remove", 3) (by decide +kernel)) dX3_wordOf_69 ?_
          subst h
          exact hend _ _ _ _ rfl (rtn_a _ _) dX3_wordOf_71
        · have h := ite_f c4 h
          by_cases c5 : x0 = 4
          · have h := ite_t c5 h
            refine lv_tableIn (off := 71) (tgt := 72) hx hb dX3_wordOf_1 (by rw [c5]; decide) (by rw [c5]; decide) (by rw [c5]; decide) (by decide) ?_
            refine va_ldcS hx hb hfc (hEV.2.2.2.2.2.2.2.2.1 (RX3, 106, "toe", 4) (by decide +kernel)) dX3_wordOf_72 ?_
            subst h
            exact hend _ _ _ _ rfl (rtn_a _ _) dX3_wordOf_74
          · have h := ite_f c5 h
            by_cases c6 : x0 = 5
            · have h := ite_t c6 h
              refine lv_tableIn (off := 74) (tgt := 75) hx hb dX3_wordOf_1 (by rw [c6]; decide) (by rw [c6]; decide) (by rw [c6]; decide) (by decide) ?_
              refine va_ldcS hx hb hfc (hEV.2.2.2.2.2.2.2.2.1 (RX3, 108, "shave", 5) (by decide +kernel)) dX3_wordOf_75 ?_
              subst h
              exact hend _ _ _ _ rfl (rtn_a _ _) dX3_wordOf_77
            · have h := ite_f c6 h
              by_cases c7 : x0 = 6
              · have h := ite_t c7 h
                refine lv_tableIn (off := 77) (tgt := 78) hx hb dX3_wordOf_1 (by rw [c7]; decide) (by rw [c7]; decide) (by rw [c7]; decide) (by decide) ?_
                refine va_ldcS hx hb hfc (hEV.2.2.2.2.2.2.2.2.1 (RX3, 110, "plug", 6) (by decide +kernel)) dX3_wordOf_78 ?_
                subst h
                exact hend _ _ _ _ rfl (rtn_a _ _) dX3_wordOf_80
              · have h := ite_f c7 h
                by_cases c8 : x0 = 7
                · have h := ite_t c8 h
                  refine lv_tableIn (off := 80) (tgt := 81) hx hb dX3_wordOf_1 (by rw [c8]; decide) (by rw [c8]; decide) (by rw [c8]; decide) (by decide) ?_
                  refine va_ldcS hx hb hfc (hEV.2.2.2.2.2.2.2.2.1 (RX3, 112, "pull", 7) (by decide +kernel)) dX3_wordOf_81 ?_
                  subst h
                  exact hend _ _ _ _ rfl (rtn_a _ _) dX3_wordOf_83
                · have h := ite_f c8 h
                  by_cases c9 : x0 = 8
                  · have h := ite_t c9 h
                    refine lv_tableIn (off := 83) (tgt := 84) hx hb dX3_wordOf_1 (by rw [c9]; decide) (by rw [c9]; decide) (by rw [c9]; decide) (by decide) ?_
                    refine va_ldcS hx hb hfc (hEV.2.2.2.2.2.2.2.2.1 (RX3, 114, "towel", 8) (by decide +kernel)) dX3_wordOf_84 ?_
                    subst h
                    exact hend _ _ _ _ rfl (rtn_a _ _) dX3_wordOf_86
                  · have h := ite_f c9 h
                    by_cases c10 : x0 = 9
                    · have h := ite_t c10 h
                      refine lv_tableIn (off := 86) (tgt := 87) hx hb dX3_wordOf_1 (by rw [c10]; decide) (by rw [c10]; decide) (by rw [c10]; decide) (by decide) ?_
                      refine va_ldcS hx hb hfc (hEV.2.2.2.2.2.2.2.2.1 (RX3, 116, "wring", 9) (by decide +kernel)) dX3_wordOf_87 ?_
                      subst h
                      exact hend _ _ _ _ rfl (rtn_a _ _) dX3_wordOf_89
                    · have h := ite_f c10 h
                      by_cases c11 : x0 = 10
                      · have h := ite_t c11 h
                        refine lv_tableIn (off := 89) (tgt := 90) hx hb dX3_wordOf_1 (by rw [c11]; decide) (by rw [c11]; decide) (by rw [c11]; decide) (by decide) ?_
                        refine va_ldcS hx hb hfc (hEV.2.2.2.2.2.2.2.2.1 (RX3, 118, "flow", 10) (by decide +kernel)) dX3_wordOf_90 ?_
                        subst h
                        exact hend _ _ _ _ rfl (rtn_a _ _) dX3_wordOf_92
                      · have h := ite_f c11 h
                        have n0 := lv_neT (a := 0) c1 (by decide)
                        have n1 := lv_neT (a := 1) c2 (by decide)
                        have n2 := lv_neT (a := 2) c3 (by decide)
                        have n3 := lv_neT (a := 3) c4 (by decide)
                        have n4 := lv_neT (a := 4) c5 (by decide)
                        have n5 := lv_neT (a := 5) c6 (by decide)
                        have n6 := lv_neT (a := 6) c7 (by decide)
                        have n7 := lv_neT (a := 7) c8 (by decide)
                        have n8 := lv_neT (a := 8) c9 (by decide)
                        have n9 := lv_neT (a := 9) c10 (by decide)
                        have n10 := lv_neT (a := 10) c11 (by decide)
                        refine lv_tableOut (tgt := 93) hx hb dX3_wordOf_1 (by omega) (by decide) ?_
                        refine va_ldcS hx hb hfc (hEV.2.2.2.2.2.2.2.2.1 (RX3, 120, "wait", 11) (by decide +kernel)) dX3_wordOf_93 ?_
                        subst h
                        exact hend _ _ _ _ rfl (rtn_a _ _) dX3_wordOf_95

theorem SX3_wordOf_lt (x0 : Int32) : SX3_wordOf x0 < 24 := by
  unfold SX3_wordOf
  repeat' split
  all_goals decide

noncomputable def LX3_sameSigns_2 (k : Nat) (n : Nat) (f : Nat → Int32) (c0 : Int32) (u2 : Int32) : Nat → Int32 → Option (Int32)
  | 0, _ => none
  | fu + 1, x2_2 => if (SJ0_length_8abf5 k) ≤ x2_2 then (some (x2_2)) else (bnd (SX3_signAt n f c0 (u2 + x2_2)) (fun o3 : Int32 => bnd (SJ0_charAt_5068e k x2_2) (fun o5 : Int32 => if o3 = o5 then (LX3_sameSigns_2 k n f c0 u2 fu (x2_2 + 1)) else (some (x2_2)))))
noncomputable def SX3_sameSigns (N : Nat) (k : Nat) (u2 : Int32) (n : Nat) (f : Nat → Int32) (c0 : Int32) : Option (Int32) := LX3_sameSigns_2 k n f c0 u2 N 0
theorem iX3_sameSigns_X3 : ∀ w ∈ wsX30, w ∈ wsX3_sameSigns := fun _ h => List.mem_cons_of_mem _ (List.mem_append_left _ (List.mem_append_left _ (List.mem_append_right _ h)))
abbrev RM_X3_sameSigns : Room := { frames := 5, cells := 0, slots := 0, locals := 109 }
set_option maxHeartbeats 4000000 in
theorem kX3_sameSigns (l : Launch) (D : va_G) (cA : Nat → ClassId) (G : eG) (s0 t0 m0 t1 : Nat) (N : Nat) (k : Nat) (u1 : Int32) (u2 : Int32) (u3 : Int32) (n : Nat) (f : Nat → Int32) (ml : Int32) (c0 : Int32) (hk : k < 24) {r : Int32} (hr : SX3_sameSigns N k u2 n f c0 = some r) : Met l yX3_sameSigns wsX3_sameSigns RM_X3_sameSigns (va_Pc [.ref s0, .ref (G.1 k)] (rqEB G D cA [(s0, .inr (7, [.ref t0, .ref m0, .int u1, .int u2, .int u3])), (t0, .inr (1, [.ref t1, .int 0, .int ml, .int c0])), (t1, .inl (cA 1, n, .inl f))])) (rqQ (some (.int r))) 0 0 (fun _ => False) := by
  refine rqE_ofW (cc := cX3_sameSigns) (maxL := 3) (ret := (some .int)) (by decide) rfl (Nat.le_of_ble_eq_true rfl) (fun p e s m args below meth c ls Q hx hb hml hts hfc hK hP hS hEV hl hend => ?_)
  have hfc : s.vm.findClass RX3 = some m.cls := hfc
  have hl : lv_has ls 3 [(0, .ref s0), (1, .ref (G.1 k))] := hl
  have h := hr
  clear hr
  unfold SX3_sameSigns at h
  refine lv_iconst (v := 0) hx hb dX3_sameSigns_0 (by decide) ?_
  refine lv_istore_n hx hb dX3_sameSigns_1 rfl hl (Nat.le_of_ble_eq_true rfl) rfl (fun ls hl => ?_)
  have hl : lv_has ls 3 [(2, .int 0), (0, .ref s0), (1, .ref (G.1 k))] := hl
  have hLX3_sameSigns_2 : ∀ (fu : Nat) (x2_2 : Int32) (ls : Array Slot), lv_has ls 3 [(0, .ref s0), (1, .ref (G.1 k)), (2, .int x2_2)] → LX3_sameSigns_2 k n f c0 u2 fu x2_2 = some r → W p l e RM_X3_sameSigns s m args below meth c s.heap [] 0 0 Q (F0 m 2 ls []) := by
    intro fu
    induction fu with
    | zero =>
      intro x2_2 ls hl h
      rw [LX3_sameSigns_2] at h
      exact nn h
    | succ fu ih =>
      intro x2_2 ls hl h
      rw [LX3_sameSigns_2] at h
      refine lv_iload_n hx hb dX3_sameSigns_2 rfl (lv_at hl 2 rfl) ?_
      refine lv_aload_n hx hb dX3_sameSigns_3 rfl (lv_at hl 1 rfl) ?_
      refine rqE_T (G := G) (v := (some (.int (SJ0_length_8abf5 k)))) (As := []) (rest := [.int x2_2]) (wc := []) ⟨hx, hb, hml, hfc, hts⟩ hK hP hS hEV (kJ0_length_8abf5 l D cA G k hk rfl) (cwV 0 hts gX3_sameSigns_J0_length_8abf5 rfl rfl rfl (by decide +kernel) ⟨(Nat.le_of_ble_eq_true rfl), (Nat.le_of_ble_eq_true rfl)⟩) [] rfl hk rfl rfl rfl hl.1 (Nat.le_of_ble_eq_true rfl) dX3_sameSigns_4 ⟨(Nat.zero_le _), (Nat.zero_le _)⟩ ?_
      refine lv_icmp_ge (tgt := 34) hx hb dX3_sameSigns_7 (by decide) (fun c2 => ?_) (fun c2 => ?_)
      · have h := ite_t c2 h
        refine lv_iload_n hx hb dX3_sameSigns_34 rfl (lv_at hl 2 rfl) ?_
        have h := Option.some.inj h
        subst h
        exact hend _ _ _ _ rfl (rtn_i _) dX3_sameSigns_35
      · have h := ite_f c2 h
        refine lv_aload_n hx hb dX3_sameSigns_10 rfl (lv_at hl 0 rfl) ?_
        refine lv_aload_n hx hb dX3_sameSigns_11 rfl (lv_at hl 0 rfl) ?_
        refine va_get (D := D) (ci := 7) (v := .int u2) (C := RX3) (T := TX3) (N := 5) hx hb hts iX3_sameSigns_X3 hfc hK hP 0 rfl rfl 3 (by decide) (hts (.fieldLink RX3 31 "BathtubTides$Script" "at" "I") (List.mem_of_getElem? (i := 1) rfl)) (fun _ h9 => h9) rfl dX3_sameSigns_12 ?_
        refine lv_iload_n hx hb dX3_sameSigns_15 rfl (lv_at hl 2 rfl) ?_
        refine lv_iadd hx hb dX3_sameSigns_16 ?_
        obtain ⟨o3, ho3, h⟩ := bnd_i h
        refine rqE_V (G := G) (v := (some (.int o3))) (As := [.int (u2 + x2_2)]) (rest := []) (wc := [(s0, .inr (7, [.ref t0, .ref m0, .int u1, .int u2, .int u3])), (t0, .inr (1, [.ref t1, .int 0, .int ml, .int c0])), (t1, .inl (cA 1, n, .inl f))]) ⟨hx, hb, hml, hfc, hts⟩ hK hP hS hEV (kX3_signAt l D cA G s0 t0 m0 t1 u1 u2 u3 n f ml c0 (u2 + x2_2) ho3) (cwV 1 hts gX3_sameSigns_X3_signAt rfl rfl rfl (by decide +kernel) ⟨(Nat.le_of_ble_eq_true rfl), (Nat.le_of_ble_eq_true rfl)⟩) [0, 1, 2] rfl 0 7 rfl rfl rfl rfl rfl rfl hl.1 (Nat.le_of_ble_eq_true rfl) dX3_sameSigns_17 ⟨(Nat.zero_le _), (Nat.zero_le _)⟩ ?_
        refine lv_aload_n hx hb dX3_sameSigns_20 rfl (lv_at hl 1 rfl) ?_
        refine lv_iload_n hx hb dX3_sameSigns_21 rfl (lv_at hl 2 rfl) ?_
        obtain ⟨o5, ho5, h⟩ := bnd_i h
        refine rqE_T (G := G) (v := (some (.int o5))) (As := [.int x2_2]) (rest := [.int o3]) (wc := []) ⟨hx, hb, hml, hfc, hts⟩ hK hP hS hEV (kJ0_charAt_5068e l D cA G k x2_2 hk ho5) (cwV 1 hts gX3_sameSigns_J0_charAt_5068e rfl rfl rfl (by decide +kernel) ⟨(Nat.le_of_ble_eq_true rfl), (Nat.le_of_ble_eq_true rfl)⟩) [] rfl hk rfl rfl rfl hl.1 (Nat.le_of_ble_eq_true rfl) dX3_sameSigns_22 ⟨(Nat.zero_le _), (Nat.zero_le _)⟩ ?_
        refine lv_icmp_ne (tgt := 34) hx hb dX3_sameSigns_25 (by decide) (fun c7 => ?_) (fun c7 => ?_)
        · have h := ite_f c7 h
          refine lv_iload_n hx hb dX3_sameSigns_34 rfl (lv_at hl 2 rfl) ?_
          have h := Option.some.inj h
          subst h
          exact hend _ _ _ _ rfl (rtn_i _) dX3_sameSigns_35
        · have h := ite_t c7 h
          refine lv_iinc (k := 2) (v := x2_2 + 1) hx hb dX3_sameSigns_28 hl rfl (congrArg (fun z => x2_2 + z) lit1) (Nat.le_of_ble_eq_true rfl) rfl (fun ls hl => ?_)
          have hl : lv_has ls 3 [(2, .int (x2_2 + 1)), (0, .ref s0), (1, .ref (G.1 k))] := hl
          refine lv_goto (tgt := 2) hx hb dX3_sameSigns_31 (by decide) ?_
          exact ih (x2_2 + 1) _ (lv_sub hl [1, 2, 0] rfl) h
  exact hLX3_sameSigns_2 N 0 _ (lv_sub hl [1, 2, 0] rfl) h

noncomputable def LX3_readWord_4 (N : Nat) (u2 : Int32) (n : Nat) (f : Nat → Int32) (c0 : Int32) : Nat → Int32 → Int32 → Option (Int32 × Int32)
  | 0, _, _ => none
  | fu + 1, x1_4, x2_4 => if 12 ≤ x2_4 then (some (((-1), u2 + x1_4))) else (bnd (SX3_sameSigns N (SX3_wordOf x2_4) u2 n f c0) (fun o3 : Int32 => if o3 = (SJ0_length_8abf5 (SX3_wordOf x2_4)) then (some ((x2_4, u2 + o3))) else (LX3_readWord_4 N u2 n f c0 fu (imax x1_4 o3) (x2_4 + 1))))
noncomputable def SX3_readWord (N : Nat) (u2 : Int32) (n : Nat) (f : Nat → Int32) (c0 : Int32) : Option (Int32 × Int32) := LX3_readWord_4 N u2 n f c0 N 0 0
theorem iX3_readWord_X3 : ∀ w ∈ wsX30, w ∈ wsX3_readWord := fun _ h => List.mem_cons_of_mem _ (List.mem_append_left _ (List.mem_append_left _ (List.mem_append_right _ h)))
abbrev RM_X3_readWord : Room := { frames := 6, cells := 0, slots := 0, locals := 131 }
set_option maxHeartbeats 4000000 in
theorem kX3_readWord (l : Launch) (D : va_G) (cA : Nat → ClassId) (G : eG) (s0 t0 m0 t1 : Nat) (N : Nat) (u1 : Int32) (u2 : Int32) (u3 : Int32) (n : Nat) (f : Nat → Int32) (ml : Int32) (c0 : Int32) {r : Int32 × Int32} (hr : SX3_readWord N u2 n f c0 = some r) {sz : Nat} : Met l yX3_readWord wsX3_readWord RM_X3_readWord (va_Pc [.ref s0] (gqEB G D cA [(s0, .inr (7, [.ref t0, .ref m0, .int u1, .int u2, .int u3])), (t0, .inr (1, [.ref t1, .int 0, .int ml, .int c0])), (t1, .inl (cA 1, n, .inl f))] sz)) (gqQ D (fun as => (some (.int r.1))) (fun as => [(s0, .inr (7, [.ref t0, .ref m0, .int u1, .int r.2, .int u3])), (t0, .inr (1, [.ref t1, .int 0, .int ml, .int c0])), (t1, .inl (cA 1, n, .inl f))]) (va_A [(s0, .inr (7, [.ref t0, .ref m0, .int u1, .int u2, .int u3])), (t0, .inr (1, [.ref t1, .int 0, .int ml, .int c0])), (t1, .inl (cA 1, n, .inl f))] sz)) 0 0 (va_A [(s0, .inr (7, [.ref t0, .ref m0, .int u1, .int u2, .int u3])), (t0, .inr (1, [.ref t1, .int 0, .int ml, .int c0])), (t1, .inl (cA 1, n, .inl f))] sz) := by
  refine gqE_ofW (cc := cX3_readWord) (maxL := 5) (ret := (some .int)) (by decide) rfl (Nat.le_of_ble_eq_true rfl) (fun p e s m args below meth c ls Q A hx hb hml hts hfc hmn hK hP hD hS hA hEV hl hend => ?_)
  have hfc : s.vm.findClass RX3 = some m.cls := hfc
  have hl : lv_has ls 5 [(0, .ref s0)] := hl
  have h := hr
  clear hr
  unfold SX3_readWord at h
  refine lv_iconst (v := 0) hx hb dX3_readWord_0 (by decide) ?_
  refine lv_istore_n hx hb dX3_readWord_1 rfl hl (Nat.le_of_ble_eq_true rfl) rfl (fun ls hl => ?_)
  have hl : lv_has ls 5 [(1, .int 0), (0, .ref s0)] := hl
  refine lv_iconst (v := 0) hx hb dX3_readWord_2 (by decide) ?_
  refine lv_istore_n hx hb dX3_readWord_3 rfl hl (Nat.le_of_ble_eq_true rfl) rfl (fun ls hl => ?_)
  have hl : lv_has ls 5 [(2, .int 0), (1, .int 0), (0, .ref s0)] := hl
  have hLX3_readWord_4 : ∀ (fu : Nat) (x1_4 : Int32) (x2_4 : Int32) (ls : Array Slot) (H : Heap) (locs : List Loc), lv_has ls 5 [(0, .ref s0), (1, .int x1_4), (2, .int x2_4)] → va_P D vwCl [(s0, .inr (7, [.ref t0, .ref m0, .int u1, .int u2, .int u3])), (t0, .inr (1, [.ref t1, .int 0, .int ml, .int c0])), (t1, .inl (cA 1, n, .inl f))] H → va_D A [(s0, .inr (7, [.ref t0, .ref m0, .int u1, .int u2, .int u3])), (t0, .inr (1, [.ref t1, .int 0, .int ml, .int c0])), (t1, .inl (cA 1, n, .inl f))] → va_S A s.heap H locs → LX3_readWord_4 N u2 n f c0 fu x1_4 x2_4 = some r → W p l e RM_X3_readWord s m args below meth c H locs 0 0 Q (F0 m 4 ls []) := by
    intro fu
    induction fu with
    | zero =>
      intro x1_4 x2_4 ls H locs hl hP hD hS h
      rw [LX3_readWord_4] at h
      exact nn h
    | succ fu ih =>
      intro x1_4 x2_4 ls H locs hl hP hD hS h
      rw [LX3_readWord_4] at h
      refine lv_iload_n hx hb dX3_readWord_4 rfl (lv_at hl 2 rfl) ?_
      refine lv_bipush (v := 12) hx hb dX3_readWord_5 (by decide) ?_
      refine lv_icmp_ge (tgt := 57) hx hb dX3_readWord_7 (by decide) (fun c1 => ?_) (fun c1 => ?_)
      · have h := ite_t c1 h
        refine lv_aload_n hx hb dX3_readWord_57 rfl (lv_at hl 0 rfl) ?_
        refine lv_dup hx hb dX3_readWord_58 rfl ?_
        refine va_get (D := D) (ci := 7) (v := .int u2) (C := RX3) (T := TX3) (N := 5) hx hb hts iX3_readWord_X3 hfc hK hP 0 rfl rfl 3 (by decide) (hts (.fieldLink RX3 31 "BathtubTides$Script" "at" "I") (List.mem_of_getElem? (i := 1) rfl)) (fun _ h9 => h9) rfl dX3_readWord_59 ?_
        refine lv_iload_n hx hb dX3_readWord_62 rfl (lv_at hl 1 rfl) ?_
        refine lv_iadd hx hb dX3_readWord_63 ?_
        refine va_put (D := D) (ci := 7) (v := .int (u2 + x1_4)) (ty := .int) (C := RX3) (T := TX3) (N := 5) hx hb hts iX3_readWord_X3 tyX3 tyX3_ok nmX3 hfc hK hP hD hS 0 rfl rfl 3 (by decide) (hts (.fieldLink RX3 31 "BathtubTides$Script" "at" "I") (List.mem_of_getElem? (i := 1) rfl)) (fun _ h9 => h9) rfl (by decide +kernel) rfl rfl (Nat.le_of_ble_eq_true rfl) dX3_readWord_64 (fun H locs hP hD hS => ?_)
        have hP : va_P D vwCl [(s0, .inr (7, [.ref t0, .ref m0, .int u1, .int (u2 + x1_4), .int u3])), (t0, .inr (1, [.ref t1, .int 0, .int ml, .int c0])), (t1, .inl (cA 1, n, .inl f))] H := hP
        have hD : va_D A [(s0, .inr (7, [.ref t0, .ref m0, .int u1, .int (u2 + x1_4), .int u3])), (t0, .inr (1, [.ref t1, .int 0, .int ml, .int c0])), (t1, .inl (cA 1, n, .inl f))] := hD
        refine lv_iconst (v := (-1)) hx hb dX3_readWord_67 (by decide) ?_
        have h := Option.some.inj h
        subst h
        exact hend (adr []) _ _ _ _ _ _ _ rfl rfl (rtn_i _) hP hD hS dX3_readWord_68
      · have h := ite_f c1 h
        refine lv_iload_n hx hb dX3_readWord_10 rfl (lv_at hl 2 rfl) ?_
        refine rqE_S (G := G) (v := (some (.ref (G.1 (SX3_wordOf x2_4))))) (As := [.int x2_4]) (rest := []) (wc := []) ⟨hx, hb, hml, hfc, hts⟩ hK hP hS hEV (kX3_wordOf l D cA G x2_4 rfl) (va_cwS 1 hts gX3_readWord_X3_wordOf rfl rfl rfl (by decide +kernel) ⟨(Nat.le_of_ble_eq_true rfl), (Nat.le_of_ble_eq_true rfl)⟩) [] rfl rfl rfl rfl hl.1 (Nat.le_of_ble_eq_true rfl) dX3_readWord_11 ⟨(Nat.zero_le _), (Nat.zero_le _)⟩ ?_
        refine lv_astore_n hx hb dX3_readWord_14 rfl hl (Nat.le_of_ble_eq_true rfl) rfl (fun ls hl => ?_)
        have hl : lv_has ls 5 [(3, .ref (G.1 (SX3_wordOf x2_4))), (0, .ref s0), (1, .int x1_4), (2, .int x2_4)] := hl
        refine lv_aload_n hx hb dX3_readWord_15 rfl (lv_at hl 1 rfl) ?_
        refine lv_aload_n hx hb dX3_readWord_16 rfl (lv_at hl 0 rfl) ?_
        obtain ⟨o3, ho3, h⟩ := bnd_i h
        refine rqE_V (G := G) (v := (some (.int o3))) (As := [.ref (G.1 (SX3_wordOf x2_4))]) (rest := []) (wc := [(s0, .inr (7, [.ref t0, .ref m0, .int u1, .int u2, .int u3])), (t0, .inr (1, [.ref t1, .int 0, .int ml, .int c0])), (t1, .inl (cA 1, n, .inl f))]) ⟨hx, hb, hml, hfc, hts⟩ hK hP hS hEV (kX3_sameSigns l D cA G s0 t0 m0 t1 N (SX3_wordOf x2_4) u1 u2 u3 n f ml c0 (SX3_wordOf_lt _) ho3) (cwV 1 hts gX3_readWord_X3_sameSigns rfl rfl rfl (by decide +kernel) ⟨(Nat.le_of_ble_eq_true rfl), (Nat.le_of_ble_eq_true rfl)⟩) [0, 1, 2] rfl 0 7 rfl rfl rfl rfl rfl rfl hl.1 (Nat.le_of_ble_eq_true rfl) dX3_readWord_17 ⟨(Nat.zero_le _), (Nat.zero_le _)⟩ ?_
        refine lv_istore hx hb dX3_readWord_20 hl (Nat.le_of_ble_eq_true rfl) rfl (fun ls hl => ?_)
        have hl : lv_has ls 5 [(4, .int o3), (3, .ref (G.1 (SX3_wordOf x2_4))), (0, .ref s0), (1, .int x1_4), (2, .int x2_4)] := hl
        refine lv_iload hx hb dX3_readWord_22 (lv_at hl 0 rfl) ?_
        refine lv_aload_n hx hb dX3_readWord_24 rfl (lv_at hl 1 rfl) ?_
        refine rqE_T (G := G) (v := (some (.int (SJ0_length_8abf5 (SX3_wordOf x2_4))))) (As := []) (rest := [.int o3]) (wc := []) ⟨hx, hb, hml, hfc, hts⟩ hK hP hS hEV (kJ0_length_8abf5 l D cA G (SX3_wordOf x2_4) (SX3_wordOf_lt _) rfl) (cwV 0 hts gX3_readWord_J0_length_8abf5 rfl rfl rfl (by decide +kernel) ⟨(Nat.le_of_ble_eq_true rfl), (Nat.le_of_ble_eq_true rfl)⟩) [] rfl (SX3_wordOf_lt _) rfl rfl rfl hl.1 (Nat.le_of_ble_eq_true rfl) dX3_readWord_25 ⟨(Nat.zero_le _), (Nat.zero_le _)⟩ ?_
        refine lv_icmp_ne (tgt := 44) hx hb dX3_readWord_28 (by decide) (fun c6 => ?_) (fun c6 => ?_)
        · have h := ite_f c6 h
          refine lv_iload_n hx hb dX3_readWord_44 rfl (lv_at hl 3 rfl) ?_
          refine lv_iload hx hb dX3_readWord_45 (lv_at hl 0 rfl) ?_
          refine va_mmax hx hb (hml.trans hl.1.symm) hfc (hts (.methodLink RX3 84 Lib.Math.max.name) (List.mem_of_getElem? (i := 2) rfl)) (hts (.static Lib.Math.max.name) (List.mem_of_getElem? (i := 3) rfl)) (hts (.initialized "java/lang/Math") (List.mem_of_getElem? (i := 4) rfl)) (hts (.code Lib.Math.max.name Lib.Math.max.code 2 (some .int)) (List.mem_of_getElem? (i := 5) rfl)) (Nat.le_of_ble_eq_true rfl) (Nat.le_of_ble_eq_true rfl) (Nat.zero_le _) (Nat.zero_le _) dX3_readWord_47 ?_
          refine lv_istore_n hx hb dX3_readWord_50 rfl hl (Nat.le_of_ble_eq_true rfl) rfl (fun ls hl => ?_)
          have hl : lv_has ls 5 [(1, .int (imax x1_4 o3)), (4, .int o3), (3, .ref (G.1 (SX3_wordOf x2_4))), (0, .ref s0), (2, .int x2_4)] := hl
          refine lv_iinc (k := 4) (v := x2_4 + 1) hx hb dX3_readWord_51 hl rfl (congrArg (fun z => x2_4 + z) lit1) (Nat.le_of_ble_eq_true rfl) rfl (fun ls hl => ?_)
          have hl : lv_has ls 5 [(2, .int (x2_4 + 1)), (1, .int (imax x1_4 o3)), (4, .int o3), (3, .ref (G.1 (SX3_wordOf x2_4))), (0, .ref s0)] := hl
          refine lv_goto (tgt := 4) hx hb dX3_readWord_54 (by decide) ?_
          exact ih (imax x1_4 o3) (x2_4 + 1) _ _ _ (lv_sub hl [4, 1, 0] rfl) hP hD hS h
        · have h := ite_t c6 h
          refine lv_aload_n hx hb dX3_readWord_31 rfl (lv_at hl 2 rfl) ?_
          refine lv_dup hx hb dX3_readWord_32 rfl ?_
          refine va_get (D := D) (ci := 7) (v := .int u2) (C := RX3) (T := TX3) (N := 5) hx hb hts iX3_readWord_X3 hfc hK hP 0 rfl rfl 3 (by decide) (hts (.fieldLink RX3 31 "BathtubTides$Script" "at" "I") (List.mem_of_getElem? (i := 1) rfl)) (fun _ h9 => h9) rfl dX3_readWord_33 ?_
          refine lv_iload hx hb dX3_readWord_36 (lv_at hl 0 rfl) ?_
          refine lv_iadd hx hb dX3_readWord_38 ?_
          refine va_put (D := D) (ci := 7) (v := .int (u2 + o3)) (ty := .int) (C := RX3) (T := TX3) (N := 5) hx hb hts iX3_readWord_X3 tyX3 tyX3_ok nmX3 hfc hK hP hD hS 0 rfl rfl 3 (by decide) (hts (.fieldLink RX3 31 "BathtubTides$Script" "at" "I") (List.mem_of_getElem? (i := 1) rfl)) (fun _ h9 => h9) rfl (by decide +kernel) rfl rfl (Nat.le_of_ble_eq_true rfl) dX3_readWord_39 (fun H locs hP hD hS => ?_)
          have hP : va_P D vwCl [(s0, .inr (7, [.ref t0, .ref m0, .int u1, .int (u2 + o3), .int u3])), (t0, .inr (1, [.ref t1, .int 0, .int ml, .int c0])), (t1, .inl (cA 1, n, .inl f))] H := hP
          have hD : va_D A [(s0, .inr (7, [.ref t0, .ref m0, .int u1, .int (u2 + o3), .int u3])), (t0, .inr (1, [.ref t1, .int 0, .int ml, .int c0])), (t1, .inl (cA 1, n, .inl f))] := hD
          refine lv_iload_n hx hb dX3_readWord_42 rfl (lv_at hl 4 rfl) ?_
          have h := Option.some.inj h
          subst h
          exact hend (adr []) _ _ _ _ _ _ _ rfl rfl (rtn_i _) hP hD hS dX3_readWord_43
  exact hLX3_readWord_4 N 0 0 _ _ _ (lv_sub hl [2, 1, 0] rfl) hP hD hS h

noncomputable def SX3_readNumber (u2 : Int32) (u3 : Int32) (n : Nat) (f : Nat → Int32) (c0 : Int32) (x1 : Int32) : Option (Int32 × Int32 × Int32) := bnd (SX3_signAt n f c0 u2) (fun o1 : Int32 => if o1 = 32 then (bnd (if x1 = 0 then (some (0)) else (bnd (SX3_signAt n f c0 (u2 + 1)) (fun o6 : Int32 => if o6 = 45 then (some (1)) else (some (0))))) (fun o5 : Int32 => lt_ (if o5 = 0 then (u2 + 1) else ((u2 + 1) + 1)) (fun o10 : Int32 => bnd (SX3_signAt n f c0 o10) (fun o11 : Int32 => if (SX3_isDigit o11) = 0 then (some ((0, o10, u3))) else (bnd (SX3_signAt n f c0 o10) (fun o15 : Int32 => bnd (if o5 = 0 then (bnd (SX3_signAt n f c0 (o10 + 1)) (fun o19 : Int32 => if (SX3_isDigit o19) = 0 then (some ((o10 + 1, o15 - 48))) else (bnd (SX3_signAt n f c0 (o10 + 1)) (fun o23 : Int32 => lt_ ((((o15 - 48) * 10) + o23) - 48) (fun t25 : Int32 => some (((o10 + 1) + 1, t25))))))) else (some ((o10 + 1, -(o15 - 48))))) (fun o18 : Int32 × Int32 => some ((1, o18.1, o18.2))))))))) else (some ((0, u2, u3))))
theorem iX3_readNumber_X3 : ∀ w ∈ wsX30, w ∈ wsX3_readNumber := fun _ h => List.mem_cons_of_mem _ (List.mem_append_left _ (List.mem_append_right _ h))
abbrev RM_X3_readNumber : Room := { frames := 5, cells := 0, slots := 0, locals := 111 }
set_option maxHeartbeats 4000000 in
theorem kX3_readNumber (l : Launch) (D : va_G) (cA : Nat → ClassId) (G : eG) (s0 t0 m0 t1 : Nat) (u1 : Int32) (u2 : Int32) (u3 : Int32) (n : Nat) (f : Nat → Int32) (ml : Int32) (c0 : Int32) (x1 : Int32) {r : Int32 × Int32 × Int32} (hr : SX3_readNumber u2 u3 n f c0 x1 = some r) {sz : Nat} : Met l yX3_readNumber wsX3_readNumber RM_X3_readNumber (va_Pc [.ref s0, .int x1] (gqEB G D cA [(s0, .inr (7, [.ref t0, .ref m0, .int u1, .int u2, .int u3])), (t0, .inr (1, [.ref t1, .int 0, .int ml, .int c0])), (t1, .inl (cA 1, n, .inl f))] sz)) (gqQ D (fun as => (some (.int r.1))) (fun as => [(s0, .inr (7, [.ref t0, .ref m0, .int u1, .int r.2.1, .int r.2.2])), (t0, .inr (1, [.ref t1, .int 0, .int ml, .int c0])), (t1, .inl (cA 1, n, .inl f))]) (va_A [(s0, .inr (7, [.ref t0, .ref m0, .int u1, .int u2, .int u3])), (t0, .inr (1, [.ref t1, .int 0, .int ml, .int c0])), (t1, .inl (cA 1, n, .inl f))] sz)) 0 0 (va_A [(s0, .inr (7, [.ref t0, .ref m0, .int u1, .int u2, .int u3])), (t0, .inr (1, [.ref t1, .int 0, .int ml, .int c0])), (t1, .inl (cA 1, n, .inl f))] sz) := by
  refine gqE_ofW (cc := cX3_readNumber) (maxL := 3) (ret := (some .boolean)) (by decide) rfl (Nat.le_of_ble_eq_true rfl) (fun p e s m args below meth c ls Q A hx hb hml hts hfc hmn hK hP hD hS hA hEV hl hend => ?_)
  have hfc : s.vm.findClass RX3 = some m.cls := hfc
  have hl : lv_has ls 3 [(0, .ref s0), (1, .int x1)] := hl
  have h := hr
  clear hr
  unfold SX3_readNumber at h
  refine lv_aload_n hx hb dX3_readNumber_0 rfl (lv_at hl 0 rfl) ?_
  refine lv_aload_n hx hb dX3_readNumber_1 rfl (lv_at hl 0 rfl) ?_
  refine va_get (D := D) (ci := 7) (v := .int u2) (C := RX3) (T := TX3) (N := 5) hx hb hts iX3_readNumber_X3 hfc hK hP 0 rfl rfl 3 (by decide) (hts (.fieldLink RX3 31 "BathtubTides$Script" "at" "I") (List.mem_of_getElem? (i := 1) rfl)) (fun _ h9 => h9) rfl dX3_readNumber_2 ?_
  obtain ⟨o1, ho1, h⟩ := bnd_i h
  refine rqE_V (G := G) (v := (some (.int o1))) (As := [.int u2]) (rest := []) (wc := [(s0, .inr (7, [.ref t0, .ref m0, .int u1, .int u2, .int u3])), (t0, .inr (1, [.ref t1, .int 0, .int ml, .int c0])), (t1, .inl (cA 1, n, .inl f))]) ⟨hx, hb, hml, hfc, hts⟩ hK hP hS hEV (kX3_signAt l D cA G s0 t0 m0 t1 u1 u2 u3 n f ml c0 u2 ho1) (cwV 1 hts gX3_readNumber_X3_signAt rfl rfl rfl (by decide +kernel) ⟨(Nat.le_of_ble_eq_true rfl), (Nat.le_of_ble_eq_true rfl)⟩) [0, 1, 2] rfl 0 7 rfl rfl rfl rfl rfl rfl hl.1 (Nat.le_of_ble_eq_true rfl) dX3_readNumber_5 ⟨(Nat.zero_le _), (Nat.zero_le _)⟩ ?_
  refine lv_bipush (v := 32) hx hb dX3_readNumber_8 (by decide) ?_
  refine lv_icmp_eq (tgt := 15) hx hb dX3_readNumber_10 (by decide) (fun c3 => ?_) (fun c3 => ?_)
  · have h := ite_t c3 h
    refine lv_aload_n hx hb dX3_readNumber_15 rfl (lv_at hl 0 rfl) ?_
    refine lv_dup hx hb dX3_readNumber_16 rfl ?_
    refine va_get (D := D) (ci := 7) (v := .int u2) (C := RX3) (T := TX3) (N := 5) hx hb hts iX3_readNumber_X3 hfc hK hP 0 rfl rfl 3 (by decide) (hts (.fieldLink RX3 31 "BathtubTides$Script" "at" "I") (List.mem_of_getElem? (i := 1) rfl)) (fun _ h9 => h9) rfl dX3_readNumber_17 ?_
    refine lv_iconst (v := 1) hx hb dX3_readNumber_20 (by decide) ?_
    refine lv_iadd hx hb dX3_readNumber_21 ?_
    refine va_put (D := D) (ci := 7) (v := .int (u2 + 1)) (ty := .int) (C := RX3) (T := TX3) (N := 5) hx hb hts iX3_readNumber_X3 tyX3 tyX3_ok nmX3 hfc hK hP hD hS 0 rfl rfl 3 (by decide) (hts (.fieldLink RX3 31 "BathtubTides$Script" "at" "I") (List.mem_of_getElem? (i := 1) rfl)) (fun _ h9 => h9) rfl (by decide +kernel) rfl rfl (Nat.le_of_ble_eq_true rfl) dX3_readNumber_22 (fun H locs hP hD hS => ?_)
    have hP : va_P D vwCl [(s0, .inr (7, [.ref t0, .ref m0, .int u1, .int (u2 + 1), .int u3])), (t0, .inr (1, [.ref t1, .int 0, .int ml, .int c0])), (t1, .inl (cA 1, n, .inl f))] H := hP
    have hD : va_D A [(s0, .inr (7, [.ref t0, .ref m0, .int u1, .int (u2 + 1), .int u3])), (t0, .inr (1, [.ref t1, .int 0, .int ml, .int c0])), (t1, .inl (cA 1, n, .inl f))] := hD
    refine lv_iload_n hx hb dX3_readNumber_25 rfl (lv_at hl 1 rfl) ?_
    obtain ⟨o5, ho5, h⟩ := bnd_i h
    have ko5 : ∀ (ls : Array Slot) (H : Heap) (locs : List Loc), lv_has ls 3 [(0, .ref s0), (1, .int x1)] → va_P D vwCl [(s0, .inr (7, [.ref t0, .ref m0, .int u1, .int (u2 + 1), .int u3])), (t0, .inr (1, [.ref t1, .int 0, .int ml, .int c0])), (t1, .inl (cA 1, n, .inl f))] H → va_D A [(s0, .inr (7, [.ref t0, .ref m0, .int u1, .int (u2 + 1), .int u3])), (t0, .inr (1, [.ref t1, .int 0, .int ml, .int c0])), (t1, .inl (cA 1, n, .inl f))] → va_S A s.heap H locs → W p l e RM_X3_readNumber s m args below meth c H locs 0 0 Q (F0 m 47 ls [.int o5]) := by
      intro ls H locs hl hP hD hS
      refine lv_istore_n hx hb dX3_readNumber_47 rfl hl (Nat.le_of_ble_eq_true rfl) rfl (fun ls hl => ?_)
      have hl : lv_has ls 3 [(2, .int o5), (0, .ref s0), (1, .int x1)] := hl
      refine lv_iload_n hx hb dX3_readNumber_48 rfl (lv_at hl 0 rfl) ?_
      obtain ⟨o10, ho10, h⟩ := lt_i h
      have ko10 : ∀ (ls : Array Slot) (H : Heap) (locs : List Loc), lv_has ls 3 [(0, .ref s0), (1, .int x1), (2, .int o5)] → va_P D vwCl [(s0, .inr (7, [.ref t0, .ref m0, .int u1, .int o10, .int u3])), (t0, .inr (1, [.ref t1, .int 0, .int ml, .int c0])), (t1, .inl (cA 1, n, .inl f))] H → va_D A [(s0, .inr (7, [.ref t0, .ref m0, .int u1, .int o10, .int u3])), (t0, .inr (1, [.ref t1, .int 0, .int ml, .int c0])), (t1, .inl (cA 1, n, .inl f))] → va_S A s.heap H locs → W p l e RM_X3_readNumber s m args below meth c H locs 0 0 Q (F0 m 62 ls []) := by
        intro ls H locs hl hP hD hS
        refine lv_aload_n hx hb dX3_readNumber_62 rfl (lv_at hl 0 rfl) ?_
        refine lv_aload_n hx hb dX3_readNumber_63 rfl (lv_at hl 0 rfl) ?_
        refine va_get (D := D) (ci := 7) (v := .int o10) (C := RX3) (T := TX3) (N := 5) hx hb hts iX3_readNumber_X3 hfc hK hP 0 rfl rfl 3 (by decide) (hts (.fieldLink RX3 31 "BathtubTides$Script" "at" "I") (List.mem_of_getElem? (i := 1) rfl)) (fun _ h9 => h9) rfl dX3_readNumber_64 ?_
        obtain ⟨o11, ho11, h⟩ := bnd_i h
        refine rqE_V (G := G) (v := (some (.int o11))) (As := [.int o10]) (rest := []) (wc := [(s0, .inr (7, [.ref t0, .ref m0, .int u1, .int o10, .int u3])), (t0, .inr (1, [.ref t1, .int 0, .int ml, .int c0])), (t1, .inl (cA 1, n, .inl f))]) ⟨hx, hb, hml, hfc, hts⟩ hK hP hS hEV (kX3_signAt l D cA G s0 t0 m0 t1 u1 o10 u3 n f ml c0 o10 ho11) (cwV 1 hts gX3_readNumber_X3_signAt rfl rfl rfl (by decide +kernel) ⟨(Nat.le_of_ble_eq_true rfl), (Nat.le_of_ble_eq_true rfl)⟩) [0, 1, 2] rfl 0 7 rfl rfl rfl rfl rfl rfl hl.1 (Nat.le_of_ble_eq_true rfl) dX3_readNumber_67 ⟨(Nat.zero_le _), (Nat.zero_le _)⟩ ?_
        refine rq_S (v := (some (.int (SX3_isDigit o11)))) (As := [.int o11]) (rest := []) (wc := []) ⟨hx, hb, hml, hfc, hts⟩ hK hP (kX3_isDigit l D cA o11 rfl) (va_cwS 1 hts gX3_readNumber_X3_isDigit rfl rfl rfl (by decide +kernel) ⟨(Nat.le_of_ble_eq_true rfl), (Nat.le_of_ble_eq_true rfl)⟩) [] rfl rfl rfl rfl hl.1 (Nat.le_of_ble_eq_true rfl) dX3_readNumber_70 ⟨(Nat.zero_le _), (Nat.zero_le _)⟩ ?_
        refine lv_if_ne (tgt := 78) hx hb dX3_readNumber_73 (by decide) (fun c14 => ?_) (fun c14 => ?_)
        · have h := ite_f c14 h
          refine lv_aload_n hx hb dX3_readNumber_78 rfl (lv_at hl 0 rfl) ?_
          refine lv_aload_n hx hb dX3_readNumber_79 rfl (lv_at hl 0 rfl) ?_
          refine lv_aload_n hx hb dX3_readNumber_80 rfl (lv_at hl 0 rfl) ?_
          refine va_get (D := D) (ci := 7) (v := .int o10) (C := RX3) (T := TX3) (N := 5) hx hb hts iX3_readNumber_X3 hfc hK hP 0 rfl rfl 3 (by decide) (hts (.fieldLink RX3 31 "BathtubTides$Script" "at" "I") (List.mem_of_getElem? (i := 1) rfl)) (fun _ h9 => h9) rfl dX3_readNumber_81 ?_
          obtain ⟨o15, ho15, h⟩ := bnd_i h
          refine rqE_V (G := G) (v := (some (.int o15))) (As := [.int o10]) (rest := [.ref s0]) (wc := [(s0, .inr (7, [.ref t0, .ref m0, .int u1, .int o10, .int u3])), (t0, .inr (1, [.ref t1, .int 0, .int ml, .int c0])), (t1, .inl (cA 1, n, .inl f))]) ⟨hx, hb, hml, hfc, hts⟩ hK hP hS hEV (kX3_signAt l D cA G s0 t0 m0 t1 u1 o10 u3 n f ml c0 o10 ho15) (cwV 1 hts gX3_readNumber_X3_signAt rfl rfl rfl (by decide +kernel) ⟨(Nat.le_of_ble_eq_true rfl), (Nat.le_of_ble_eq_true rfl)⟩) [0, 1, 2] rfl 0 7 rfl rfl rfl rfl rfl rfl hl.1 (Nat.le_of_ble_eq_true rfl) dX3_readNumber_84 ⟨(Nat.zero_le _), (Nat.zero_le _)⟩ ?_
          refine lv_bipush (v := 48) hx hb dX3_readNumber_87 (by decide) ?_
          refine lv_isub hx hb dX3_readNumber_89 ?_
          refine va_put (D := D) (ci := 7) (v := .int (o15 - 48)) (ty := .int) (C := RX3) (T := TX3) (N := 5) hx hb hts iX3_readNumber_X3 tyX3 tyX3_ok nmX3 hfc hK hP hD hS 0 rfl rfl 4 (by decide) (hts (.fieldLink RX3 34 "BathtubTides$Script" "number" "I") (List.mem_of_getElem? (i := 2) rfl)) (fun _ h9 => h9) rfl (by decide +kernel) rfl rfl (Nat.le_of_ble_eq_true rfl) dX3_readNumber_90 (fun H locs hP hD hS => ?_)
          have hP : va_P D vwCl [(s0, .inr (7, [.ref t0, .ref m0, .int u1, .int o10, .int (o15 - 48)])), (t0, .inr (1, [.ref t1, .int 0, .int ml, .int c0])), (t1, .inl (cA 1, n, .inl f))] H := hP
          have hD : va_D A [(s0, .inr (7, [.ref t0, .ref m0, .int u1, .int o10, .int (o15 - 48)])), (t0, .inr (1, [.ref t1, .int 0, .int ml, .int c0])), (t1, .inl (cA 1, n, .inl f))] := hD
          refine lv_aload_n hx hb dX3_readNumber_93 rfl (lv_at hl 0 rfl) ?_
          refine lv_dup hx hb dX3_readNumber_94 rfl ?_
          refine va_get (D := D) (ci := 7) (v := .int o10) (C := RX3) (T := TX3) (N := 5) hx hb hts iX3_readNumber_X3 hfc hK hP 0 rfl rfl 3 (by decide) (hts (.fieldLink RX3 31 "BathtubTides$Script" "at" "I") (List.mem_of_getElem? (i := 1) rfl)) (fun _ h9 => h9) rfl dX3_readNumber_95 ?_
          refine lv_iconst (v := 1) hx hb dX3_readNumber_98 (by decide) ?_
          refine lv_iadd hx hb dX3_readNumber_99 ?_
          refine va_put (D := D) (ci := 7) (v := .int (o10 + 1)) (ty := .int) (C := RX3) (T := TX3) (N := 5) hx hb hts iX3_readNumber_X3 tyX3 tyX3_ok nmX3 hfc hK hP hD hS 0 rfl rfl 3 (by decide) (hts (.fieldLink RX3 31 "BathtubTides$Script" "at" "I") (List.mem_of_getElem? (i := 1) rfl)) (fun _ h9 => h9) rfl (by decide +kernel) rfl rfl (Nat.le_of_ble_eq_true rfl) dX3_readNumber_100 (fun H locs hP hD hS => ?_)
          have hP : va_P D vwCl [(s0, .inr (7, [.ref t0, .ref m0, .int u1, .int (o10 + 1), .int (o15 - 48)])), (t0, .inr (1, [.ref t1, .int 0, .int ml, .int c0])), (t1, .inl (cA 1, n, .inl f))] H := hP
          have hD : va_D A [(s0, .inr (7, [.ref t0, .ref m0, .int u1, .int (o10 + 1), .int (o15 - 48)])), (t0, .inr (1, [.ref t1, .int 0, .int ml, .int c0])), (t1, .inl (cA 1, n, .inl f))] := hD
          refine lv_iload_n hx hb dX3_readNumber_103 rfl (lv_at hl 2 rfl) ?_
          obtain ⟨o18, ho18, h⟩ := bnd_i h
          have ko18 : ∀ (ls : Array Slot) (H : Heap) (locs : List Loc), lv_has ls 3 [(0, .ref s0), (1, .int x1), (2, .int o5)] → va_P D vwCl [(s0, .inr (7, [.ref t0, .ref m0, .int u1, .int o18.1, .int o18.2])), (t0, .inr (1, [.ref t1, .int 0, .int ml, .int c0])), (t1, .inl (cA 1, n, .inl f))] H → va_D A [(s0, .inr (7, [.ref t0, .ref m0, .int u1, .int o18.1, .int o18.2])), (t0, .inr (1, [.ref t1, .int 0, .int ml, .int c0])), (t1, .inl (cA 1, n, .inl f))] → va_S A s.heap H locs → W p l e RM_X3_readNumber s m args below meth c H locs 0 0 Q (F0 m 166 ls []) := by
            intro ls H locs hl hP hD hS
            refine lv_iconst (v := 1) hx hb dX3_readNumber_166 (by decide) ?_
            have h := Option.some.inj h
            subst h
            exact hend (adr []) _ _ _ _ _ _ _ rfl rfl (rtn_n (x := 1) rfl) hP hD hS dX3_readNumber_167
          clear h
          have h := ho18
          clear ho18
          refine lv_if_eq (tgt := 119) hx hb dX3_readNumber_104 (by decide) (fun c17 => ?_) (fun c17 => ?_)
          · have h := ite_t c17 h
            refine lv_aload_n hx hb dX3_readNumber_119 rfl (lv_at hl 0 rfl) ?_
            refine lv_aload_n hx hb dX3_readNumber_120 rfl (lv_at hl 0 rfl) ?_
            refine va_get (D := D) (ci := 7) (v := .int (o10 + 1)) (C := RX3) (T := TX3) (N := 5) hx hb hts iX3_readNumber_X3 hfc hK hP 0 rfl rfl 3 (by decide) (hts (.fieldLink RX3 31 "BathtubTides$Script" "at" "I") (List.mem_of_getElem? (i := 1) rfl)) (fun _ h9 => h9) rfl dX3_readNumber_121 ?_
            obtain ⟨o19, ho19, h⟩ := bnd_i h
            refine rqE_V (G := G) (v := (some (.int o19))) (As := [.int (o10 + 1)]) (rest := []) (wc := [(s0, .inr (7, [.ref t0, .ref m0, .int u1, .int (o10 + 1), .int (o15 - 48)])), (t0, .inr (1, [.ref t1, .int 0, .int ml, .int c0])), (t1, .inl (cA 1, n, .inl f))]) ⟨hx, hb, hml, hfc, hts⟩ hK hP hS hEV (kX3_signAt l D cA G s0 t0 m0 t1 u1 (o10 + 1) (o15 - 48) n f ml c0 (o10 + 1) ho19) (cwV 1 hts gX3_readNumber_X3_signAt rfl rfl rfl (by decide +kernel) ⟨(Nat.le_of_ble_eq_true rfl), (Nat.le_of_ble_eq_true rfl)⟩) [0, 1, 2] rfl 0 7 rfl rfl rfl rfl rfl rfl hl.1 (Nat.le_of_ble_eq_true rfl) dX3_readNumber_124 ⟨(Nat.zero_le _), (Nat.zero_le _)⟩ ?_
            refine rq_S (v := (some (.int (SX3_isDigit o19)))) (As := [.int o19]) (rest := []) (wc := []) ⟨hx, hb, hml, hfc, hts⟩ hK hP (kX3_isDigit l D cA o19 rfl) (va_cwS 1 hts gX3_readNumber_X3_isDigit rfl rfl rfl (by decide +kernel) ⟨(Nat.le_of_ble_eq_true rfl), (Nat.le_of_ble_eq_true rfl)⟩) [] rfl rfl rfl rfl hl.1 (Nat.le_of_ble_eq_true rfl) dX3_readNumber_127 ⟨(Nat.zero_le _), (Nat.zero_le _)⟩ ?_
            refine lv_if_eq (tgt := 166) hx hb dX3_readNumber_130 (by decide) (fun c22 => ?_) (fun c22 => ?_)
            · have h := ite_t c22 h
              have h := Option.some.inj h
              subst h
              exact ko18 _ _ _ (lv_sub hl [0, 1, 2] rfl) hP hD hS
            · have h := ite_f c22 h
              refine lv_aload_n hx hb dX3_readNumber_133 rfl (lv_at hl 0 rfl) ?_
              refine lv_aload_n hx hb dX3_readNumber_134 rfl (lv_at hl 0 rfl) ?_
              refine va_get (D := D) (ci := 7) (v := .int (o15 - 48)) (C := RX3) (T := TX3) (N := 5) hx hb hts iX3_readNumber_X3 hfc hK hP 0 rfl rfl 4 (by decide) (hts (.fieldLink RX3 34 "BathtubTides$Script" "number" "I") (List.mem_of_getElem? (i := 2) rfl)) (fun _ h9 => h9) rfl dX3_readNumber_135 ?_
              refine lv_bipush (v := 10) hx hb dX3_readNumber_138 (by decide) ?_
              refine lv_imul hx hb dX3_readNumber_140 ?_
              refine lv_aload_n hx hb dX3_readNumber_141 rfl (lv_at hl 0 rfl) ?_
              refine lv_aload_n hx hb dX3_readNumber_142 rfl (lv_at hl 0 rfl) ?_
              refine va_get (D := D) (ci := 7) (v := .int (o10 + 1)) (C := RX3) (T := TX3) (N := 5) hx hb hts iX3_readNumber_X3 hfc hK hP 0 rfl rfl 3 (by decide) (hts (.fieldLink RX3 31 "BathtubTides$Script" "at" "I") (List.mem_of_getElem? (i := 1) rfl)) (fun _ h9 => h9) rfl dX3_readNumber_143 ?_
              obtain ⟨o23, ho23, h⟩ := bnd_i h
              refine rqE_V (G := G) (v := (some (.int o23))) (As := [.int (o10 + 1)]) (rest := [.int ((o15 - 48) * 10), .ref s0]) (wc := [(s0, .inr (7, [.ref t0, .ref m0, .int u1, .int (o10 + 1), .int (o15 - 48)])), (t0, .inr (1, [.ref t1, .int 0, .int ml, .int c0])), (t1, .inl (cA 1, n, .inl f))]) ⟨hx, hb, hml, hfc, hts⟩ hK hP hS hEV (kX3_signAt l D cA G s0 t0 m0 t1 u1 (o10 + 1) (o15 - 48) n f ml c0 (o10 + 1) ho23) (cwV 1 hts gX3_readNumber_X3_signAt rfl rfl rfl (by decide +kernel) ⟨(Nat.le_of_ble_eq_true rfl), (Nat.le_of_ble_eq_true rfl)⟩) [0, 1, 2] rfl 0 7 rfl rfl rfl rfl rfl rfl hl.1 (Nat.le_of_ble_eq_true rfl) dX3_readNumber_146 ⟨(Nat.zero_le _), (Nat.zero_le _)⟩ ?_
              refine lv_iadd hx hb dX3_readNumber_149 ?_
              refine lv_bipush (v := 48) hx hb dX3_readNumber_150 (by decide) ?_
              refine lv_isub hx hb dX3_readNumber_152 ?_
              refine lv_topi (fun t25 et25 => ?_)
              have h := lt_e h _ et25
              refine va_put (D := D) (ci := 7) (v := .int t25) (ty := .int) (C := RX3) (T := TX3) (N := 5) hx hb hts iX3_readNumber_X3 tyX3 tyX3_ok nmX3 hfc hK hP hD hS 0 rfl rfl 4 (by decide) (hts (.fieldLink RX3 34 "BathtubTides$Script" "number" "I") (List.mem_of_getElem? (i := 2) rfl)) (fun _ h9 => h9) rfl (by decide +kernel) rfl rfl (Nat.le_of_ble_eq_true rfl) dX3_readNumber_153 (fun H locs hP hD hS => ?_)
              have hP : va_P D vwCl [(s0, .inr (7, [.ref t0, .ref m0, .int u1, .int (o10 + 1), .int t25])), (t0, .inr (1, [.ref t1, .int 0, .int ml, .int c0])), (t1, .inl (cA 1, n, .inl f))] H := hP
              have hD : va_D A [(s0, .inr (7, [.ref t0, .ref m0, .int u1, .int (o10 + 1), .int t25])), (t0, .inr (1, [.ref t1, .int 0, .int ml, .int c0])), (t1, .inl (cA 1, n, .inl f))] := hD
              refine lv_aload_n hx hb dX3_readNumber_156 rfl (lv_at hl 0 rfl) ?_
              refine lv_dup hx hb dX3_readNumber_157 rfl ?_
              refine va_get (D := D) (ci := 7) (v := .int (o10 + 1)) (C := RX3) (T := TX3) (N := 5) hx hb hts iX3_readNumber_X3 hfc hK hP 0 rfl rfl 3 (by decide) (hts (.fieldLink RX3 31 "BathtubTides$Script" "at" "I") (List.mem_of_getElem? (i := 1) rfl)) (fun _ h9 => h9) rfl dX3_readNumber_158 ?_
              refine lv_iconst (v := 1) hx hb dX3_readNumber_161 (by decide) ?_
              refine lv_iadd hx hb dX3_readNumber_162 ?_
              refine va_put (D := D) (ci := 7) (v := .int ((o10 + 1) + 1)) (ty := .int) (C := RX3) (T := TX3) (N := 5) hx hb hts iX3_readNumber_X3 tyX3 tyX3_ok nmX3 hfc hK hP hD hS 0 rfl rfl 3 (by decide) (hts (.fieldLink RX3 31 "BathtubTides$Script" "at" "I") (List.mem_of_getElem? (i := 1) rfl)) (fun _ h9 => h9) rfl (by decide +kernel) rfl rfl (Nat.le_of_ble_eq_true rfl) dX3_readNumber_163 (fun H locs hP hD hS => ?_)
              have hP : va_P D vwCl [(s0, .inr (7, [.ref t0, .ref m0, .int u1, .int ((o10 + 1) + 1), .int t25])), (t0, .inr (1, [.ref t1, .int 0, .int ml, .int c0])), (t1, .inl (cA 1, n, .inl f))] H := hP
              have hD : va_D A [(s0, .inr (7, [.ref t0, .ref m0, .int u1, .int ((o10 + 1) + 1), .int t25])), (t0, .inr (1, [.ref t1, .int 0, .int ml, .int c0])), (t1, .inl (cA 1, n, .inl f))] := hD
              have h := Option.some.inj h
              subst h
              exact ko18 _ _ _ (lv_sub hl [0, 1, 2] rfl) hP hD hS
          · have h := ite_f c17 h
            refine lv_aload_n hx hb dX3_readNumber_107 rfl (lv_at hl 0 rfl) ?_
            refine lv_aload_n hx hb dX3_readNumber_108 rfl (lv_at hl 0 rfl) ?_
            refine va_get (D := D) (ci := 7) (v := .int (o15 - 48)) (C := RX3) (T := TX3) (N := 5) hx hb hts iX3_readNumber_X3 hfc hK hP 0 rfl rfl 4 (by decide) (hts (.fieldLink RX3 34 "BathtubTides$Script" "number" "I") (List.mem_of_getElem? (i := 2) rfl)) (fun _ h9 => h9) rfl dX3_readNumber_109 ?_
            refine lv_ineg hx hb dX3_readNumber_112 ?_
            refine va_put (D := D) (ci := 7) (v := .int (-(o15 - 48))) (ty := .int) (C := RX3) (T := TX3) (N := 5) hx hb hts iX3_readNumber_X3 tyX3 tyX3_ok nmX3 hfc hK hP hD hS 0 rfl rfl 4 (by decide) (hts (.fieldLink RX3 34 "BathtubTides$Script" "number" "I") (List.mem_of_getElem? (i := 2) rfl)) (fun _ h9 => h9) rfl (by decide +kernel) rfl rfl (Nat.le_of_ble_eq_true rfl) dX3_readNumber_113 (fun H locs hP hD hS => ?_)
            have hP : va_P D vwCl [(s0, .inr (7, [.ref t0, .ref m0, .int u1, .int (o10 + 1), .int (-(o15 - 48))])), (t0, .inr (1, [.ref t1, .int 0, .int ml, .int c0])), (t1, .inl (cA 1, n, .inl f))] H := hP
            have hD : va_D A [(s0, .inr (7, [.ref t0, .ref m0, .int u1, .int (o10 + 1), .int (-(o15 - 48))])), (t0, .inr (1, [.ref t1, .int 0, .int ml, .int c0])), (t1, .inl (cA 1, n, .inl f))] := hD
            refine lv_goto (tgt := 166) hx hb dX3_readNumber_116 (by decide) ?_
            have h := Option.some.inj h
            subst h
            exact ko18 _ _ _ (lv_sub hl [0, 1, 2] rfl) hP hD hS
        · have h := ite_t c14 h
          refine lv_iconst (v := 0) hx hb dX3_readNumber_76 (by decide) ?_
          have h := Option.some.inj h
          subst h
          exact hend (adr []) _ _ _ _ _ _ _ rfl rfl (rtn_n (x := 0) rfl) hP hD hS dX3_readNumber_77
      clear h
      have h := ho10
      clear ho10
      refine lv_if_eq (tgt := 62) hx hb dX3_readNumber_49 (by decide) (fun c9 => ?_) (fun c9 => ?_)
      · have h := ite_t c9 h
        subst h
        exact ko10 _ _ _ (lv_sub hl [1, 2, 0] rfl) hP hD hS
      · have h := ite_f c9 h
        refine lv_aload_n hx hb dX3_readNumber_52 rfl (lv_at hl 1 rfl) ?_
        refine lv_dup hx hb dX3_readNumber_53 rfl ?_
        refine va_get (D := D) (ci := 7) (v := .int (u2 + 1)) (C := RX3) (T := TX3) (N := 5) hx hb hts iX3_readNumber_X3 hfc hK hP 0 rfl rfl 3 (by decide) (hts (.fieldLink RX3 31 "BathtubTides$Script" "at" "I") (List.mem_of_getElem? (i := 1) rfl)) (fun _ h9 => h9) rfl dX3_readNumber_54 ?_
        refine lv_iconst (v := 1) hx hb dX3_readNumber_57 (by decide) ?_
        refine lv_iadd hx hb dX3_readNumber_58 ?_
        refine va_put (D := D) (ci := 7) (v := .int ((u2 + 1) + 1)) (ty := .int) (C := RX3) (T := TX3) (N := 5) hx hb hts iX3_readNumber_X3 tyX3 tyX3_ok nmX3 hfc hK hP hD hS 0 rfl rfl 3 (by decide) (hts (.fieldLink RX3 31 "BathtubTides$Script" "at" "I") (List.mem_of_getElem? (i := 1) rfl)) (fun _ h9 => h9) rfl (by decide +kernel) rfl rfl (Nat.le_of_ble_eq_true rfl) dX3_readNumber_59 (fun H locs hP hD hS => ?_)
        have hP : va_P D vwCl [(s0, .inr (7, [.ref t0, .ref m0, .int u1, .int ((u2 + 1) + 1), .int u3])), (t0, .inr (1, [.ref t1, .int 0, .int ml, .int c0])), (t1, .inl (cA 1, n, .inl f))] H := hP
        have hD : va_D A [(s0, .inr (7, [.ref t0, .ref m0, .int u1, .int ((u2 + 1) + 1), .int u3])), (t0, .inr (1, [.ref t1, .int 0, .int ml, .int c0])), (t1, .inl (cA 1, n, .inl f))] := hD
        subst h
        exact ko10 _ _ _ (lv_sub hl [1, 2, 0] rfl) hP hD hS
    clear h
    have h := ho5
    clear ho5
    refine lv_if_eq (tgt := 46) hx hb dX3_readNumber_26 (by decide) (fun c4 => ?_) (fun c4 => ?_)
    · have h := ite_t c4 h
      refine lv_iconst (v := 0) hx hb dX3_readNumber_46 (by decide) ?_
      have h := Option.some.inj h
      subst h
      exact ko5 _ _ _ (lv_sub hl [0, 1] rfl) hP hD hS
    · have h := ite_f c4 h
      refine lv_aload_n hx hb dX3_readNumber_29 rfl (lv_at hl 0 rfl) ?_
      refine lv_aload_n hx hb dX3_readNumber_30 rfl (lv_at hl 0 rfl) ?_
      refine va_get (D := D) (ci := 7) (v := .int (u2 + 1)) (C := RX3) (T := TX3) (N := 5) hx hb hts iX3_readNumber_X3 hfc hK hP 0 rfl rfl 3 (by decide) (hts (.fieldLink RX3 31 "BathtubTides$Script" "at" "I") (List.mem_of_getElem? (i := 1) rfl)) (fun _ h9 => h9) rfl dX3_readNumber_31 ?_
      obtain ⟨o6, ho6, h⟩ := bnd_i h
      refine rqE_V (G := G) (v := (some (.int o6))) (As := [.int (u2 + 1)]) (rest := []) (wc := [(s0, .inr (7, [.ref t0, .ref m0, .int u1, .int (u2 + 1), .int u3])), (t0, .inr (1, [.ref t1, .int 0, .int ml, .int c0])), (t1, .inl (cA 1, n, .inl f))]) ⟨hx, hb, hml, hfc, hts⟩ hK hP hS hEV (kX3_signAt l D cA G s0 t0 m0 t1 u1 (u2 + 1) u3 n f ml c0 (u2 + 1) ho6) (cwV 1 hts gX3_readNumber_X3_signAt rfl rfl rfl (by decide +kernel) ⟨(Nat.le_of_ble_eq_true rfl), (Nat.le_of_ble_eq_true rfl)⟩) [0, 1, 2] rfl 0 7 rfl rfl rfl rfl rfl rfl hl.1 (Nat.le_of_ble_eq_true rfl) dX3_readNumber_34 ⟨(Nat.zero_le _), (Nat.zero_le _)⟩ ?_
      refine lv_bipush (v := 45) hx hb dX3_readNumber_37 (by decide) ?_
      refine lv_icmp_ne (tgt := 46) hx hb dX3_readNumber_39 (by decide) (fun c8 => ?_) (fun c8 => ?_)
      · have h := ite_f c8 h
        refine lv_iconst (v := 0) hx hb dX3_readNumber_46 (by decide) ?_
        have h := Option.some.inj h
        subst h
        exact ko5 _ _ _ (lv_sub hl [0, 1] rfl) hP hD hS
      · have h := ite_t c8 h
        refine lv_iconst (v := 1) hx hb dX3_readNumber_42 (by decide) ?_
        refine lv_goto (tgt := 47) hx hb dX3_readNumber_43 (by decide) ?_
        have h := Option.some.inj h
        subst h
        exact ko5 _ _ _ (lv_sub hl [0, 1] rfl) hP hD hS
  · have h := ite_f c3 h
    refine lv_iconst (v := 0) hx hb dX3_readNumber_13 (by decide) ?_
    have h := Option.some.inj h
    subst h
    exact hend (adr []) _ _ _ _ _ _ _ rfl rfl (rtn_n (x := 0) rfl) hP hD hS dX3_readNumber_14

noncomputable def LX3_readCommand_28 (o1 : Int32 × Int32) (n : Nat) (f : Nat → Int32) (c0 : Int32) (u1 : Int32) : Nat → (Nat → Int32) → Int32 → Int32 → Int32 → Option (Int32 × Int32 × Int32 × (Nat → Int32))
  | 0, _, _, _, _ => none
  | fu + 1, f4_28, v0_3_28, v0_4_28, x2_28 => if (SX3_numbersOf o1.1) ≤ x2_28 then (some ((1, v0_3_28, v0_4_28, f4_28))) else (lt_ (if o1.1 = 10 then (1) else (0)) (fun o9 : Int32 => bnd (SX3_readNumber v0_3_28 v0_4_28 n f c0 o9) (fun o10 : Int32 × Int32 × Int32 => if o10.1 = 0 then (some ((0, o10.2.1, o10.2.2, f4_28))) else (lt_ (SX2_put 60 f4_28 (((u1 * 4) + 1) + x2_28) o10.2.2) (fun o13 : Nat → Int32 => LX3_readCommand_28 o1 n f c0 u1 fu o13 o10.2.1 o10.2.2 (x2_28 + 1))))))
noncomputable def SX3_readCommand (N : Nat) (u1 : Int32) (u2 : Int32) (u3 : Int32) (n : Nat) (f : Nat → Int32) (c0 : Int32) (g : Nat → Int32) : Option (Int32 × Int32 × Int32 × (Nat → Int32)) := bnd (SX3_readWord N u2 n f c0) (fun o1 : Int32 × Int32 => if o1.1 = (-1) then (some ((0, o1.2, u3, g))) else (lt_ (SX2_put 60 g (u1 * 4) o1.1) (fun o4 : Nat → Int32 => LX3_readCommand_28 o1 n f c0 u1 N o4 o1.2 u3 0)))
theorem iX3_readCommand_X3 : ∀ w ∈ wsX30, w ∈ wsX3_readCommand := fun _ h => List.mem_cons_of_mem _ (List.mem_append_left _ (List.mem_append_left _ (List.mem_append_left _ (List.mem_append_left _ (List.mem_append_right _ h)))))
abbrev RM_X3_readCommand : Room := { frames := 7, cells := 0, slots := 0, locals := 155 }
set_option maxHeartbeats 4000000 in
theorem kX3_readCommand (l : Launch) (D : va_G) (cA : Nat → ClassId) (G : eG) (s0 t0 m0 t1 m1 : Nat) (N : Nat) (u1 : Int32) (u2 : Int32) (u3 : Int32) (n : Nat) (f : Nat → Int32) (ml : Int32) (c0 : Int32) (g : Nat → Int32) {r : Int32 × Int32 × Int32 × (Nat → Int32)} (hr : SX3_readCommand N u1 u2 u3 n f c0 g = some r) {sz : Nat} : Met l yX3_readCommand wsX3_readCommand RM_X3_readCommand (va_Pc [.ref s0] (gqEB G D cA [(s0, .inr (7, [.ref t0, .ref m0, .int u1, .int u2, .int u3])), (t0, .inr (1, [.ref t1, .int 0, .int ml, .int c0])), (t1, .inl (cA 1, n, .inl f)), (m0, .inr (6, [.ref m1])), (m1, .inl (cA 0, 60, .inl g))] sz)) (gqQ D (fun as => (some (.int r.1))) (fun as => [(s0, .inr (7, [.ref t0, .ref m0, .int u1, .int r.2.1, .int r.2.2.1])), (t0, .inr (1, [.ref t1, .int 0, .int ml, .int c0])), (t1, .inl (cA 1, n, .inl f)), (m0, .inr (6, [.ref m1])), (m1, .inl (cA 0, 60, .inl r.2.2.2))]) (va_A [(s0, .inr (7, [.ref t0, .ref m0, .int u1, .int u2, .int u3])), (t0, .inr (1, [.ref t1, .int 0, .int ml, .int c0])), (t1, .inl (cA 1, n, .inl f)), (m0, .inr (6, [.ref m1])), (m1, .inl (cA 0, 60, .inl g))] sz)) 0 0 (va_A [(s0, .inr (7, [.ref t0, .ref m0, .int u1, .int u2, .int u3])), (t0, .inr (1, [.ref t1, .int 0, .int ml, .int c0])), (t1, .inl (cA 1, n, .inl f)), (m0, .inr (6, [.ref m1])), (m1, .inl (cA 0, 60, .inl g))] sz) := by
  refine gqE_ofW (cc := cX3_readCommand) (maxL := 3) (ret := (some .boolean)) (by decide) rfl (Nat.le_of_ble_eq_true rfl) (fun p e s m args below meth c ls Q A hx hb hml hts hfc hmn hK hP hD hS hA hEV hl hend => ?_)
  have hfc : s.vm.findClass RX3 = some m.cls := hfc
  have hl : lv_has ls 3 [(0, .ref s0)] := hl
  have h := hr
  clear hr
  unfold SX3_readCommand at h
  refine lv_aload_n hx hb dX3_readCommand_0 rfl (lv_at hl 0 rfl) ?_
  obtain ⟨o1, ho1, h⟩ := bnd_i h
  refine gqE_V (G := G) (v := (fun as => (some (.int o1.1)))) (As := []) (rest := []) (wc := [(s0, .inr (7, [.ref t0, .ref m0, .int u1, .int u2, .int u3])), (t0, .inr (1, [.ref t1, .int 0, .int ml, .int c0])), (t1, .inl (cA 1, n, .inl f))]) (wr := [(m0, .inr (6, [.ref m1])), (m1, .inl (cA 0, 60, .inl g))]) (w1 := (fun as => [(s0, .inr (7, [.ref t0, .ref m0, .int u1, .int o1.2, .int u3])), (t0, .inr (1, [.ref t1, .int 0, .int ml, .int c0])), (t1, .inl (cA 1, n, .inl f))])) (ws2 := (fun as => [(s0, .inr (7, [.ref t0, .ref m0, .int u1, .int o1.2, .int u3])), (t0, .inr (1, [.ref t1, .int 0, .int ml, .int c0])), (t1, .inl (cA 1, n, .inl f)), (m0, .inr (6, [.ref m1])), (m1, .inl (cA 0, 60, .inl g))])) (st1 := (fun as => [.int o1.1])) ⟨hx, hb, hml, hfc, hts⟩ hK hP hD hS hA hEV (kX3_readWord l D cA G s0 t0 m0 t1 N u1 u2 u3 n f ml c0 ho1) (cwV 0 hts gX3_readCommand_X3_readWord rfl rfl rfl (by decide +kernel) ⟨(Nat.le_of_ble_eq_true rfl), (Nat.le_of_ble_eq_true rfl)⟩) [0, 1, 2] [3, 4] [2, 3, 4, 0, 1] rfl rfl rfl rfl (by decide) (fun _ => rfl) rfl 0 7 rfl rfl rfl rfl (fun _ => rfl) rfl hl.1 (Nat.le_of_ble_eq_true rfl) dX3_readCommand_1 ⟨(Nat.le_of_ble_eq_true rfl), (Nat.le_of_ble_eq_true rfl)⟩ (fun as2 H locs hP hD hS => ?_)
  have hP : va_P D vwCl [(s0, .inr (7, [.ref t0, .ref m0, .int u1, .int o1.2, .int u3])), (t0, .inr (1, [.ref t1, .int 0, .int ml, .int c0])), (t1, .inl (cA 1, n, .inl f)), (m0, .inr (6, [.ref m1])), (m1, .inl (cA 0, 60, .inl g))] H := hP
  have hD : va_D A [(s0, .inr (7, [.ref t0, .ref m0, .int u1, .int o1.2, .int u3])), (t0, .inr (1, [.ref t1, .int 0, .int ml, .int c0])), (t1, .inl (cA 1, n, .inl f)), (m0, .inr (6, [.ref m1])), (m1, .inl (cA 0, 60, .inl g))] := hD
  refine lv_istore_n hx hb dX3_readCommand_4 rfl hl (Nat.le_of_ble_eq_true rfl) rfl (fun ls hl => ?_)
  have hl : lv_has ls 3 [(1, .int o1.1), (0, .ref s0)] := hl
  refine lv_iload_n hx hb dX3_readCommand_5 rfl (lv_at hl 0 rfl) ?_
  refine lv_iconst (v := (-1)) hx hb dX3_readCommand_6 (by decide) ?_
  refine lv_icmp_ne (tgt := 12) hx hb dX3_readCommand_7 (by decide) (fun c3 => ?_) (fun c3 => ?_)
  · have h := ite_f c3 h
    refine lv_aload_n hx hb dX3_readCommand_12 rfl (lv_at hl 1 rfl) ?_
    refine va_get (D := D) (ci := 7) (v := .ref m0) (C := RX3) (T := TX3) (N := 5) hx hb hts iX3_readCommand_X3 hfc hK hP 0 rfl rfl 1 (by decide) (hts (.fieldLink RX3 23 "BathtubTides$Script" "commands" "LBathtubTides$Row;") (List.mem_of_getElem? (i := 1) rfl)) (fun _ h9 => h9) rfl dX3_readCommand_13 ?_
    refine lv_aload_n hx hb dX3_readCommand_16 rfl (lv_at hl 1 rfl) ?_
    refine va_get (D := D) (ci := 7) (v := .int u1) (C := RX3) (T := TX3) (N := 5) hx hb hts iX3_readCommand_X3 hfc hK hP 0 rfl rfl 2 (by decide) (hts (.fieldLink RX3 27 "BathtubTides$Script" "count" "I") (List.mem_of_getElem? (i := 2) rfl)) (fun _ h9 => h9) rfl dX3_readCommand_17 ?_
    refine lv_iconst (v := 4) hx hb dX3_readCommand_20 (by decide) ?_
    refine lv_imul hx hb dX3_readCommand_21 ?_
    refine lv_iload_n hx hb dX3_readCommand_22 rfl (lv_at hl 0 rfl) ?_
    obtain ⟨o4, ho4, h⟩ := lt_i h
    refine gq_V (v := (fun as => none)) (As := [.int (u1 * 4), .int o1.1]) (rest := []) (wc := [(m0, .inr (6, [.ref m1])), (m1, .inl (cA 0, 60, .inl g))]) (wr := [(s0, .inr (7, [.ref t0, .ref m0, .int u1, .int o1.2, .int u3])), (t0, .inr (1, [.ref t1, .int 0, .int ml, .int c0])), (t1, .inl (cA 1, n, .inl f))]) (w1 := (fun as => [(m0, .inr (6, [.ref m1])), (m1, .inl (cA 0, 60, .inl o4))])) (ws2 := (fun as => [(s0, .inr (7, [.ref t0, .ref m0, .int u1, .int o1.2, .int u3])), (t0, .inr (1, [.ref t1, .int 0, .int ml, .int c0])), (t1, .inl (cA 1, n, .inl f)), (m0, .inr (6, [.ref m1])), (m1, .inl (cA 0, 60, .inl o4))])) (st1 := (fun as => [])) ⟨hx, hb, hml, hfc, hts⟩ hK hP hD hS hA (kX2_put l D cA m0 m1 60 g (u1 * 4) o1.1 (Nat.le_of_ble_eq_true rfl) ho4) (cwV 2 hts gX3_readCommand_X2_put rfl rfl rfl (by decide +kernel) ⟨(Nat.le_of_ble_eq_true rfl), (Nat.le_of_ble_eq_true rfl)⟩) [3, 4] [0, 1, 2] [0, 1, 2, 3, 4] rfl rfl rfl rfl (by decide) (fun _ => rfl) rfl 3 6 rfl rfl rfl rfl (fun _ => rfl) rfl hl.1 (Nat.le_of_ble_eq_true rfl) dX3_readCommand_23 ⟨(Nat.le_of_ble_eq_true rfl), (Nat.le_of_ble_eq_true rfl)⟩ (fun as5 H locs hP hD hS => ?_)
    have hP : va_P D vwCl [(s0, .inr (7, [.ref t0, .ref m0, .int u1, .int o1.2, .int u3])), (t0, .inr (1, [.ref t1, .int 0, .int ml, .int c0])), (t1, .inl (cA 1, n, .inl f)), (m0, .inr (6, [.ref m1])), (m1, .inl (cA 0, 60, .inl o4))] H := hP
    have hD : va_D A [(s0, .inr (7, [.ref t0, .ref m0, .int u1, .int o1.2, .int u3])), (t0, .inr (1, [.ref t1, .int 0, .int ml, .int c0])), (t1, .inl (cA 1, n, .inl f)), (m0, .inr (6, [.ref m1])), (m1, .inl (cA 0, 60, .inl o4))] := hD
    refine lv_iconst (v := 0) hx hb dX3_readCommand_26 (by decide) ?_
    refine lv_istore_n hx hb dX3_readCommand_27 rfl hl (Nat.le_of_ble_eq_true rfl) rfl (fun ls hl => ?_)
    have hl : lv_has ls 3 [(2, .int 0), (1, .int o1.1), (0, .ref s0)] := hl
    have hLX3_readCommand_28 : ∀ (fu : Nat) (f4_28 : Nat → Int32) (v0_3_28 : Int32) (v0_4_28 : Int32) (x2_28 : Int32) (ls : Array Slot) (H : Heap) (locs : List Loc), lv_has ls 3 [(0, .ref s0), (1, .int o1.1), (2, .int x2_28)] → va_P D vwCl [(s0, .inr (7, [.ref t0, .ref m0, .int u1, .int v0_3_28, .int v0_4_28])), (t0, .inr (1, [.ref t1, .int 0, .int ml, .int c0])), (t1, .inl (cA 1, n, .inl f)), (m0, .inr (6, [.ref m1])), (m1, .inl (cA 0, 60, .inl f4_28))] H → va_D A [(s0, .inr (7, [.ref t0, .ref m0, .int u1, .int v0_3_28, .int v0_4_28])), (t0, .inr (1, [.ref t1, .int 0, .int ml, .int c0])), (t1, .inl (cA 1, n, .inl f)), (m0, .inr (6, [.ref m1])), (m1, .inl (cA 0, 60, .inl f4_28))] → va_S A s.heap H locs → LX3_readCommand_28 o1 n f c0 u1 fu f4_28 v0_3_28 v0_4_28 x2_28 = some r → W p l e RM_X3_readCommand s m args below meth c H locs 0 0 Q (F0 m 28 ls []) := by
      intro fu
      induction fu with
      | zero =>
        intro f4_28 v0_3_28 v0_4_28 x2_28 ls H locs hl hP hD hS h
        rw [LX3_readCommand_28] at h
        exact nn h
      | succ fu ih =>
        intro f4_28 v0_3_28 v0_4_28 x2_28 ls H locs hl hP hD hS h
        rw [LX3_readCommand_28] at h
        refine lv_iload_n hx hb dX3_readCommand_28 rfl (lv_at hl 2 rfl) ?_
        refine lv_iload_n hx hb dX3_readCommand_29 rfl (lv_at hl 1 rfl) ?_
        refine rq_S (v := (some (.int (SX3_numbersOf o1.1)))) (As := [.int o1.1]) (rest := [.int x2_28]) (wc := []) ⟨hx, hb, hml, hfc, hts⟩ hK hP (kX3_numbersOf l D cA o1.1 rfl) (va_cwS 1 hts gX3_readCommand_X3_numbersOf rfl rfl rfl (by decide +kernel) ⟨(Nat.le_of_ble_eq_true rfl), (Nat.le_of_ble_eq_true rfl)⟩) [] rfl rfl rfl rfl hl.1 (Nat.le_of_ble_eq_true rfl) dX3_readCommand_30 ⟨(Nat.zero_le _), (Nat.zero_le _)⟩ ?_
        refine lv_icmp_ge (tgt := 83) hx hb dX3_readCommand_33 (by decide) (fun c7 => ?_) (fun c7 => ?_)
        · have h := ite_t c7 h
          refine lv_iconst (v := 1) hx hb dX3_readCommand_83 (by decide) ?_
          have h := Option.some.inj h
          subst h
          exact hend (adr []) _ _ _ _ _ _ _ rfl rfl (rtn_n (x := 1) rfl) hP hD hS dX3_readCommand_84
        · have h := ite_f c7 h
          refine lv_aload_n hx hb dX3_readCommand_36 rfl (lv_at hl 0 rfl) ?_
          refine lv_iload_n hx hb dX3_readCommand_37 rfl (lv_at hl 1 rfl) ?_
          refine lv_bipush (v := 10) hx hb dX3_readCommand_38 (by decide) ?_
          obtain ⟨o9, ho9, h⟩ := lt_i h
          have ko9 : ∀ (ls : Array Slot) (H : Heap) (locs : List Loc), lv_has ls 3 [(0, .ref s0), (1, .int o1.1), (2, .int x2_28)] → va_P D vwCl [(s0, .inr (7, [.ref t0, .ref m0, .int u1, .int v0_3_28, .int v0_4_28])), (t0, .inr (1, [.ref t1, .int 0, .int ml, .int c0])), (t1, .inl (cA 1, n, .inl f)), (m0, .inr (6, [.ref m1])), (m1, .inl (cA 0, 60, .inl f4_28))] H → va_D A [(s0, .inr (7, [.ref t0, .ref m0, .int u1, .int v0_3_28, .int v0_4_28])), (t0, .inr (1, [.ref t1, .int 0, .int ml, .int c0])), (t1, .inl (cA 1, n, .inl f)), (m0, .inr (6, [.ref m1])), (m1, .inl (cA 0, 60, .inl f4_28))] → va_S A s.heap H locs → W p l e RM_X3_readCommand s m args below meth c H locs 0 0 Q (F0 m 48 ls [.int o9, .ref s0]) := by
            intro ls H locs hl hP hD hS
            obtain ⟨o10, ho10, h⟩ := bnd_i h
            refine gqE_V (G := G) (v := (fun as => (some (.int o10.1)))) (As := [.int o9]) (rest := []) (wc := [(s0, .inr (7, [.ref t0, .ref m0, .int u1, .int v0_3_28, .int v0_4_28])), (t0, .inr (1, [.ref t1, .int 0, .int ml, .int c0])), (t1, .inl (cA 1, n, .inl f))]) (wr := [(m0, .inr (6, [.ref m1])), (m1, .inl (cA 0, 60, .inl f4_28))]) (w1 := (fun as => [(s0, .inr (7, [.ref t0, .ref m0, .int u1, .int o10.2.1, .int o10.2.2])), (t0, .inr (1, [.ref t1, .int 0, .int ml, .int c0])), (t1, .inl (cA 1, n, .inl f))])) (ws2 := (fun as => [(s0, .inr (7, [.ref t0, .ref m0, .int u1, .int o10.2.1, .int o10.2.2])), (t0, .inr (1, [.ref t1, .int 0, .int ml, .int c0])), (t1, .inl (cA 1, n, .inl f)), (m0, .inr (6, [.ref m1])), (m1, .inl (cA 0, 60, .inl f4_28))])) (st1 := (fun as => [.int o10.1])) ⟨hx, hb, hml, hfc, hts⟩ hK hP hD hS hA hEV (kX3_readNumber l D cA G s0 t0 m0 t1 u1 v0_3_28 v0_4_28 n f ml c0 o9 ho10) (cwV 1 hts gX3_readCommand_X3_readNumber rfl rfl rfl (by decide +kernel) ⟨(Nat.le_of_ble_eq_true rfl), (Nat.le_of_ble_eq_true rfl)⟩) [0, 1, 2] [3, 4] [2, 3, 4, 0, 1] rfl rfl rfl rfl (by decide) (fun _ => rfl) rfl 0 7 rfl rfl rfl rfl (fun _ => rfl) rfl hl.1 (Nat.le_of_ble_eq_true rfl) dX3_readCommand_48 ⟨(Nat.le_of_ble_eq_true rfl), (Nat.le_of_ble_eq_true rfl)⟩ (fun as11 H locs hP hD hS => ?_)
            have hP : va_P D vwCl [(s0, .inr (7, [.ref t0, .ref m0, .int u1, .int o10.2.1, .int o10.2.2])), (t0, .inr (1, [.ref t1, .int 0, .int ml, .int c0])), (t1, .inl (cA 1, n, .inl f)), (m0, .inr (6, [.ref m1])), (m1, .inl (cA 0, 60, .inl f4_28))] H := hP
            have hD : va_D A [(s0, .inr (7, [.ref t0, .ref m0, .int u1, .int o10.2.1, .int o10.2.2])), (t0, .inr (1, [.ref t1, .int 0, .int ml, .int c0])), (t1, .inl (cA 1, n, .inl f)), (m0, .inr (6, [.ref m1])), (m1, .inl (cA 0, 60, .inl f4_28))] := hD
            refine lv_if_ne (tgt := 56) hx hb dX3_readCommand_51 (by decide) (fun c12 => ?_) (fun c12 => ?_)
            · have h := ite_f c12 h
              refine lv_aload_n hx hb dX3_readCommand_56 rfl (lv_at hl 0 rfl) ?_
              refine va_get (D := D) (ci := 7) (v := .ref m0) (C := RX3) (T := TX3) (N := 5) hx hb hts iX3_readCommand_X3 hfc hK hP 0 rfl rfl 1 (by decide) (hts (.fieldLink RX3 23 "BathtubTides$Script" "commands" "LBathtubTides$Row;") (List.mem_of_getElem? (i := 1) rfl)) (fun _ h9 => h9) rfl dX3_readCommand_57 ?_
              refine lv_aload_n hx hb dX3_readCommand_60 rfl (lv_at hl 0 rfl) ?_
              refine va_get (D := D) (ci := 7) (v := .int u1) (C := RX3) (T := TX3) (N := 5) hx hb hts iX3_readCommand_X3 hfc hK hP 0 rfl rfl 2 (by decide) (hts (.fieldLink RX3 27 "BathtubTides$Script" "count" "I") (List.mem_of_getElem? (i := 2) rfl)) (fun _ h9 => h9) rfl dX3_readCommand_61 ?_
              refine lv_iconst (v := 4) hx hb dX3_readCommand_64 (by decide) ?_
              refine lv_imul hx hb dX3_readCommand_65 ?_
              refine lv_iconst (v := 1) hx hb dX3_readCommand_66 (by decide) ?_
              refine lv_iadd hx hb dX3_readCommand_67 ?_
              refine lv_iload_n hx hb dX3_readCommand_68 rfl (lv_at hl 2 rfl) ?_
              refine lv_iadd hx hb dX3_readCommand_69 ?_
              refine lv_aload_n hx hb dX3_readCommand_70 rfl (lv_at hl 0 rfl) ?_
              refine va_get (D := D) (ci := 7) (v := .int o10.2.2) (C := RX3) (T := TX3) (N := 5) hx hb hts iX3_readCommand_X3 hfc hK hP 0 rfl rfl 4 (by decide) (hts (.fieldLink RX3 34 "BathtubTides$Script" "number" "I") (List.mem_of_getElem? (i := 3) rfl)) (fun _ h9 => h9) rfl dX3_readCommand_71 ?_
              obtain ⟨o13, ho13, h⟩ := lt_i h
              refine gq_V (v := (fun as => none)) (As := [.int (((u1 * 4) + 1) + x2_28), .int o10.2.2]) (rest := []) (wc := [(m0, .inr (6, [.ref m1])), (m1, .inl (cA 0, 60, .inl f4_28))]) (wr := [(s0, .inr (7, [.ref t0, .ref m0, .int u1, .int o10.2.1, .int o10.2.2])), (t0, .inr (1, [.ref t1, .int 0, .int ml, .int c0])), (t1, .inl (cA 1, n, .inl f))]) (w1 := (fun as => [(m0, .inr (6, [.ref m1])), (m1, .inl (cA 0, 60, .inl o13))])) (ws2 := (fun as => [(s0, .inr (7, [.ref t0, .ref m0, .int u1, .int o10.2.1, .int o10.2.2])), (t0, .inr (1, [.ref t1, .int 0, .int ml, .int c0])), (t1, .inl (cA 1, n, .inl f)), (m0, .inr (6, [.ref m1])), (m1, .inl (cA 0, 60, .inl o13))])) (st1 := (fun as => [])) ⟨hx, hb, hml, hfc, hts⟩ hK hP hD hS hA (kX2_put l D cA m0 m1 60 f4_28 (((u1 * 4) + 1) + x2_28) o10.2.2 (Nat.le_of_ble_eq_true rfl) ho13) (cwV 2 hts gX3_readCommand_X2_put rfl rfl rfl (by decide +kernel) ⟨(Nat.le_of_ble_eq_true rfl), (Nat.le_of_ble_eq_true rfl)⟩) [3, 4] [0, 1, 2] [0, 1, 2, 3, 4] rfl rfl rfl rfl (by decide) (fun _ => rfl) rfl 3 6 rfl rfl rfl rfl (fun _ => rfl) rfl hl.1 (Nat.le_of_ble_eq_true rfl) dX3_readCommand_74 ⟨(Nat.le_of_ble_eq_true rfl), (Nat.le_of_ble_eq_true rfl)⟩ (fun as14 H locs hP hD hS => ?_)
              have hP : va_P D vwCl [(s0, .inr (7, [.ref t0, .ref m0, .int u1, .int o10.2.1, .int o10.2.2])), (t0, .inr (1, [.ref t1, .int 0, .int ml, .int c0])), (t1, .inl (cA 1, n, .inl f)), (m0, .inr (6, [.ref m1])), (m1, .inl (cA 0, 60, .inl o13))] H := hP
              have hD : va_D A [(s0, .inr (7, [.ref t0, .ref m0, .int u1, .int o10.2.1, .int o10.2.2])), (t0, .inr (1, [.ref t1, .int 0, .int ml, .int c0])), (t1, .inl (cA 1, n, .inl f)), (m0, .inr (6, [.ref m1])), (m1, .inl (cA 0, 60, .inl o13))] := hD
              refine lv_iinc (k := 2) (v := x2_28 + 1) hx hb dX3_readCommand_77 hl rfl (congrArg (fun z => x2_28 + z) lit1) (Nat.le_of_ble_eq_true rfl) rfl (fun ls hl => ?_)
              have hl : lv_has ls 3 [(2, .int (x2_28 + 1)), (0, .ref s0), (1, .int o1.1)] := hl
              refine lv_goto (tgt := 28) hx hb dX3_readCommand_80 (by decide) ?_
              exact ih o13 o10.2.1 o10.2.2 (x2_28 + 1) _ _ _ (lv_sub hl [1, 2, 0] rfl) hP hD hS h
            · have h := ite_t c12 h
              refine lv_iconst (v := 0) hx hb dX3_readCommand_54 (by decide) ?_
              have h := Option.some.inj h
              subst h
              exact hend (adr []) _ _ _ _ _ _ _ rfl rfl (rtn_n (x := 0) rfl) hP hD hS dX3_readCommand_55
          clear h
          have h := ho9
          clear ho9
          refine lv_icmp_ne (tgt := 47) hx hb dX3_readCommand_40 (by decide) (fun c8 => ?_) (fun c8 => ?_)
          · have h := ite_f c8 h
            refine lv_iconst (v := 0) hx hb dX3_readCommand_47 (by decide) ?_
            subst h
            exact ko9 _ _ _ (lv_sub hl [0, 1, 2] rfl) hP hD hS
          · have h := ite_t c8 h
            refine lv_iconst (v := 1) hx hb dX3_readCommand_43 (by decide) ?_
            refine lv_goto (tgt := 48) hx hb dX3_readCommand_44 (by decide) ?_
            subst h
            exact ko9 _ _ _ (lv_sub hl [0, 1, 2] rfl) hP hD hS
    exact hLX3_readCommand_28 N o4 o1.2 u3 0 _ _ _ (lv_sub hl [2, 1, 0] rfl) hP hD hS h
  · have h := ite_t c3 h
    refine lv_iconst (v := 0) hx hb dX3_readCommand_10 (by decide) ?_
    have h := Option.some.inj h
    subst h
    exact hend (adr []) _ _ _ _ _ _ _ rfl rfl (rtn_n (x := 0) rfl) hP hD hS dX3_readCommand_11

noncomputable def LX3_read_10 (N : Nat) (n : Nat) (f : Nat → Int32) (c0 : Int32) : Nat → (Nat → Int32) → Int32 → Int32 → Int32 → Option (Int32 × Int32 × Int32 × Int32 × (Nat → Int32))
  | 0, _, _, _, _ => none
  | fu + 1, f4_10, v0_2_10, v0_3_10, v0_4_10 => if 15 ≤ v0_2_10 then (some ((0, v0_2_10, v0_3_10, v0_4_10, f4_10))) else (bnd (SX3_readCommand N v0_2_10 v0_3_10 v0_4_10 n f c0 f4_10) (fun o2 : Int32 × Int32 × Int32 × (Nat → Int32) => if o2.1 = 0 then (some ((0, v0_2_10, o2.2.1, o2.2.2.1, o2.2.2.2))) else (if o2.2.1 < (SJ4_length_8abf5 c0) then (bnd (SX3_signAt n f c0 o2.2.1) (fun o7 : Int32 => if o7 = 59 then (LX3_read_10 N n f c0 fu o2.2.2.2 (v0_2_10 + 1) (o2.2.1 + 1) o2.2.2.1) else (some ((0, v0_2_10 + 1, o2.2.1, o2.2.2.1, o2.2.2.2))))) else (some ((1, v0_2_10 + 1, o2.2.1, o2.2.2.1, o2.2.2.2))))))
noncomputable def SX3_read (N : Nat) (u3 : Int32) (n : Nat) (f : Nat → Int32) (c0 : Int32) (g : Nat → Int32) : Option (Int32 × Int32 × Int32 × Int32 × (Nat → Int32)) := LX3_read_10 N n f c0 N g 0 0 u3
theorem iX3_read_X3 : ∀ w ∈ wsX30, w ∈ wsX3_read := fun _ h => List.mem_cons_of_mem _ (List.mem_append_left _ (List.mem_append_left _ (List.mem_append_left _ (List.mem_append_left _ (List.mem_append_right _ h)))))
abbrev RM_X3_read : Room := { frames := 8, cells := 0, slots := 0, locals := 177 }
set_option maxHeartbeats 4000000 in
theorem kX3_read (l : Launch) (D : va_G) (cA : Nat → ClassId) (G : eG) (s0 t0 m0 t1 m1 : Nat) (N : Nat) (u1 : Int32) (u2 : Int32) (u3 : Int32) (n : Nat) (f : Nat → Int32) (ml : Int32) (c0 : Int32) (g : Nat → Int32) {r : Int32 × Int32 × Int32 × Int32 × (Nat → Int32)} (hr : SX3_read N u3 n f c0 g = some r) {sz : Nat} : Met l yX3_read wsX3_read RM_X3_read (va_Pc [.ref s0] (gqEB G D cA [(s0, .inr (7, [.ref t0, .ref m0, .int u1, .int u2, .int u3])), (t0, .inr (1, [.ref t1, .int 0, .int ml, .int c0])), (t1, .inl (cA 1, n, .inl f)), (m0, .inr (6, [.ref m1])), (m1, .inl (cA 0, 60, .inl g))] sz)) (gqQ D (fun as => (some (.int r.1))) (fun as => [(s0, .inr (7, [.ref t0, .ref m0, .int r.2.1, .int r.2.2.1, .int r.2.2.2.1])), (t0, .inr (1, [.ref t1, .int 0, .int ml, .int c0])), (t1, .inl (cA 1, n, .inl f)), (m0, .inr (6, [.ref m1])), (m1, .inl (cA 0, 60, .inl r.2.2.2.2))]) (va_A [(s0, .inr (7, [.ref t0, .ref m0, .int u1, .int u2, .int u3])), (t0, .inr (1, [.ref t1, .int 0, .int ml, .int c0])), (t1, .inl (cA 1, n, .inl f)), (m0, .inr (6, [.ref m1])), (m1, .inl (cA 0, 60, .inl g))] sz)) 0 0 (va_A [(s0, .inr (7, [.ref t0, .ref m0, .int u1, .int u2, .int u3])), (t0, .inr (1, [.ref t1, .int 0, .int ml, .int c0])), (t1, .inl (cA 1, n, .inl f)), (m0, .inr (6, [.ref m1])), (m1, .inl (cA 0, 60, .inl g))] sz) := by
  refine gqE_ofW (cc := cX3_read) (maxL := 1) (ret := (some .boolean)) (by decide) rfl (Nat.le_of_ble_eq_true rfl) (fun p e s m args below meth c ls Q A hx hb hml hts hfc hmn hK hP hD hS hA hEV hl hend => ?_)
  have hfc : s.vm.findClass RX3 = some m.cls := hfc
  have hl : lv_has ls 1 [(0, .ref s0)] := hl
  have h := hr
  clear hr
  unfold SX3_read at h
  refine lv_aload_n hx hb dX3_read_0 rfl (lv_at hl 0 rfl) ?_
  refine lv_iconst (v := 0) hx hb dX3_read_1 (by decide) ?_
  refine va_put (D := D) (ci := 7) (v := .int 0) (ty := .int) (C := RX3) (T := TX3) (N := 5) hx hb hts iX3_read_X3 tyX3 tyX3_ok nmX3 hfc hK hP hD hS 0 rfl rfl 2 (by decide) (hts (.fieldLink RX3 27 "BathtubTides$Script" "count" "I") (List.mem_of_getElem? (i := 1) rfl)) (fun _ h9 => h9) rfl (by decide +kernel) rfl rfl (Nat.le_of_ble_eq_true rfl) dX3_read_2 (fun H locs hP hD hS => ?_)
  have hP : va_P D vwCl [(s0, .inr (7, [.ref t0, .ref m0, .int 0, .int u2, .int u3])), (t0, .inr (1, [.ref t1, .int 0, .int ml, .int c0])), (t1, .inl (cA 1, n, .inl f)), (m0, .inr (6, [.ref m1])), (m1, .inl (cA 0, 60, .inl g))] H := hP
  have hD : va_D A [(s0, .inr (7, [.ref t0, .ref m0, .int 0, .int u2, .int u3])), (t0, .inr (1, [.ref t1, .int 0, .int ml, .int c0])), (t1, .inl (cA 1, n, .inl f)), (m0, .inr (6, [.ref m1])), (m1, .inl (cA 0, 60, .inl g))] := hD
  refine lv_aload_n hx hb dX3_read_5 rfl (lv_at hl 0 rfl) ?_
  refine lv_iconst (v := 0) hx hb dX3_read_6 (by decide) ?_
  refine va_put (D := D) (ci := 7) (v := .int 0) (ty := .int) (C := RX3) (T := TX3) (N := 5) hx hb hts iX3_read_X3 tyX3 tyX3_ok nmX3 hfc hK hP hD hS 0 rfl rfl 3 (by decide) (hts (.fieldLink RX3 31 "BathtubTides$Script" "at" "I") (List.mem_of_getElem? (i := 2) rfl)) (fun _ h9 => h9) rfl (by decide +kernel) rfl rfl (Nat.le_of_ble_eq_true rfl) dX3_read_7 (fun H locs hP hD hS => ?_)
  have hP : va_P D vwCl [(s0, .inr (7, [.ref t0, .ref m0, .int 0, .int 0, .int u3])), (t0, .inr (1, [.ref t1, .int 0, .int ml, .int c0])), (t1, .inl (cA 1, n, .inl f)), (m0, .inr (6, [.ref m1])), (m1, .inl (cA 0, 60, .inl g))] H := hP
  have hD : va_D A [(s0, .inr (7, [.ref t0, .ref m0, .int 0, .int 0, .int u3])), (t0, .inr (1, [.ref t1, .int 0, .int ml, .int c0])), (t1, .inl (cA 1, n, .inl f)), (m0, .inr (6, [.ref m1])), (m1, .inl (cA 0, 60, .inl g))] := hD
  have hLX3_read_10 : ∀ (fu : Nat) (f4_10 : Nat → Int32) (v0_2_10 : Int32) (v0_3_10 : Int32) (v0_4_10 : Int32) (ls : Array Slot) (H : Heap) (locs : List Loc), lv_has ls 1 [(0, .ref s0)] → va_P D vwCl [(s0, .inr (7, [.ref t0, .ref m0, .int v0_2_10, .int v0_3_10, .int v0_4_10])), (t0, .inr (1, [.ref t1, .int 0, .int ml, .int c0])), (t1, .inl (cA 1, n, .inl f)), (m0, .inr (6, [.ref m1])), (m1, .inl (cA 0, 60, .inl f4_10))] H → va_D A [(s0, .inr (7, [.ref t0, .ref m0, .int v0_2_10, .int v0_3_10, .int v0_4_10])), (t0, .inr (1, [.ref t1, .int 0, .int ml, .int c0])), (t1, .inl (cA 1, n, .inl f)), (m0, .inr (6, [.ref m1])), (m1, .inl (cA 0, 60, .inl f4_10))] → va_S A s.heap H locs → LX3_read_10 N n f c0 fu f4_10 v0_2_10 v0_3_10 v0_4_10 = some r → W p l e RM_X3_read s m args below meth c H locs 0 0 Q (F0 m 10 ls []) := by
    intro fu
    induction fu with
    | zero =>
      intro f4_10 v0_2_10 v0_3_10 v0_4_10 ls H locs hl hP hD hS h
      rw [LX3_read_10] at h
      exact nn h
    | succ fu ih =>
      intro f4_10 v0_2_10 v0_3_10 v0_4_10 ls H locs hl hP hD hS h
      rw [LX3_read_10] at h
      refine lv_aload_n hx hb dX3_read_10 rfl (lv_at hl 0 rfl) ?_
      refine va_get (D := D) (ci := 7) (v := .int v0_2_10) (C := RX3) (T := TX3) (N := 5) hx hb hts iX3_read_X3 hfc hK hP 0 rfl rfl 2 (by decide) (hts (.fieldLink RX3 27 "BathtubTides$Script" "count" "I") (List.mem_of_getElem? (i := 1) rfl)) (fun _ h9 => h9) rfl dX3_read_11 ?_
      refine lv_bipush (v := 15) hx hb dX3_read_14 (by decide) ?_
      refine lv_icmp_ge (tgt := 82) hx hb dX3_read_16 (by decide) (fun c1 => ?_) (fun c1 => ?_)
      · have h := ite_t c1 h
        refine lv_iconst (v := 0) hx hb dX3_read_82 (by decide) ?_
        have h := Option.some.inj h
        subst h
        exact hend (adr []) _ _ _ _ _ _ _ rfl rfl (rtn_n (x := 0) rfl) hP hD hS dX3_read_83
      · have h := ite_f c1 h
        refine lv_aload_n hx hb dX3_read_19 rfl (lv_at hl 0 rfl) ?_
        obtain ⟨o2, ho2, h⟩ := bnd_i h
        refine gqE_V (G := G) (v := (fun as => (some (.int o2.1)))) (As := []) (rest := []) (wc := [(s0, .inr (7, [.ref t0, .ref m0, .int v0_2_10, .int v0_3_10, .int v0_4_10])), (t0, .inr (1, [.ref t1, .int 0, .int ml, .int c0])), (t1, .inl (cA 1, n, .inl f)), (m0, .inr (6, [.ref m1])), (m1, .inl (cA 0, 60, .inl f4_10))]) (wr := []) (w1 := (fun as => [(s0, .inr (7, [.ref t0, .ref m0, .int v0_2_10, .int o2.2.1, .int o2.2.2.1])), (t0, .inr (1, [.ref t1, .int 0, .int ml, .int c0])), (t1, .inl (cA 1, n, .inl f)), (m0, .inr (6, [.ref m1])), (m1, .inl (cA 0, 60, .inl o2.2.2.2))])) (ws2 := (fun as => [(s0, .inr (7, [.ref t0, .ref m0, .int v0_2_10, .int o2.2.1, .int o2.2.2.1])), (t0, .inr (1, [.ref t1, .int 0, .int ml, .int c0])), (t1, .inl (cA 1, n, .inl f)), (m0, .inr (6, [.ref m1])), (m1, .inl (cA 0, 60, .inl o2.2.2.2))])) (st1 := (fun as => [.int o2.1])) ⟨hx, hb, hml, hfc, hts⟩ hK hP hD hS hA hEV (kX3_readCommand l D cA G s0 t0 m0 t1 m1 N v0_2_10 v0_3_10 v0_4_10 n f ml c0 f4_10 ho2) (cwV 0 hts gX3_read_X3_readCommand rfl rfl rfl (by decide +kernel) ⟨(Nat.le_of_ble_eq_true rfl), (Nat.le_of_ble_eq_true rfl)⟩) [0, 1, 2, 3, 4] [] [0, 1, 2, 3, 4] rfl rfl rfl rfl (by decide) (fun _ => rfl) rfl 0 7 rfl rfl rfl rfl (fun _ => rfl) rfl hl.1 (Nat.le_of_ble_eq_true rfl) dX3_read_20 ⟨(Nat.le_of_ble_eq_true rfl), (Nat.le_of_ble_eq_true rfl)⟩ (fun as3 H locs hP hD hS => ?_)
        have hP : va_P D vwCl [(s0, .inr (7, [.ref t0, .ref m0, .int v0_2_10, .int o2.2.1, .int o2.2.2.1])), (t0, .inr (1, [.ref t1, .int 0, .int ml, .int c0])), (t1, .inl (cA 1, n, .inl f)), (m0, .inr (6, [.ref m1])), (m1, .inl (cA 0, 60, .inl o2.2.2.2))] H := hP
        have hD : va_D A [(s0, .inr (7, [.ref t0, .ref m0, .int v0_2_10, .int o2.2.1, .int o2.2.2.1])), (t0, .inr (1, [.ref t1, .int 0, .int ml, .int c0])), (t1, .inl (cA 1, n, .inl f)), (m0, .inr (6, [.ref m1])), (m1, .inl (cA 0, 60, .inl o2.2.2.2))] := hD
        refine lv_if_ne (tgt := 28) hx hb dX3_read_23 (by decide) (fun c4 => ?_) (fun c4 => ?_)
        · have h := ite_f c4 h
          refine lv_aload_n hx hb dX3_read_28 rfl (lv_at hl 0 rfl) ?_
          refine lv_dup hx hb dX3_read_29 rfl ?_
          refine va_get (D := D) (ci := 7) (v := .int v0_2_10) (C := RX3) (T := TX3) (N := 5) hx hb hts iX3_read_X3 hfc hK hP 0 rfl rfl 2 (by decide) (hts (.fieldLink RX3 27 "BathtubTides$Script" "count" "I") (List.mem_of_getElem? (i := 1) rfl)) (fun _ h9 => h9) rfl dX3_read_30 ?_
          refine lv_iconst (v := 1) hx hb dX3_read_33 (by decide) ?_
          refine lv_iadd hx hb dX3_read_34 ?_
          refine va_put (D := D) (ci := 7) (v := .int (v0_2_10 + 1)) (ty := .int) (C := RX3) (T := TX3) (N := 5) hx hb hts iX3_read_X3 tyX3 tyX3_ok nmX3 hfc hK hP hD hS 0 rfl rfl 2 (by decide) (hts (.fieldLink RX3 27 "BathtubTides$Script" "count" "I") (List.mem_of_getElem? (i := 1) rfl)) (fun _ h9 => h9) rfl (by decide +kernel) rfl rfl (Nat.le_of_ble_eq_true rfl) dX3_read_35 (fun H locs hP hD hS => ?_)
          have hP : va_P D vwCl [(s0, .inr (7, [.ref t0, .ref m0, .int (v0_2_10 + 1), .int o2.2.1, .int o2.2.2.1])), (t0, .inr (1, [.ref t1, .int 0, .int ml, .int c0])), (t1, .inl (cA 1, n, .inl f)), (m0, .inr (6, [.ref m1])), (m1, .inl (cA 0, 60, .inl o2.2.2.2))] H := hP
          have hD : va_D A [(s0, .inr (7, [.ref t0, .ref m0, .int (v0_2_10 + 1), .int o2.2.1, .int o2.2.2.1])), (t0, .inr (1, [.ref t1, .int 0, .int ml, .int c0])), (t1, .inl (cA 1, n, .inl f)), (m0, .inr (6, [.ref m1])), (m1, .inl (cA 0, 60, .inl o2.2.2.2))] := hD
          refine lv_aload_n hx hb dX3_read_38 rfl (lv_at hl 0 rfl) ?_
          refine va_get (D := D) (ci := 7) (v := .int o2.2.1) (C := RX3) (T := TX3) (N := 5) hx hb hts iX3_read_X3 hfc hK hP 0 rfl rfl 3 (by decide) (hts (.fieldLink RX3 31 "BathtubTides$Script" "at" "I") (List.mem_of_getElem? (i := 2) rfl)) (fun _ h9 => h9) rfl dX3_read_39 ?_
          refine lv_aload_n hx hb dX3_read_42 rfl (lv_at hl 0 rfl) ?_
          refine va_get (D := D) (ci := 7) (v := .ref t0) (C := RX3) (T := TX3) (N := 5) hx hb hts iX3_read_X3 hfc hK hP 0 rfl rfl 0 (by decide) (hts (.fieldLink RX3 12 "BathtubTides$Script" "text" "Ljava/lang/StringBuilder;") (List.mem_of_getElem? (i := 3) rfl)) (fun _ h9 => h9) rfl dX3_read_43 ?_
          refine rq_V (v := (some (.int (SJ4_length_8abf5 c0)))) (As := []) (rest := [.int o2.2.1]) (wc := [(t0, .inr (1, [.ref t1, .int 0, .int ml, .int c0])), (t1, .inl (cA 1, n, .inl f))]) ⟨hx, hb, hml, hfc, hts⟩ hK hP (kJ4_length_8abf5 l D cA t0 t1 n f ml c0 rfl) (cwV 0 hts gX3_read_J4_length_8abf5 rfl rfl rfl (by decide +kernel) ⟨(Nat.le_of_ble_eq_true rfl), (Nat.le_of_ble_eq_true rfl)⟩) [1, 2] rfl 1 1 rfl rfl rfl rfl rfl rfl hl.1 (Nat.le_of_ble_eq_true rfl) dX3_read_46 ⟨(Nat.zero_le _), (Nat.zero_le _)⟩ ?_
          refine lv_icmp_lt (tgt := 54) hx hb dX3_read_49 (by decide) (fun c6 => ?_) (fun c6 => ?_)
          · have h := ite_t c6 h
            refine lv_aload_n hx hb dX3_read_54 rfl (lv_at hl 0 rfl) ?_
            refine lv_aload_n hx hb dX3_read_55 rfl (lv_at hl 0 rfl) ?_
            refine va_get (D := D) (ci := 7) (v := .int o2.2.1) (C := RX3) (T := TX3) (N := 5) hx hb hts iX3_read_X3 hfc hK hP 0 rfl rfl 3 (by decide) (hts (.fieldLink RX3 31 "BathtubTides$Script" "at" "I") (List.mem_of_getElem? (i := 2) rfl)) (fun _ h9 => h9) rfl dX3_read_56 ?_
            obtain ⟨o7, ho7, h⟩ := bnd_i h
            refine rqE_V (G := G) (v := (some (.int o7))) (As := [.int o2.2.1]) (rest := []) (wc := [(s0, .inr (7, [.ref t0, .ref m0, .int (v0_2_10 + 1), .int o2.2.1, .int o2.2.2.1])), (t0, .inr (1, [.ref t1, .int 0, .int ml, .int c0])), (t1, .inl (cA 1, n, .inl f))]) ⟨hx, hb, hml, hfc, hts⟩ hK hP hS hEV (kX3_signAt l D cA G s0 t0 m0 t1 (v0_2_10 + 1) o2.2.1 o2.2.2.1 n f ml c0 o2.2.1 ho7) (cwV 1 hts gX3_read_X3_signAt rfl rfl rfl (by decide +kernel) ⟨(Nat.le_of_ble_eq_true rfl), (Nat.le_of_ble_eq_true rfl)⟩) [0, 1, 2] rfl 0 7 rfl rfl rfl rfl rfl rfl hl.1 (Nat.le_of_ble_eq_true rfl) dX3_read_59 ⟨(Nat.zero_le _), (Nat.zero_le _)⟩ ?_
            refine lv_bipush (v := 59) hx hb dX3_read_62 (by decide) ?_
            refine lv_icmp_eq (tgt := 69) hx hb dX3_read_64 (by decide) (fun c9 => ?_) (fun c9 => ?_)
            · have h := ite_t c9 h
              refine lv_aload_n hx hb dX3_read_69 rfl (lv_at hl 0 rfl) ?_
              refine lv_dup hx hb dX3_read_70 rfl ?_
              refine va_get (D := D) (ci := 7) (v := .int o2.2.1) (C := RX3) (T := TX3) (N := 5) hx hb hts iX3_read_X3 hfc hK hP 0 rfl rfl 3 (by decide) (hts (.fieldLink RX3 31 "BathtubTides$Script" "at" "I") (List.mem_of_getElem? (i := 2) rfl)) (fun _ h9 => h9) rfl dX3_read_71 ?_
              refine lv_iconst (v := 1) hx hb dX3_read_74 (by decide) ?_
              refine lv_iadd hx hb dX3_read_75 ?_
              refine va_put (D := D) (ci := 7) (v := .int (o2.2.1 + 1)) (ty := .int) (C := RX3) (T := TX3) (N := 5) hx hb hts iX3_read_X3 tyX3 tyX3_ok nmX3 hfc hK hP hD hS 0 rfl rfl 3 (by decide) (hts (.fieldLink RX3 31 "BathtubTides$Script" "at" "I") (List.mem_of_getElem? (i := 2) rfl)) (fun _ h9 => h9) rfl (by decide +kernel) rfl rfl (Nat.le_of_ble_eq_true rfl) dX3_read_76 (fun H locs hP hD hS => ?_)
              have hP : va_P D vwCl [(s0, .inr (7, [.ref t0, .ref m0, .int (v0_2_10 + 1), .int (o2.2.1 + 1), .int o2.2.2.1])), (t0, .inr (1, [.ref t1, .int 0, .int ml, .int c0])), (t1, .inl (cA 1, n, .inl f)), (m0, .inr (6, [.ref m1])), (m1, .inl (cA 0, 60, .inl o2.2.2.2))] H := hP
              have hD : va_D A [(s0, .inr (7, [.ref t0, .ref m0, .int (v0_2_10 + 1), .int (o2.2.1 + 1), .int o2.2.2.1])), (t0, .inr (1, [.ref t1, .int 0, .int ml, .int c0])), (t1, .inl (cA 1, n, .inl f)), (m0, .inr (6, [.ref m1])), (m1, .inl (cA 0, 60, .inl o2.2.2.2))] := hD
              refine lv_goto (tgt := 10) hx hb dX3_read_79 (by decide) ?_
              exact ih o2.2.2.2 (v0_2_10 + 1) (o2.2.1 + 1) o2.2.2.1 _ _ _ (lv_sub hl [0] rfl) hP hD hS h
            · have h := ite_f c9 h
              refine lv_iconst (v := 0) hx hb dX3_read_67 (by decide) ?_
              have h := Option.some.inj h
              subst h
              exact hend (adr []) _ _ _ _ _ _ _ rfl rfl (rtn_n (x := 0) rfl) hP hD hS dX3_read_68
          · have h := ite_f c6 h
            refine lv_iconst (v := 1) hx hb dX3_read_52 (by decide) ?_
            have h := Option.some.inj h
            subst h
            exact hend (adr []) _ _ _ _ _ _ _ rfl rfl (rtn_n (x := 1) rfl) hP hD hS dX3_read_53
        · have h := ite_t c4 h
          refine lv_iconst (v := 0) hx hb dX3_read_26 (by decide) ?_
          have h := Option.some.inj h
          subst h
          exact hend (adr []) _ _ _ _ _ _ _ rfl rfl (rtn_n (x := 0) rfl) hP hD hS dX3_read_27
  exact hLX3_read_10 N g 0 0 u3 _ _ _ (lv_sub hl [0] rfl) hP hD hS h
