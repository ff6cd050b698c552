/-! ===== the law's pure part: texts that are executed; what is undone ===== -/
section LI2
variable {T : Int} {f g : Nat → Int32} {v1 v2 : Int32} {N : Nat}
abbrev R16 : Type := Int32 × Int32 × Int32 × (Nat → Int32) × Int32 × Int32 × (Nat → Int32) × Int32 × Int32 × Int32 × Int32 × Int32 × (Nat → Int32) × Nat × (Nat → Int32) × (Nat → Int32)
theorem exe_t (hN : 2100 ≤ N) (hG : Good T f) (hT : T ≤ 800000) (hV : VR v1 v2) {q n : Nat} {tf : Nat → Int32} (hl : LR 60 q n tf tf) (u8 u9 w3 ml : Int32) (cm bf : Nat → Int32) : ∃ (ret u8' u9' : Int32) (f' : Nat → Int32) (a c : Int32) (g' : Nat → Int32) (w1' w2' w3' ml' : Int32) (cm' bf' : Nat → Int32), SL_executes N u8 u9 f v1 v2 g w3 n tf ml (nI q) cm bf = some (ret, u8', u9', f', a, c, g', w1', w2', w3', ml', 0, tf, n, cm', bf') ∧ OUT N (T + 1000) f v1 v2 g (ret, f', a, c, g') := by
  obtain ⟨ok, p', k', m', v12, u3', g1, cd', r1, r2, r3, r4, r5⟩ := read_v hl hN 13 0 0 N N w3 cm (fun _ => 0) (by omega) (by omega) (by omega) (by omega) (by omega) (fun j hj => absurd hj (by omega))
  obtain ⟨ml', e0⟩ := setl (lf := tf) (ml := ml) hl.1 hl.2.1
  have eE : SX3_empty n tf ml (nI q) = some (ml', 0, tf, n) := by
    unfold SX3_empty
    rw [e0, bnd_v]
  have eR : SX3_read N w3 n tf (nI q) cm = _ := r1
  cases ok
  · refine ⟨-1, SX3_errorPlace (nI p'), u9, f, v1, v2, g, nI m', nI p', u3', ml', g1, bf, ?_, OUT.no m1_lt⟩
    unfold SL_executes SX5_execute
    rw [eR, bnd_v, eE, bnd_v]
    rfl
  · obtain ⟨rfl, t2, rfl, t4, t5⟩ := r4 rfl
    have hBf : ∀ i, i < 61 → va_cpy f bf 0 0 61 i = f i := fun i hi => cpy61 _ _ hi
    have hL0 : SX5_execute N u8 u9 f v1 v2 g w3 n tf ml (nI q) cm bf = LX5_execute_61 N (1, nI m', nI p', u3', g1) v1 v2 g (va_cpy f bf 0 0 61) u8 u9 (ml', 0, tf, n) N f 0 := by
      unfold SX5_execute
      rw [eR, bnd_v, eE, bnd_v]
      refine (if_neg (show ¬ (1 : Int32) = 0 by decide)).trans ?_
      rw [copy61 hN, bnd_v]
      rfl
    rcases exe_l (N := N) hN (k := m') t4 (g1 := g1) (cd := cd') (b := fun _ => 0) (pp := fun _ => 0) (g := g) (tf := tf) (B := va_cpy f bf 0 0 61) (n := n) (p' := nI p') (u3' := u3') (v1 := v1) (v2 := v2) (v5 := 0) (u8 := u8) (u9 := u9) (v13 := 0) (v14 := 0) (ml' := ml') t5 m' 0 T f (GH f) (by omega) (by omega) (GH_R f) hG with ⟨f', s', q1, q2, q3, q4⟩ | ⟨j, F, s', q1, q2, q3⟩
    · obtain ⟨g2, a, c, hk, -⟩ := keep_t hN hV g (va_cpy f bf 0 0 61)
      refine ⟨nI m', u8, u9, f', a, c, g2, nI m', nI p', u3', ml', g1, va_cpy f bf 0 0 61, ?_, Or.inr ⟨nI_pos (by omega), q2.mono (by omega), va_cpy f bf 0 0 61, hBf, hk⟩⟩
      unfold SL_executes
      rw [hL0, show LX5_execute_61 N (1, nI m', nI p', u3', g1) v1 v2 g (va_cpy f bf 0 0 61) u8 u9 (ml', 0, tf, n) N f 0 = _ from q3 N (by omega), hk, bnd_v, bnd_v]
      rfl
    · refine ⟨-2, u8, nI j, va_cpy (va_cpy f bf 0 0 61) F 0 0 61, v1, v2, g, nI m', nI p', u3', ml', g1, va_cpy f bf 0 0 61, ?_, Or.inl ⟨m2_lt, fun i hi => ?_, rfl, rfl, rfl⟩⟩
      · unfold SL_executes
        rw [hL0, show LX5_execute_61 N (1, nI m', nI p', u3', g1) v1 v2 g (va_cpy f bf 0 0 61) u8 u9 (ml', 0, tf, n) N f 0 = _ from q2 N (by omega), bnd_v]
        rfl
      · show va_cpy (va_cpy f bf 0 0 61) F 0 0 61 i = f i
        rw [cpy61 _ _ hi, cpy61 _ _ hi]
theorem type_c {l : List Nat} {n : Nat} {tf : Nat → Int32} (h : CL l n tf) (h6 : l.length < 60) {x : Nat} (hx : 32 ≤ x ∧ x < 127) : ∃ n' tf', SL_type n tf (nI l.length) (nI x) = some (nI (l ++ [x]).length, nI (l ++ [x]).length, tf', n') ∧ CL (l ++ [x]) n' tf' := by
  obtain ⟨n', tf', e, h'⟩ := cl_c h (by omega) hx
  refine ⟨n', tf', ?_, h'⟩
  unfold SL_type SX5_type SX3_length SJ4_length_8abf5 SJ5_length_8abf5 SX3_append
  rw [if_neg (show ¬ nI x < (32 : Int32) from nI_nlt (b := 32) (by omega) (by omega)), if_pos (show nI x ≤ (126 : Int32) from nI_le (b := 126) (by omega) (by omega)), if_pos (show nI l.length < (60 : Int32) from nI_lt (b := 60) (by omega) (by omega)), e, bnd_v, bnd_v, bnd_v, if_pos rfl]
  rfl
theorem typed {l : List Nat} (h6 : l.length ≤ 60) (hp : PR l) {w : Nat → Int32} (hw : WS l w) {K : (Int32 × (Nat → Int32) × Nat) → Option R16} : ∀ (r p : List Nat) (n : Nat) (tf : Nat → Int32) (fu : Nat), l = p ++ r → CL p n tf → r.length + 1 ≤ fu → ∃ n' tf', CL l n' tf' ∧ LL_execute_2 K l.length w fu (nI p.length) (nI p.length) tf n = K (nI l.length, tf', n') := by
  intro r
  induction r with
  | nil =>
    intro p n tf fu hl h hf
    obtain ⟨fu, rfl⟩ : ∃ k, fu = k + 1 := ⟨fu - 1, by omega⟩
    rw [List.append_nil] at hl
    subst hl
    exact ⟨n, tf, h, by rw [LL_execute_2, len_w, if_pos (nI_le (by omega) (by omega))]⟩
  | cons x r ih =>
    intro p n tf fu hl h hf
    obtain ⟨fu, rfl⟩ : ∃ k, fu = k + 1 := ⟨fu - 1, by omega⟩
    have hlen : l.length = p.length + (r.length + 1) := by
      rw [hl, List.length_append, List.length_cons]
    have hx : l[p.length]? = some x := by
      rw [hl]
      simp
    have hpx := hp x (by rw [hl]; simp)
    obtain ⟨n1, tf1, e1, c1⟩ := type_c h (by omega) hpx
    have hl1 : (p ++ [x]).length = p.length + 1 := by simp
    obtain ⟨n2, tf2, c2, k2⟩ := ih (p ++ [x]) n1 tf1 fu (by rw [hl]; simp) c1 (by simp only [List.length_cons] at hf; omega)
    refine ⟨n2, tf2, c2, ?_⟩
    rw [LL_execute_2, len_w, if_neg (nI_ge (by omega) (by omega)), wcharAt hw (by omega) hx (by omega), bnd_v, e1, bnd_v, if_pos (by rw [hl1, nI_1])]
    refine Eq.trans ?_ k2
    rw [hl1, nI_1]
theorem exec_c (hN : 2100 ≤ N) (hG : Good T f) (hT : T ≤ 800000) (hV : VR v1 v2) {l : List Nat} (h6 : l.length ≤ 60) (hp : PR l) {w : Nat → Int32} (hw : WS l w) {n : Nat} {tf : Nat → Int32} (hC : CapN n) (hB : BY n tf) (u8 u9 w3 ml : Int32) (cm bf : Nat → Int32) : ∃ (ret u8' u9' : Int32) (f' : Nat → Int32) (a c : Int32) (g' : Nat → Int32) (w1' w2' w3' ml' : Int32) (tf' : Nat → Int32) (n' : Nat) (cm' bf' : Nat → Int32), SL_execute N u8 u9 f v1 v2 g w3 n tf ml 0 cm bf l.length w = some (ret, u8', u9', f', a, c, g', w1', w2', w3', ml', 0, tf', n', cm', bf') ∧ OUT N (T + 1000) f v1 v2 g (ret, f', a, c, g') ∧ CapN n' ∧ BY n' tf' := by
  have h0 : CL [] n tf := ⟨hC, Nat.zero_le _, Nat.zero_le _, hB, AT.nil, PR.nil⟩
  obtain ⟨n1, tf1, c1, k1⟩ := typed h6 hp hw (K := fun o1 : Int32 × (Nat → Int32) × Nat => bnd (SL_executes N u8 u9 f v1 v2 g w3 o1.2.2 o1.2.1 ml o1.1 cm bf) (fun o9 : R16 => some o9)) l [] n tf 62 rfl h0 (by omega)
  have hl : LR 60 l.length n1 tf1 tf1 := ⟨c1.lr.1, c1.lr.2.1, h6, c1.lr.2.2.2⟩
  obtain ⟨ret, u8', u9', f', a, c, g', w1', w2', w3', ml', cm', bf', e, hO⟩ := exe_t hN hG hT hV hl u8 u9 w3 ml cm bf (g := g)
  refine ⟨ret, u8', u9', f', a, c, g', w1', w2', w3', ml', tf1, n1, cm', bf', ?_, hO, c1.1, c1.2.2.2.1⟩
  unfold SL_execute
  refine Eq.trans k1 ?_
  show bnd (SL_executes N u8 u9 f v1 v2 g w3 n1 tf1 ml (nI l.length) cm bf) _ = _
  rw [e, bnd_v]
/-! one step of the law -/
noncomputable def UST (N : Nat) (u8 u9 : Int32) (f : Nat → Int32) (v1 v2 : Int32) (g : Nat → Int32) (w1 w2 w3 ml c0 : Int32) (tf : Nat → Int32) (n : Nat) (cm bf : Nat → Int32) (o4 : Int32) : Option (Int32 × Int32 × Int32 × (Nat → Int32) × Int32 × Int32 × (Nat → Int32) × Int32 × Int32 × Int32 × Int32 × Int32 × (Nat → Int32) × Nat × (Nat → Int32) × (Nat → Int32)) := if (irm (ush o4 1) 11) = 0 then (bnd (SL_moon N f v1 v2 g (irm (ush (ush o4 1) 4) 3) (irm (ush (ush o4 1) 4) 8) (irm (ush (ush (ush o4 1) 4) 3) 13) (irm (ush (ush (ush o4 1) 4) 7) 14)) (fun o11 : Int32 × (Nat → Int32) × Int32 × Int32 × (Nat → Int32) => some ((o11.1, u8, u9, o11.2.1, o11.2.2.1, o11.2.2.2.1, o11.2.2.2.2, w1, w2, w3, ml, c0, tf, n, cm, bf)))) else (if (irm (ush o4 1) 11) = 1 then (bnd (SL_removeMoon N f v1 v2 g (irm (ush (ush o4 1) 4) 6)) (fun o14 : Int32 × (Nat → Int32) × Int32 × Int32 × (Nat → Int32) => some ((o14.1, u8, u9, o14.2.1, o14.2.2.1, o14.2.2.2.1, o14.2.2.2.2, w1, w2, w3, ml, c0, tf, n, cm, bf)))) else (if (irm (ush o4 1) 11) = 2 then (bnd (SL_placeToe N f v1 v2 g (irm (ush (ush o4 1) 4) 13)) (fun o17 : Int32 × (Nat → Int32) × Int32 × Int32 × (Nat → Int32) => some ((o17.1, u8, u9, o17.2.1, o17.2.2.1, o17.2.2.2.1, o17.2.2.2.2, w1, w2, w3, ml, c0, tf, n, cm, bf)))) else (if (irm (ush o4 1) 11) = 3 then (bnd (SL_removeToe N f v1 v2 g (irm (ush (ush o4 1) 4) 13)) (fun o20 : Int32 × (Nat → Int32) × Int32 × Int32 × (Nat → Int32) => some ((o20.1, u8, u9, o20.2.1, o20.2.2.1, o20.2.2.2.1, o20.2.2.2.2, w1, w2, w3, ml, c0, tf, n, cm, bf)))) else (if (irm (ush o4 1) 11) = 4 then (bnd (SL_insertPlug N f v1 v2 g (irm (ush (ush o4 1) 4) 13)) (fun o23 : Int32 × (Nat → Int32) × Int32 × Int32 × (Nat → Int32) => some ((o23.1, u8, u9, o23.2.1, o23.2.2.1, o23.2.2.2.1, o23.2.2.2.2, w1, w2, w3, ml, c0, tf, n, cm, bf)))) else (if (irm (ush o4 1) 11) = 5 then (bnd (SL_pullPlug N f v1 v2 g) (fun o26 : Int32 × (Nat → Int32) × Int32 × Int32 × (Nat → Int32) => some ((o26.1, u8, u9, o26.2.1, o26.2.2.1, o26.2.2.2.1, o26.2.2.2.2, w1, w2, w3, ml, c0, tf, n, cm, bf)))) else (if (irm (ush o4 1) 11) = 6 then (bnd (SL_layTowel N f v1 v2 g (irm (ush (ush o4 1) 4) 13) (irm (ush (ush (ush o4 1) 4) 4) 62)) (fun o29 : Int32 × (Nat → Int32) × Int32 × Int32 × (Nat → Int32) => some ((o29.1, u8, u9, o29.2.1, o29.2.2.1, o29.2.2.2.1, o29.2.2.2.2, w1, w2, w3, ml, c0, tf, n, cm, bf)))) else (if (irm (ush o4 1) 11) = 7 then (bnd (if (irm (ush (ush o4 1) 4) 2) = 0 then (bnd (SL_removeTowel N f v1 v2 g (irm (ush (ush (ush o4 1) 4) 1) 5)) (fun o36 : Int32 × (Nat → Int32) × Int32 × Int32 × (Nat → Int32) => some ((o36.1, o36.2.1, o36.2.2.1, o36.2.2.2.1, o36.2.2.2.2)))) else (bnd (SL_wringTowel N f v1 v2 g (irm (ush (ush (ush o4 1) 4) 1) 5)) (fun o34 : Int32 × (Nat → Int32) × Int32 × Int32 × (Nat → Int32) => some ((o34.1, o34.2.1, o34.2.2.1, o34.2.2.2.1, o34.2.2.2.2))))) (fun o33 : Int32 × (Nat → Int32) × Int32 × Int32 × (Nat → Int32) => some ((o33.1, u8, u9, o33.2.1, o33.2.2.1, o33.2.2.2.1, o33.2.2.2.2, w1, w2, w3, ml, c0, tf, n, cm, bf)))) else (if (irm (ush o4 1) 11) = 8 then (bnd (SL_setFlow N f v1 v2 g ((irm (ush (ush o4 1) 4) 9) - 4)) (fun o39 : Int32 × (Nat → Int32) × Int32 × Int32 × (Nat → Int32) => some ((o39.1 + 3, u8, u9, o39.2.1, o39.2.2.1, o39.2.2.2.1, o39.2.2.2.2, w1, w2, w3, ml, c0, tf, n, cm, bf)))) else (if (irm (ush o4 1) 11) = 9 then (bnd (SL_advance N f v1 v2 g (irm (ush (ush o4 1) 4) 62)) (fun o42 : Int32 × (Nat → Int32) × Int32 × Int32 × (Nat → Int32) => some ((o42.1, u8, u9, o42.2.1, o42.2.2.1, o42.2.2.2.1, o42.2.2.2.2, w1, w2, w3, ml, c0, tf, n, cm, bf)))) else (bnd (SJ4_init_da8c8) (fun o45 : (Nat → Int32) × Nat => bnd (SJ4_append_15ec4 21 o45.2 o45.1 0) (fun o47 : Int32 × (Nat → Int32) × Nat => lt_ (if (irm (ush (ush o4 1) 4) 2) = 0 then (14) else (13)) (fun o50 : Nat => gd (o50 < 24) (bnd (SJ4_append_15ec4 o50 o47.2.2 o47.2.1 o47.1) (fun o52 : Int32 × (Nat → Int32) × Nat => bnd (SJ4_append_bf812 N o52.2.2 o52.2.1 o52.1 (irm (ush (ush (ush o4 1) 4) 1) 5)) (fun o54 : Int32 × (Nat → Int32) × Nat => bnd (SJ4_append_15ec4 22 o54.2.2 o54.2.1 o54.1) (fun o56 : Int32 × (Nat → Int32) × Nat => bnd (SJ4_append_bf812 N o56.2.2 o56.2.1 o56.1 (1 + (irm (ush (ush o4 1) 4) 30))) (fun o58 : Int32 × (Nat → Int32) × Nat => bnd (SJ4_append_15ec4 23 o58.2.2 o58.2.1 o58.1) (fun o60 : Int32 × (Nat → Int32) × Nat => bnd (SJ4_append_bf812 N o60.2.2 o60.2.1 o60.1 (irm (ush (ush (ush o4 1) 4) 3) 12)) (fun o62 : Int32 × (Nat → Int32) × Nat => gd (o62.2.2 < 2147483648) (bnd (SJ4_toString_0e30d o62.2.2 o62.2.1 o62.1) (fun o65 : (Nat → Int32) × Nat => bnd (SL_execute N u8 u9 f v1 v2 g w3 n tf ml c0 cm bf o65.2 o65.1) (fun o67 : Int32 × Int32 × Int32 × (Nat → Int32) × Int32 × Int32 × (Nat → Int32) × Int32 × Int32 × Int32 × Int32 × Int32 × (Nat → Int32) × Nat × (Nat → Int32) × (Nat → Int32) => some ((o67.1, o67.2.1, o67.2.2.1, o67.2.2.2.1, o67.2.2.2.2.1, o67.2.2.2.2.2.1, o67.2.2.2.2.2.2.1, o67.2.2.2.2.2.2.2.1, o67.2.2.2.2.2.2.2.2.1, o67.2.2.2.2.2.2.2.2.2.1, o67.2.2.2.2.2.2.2.2.2.2.1, o67.2.2.2.2.2.2.2.2.2.2.2.1, o67.2.2.2.2.2.2.2.2.2.2.2.2.1, o67.2.2.2.2.2.2.2.2.2.2.2.2.2.1, o67.2.2.2.2.2.2.2.2.2.2.2.2.2.2.1, o67.2.2.2.2.2.2.2.2.2.2.2.2.2.2.2)))))))))))))))))))))))))
def RO (N : Nat) (T : Int) (f : Nat → Int32) (v1 v2 : Int32) (g : Nat → Int32) (X : Option R16) : Prop := ∃ (ret u8' u9' : Int32) (f' : Nat → Int32) (a c : Int32) (g' : Nat → Int32) (w1' w2' w3' ml' : Int32) (tf' : Nat → Int32) (n' : Nat) (cm' bf' : Nat → Int32), X = some (ret, u8', u9', f', a, c, g', w1', w2', w3', ml', 0, tf', n', cm', bf') ∧ OUT N T f v1 v2 g (ret, f', a, c, g') ∧ CapN n' ∧ BY n' tf'
theorem ro_5 {x : Option R5} {T' : Int} (h : ∃ r, x = some r ∧ OUT N T' f v1 v2 g r) (hT : T' ≤ T) {n : Nat} {tf : Nat → Int32} (hC : CapN n) (hB : BY n tf) {u8 u9 w1 w2 w3 ml : Int32} {cm bf : Nat → Int32} : RO N T f v1 v2 g (bnd x (fun o : R5 => some (o.1, u8, u9, o.2.1, o.2.2.1, o.2.2.2.1, o.2.2.2.2, w1, w2, w3, ml, 0, tf, n, cm, bf))) := by
  obtain ⟨r, hr, hO⟩ := h
  exact ⟨r.1, u8, u9, r.2.1, r.2.2.1, r.2.2.2.1, r.2.2.2.2, w1, w2, w3, ml, tf, n, cm, bf, by rw [hr, bnd_v], hO.mono hT, hC, hB⟩
theorem ush_p (x y : Int32) (u : UInt32) (e : (y.toUInt32 &&& Int32.toUInt32 31) = u) (h1 : 1 ≤ u.toNat) (h2 : u.toNat < 32) : ∃ m, m < 2147483648 ∧ ush x y = nI m := by
  refine ⟨(x.toUInt32 >>> u).toNat, ?_, ?_⟩
  · have h := x.toUInt32.toNat_lt
    rw [UInt32.toNat_shiftRight, Nat.mod_eq_of_lt h2, Nat.shiftRight_eq_div_pow]
    have h3 : 2 ^ 1 ≤ 2 ^ u.toNat := Nat.pow_le_pow_right (by omega) h1
    have h4 : x.toUInt32.toNat / 2 ^ u.toNat ≤ x.toUInt32.toNat / 2 ^ 1 := Nat.div_le_div_left h3 (by omega)
    omega
  · unfold ush
    rw [e]
    exact congrArg UInt32.toInt32 (UInt32.ofNat_toNat).symm
theorem ush_1 (x : Int32) : ∃ m, m < 2147483648 ∧ ush x 1 = nI m := ush_p x 1 1 (by decide) (by decide) (by decide)
theorem ush_3 (x : Int32) : ∃ m, m < 2147483648 ∧ ush x 3 = nI m := ush_p x 3 3 (by decide) (by decide) (by decide)
theorem ush_4 (x : Int32) : ∃ m, m < 2147483648 ∧ ush x 4 = nI m := ush_p x 4 4 (by decide) (by decide) (by decide)
theorem kw13 : KW [45] 13 := ⟨rfl, by decide, by decide⟩
theorem kw21 : KW [102, 108, 111, 119, 32] 21 := ⟨rfl, by decide, by decide⟩
theorem kw22 : KW [59, 119, 97, 105, 116, 32] 22 := ⟨rfl, by decide, by decide⟩
theorem kw23 : KW [59, 116, 111, 101, 32] 23 := ⟨rfl, by decide, by decide⟩
theorem pr21 : PR [102, 108, 111, 119, 32] := fun x hx => by simp at hx; omega
theorem pr22 : PR [59, 119, 97, 105, 116, 32] := fun x hx => by simp at hx; omega
theorem pr23 : PR [59, 116, 111, 101, 32] := fun x hx => by simp at hx; omega
theorem ust_x (hN : 2100 ≤ N) (hG : Good T f) (hT : T ≤ 800000) (hV : VR v1 v2) {n : Nat} {tf : Nat → Int32} (hC : CapN n) (hB : BY n tf) (u8 u9 w1 w2 w3 ml : Int32) (cm bf : Nat → Int32) (o4 : Int32) (c0 : ¬ irm (ush o4 1) 11 = 0) (c1 : ¬ irm (ush o4 1) 11 = 1) (c2 : ¬ irm (ush o4 1) 11 = 2) (c3 : ¬ irm (ush o4 1) 11 = 3) (c4 : ¬ irm (ush o4 1) 11 = 4) (c5 : ¬ irm (ush o4 1) 11 = 5) (c6 : ¬ irm (ush o4 1) 11 = 6) (c7 : ¬ irm (ush o4 1) 11 = 7) (c8 : ¬ irm (ush o4 1) 11 = 8) (c9 : ¬ irm (ush o4 1) 11 = 9) : RO N (T + 1000) f v1 v2 g (UST N u8 u9 f v1 v2 g w1 w2 w3 ml 0 tf n cm bf o4) := by
  unfold UST
  rw [if_neg c0, if_neg c1, if_neg c2, if_neg c3, if_neg c4, if_neg c5, if_neg c6, if_neg c7, if_neg c8, if_neg c9]
  obtain ⟨me, hme, ee⟩ := ush_4 (ush o4 1)
  obtain ⟨m1, hm1, e1⟩ := ush_1 (nI me)
  obtain ⟨m3, hm3, e3⟩ := ush_3 (nI me)
  have z1 : irm (nI m1) 5 = nI (m1 % 5) := nI_irm (b := 5) hm1 (by omega) (by omega)
  have z2 : 1 + irm (nI me) 30 = nI (1 + me % 30) := by
    rw [show irm (nI me) 30 = nI (me % 30) from nI_irm (b := 30) hme (by omega) (by omega)]
    exact nI_add 1 _
  have z3 : irm (nI m3) 12 = nI (m3 % 12) := irm12 hm3
  rw [ee, e1, e3, z1, z2, z3]
  obtain ⟨S, k, hS, hk, hSk, hSl, hSp⟩ : ∃ (S : List Nat) (k : Nat), (if irm (nI me) 2 = 0 then 14 else 13) = k ∧ k < 24 ∧ KW S k ∧ S.length ≤ 1 ∧ PR S := by
    by_cases c : irm (nI me) 2 = 0
    · exact ⟨[], 14, if_pos c, by omega, kw14, by decide, PR.nil⟩
    · exact ⟨[45], 13, if_neg c, by omega, kw13, by decide, PR.one (by omega)⟩
  have d1 := nd_le (m1 % 5)
  have d2 := nd_le (1 + me % 30)
  have d3 := nd_le (m3 % 12)
  obtain ⟨n1, g1, a1, b1⟩ := sb_s sb_0 kw21 (by decide)
  rw [List.nil_append] at a1 b1
  have a1' : SJ4_append_15ec4 21 16 (fun _ => 0) 0 = _ := a1
  obtain ⟨n2, g2, a2, b2⟩ := sb_s b1 hSk (by simp only [List.length_cons, List.length_nil]; omega)
  obtain ⟨n3, g3, a3, b3⟩ := sb_n (N := N) b2 (v := m1 % 5) (by omega) (by simp only [List.length_append, List.length_cons, List.length_nil]; omega) (by omega)
  obtain ⟨n4, g4, a4, b4⟩ := sb_s b3 kw22 (by simp only [List.length_append, dg_len, List.length_cons, List.length_nil]; omega)
  obtain ⟨n5, g5, a5, b5⟩ := sb_n (N := N) b4 (v := 1 + me % 30) (by omega) (by simp only [List.length_append, dg_len, List.length_cons, List.length_nil]; omega) (by omega)
  obtain ⟨n6, g6, a6, b6⟩ := sb_s b5 kw23 (by simp only [List.length_append, dg_len, List.length_cons, List.length_nil]; omega)
  obtain ⟨n7, g7, a7, b7⟩ := sb_n (N := N) b6 (v := m3 % 12) (by omega) (by simp only [List.length_append, dg_len, List.length_cons, List.length_nil]; omega) (by omega)
  obtain ⟨w, a8, b8⟩ := sb_t b7 (by simp only [List.length_append, dg_len, List.length_cons, List.length_nil]; omega)
  have hPR := (((((pr21.app hSp).app (dg_pr (v := m1 % 5) (by omega))).app pr22).app (dg_pr (v := 1 + me % 30) (by omega))).app pr23).app (dg_pr (v := m3 % 12) (by omega))
  obtain ⟨ret, u8', u9', f', a, c, g', w1', w2', w3', ml', tf', n', cm', bf', eX, hO, hC', hB'⟩ := exec_c hN hG hT hV (g := g) (by simp only [List.length_append, dg_len, List.length_cons, List.length_nil]; omega) hPR b8 hC hB u8 u9 w3 ml cm bf
  have hn7 := b7.2.1
  refine ⟨ret, u8', u9', f', a, c, g', w1', w2', w3', ml', tf', n', cm', bf', ?_, hO, hC', hB'⟩
  rw [init_J, bnd_v, a1', bnd_v, hS, lt_v, gd_p hk, a2, bnd_v, a3, bnd_v, a4, bnd_v, a5, bnd_v, a6, bnd_v, a7, bnd_v, gd_p (by show n7 < 2147483648; omega), a8, bnd_v, eX, bnd_v]
theorem ust_c (hN : 2100 ≤ N) (hG : Good T f) (hT : T ≤ 800000) (hV : VR v1 v2) {n : Nat} {tf : Nat → Int32} (hC : CapN n) (hB : BY n tf) (u8 u9 w1 w2 w3 ml : Int32) (cm bf : Nat → Int32) (o4 : Int32) : RO N (T + 1000) f v1 v2 g (UST N u8 u9 f v1 v2 g w1 w2 w3 ml 0 tf n cm bf o4) := by
  by_cases c0 : irm (ush o4 1) 11 = 0
  · unfold UST
    rw [if_pos c0]
    obtain ⟨r, h1, h2, -⟩ := w_moon hN hG hV (g := g) (irm (ush (ush o4 1) 4) 3) (irm (ush (ush o4 1) 4) 8) (irm (ush (ush (ush o4 1) 4) 3) 13) (irm (ush (ush (ush o4 1) 4) 7) 14)
    exact ro_5 ⟨r, h1, h2⟩ (by omega) hC hB
  by_cases c1 : irm (ush o4 1) 11 = 1
  · unfold UST
    rw [if_neg c0, if_pos c1]
    exact ro_5 (w_drop hN hG hV _) (by omega) hC hB
  by_cases c2 : irm (ush o4 1) 11 = 2
  · unfold UST
    rw [if_neg c0, if_neg c1, if_pos c2]
    obtain ⟨r, h1, h2, -⟩ := w_toe hN hG hV (g := g) (irm (ush (ush o4 1) 4) 13)
    exact ro_5 ⟨r, h1, h2⟩ (by omega) hC hB
  by_cases c3 : irm (ush o4 1) 11 = 3
  · unfold UST
    rw [if_neg c0, if_neg c1, if_neg c2, if_pos c3]
    exact ro_5 (w_untoe hN hG hV _) (by omega) hC hB
  by_cases c4 : irm (ush o4 1) 11 = 4
  · unfold UST
    rw [if_neg c0, if_neg c1, if_neg c2, if_neg c3, if_pos c4]
    obtain ⟨r, h1, h2, -⟩ := w_plug hN hG hV (g := g) (irm (ush (ush o4 1) 4) 13)
    exact ro_5 ⟨r, h1, h2⟩ (by omega) hC hB
  by_cases c5 : irm (ush o4 1) 11 = 5
  · unfold UST
    rw [if_neg c0, if_neg c1, if_neg c2, if_neg c3, if_neg c4, if_pos c5]
    exact ro_5 (w_pull hN hG hV) (by omega) hC hB
  by_cases c6 : irm (ush o4 1) 11 = 6
  · unfold UST
    rw [if_neg c0, if_neg c1, if_neg c2, if_neg c3, if_neg c4, if_neg c5, if_pos c6]
    obtain ⟨r, h1, h2, -⟩ := w_tow hN hG hV (g := g) (irm (ush (ush o4 1) 4) 13) (irm (ush (ush (ush o4 1) 4) 4) 62)
    exact ro_5 ⟨r, h1, h2⟩ (by omega) hC hB
  by_cases c7 : irm (ush o4 1) 11 = 7
  · unfold UST
    rw [if_neg c0, if_neg c1, if_neg c2, if_neg c3, if_neg c4, if_neg c5, if_neg c6, if_pos c7]
    refine ro_5 (T' := T) ?_ (by omega) hC hB
    by_cases d : (irm (ush (ush o4 1) 4) 2) = 0
    · obtain ⟨r, h1, h2⟩ := w_dropT hN hG hV (g := g) (irm (ush (ush (ush o4 1) 4) 1) 5)
      exact ⟨r, by rw [if_pos d, h1, bnd_v], h2⟩
    · obtain ⟨r, h1, h2⟩ := w_wring hN hG hV (g := g) (irm (ush (ush (ush o4 1) 4) 1) 5)
      exact ⟨r, by rw [if_neg d, h1, bnd_v], h2⟩
  by_cases c8 : irm (ush o4 1) 11 = 8
  · unfold UST
    rw [if_neg c0, if_neg c1, if_neg c2, if_neg c3, if_neg c4, if_neg c5, if_neg c6, if_neg c7, if_pos c8]
    obtain ⟨r, h1, h2, -⟩ := w_flow hN hG hV (g := g) ((irm (ush (ush o4 1) 4) 9) - 4)
    exact ⟨r.1 + 3, u8, u9, r.2.1, r.2.2.1, r.2.2.2.1, r.2.2.2.2, w1, w2, w3, ml, tf, n, cm, bf, by rw [h1, bnd_v], h2.mono (by omega), hC, hB⟩
  by_cases c9 : irm (ush o4 1) 11 = 9
  · unfold UST
    rw [if_neg c0, if_neg c1, if_neg c2, if_neg c3, if_neg c4, if_neg c5, if_neg c6, if_neg c7, if_neg c8, if_pos c9]
    obtain ⟨r, h1, h2, -⟩ := w_adv hN hG (by omega) hV (g := g) (irm (ush (ush o4 1) 4) 62)
    exact ro_5 ⟨r, h1, h2⟩ (by omega) hC hB
  exact ust_x hN hG hT hV hC hB u8 u9 w1 w2 w3 ml cm bf o4 c0 c1 c2 c3 c4 c5 c6 c7 c8 c9
theorem cell_t {L : Nat} (hL : L < 2147483648) (xs : Nat → Int32) {j : Nat} (hj : j < 2147483648) : ∃ c, SL_cell L xs (nI j) = some c := by
  unfold SL_cell
  by_cases c : L ≤ j
  · exact ⟨_, if_pos (nI_le c hj)⟩
  · exact ⟨xs j, by rw [if_neg (nI_ge (by omega) (by omega)), gd_p (vp_in_nI (by omega) (by omega)), nI_clamp hj]⟩
theorem updL_s (wo : Nat → Int64) (k : Nat) (x : Int64) : vp_updL wo k x k = x := if_pos rfl
theorem updL_n (wo : Nat → Int64) {k j : Nat} (x : Int64) (h : j ≠ k) : vp_updL wo k x j = wo j := if_neg h
abbrev R17 : Type := Int32 × Int32 × Int32 × (Nat → Int32) × Int32 × Int32 × (Nat → Int32) × Int32 × Int32 × Int32 × Int32 × Int32 × (Nat → Int32) × Nat × (Nat → Int32) × (Nat → Int32) × (Nat → Int64)
abbrev R15 : Type := Int32 × Int32 × (Nat → Int32) × Int32 × Int32 × (Nat → Int32) × Int32 × Int32 × Int32 × Int32 × Int32 × (Nat → Int32) × Nat × (Nat → Int32) × (Nat → Int32)
theorem undo_l (hN : 2100 ≤ N) {o2 : R17} {wo : Nat → Int64} {S : Nat → Nat → Int32} (hg : o2.2.2.2.2.2.2.1 = g) (hw : o2.2.2.2.2.2.2.2.2.2.2.2.2.2.2.2.2 = wo) {K : ((Nat → Int32) × Int32 × Int32) → Option R15} : ∀ (n fu : Nat) (f : Nat → Int32) (v1 v2 : Int32), n ≤ 8 → n + 1 ≤ fu → HB v1 v2 g n S → (∀ j, j < n → SL_sum (S j) = some (wo j)) → ∃ r, LL_undone_414 K N o2 fu (iI ((n : Int) - 1)) f v1 v2 = K r := by
  intro n
  induction n with
  | zero =>
    intro fu f v1 v2 hn hf h hs
    obtain ⟨fu, rfl⟩ : ∃ k, fu = k + 1 := ⟨fu - 1, by omega⟩
    exact ⟨(f, v1, v2), by rw [LL_undone_414, if_pos (show iI (((0 : Nat) : Int) - 1) < 0 by decide)]⟩
  | succ n ih =>
    intro fu f v1 v2 hn hf h hs
    obtain ⟨fu, rfl⟩ : ∃ k, fu = k + 1 := ⟨fu - 1, by omega⟩
    have e1 : iI (((n + 1 : Nat) : Int) - 1) = nI n := by
      rw [iI_n]
      congr 1
      omega
    have e2 : nI n + (-1) = iI ((n : Int) - 1) := by
      rw [iI_n, show (-1 : Int32) = iI (-1) from rfl, iI_add]
      congr 1
    obtain ⟨r, f', a, c, h1, h2, h3, h4⟩ := h.pop (f := f) hN
    obtain ⟨R, hR⟩ := ih fu f' a c (by omega) (by omega) h4 (fun j hj => hs j (by omega))
    refine ⟨R, ?_⟩
    rw [LL_undone_414, e1, if_neg (nI_pos (by omega)), hg, h1, bnd_v, if_neg h2, sum_cg h3, hs n (by omega), bnd_v, gd_p (vp_in_nI (by omega) (by omega)), hw, nI_clamp (by omega), lg_self, if_pos rfl, e2]
    exact hR
theorem undone_l (hN : 2100 ≤ N) {L : Nat} (hL : L < 2147483648) (xs : Nat → Int32) {K : R17 → Option R15} : ∀ (d i k fu : Nat) (T : Int) (f : Nat → Int32) (v1 v2 : Int32) (g : Nat → Int32) (u8 u9 w1 w2 w3 ml : Int32) (tf : Nat → Int32) (n : Nat) (cm bf : Nat → Int32) (S : Nat → Nat → Int32) (wo : Nat → Int64), i + d = 7 → d + 1 ≤ fu → k ≤ i → T + 1000 * (d : Int) ≤ 800000 → Good T f → HB v1 v2 g k S → (∀ j, j < k → SL_sum (S j) = some (wo j)) → CapN n → BY n tf → ∃ (k' : Nat) (u8' u9' : Int32) (f' : Nat → Int32) (a c : Int32) (g' : Nat → Int32) (w1' w2' w3' ml' : Int32) (tf' : Nat → Int32) (n' : Nat) (cm' bf' : Nat → Int32) (S' : Nat → Nat → Int32) (wo' : Nat → Int64), k' ≤ 7 ∧ HB a c g' k' S' ∧ (∀ j, j < k' → SL_sum (S' j) = some (wo' j)) ∧ LL_undone_10 K N L xs fu (nI k) (nI i) u8 u9 f v1 v2 g w1 w2 w3 ml 0 tf n cm bf wo = K (nI k', u8', u9', f', a, c, g', w1', w2', w3', ml', 0, tf', n', cm', bf', wo') := by
  intro d
  induction d with
  | zero =>
    intro i k fu T f v1 v2 g u8 u9 w1 w2 w3 ml tf n cm bf S wo hi hf hk hT hG hH hs hC hB
    obtain ⟨fu, rfl⟩ : ∃ k, fu = k + 1 := ⟨fu - 1, by omega⟩
    refine ⟨k, u8, u9, f, v1, v2, g, w1, w2, w3, ml, tf, n, cm, bf, S, wo, by omega, hH, hs, ?_⟩
    rw [LL_undone_10, if_pos (show (7 : Int32) ≤ nI i from nI_le (a := 7) (by omega) (by omega))]
  | succ d ih =>
    intro i k fu T f v1 v2 g u8 u9 w1 w2 w3 ml tf n cm bf S wo hi hf hk hT hG hH hs hC hB
    obtain ⟨fu, rfl⟩ : ∃ k, fu = k + 1 := ⟨fu - 1, by omega⟩
    obtain ⟨o4, h4⟩ := cell_t hL xs (j := 9 + i) (by omega)
    obtain ⟨s0, hs0⟩ := sum_t hG (by omega)
    have e9 : (9 : Int32) + nI i = nI (9 + i) := nI_add 9 i
    obtain ⟨ret, u8', u9', f', a, c, g', w1', w2', w3', ml', tf', n', cm', bf', hU, hO, hC', hB'⟩ := ust_c hN hG (by omega) hH.V hC hB u8 u9 w1 w2 w3 ml cm bf o4 (g := g)
    have step : LL_undone_10 K N L xs (fu + 1) (nI k) (nI i) u8 u9 f v1 v2 g w1 w2 w3 ml 0 tf n cm bf wo = bnd (if 0 ≤ ret then (some (())) else (bnd (SL_sum f') (fun o71 : Int64 => if (lg_cmp o71 ((vp_updL wo k s0) k)) = 0 then (some (())) else (none)))) (fun o70 : Unit => lt_ (if 0 ≤ ret then (1) else (0)) (fun o75 : Int32 => LL_undone_10 K N L xs fu (nI k + o75) (nI i + 1) u8' u9' f' a c g' w1' w2' w3' ml' 0 tf' n' cm' bf' (vp_updL wo k s0))) := by
      rw [LL_undone_10, if_neg (show ¬ (7 : Int32) ≤ nI i from nI_ge (b := 7) (by omega) (by omega)), e9, h4, bnd_v, hs0, bnd_v, gd_p (vp_in_nI (by omega) (by omega)), nI_clamp (by omega)]
      show bnd (UST N u8 u9 f v1 v2 g w1 w2 w3 ml 0 tf n cm bf o4) _ = _
      rw [hU, bnd_v]
    rw [step]
    rcases hO with ⟨o1, o2, o3, o5, o6⟩ | ⟨o1, o2, B, o3, o5⟩
    · replace o1 : ret < 0 := o1
      replace o2 : ∀ i, i < 61 → f' i = f i := o2
      replace o3 : a = v1 := o3
      replace o5 : c = v2 := o5
      replace o6 : g' = g := o6
      subst o3 o5 o6
      have hn : ¬ (0 : Int32) ≤ ret := Int32.not_le.mpr o1
      obtain ⟨k2, x1, x2, x3, x4, x5, x6, x7, x8, x9, x10, x11, x12, x13, x14, S2, wo2, y1, y2, y3, y4⟩ := ih (i + 1) k fu (T + 1000) f' a c g' u8' u9' w1' w2' w3' ml' tf' n' cm' bf' S (vp_updL wo k s0) (by omega) (by omega) (by omega) (by omega) ((hG.mono (by omega)).congr o2) hH (fun j hj => by rw [updL_n _ _ (by omega)]; exact hs j hj) hC' hB'
      refine ⟨k2, x1, x2, x3, x4, x5, x6, x7, x8, x9, x10, x11, x12, x13, x14, S2, wo2, y1, y2, y3, ?_⟩
      rw [if_neg hn, sum_cg o2, hs0, bnd_v, updL_s, lg_self, if_pos rfl, bnd_v, if_neg hn, lt_v, show nI k + 0 = nI k from nI_add k 0, nI_1]
      exact y4
    · replace o1 : ¬ ret < 0 := o1
      replace o2 : Good (T + 1000) f' := o2
      replace o5 : SX1_keep N v1 v2 g B = some (g', a, c) := o5
      have hn : (0 : Int32) ≤ ret := Int32.not_lt.mp o1
      obtain ⟨k2, x1, x2, x3, x4, x5, x6, x7, x8, x9, x10, x11, x12, x13, x14, S2, wo2, y1, y2, y3, y4⟩ := ih (i + 1) (k + 1) fu (T + 1000) f' a c g' u8' u9' w1' w2' w3' ml' tf' n' cm' bf' (fun j => if j = k then B else S j) (vp_updL wo k s0) (by omega) (by omega) (by omega) (by omega) o2 (hH.push (by omega) hN o5) (fun j hj => by
        by_cases cj : j = k
        · subst cj
          show SL_sum (if j = j then B else S j) = _
          rw [if_pos rfl, updL_s, sum_cg o3]
          exact hs0
        · show SL_sum (if j = k then B else S j) = _
          rw [if_neg cj, updL_n _ _ cj]
          exact hs j (by omega)) hC' hB'
      refine ⟨k2, x1, x2, x3, x4, x5, x6, x7, x8, x9, x10, x11, x12, x13, x14, S2, wo2, y1, y2, y3, ?_⟩
      rw [if_pos hn, bnd_v, if_pos hn, lt_v, nI_1, nI_1]
      exact y4
theorem undone_c (hN : 2100 ≤ N) {L : Nat} (hL : L < 2147483648) (xs : Nat → Int32) (hG : Good T f) (hT : T ≤ 700000) (hV : VR v1 v2) (u8 u9 w1 w2 w3 ml : Int32) {n : Nat} {tf : Nat → Int32} (hC : CapN n) (hB : BY n tf) (cm bf : Nat → Int32) : ∃ r, SL_undone N u8 u9 f v1 v2 g w1 w2 w3 n tf ml 0 cm bf L xs = some r := by
  unfold SL_undone
  obtain ⟨k2, x1, x2, x3, x4, x5, x6, x7, x8, x9, x10, x11, x12, x13, x14, S2, wo2, y1, y2, y3, y4⟩ := undone_l hN hL xs 7 0 0 8 T f v1 v2 g u8 u9 w1 w2 w3 ml tf n cm bf (fun _ => f) (fun _ => 0) (by omega) (by omega) (by omega) (by omega) hG (HB.nil hV) (fun j hj => absurd hj (by omega)) hC hB (K := fun o2 : R17 => LL_undone_414 (fun o76 : (Nat → Int32) × Int32 × Int32 => some ((o2.2.1, o2.2.2.1, o76.1, o76.2.1, o76.2.2, o2.2.2.2.2.2.2.1, o2.2.2.2.2.2.2.2.1, o2.2.2.2.2.2.2.2.2.1, o2.2.2.2.2.2.2.2.2.2.1, o2.2.2.2.2.2.2.2.2.2.2.1, o2.2.2.2.2.2.2.2.2.2.2.2.1, o2.2.2.2.2.2.2.2.2.2.2.2.2.1, o2.2.2.2.2.2.2.2.2.2.2.2.2.2.1, o2.2.2.2.2.2.2.2.2.2.2.2.2.2.2.1, o2.2.2.2.2.2.2.2.2.2.2.2.2.2.2.2.1))) N o2 9 (o2.1 - 1) o2.2.2.2.1 o2.2.2.2.2.1 o2.2.2.2.2.2.1)
  have e1 : nI k2 - 1 = iI ((k2 : Int) - 1) := by
    rw [iI_n, show (1 : Int32) = iI 1 from rfl, iI_sub]
  obtain ⟨r, hr⟩ := undo_l hN (o2 := (nI k2, x1, x2, x3, x4, x5, x6, x7, x8, x9, x10, 0, x11, x12, x13, x14, wo2)) (g := x6) (wo := wo2) (S := S2) rfl rfl (K := fun o76 : (Nat → Int32) × Int32 × Int32 => some ((x1, x2, o76.1, o76.2.1, o76.2.2, x6, x7, x8, x9, x10, 0, x11, x12, x13, x14))) k2 9 x3 x4 x5 (by omega) (by omega) y2 y3
  rw [← e1] at hr
  exact ⟨_, Eq.trans y4 hr⟩
end LI2
