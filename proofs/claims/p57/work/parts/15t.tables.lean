/-! arrays that nobody writes, told as tables: the script, the moons' rows; and rows for them, for texts by a wide index, for writers on texts -/
abbrev tE : Type := FieldType × Nat × Nat × (Nat → Value)
def tX (ts : tE → Prop) (A : Nat → Prop) (U : State) (H : Heap) : Prop := ∀ t, ts t → va_T t.1 t.2.1 t.2.2.1 t.2.2.2 A U H
theorem tX.moved {ts : tE → Prop} {A : Nat → Prop} {u U : State} {H : Heap} (hvm : u.vm.Alike U.vm) (h : tX ts A u H) : tX ts A U H := fun t ht => va_T.moved hvm (h t ht)
def noT : tE → Prop := fun _ => False
def rowT (a : Nat) (v : Nat → Int32) : tE → Prop := fun t => t = (.int, a, 5, fun j => .int (v j))
def scrT (b L : Nat) (xs : Nat → Int32) : tE → Prop := fun t => t = (.int, b, L, fun j => .int (xs j))
def moonT (mo mn : Nat) (mr : Nat → Nat) (mv : Nat → Nat → Int32) : tE → Prop := fun t => t = (.array .int, mo, 5, fun j => if j < mn then .ref (mr j) else .null) ∨ ∃ k : Nat, k < mn ∧ t = (.int, mr k, 5, fun j => .int (mv k j))
theorem row_in {mo mn k : Nat} {mr : Nat → Nat} {mv : Nat → Nat → Int32} (h : k < mn) : ∀ t, rowT (mr k) (mv k) t → moonT mo mn mr mv t := fun _ e => Or.inr ⟨k, h, e⟩
theorem noT_in {ts : tE → Prop} : ∀ t, noT t → ts t := fun _ h => h.elim
theorem row_at {a : Nat} {v : Nat → Int32} {A : Nat → Prop} {U : State} {H : Heap} (h : tX (rowT a v) A U H) : va_T .int a 5 (fun j => .int (v j)) A U H := h _ rfl
theorem scr_at {b L : Nat} {xs : Nat → Int32} {A : Nat → Prop} {U : State} {H : Heap} (h : tX (scrT b L xs) A U H) : va_T .int b L (fun j => .int (xs j)) A U H := h _ rfl
theorem moon_arr {mo mn : Nat} {mr : Nat → Nat} {mv : Nat → Nat → Int32} {A : Nat → Prop} {U : State} {H : Heap} (h : tX (moonT mo mn mr mv) A U H) : va_T (.array .int) mo 5 (fun j => if j < mn then .ref (mr j) else .null) A U H := h _ (Or.inl rfl)
theorem moon_row {mo mn : Nat} {mr : Nat → Nat} {mv : Nat → Nat → Int32} {A : Nat → Prop} {U : State} {H : Heap} (h : tX (moonT mo mn mr mv) A U H) {k : Nat} (hk : k < mn) : va_T .int (mr k) 5 (fun j => .int (mv k j)) A U H := h _ (Or.inr ⟨k, hk, rfl⟩)
theorem moon_v {mn j : Nat} {mr : Nat → Nat} (h : j < mn) : (fun j : Nat => if j < mn then Value.ref (mr j) else .null) j = .ref (mr j) := if_pos h
/-- the class of the rows' array: its component is the class of rows -/
def aX (c : ClassId) (U : State) : Prop := ∃ (kA : Class) (comp : ClassId), U.vm.classes[c]? = some kA ∧ kA.kind = .array comp (.array .int) ∧ U.vm.findClass "[I" = some comp
theorem aX.moved {c : ClassId} {u U : State} (hvm : u.vm.Alike U.vm) (h : aX c u) : aX c U := by
  obtain ⟨kA, comp, h1, h2, h3⟩ := h
  obtain ⟨k', hk', he⟩ := hvm.2.2 _ _ h1
  exact ⟨k', comp, hk', by rw [he]; exact h2, by rw [hvm.findClass]; exact h3⟩
def ush (x y : Int32) : Int32 := (x.toUInt32 >>> (y.toUInt32 &&& Int32.toUInt32 31)).toInt32
def gqTB (G : eG) (ts : tE → Prop) (D : va_G) (cA : Nat → ClassId) (ws : va_W) (sz : Nat) (U : State) : Prop := gqLB G D cA ws sz U ∧ tX ts (va_A ws sz) U U.heap ∧ aX (cA 2) U ∧ nX U
theorem gqT_blind {As : List Value} {G : eG} {ts : tE → Prop} {D : va_G} {cA : Nat → ClassId} {ws : va_W} {sz : Nat} : FrameBlind (va_Pc As (gqTB G ts D cA ws sz)) := fun a U g mk q => ⟨q.1, (gqL_blind (As := As) a U g mk ⟨q.1, q.2.1⟩).2, tX.moved (U := U.calling g mk a) (Vm.Alike.refl U.vm) q.2.2.1, aX.moved (U := U.calling g mk a) (Vm.Alike.refl U.vm) q.2.2.2.1, q.2.2.2.2.calling⟩
theorem gqT_ofW {G : eG} {ts : tE → Prop} {l : Launch} {y : MethodName} {ws ws' : List Cond} {rm : Room} {As : List Value} {D : va_G} {cA : Nat → ClassId} {wc : va_W} {w1 : (Nat → Nat) → va_W} {sz mc ms : Nat} {v : (Nat → Nat) → Option Value} {cc : ByteArray} {maxL : Nat} {ret : Option FieldType} (hy : plainName y.cls = true) (hw : ws = Cond.code y cc maxL ret :: ws') (hsl : (lg_sl As).length ≤ maxL)
    (body : ∀ (p : Program) (e : Env) (s : State) (m : MethodId) (args : Array Value) (below : List Frame) (meth : Method) (c : Code) (ls : Array Slot) (Q : State → Prop) (A : Nat → Prop), p.tables.exec = Jvm.exec → c.code = cc → c.maxLocals = maxL → (∀ w ∈ ws, w.before args s = true) → s.vm.findClass y.cls = some m.cls → va_K D vwCl (atys cA) s → va_P D vwCl wc s.heap → va_D A wc → va_S A s.heap s.heap [] → (∀ q : Nat, s.heap.size ≤ q → A q) → eX G A s s.heap → lX s → tX ts A s s.heap → aX (cA 2) s → nX s → lv_has ls maxL (lv_args 0 As) →
      (∀ (as : Nat → Nat) (H : Heap) (locs : List Loc) (i : Instr) (v' : Option Value) (w' : va_W) (pc : Nat) (ls : Array Slot), v' = v as → w' = w1 as → rtn ret i v' → va_P D vwCl w' H → va_D A w' → va_S A s.heap H locs → decode cc pc = .ok (i, 1) → W p l e rm s m args below meth c H locs mc ms Q (F0 m pc ls v'.toList)) →
      W p l e rm s m args below meth c s.heap [] 0 0 Q (F0 m 0 ls [])) : Met l y ws rm (va_Pc As (gqTB G ts D cA wc sz)) (gqQ D v w1 (va_A wc sz)) mc ms (va_A wc sz) := by
  refine Met.ofW (cc := cc) (maxL := maxL) (ret := ret) hy hw ?_
  intro p e s m args below meth c s₁ B hml hv
  obtain ⟨rfl, ⟨⟨⟨hsz, hP, hK, hD0⟩, hEV⟩, hL9⟩, hTX, hAX, hN⟩ := hv
  subst hsz
  have hl := lv_entry As hsl
  rw [lg_entry_eq]
  refine body p e s m _ below meth c _ _ (va_A wc s.heap.size) B.exec B.bytes hml (atoms_spec (ws := ws) B.pre) (findClass_of_methodNamed B.named) hK hP hD0.self va_S.rf (fun q h => Or.inr h) hEV hL9 hTX hAX hN hl (fun as H locs i v' w' pc ls hv hw' hrt hP hD hS hdg => ?_)
  subst hv; subst hw'
  exact rtn_end B.exec B.bytes B.returns B.notSynchronized hrt (fun t ht _ => ⟨as, rfl, by rw [ht]; exact hP, hD, hS.F ht⟩) hS.2.2 hdg
section TLT
variable {p : Program} {l : Launch} {e : Env} {R : Room} {s : State} {m : MethodId} {args : Array Value} {below : List Frame} {meth : Method} {c : Code} {H : Heap} {locs : List Loc} {cells slots : Nat} {Q : State → Prop}
theorem tX.to {ts T0 : tE → Prop} {A0 : Nat → Prop} {ws wc : va_W} (h : tX T0 A0 s s.heap) (hD : va_D A0 ws) (hS : va_S A0 s.heap H locs) (hA : ∀ q : Nat, s.heap.size ≤ q → A0 q) (isC : List Nat) (hC : isC.map (fun i => ws[i]?) = wc.map some) (sub : ∀ t, ts t → T0 t) : tX ts (va_A wc H.size) s H := fun t ht => ((h t (sub t ht)).kept hS.2.1).narrow (va_free hD hS hA isC hC)
/-- a call of a method that asks tables too -/
theorem gqT_S {G : eG} {ts : tE → Prop} {y : MethodName} {bytes cc : ByteArray} {maxL nL n index mc ms : Nat} {ret : Option FieldType} {wsm : List Cond} {rm : Room} {Ts : List Cond} {own : String} {As rest st0 : List Value} {pc : Nat} {ls : Array Slot} {D : va_G} {cA : Nat → ClassId} {A0 : Nat → Prop} {ws wc wr : va_W} {w1 ws2 : (Nat → Nat) → va_W} {v : (Nat → Nat) → Option Value} {st1 : (Nat → Nat) → List Value}
    (S : CallFix p m c cc nL s args Ts own) (hK : va_K D vwCl (atys cA) s) (hP : va_P D vwCl ws H) (hD : va_D A0 ws) (hS : va_S A0 s.heap H locs) (hA : ∀ q : Nat, s.heap.size ≤ q → A0 q) (hEV : eX G A0 s s.heap) (hL9 : lX s) (hT : tX ts (va_A wc H.size) s H) (hAX : aX (cA 2) s) (hN : nX s)
    (hM : Met l y wsm rm (va_Pc As (gqTB G ts D cA wc H.size)) (gqQ D v w1 (va_A wc H.size)) mc ms (va_A wc H.size))
    (cw : CallB R s args own index y bytes maxL ret wsm rm mc ms n ∧ (Cond.static y).before args s = true) (isC isR pm : List Nat) (hC : isC.map (fun i => ws[i]?) = wc.map some) (hR : isR.map (fun i => ws[i]?) = wr.map some) (hnc : va_nd isC = true) (hn : va_nd isR = true) (hdis : ∀ i ∈ isR, i ∉ isC) (hpm : ∀ as, pm.map (fun i => (wr ++ w1 as)[i]?) = (ws2 as).map some) (hpn : va_nd pm = true)
    (hst0 : st0 = As.reverse ++ rest) (hst1 : ∀ as, (v as).toList ++ rest = st1 as) (hAn : As.length = n) (hl : ls.size = nL) (hW : (rest.map fun v => v.category).sum ≤ 8)
    (hdg : decode cc pc = .ok (.invokestatic index, 3)) (hf : cells + mc ≤ R.cells ∧ slots + ms ≤ R.slots)
    (kk : ∀ (as : Nat → Nat) (H1 : Heap) (locs1 : List Loc), va_P D vwCl (ws2 as) H1 → va_D A0 (ws2 as) → va_S A0 s.heap H1 locs1 → W p l e R s m args below meth c H1 locs1 (cells + mc) (slots + ms) Q (F0 m (pc + 3) ls (st1 as))) : W p l e R s m args below meth c H locs cells slots Q (F0 m pc ls st0) := by
  subst hst0
  exact gq_go hP hD hS hA isC isR pm hC hR hn hdis hpm hpn (va_runS S hM cw ⟨gqT_blind, fun U hU hW => ⟨rfl, ⟨⟨⟨by rw [hU], by rw [hU]; exact gq_sub hP isC hC, va_K.moved hW.alike hK, (hD.sub isC hnc hC).weaken (fun _ _ _ _ => trivial)⟩, by rw [hU]; exact hEV.to hW hS.2.1 (va_free hD hS hA isC hC)⟩, hL9.warm hW⟩, by rw [hU]; exact tX.moved hW.alike hT, aX.moved hW.alike hAX, hN.warm hW⟩⟩ rfl hAn hl rfl (lv_room hW) hdg hf) (fun as H1 locs1 h1 h2 h3 => by rw [hst1 as]; exact kk as H1 locs1 h1 h2 h3)
/-- a writing method of a text -/
theorem gqE_T {G : eG} {y : MethodName} {bytes cc : ByteArray} {maxL nL n index mc ms k : Nat} {ret : Option FieldType} {wsm : List Cond} {rm : Room} {Ts : List Cond} {own : String} {As rest st0 : List Value} {pc : Nat} {ls : Array Slot} {D : va_G} {cA : Nat → ClassId} {A0 : Nat → Prop} {ws wc wr : va_W} {w1 ws2 : (Nat → Nat) → va_W} {v : (Nat → Nat) → Option Value} {st1 : (Nat → Nat) → List Value}
    (S : CallFix p m c cc nL s args Ts own) (hK : va_K D vwCl (atys cA) s) (hP : va_P D vwCl ws H) (hD : va_D A0 ws) (hS : va_S A0 s.heap H locs) (hA : ∀ q : Nat, s.heap.size ≤ q → A0 q) (hEV : eX G A0 s s.heap)
    (hM : Met l y wsm rm (va_Pc (.ref (G.1 k) :: As) (gqEB G D cA wc H.size)) (gqQ D v w1 (va_A wc H.size)) mc ms (va_A wc H.size))
    (cw : CallW R s args own "java/lang/String" index y bytes maxL ret wsm rm mc ms n) (isC isR pm : List Nat) (hC : isC.map (fun i => ws[i]?) = wc.map some) (hR : isR.map (fun i => ws[i]?) = wr.map some) (hnc : va_nd isC = true) (hn : va_nd isR = true) (hdis : ∀ i ∈ isR, i ∉ isC) (hpm : ∀ as, pm.map (fun i => (wr ++ w1 as)[i]?) = (ws2 as).map some) (hpn : va_nd pm = true)
    (hk : k < 24)
    (hst0 : st0 = As.reverse ++ .ref (G.1 k) :: rest) (hst1 : ∀ as, (v as).toList ++ rest = st1 as) (hAn : As.length = n) (hl : ls.size = nL) (hW : (rest.map fun v => v.category).sum ≤ 8)
    (hdg : decode cc pc = .ok (.invokevirtual index, 3)) (hf : cells + mc ≤ R.cells ∧ slots + ms ≤ R.slots)
    (kk : ∀ (as : Nat → Nat) (H1 : Heap) (locs1 : List Loc), va_P D vwCl (ws2 as) H1 → va_D A0 (ws2 as) → va_S A0 s.heap H1 locs1 → W p l e R s m args below meth c H1 locs1 (cells + mc) (slots + ms) Q (F0 m (pc + 3) ls (st1 as))) : W p l e R s m args below meth c H locs cells slots Q (F0 m pc ls st0) := by
  subst hst0
  exact gq_go hP hD hS hA isC isR pm hC hR hn hdis hpm hpn (va_runV S hM cw ⟨gqE_blind, vk_recv hEV.2.2.2.2.2.2.2.1 hk hS, fun U hU hW => ⟨rfl, ⟨by rw [hU], by rw [hU]; exact gq_sub hP isC hC, va_K.moved hW.alike hK, (hD.sub isC hnc hC).weaken (fun _ _ _ _ => trivial)⟩, by rw [hU]; exact hEV.to hW hS.2.1 (va_free hD hS hA isC hC)⟩⟩ rfl hAn hl rfl (lv_room hW) hdg hf) (fun as H1 locs1 h1 h2 h3 => by rw [hst1 as]; exact kk as H1 locs1 h1 h2 h3)
theorem va_ldcSW {cc : ByteArray} {pc : Nat} {ls : Array Slot} {rest : List Value} (hexec : p.tables.exec = Jvm.exec) (hb : c.code = cc) {own tx : String} {index q : Nat} (hown : s.vm.findClass own = some m.cls) (hZ : vk_R own index tx q s) (hdg : decode cc pc = .ok (.ldc_w index, 3))
    (k : W p l e R s m args below meth c H locs cells slots Q (F0 m (pc + 3) ls (.ref q :: rest))) : W p l e R s m args below meth c H locs cells slots Q (F0 m pc ls rest) := by
  intro T hT X
  obtain ⟨t, a1, b1⟩ := k T hT X
  exact ⟨t, X.ldcStringW hexec hown (text := tx) (a := q) hZ.1 hZ.2 (g := F0 m pc ls rest) rfl (by rw [hb]; exact hdg) t a1, b1⟩
/-- a row of rows, read from a table -/
theorem va_ta {cc : ByteArray} {pc t N : Nat} {ls : Array Slot} {rest : List Value} {A : Nat → Prop} {f : Nat → Value} (hexec : p.tables.exec = Jvm.exec) (hb : c.code = cc) (hT : va_T (.array .int) t N f A s s.heap) (hS : va_S A s.heap H locs) {i : Int32} (hin : vp_in i N) {v : Value} (hv : f i.toNatClampNeg = v) (hdg : decode cc pc = .ok (.aaload, 1))
    (kk : W p l e R s m args below meth c H locs cells slots Q (F0 m (pc + 1) ls (v :: rest))) : W p l e R s m args below meth c H locs cells slots Q (F0 m pc ls (.int i :: .ref t :: rest)) := by
  obtain ⟨cell, h1, h2, h3, h4, h5, h6, h7⟩ := hT
  have hlt : i.toNatClampNeg < N := Nat.not_le.mp fun q => hin (Or.inr q)
  have hin' : ¬ (i < 0 ∨ cell.slots.size ≤ i.toNatClampNeg) := by
    intro q
    rcases q with q | q
    · exact hin (Or.inl q)
    · omega
  exact W.aald (v := v) (ty := .array .int) hexec hb (by rw [hS.2.1 t (Array.getElem?_eq_some_iff.mp h1).1 h7]; exact h1) h2 rfl h3 hin' (by rw [h6 _ hlt, hv]) rfl rfl hdg kk
/-- a row is put into the rows' array -/
theorem va_asta {D : va_G} {cA : Nat → ClassId} {A : Nat → Prop} {H0 : Heap} {ws : va_W} {cc : ByteArray} {pc : Nat} {ls : Array Slot} {rest : List Value} {a v n : Nat} {x : vp_A} {f : Nat → Option Nat} (hexec : p.tables.exec = Jvm.exec) (hb : c.code = cc) (hK : va_K D vwCl (atys cA) s) (hAX : aX (cA 2) s) (hP : va_P D vwCl ws H) (hD : va_D A ws) (hS : va_S A H0 H locs) (q0 qk : Nat) (ha : ws[q0]? = some (a, .inl (cA 2, n, .inr (.inr (.inr (.inr f)))))) (hv : ws[qk]? = some (v, .inl (cA 0, x))) {i : Int32} (hin : vp_in i n) (hdg : decode cc pc = .ok (.aastore, 1))
    (kk : ∀ (H1 : Heap) (locs1 : List Loc), va_P D vwCl (ws.set q0 (a, .inl (cA 2, n, .inr (.inr (.inr (.inr (va_up f i.toNatClampNeg (some v)))))))) H1 → va_D A (ws.set q0 (a, .inl (cA 2, n, .inr (.inr (.inr (.inr (va_up f i.toNatClampNeg (some v)))))))) → va_S A H0 H1 locs1 → W p l e R s m args below meth c H1 locs1 cells slots Q (F0 m (pc + 1) ls rest)) : W p l e R s m args below meth c H locs cells slots Q (F0 m pc ls (.ref v :: .int i :: .ref a :: rest)) := by
  have hlt : i.toNatClampNeg < n := Nat.not_le.mp fun q => hin (Or.inr q)
  have h0 : ¬ i < 0 := fun q => hin (Or.inl q)
  obtain ⟨kA, comp, k1, k2, k3⟩ := hAX
  have hI : s.vm.findClass "[I" = some (cA 0) := (hK.2 0 _ rfl).2
  have hcomp : comp = cA 0 := Option.some.inj (k3.symm.trans hI)
  subst hcomp
  obtain ⟨-, kI, hkI, compI, hkindI⟩ := (hK.2 0 _ rfl).1 0 (fun _ => .null)
  have g1 := hP qk _ hv
  have g2 : (vp_cell (cA 0) x).cls = cA 0 := by
    obtain ⟨n, f | f | f | f | f⟩ := x <;> rfl
  have g3 : (vp_cell (cA 0) x).vm = .none := by
    obtain ⟨n, f | f | f | f | f⟩ := x <;> rfl
  refine W.aast (t := .array .int) hexec hb (hP q0 _ ha) (fun q h => by cases h) (fun h => by cases h) k1 k2 rfl hkI ⟨h0, by show _ < (arrV _ _ _).slots.size; rw [arrV_size]; exact hlt⟩ g1 (fun q h => by rw [g3] at h; cases h) (by rw [g2]; exact hkI) (by rw [g2]; exact va_asg _ _) rfl rfl hdg fun H1 e z oq => ?_
  refine kk H1 _ (hP.set hD ha ?_ oq) (hD.set ha) (hS.put z oq (hD.2 q0 _ ha))
  show H1[a]? = some (vp_cell _ _)
  rw [e]
  rw [vp_cell_q, vp_cell_q, arrV_store]
  congr 2
  funext q
  by_cases hq : q = i.toNatClampNeg
  · subst hq
    simp [updV, va_up, va_rf]
  · simp [updV, va_up, hq]
/-- a new array of rows -/
theorem va_newaA {D : va_G} {cA : Nat → ClassId} {A : Nat → Prop} {H0 : Heap} {ws : va_W} {cc : ByteArray} {pc : Nat} {ls : Array Slot} {rest : List Value} (hexec : p.tables.exec = Jvm.exec) (hb : c.code = cc) {own : String} {index : Nat} (hown : s.vm.findClass own = some m.cls) (hclink : (Cond.classLink own index "[I").before args s = true) (hover : (Cond.arrayOver (.array .int)).before args s = true) (hK : va_K D vwCl (atys cA) s) (hP : va_P D vwCl ws H) (hD : va_D A ws) (hS : va_S A H0 H locs) (hA : ∀ q, H0.size ≤ q → A q)
    {n : Int32} {N' : Nat} (hn : ¬ n < 0) (hN : n.toNatClampNeg = N') (hbytes : N' * 4 ≤ 536870912) (hcells : cells + 1 ≤ R.cells) (hslots : slots + N' ≤ R.slots) (hdg : decode cc pc = .ok (.anewarray index, 3))
    (kk : ∀ (q : Nat) (H1 : Heap), va_P D vwCl (ws ++ [(q, .inl (cA 2, N', .inr (.inr (.inr (.inr (fun _ => none))))))]) H1 → va_D A (ws ++ [(q, .inl (cA 2, N', .inr (.inr (.inr (.inr (fun _ => none))))))]) → va_S A H0 H1 locs →
      W p l e R s m args below meth c H1 locs (cells + 1) (slots + N') Q (F0 m (pc + 3) ls (.ref q :: rest))) : W p l e R s m args below meth c H locs cells slots Q (F0 m pc ls (.int n :: rest)) := by
  subst hN
  refine W.anewA (t := .int) hexec hb hown hclink hover rfl hdg rfl hn hbytes hcells hslots fun cA' kA comp f1 f2 f3 f4 => ?_
  have h9 : s.vm.findClass ("[" ++ (FieldType.array .int).toString) = some (cA 2) := (hK.2 2 _ rfl).2
  have e9 : cA' = cA 2 := Option.some.inj (f1.symm.trans h9)
  subst e9
  generalize hH1 : H.push ({ cls := cA 2, slots := Array.replicate n.toNatClampNeg .null, vm := .none } : Cell) = H1
  have z1 : H1.size = H.size + 1 := by rw [← hH1, Array.size_push]
  have e1 : H1[H.size]? = some (arrV (cA 2) n.toNatClampNeg (fun _ => .null)) := by rw [← hH1, Array.getElem?_push_size, ← arrV_new]
  have o1 : ∀ q : Nat, q < H.size → H1[q]? = H[q]? := fun q hq => by rw [← hH1, Array.getElem?_push, if_neg (Nat.ne_of_lt hq)]
  have hk : ∀ (k : Nat) (x : Nat × va_E), ws[k]? = some x → H1[x.1]? = H[x.1]? := fun k x hx => o1 x.1 ((hP k x hx).lt)
  refine kk H.size H1 ((hP.kept hk).app (fun k x hx => ?_)) (hD.push hP rfl (hA _ hS.1)) ⟨Nat.le_trans hS.1 (by omega), fun x h1 h2 => (o1 x (Nat.lt_of_lt_of_le h1 hS.1)).trans (hS.2.1 x h1 h2), hS.2.2⟩
  have hz : k < 1 := (List.getElem?_eq_some_iff.mp hx).1
  rw [show k = 0 by omega] at hx
  cases hx
  exact e1
/-- null goes its way -/
theorem aX_of {cA : Nat → ClassId} {D : va_G} {args : Array Value} (hK : va_K D vwCl (atys cA) s) (h : (Cond.arrayOver (.array .int)).before args s = true) : aX (cA 2) s := by
  obtain ⟨comp, c0, k, h1, -, h3, h4, h5⟩ := arrayOverA_spec h
  have h9 : s.vm.findClass ("[" ++ (FieldType.array .int).toString) = some (cA 2) := (hK.2 2 _ rfl).2
  have e9 : c0 = cA 2 := Option.some.inj (h5.symm.trans h9)
  subst e9
  exact ⟨k, comp, h3, h4, h1⟩
theorem room_w {x k C fu B M : Nat} (h : x + C * (fu + 1) ≤ B) (hk : k ≤ C) (hM : B ≤ M) : x + k ≤ M := Nat.le_trans (room_le h hk) hM
theorem room_z {x C B M : Nat} (h : x + C * (0 + 1) ≤ B) (hM : B ≤ M) : x ≤ M := by omega
end TLT
