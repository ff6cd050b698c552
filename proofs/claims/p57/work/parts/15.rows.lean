/-! room in loops that make cells -/
theorem room_le {ce k C fu M : Nat} (h : ce + C * (fu + 1) ≤ M) (hk : k ≤ C) : ce + k ≤ M := by
  rw [Nat.mul_add, Nat.mul_one] at h
  omega
theorem room_bk {ce k C fu M : Nat} (h : ce + C * (fu + 1) ≤ M) (hk : k ≤ C) : ce + k + C * fu ≤ M := by
  rw [Nat.mul_add, Nat.mul_one] at h
  omega
/-! constructors of nest mates -/
def nX (U : State) : Prop := va_Nw (.methodLinkNest RX5 18 yX0_init "BathtubTides") U ∧ va_Nw (.methodLinkNest RX5 25 yX1_init "BathtubTides") U ∧ va_Nw (.methodLinkNest RX5 32 yX3_init "BathtubTides") U
def gqNB (G : eG) (D : va_G) (cA : Nat → ClassId) (ws : va_W) (sz : Nat) (U : State) : Prop := gqEB G D cA ws sz U ∧ nX U
theorem nX.calling {U : State} {g : JFrame} {mk : MethodId} {a : Array Value} (h : nX U) : nX (U.calling g mk a) := ⟨h.1.same rfl rfl, h.2.1.same rfl rfl, h.2.2.same rfl rfl⟩
theorem nX.warm {s U : State} (hW : s.WarmedH U.vm) (h : nX s) : nX U := ⟨h.1.warmM hW, h.2.1.warmM hW, h.2.2.warmM hW⟩
theorem gqN_blind {As : List Value} {G : eG} {D : va_G} {cA : Nat → ClassId} {ws : va_W} {sz : Nat} : FrameBlind (va_Pc As (gqNB G D cA ws sz)) := fun a U g mk q => ⟨q.1, (gqE_blind (As := As) a U g mk ⟨q.1, q.2.1⟩).2, q.2.2.calling⟩
section TLN
variable {p : Program} {l : Launch} {e : Env} {R : Room} {s : State} {m : MethodId} {args : Array Value} {below : List Frame} {meth : Method} {c : Code} {H : Heap} {locs : List Loc} {cells slots : Nat} {Q : State → Prop}
/-- a nest mate's private constructor -/
theorem gqP_I {y : MethodName} {bytes cc : ByteArray} {maxL nL n index mc ms : Nat} {wsm : List Cond} {rm : Room} {Ts : List Cond} {own host : String} {b : Addr} {As rest st0 : List Value} {pc : Nat} {ls : Array Slot} {D : va_G} {cA : Nat → ClassId} {A0 : Nat → Prop} {H0 : Heap} {ws wc wr : va_W} {w1 ws2 : (Nat → Nat) → va_W}
    (S : CallFix p m c cc nL s args Ts own) (hK : va_K D vwCl (atys cA) s) (hP : va_P D vwCl ws H) (hD : va_D A0 ws) (hS : va_S A0 H0 H locs) (hA : ∀ q, H0.size ≤ q → A0 q)
    (hM : Met l y wsm rm (va_Pc (.ref b :: As) (gqB D cA wc H.size)) (gqQ D (fun _ => none) w1 (va_A wc H.size)) mc ms (va_A wc H.size))
    (cw : va_CN R s args own index y host bytes maxL none wsm rm mc ms n ∧ y.name = "<init>" ∧ (Cond.instanceMethod y).before args s = true) (isC isR pm : List Nat) (hC : isC.map (fun i => ws[i]?) = wc.map some) (hR : isR.map (fun i => ws[i]?) = wr.map some) (hnc : va_nd isC = true) (hn : va_nd isR = true) (hdis : ∀ i ∈ isR, i ∉ isC) (hpm : ∀ as, pm.map (fun i => (wr ++ w1 as)[i]?) = (ws2 as).map some) (hpn : va_nd pm = true)
    (hst0 : st0 = As.reverse ++ .ref b :: rest) (hAn : As.length = n) (hl : ls.size = nL) (hW : (rest.map fun v => v.category).sum ≤ 8)
    (hdg : decode cc pc = .ok (.invokespecial index, 3)) (hf : cells + mc ≤ R.cells ∧ slots + ms ≤ R.slots)
    (kk : ∀ (as : Nat → Nat) (H1 : Heap) (locs1 : List Loc), va_P D vwCl (ws2 as) H1 → va_D A0 (ws2 as) → va_S A0 H0 H1 locs1 → W p l e R s m args below meth c H1 locs1 (cells + mc) (slots + ms) Q (F0 m (pc + 3) ls rest)) : W p l e R s m args below meth c H locs cells slots Q (F0 m pc ls st0) := by
  subst hst0
  exact gq_go hP hD hS hA isC isR pm hC hR hn hdis hpm hpn (va_runIN S hM cw ⟨gq_blind, fun U hU hW => ⟨rfl, by rw [hU], by rw [hU]; exact gq_sub hP isC hC, va_K.moved hW.alike hK, (hD.sub isC hnc hC).weaken (fun _ _ _ _ => trivial)⟩⟩ rfl hAn hl rfl (lv_room hW) hdg hf) (fun as H1 locs1 h1 h2 h3 => kk as H1 locs1 h1 h2 h3)
theorem gqPE_I {G : eG} {y : MethodName} {bytes cc : ByteArray} {maxL nL n index mc ms : Nat} {wsm : List Cond} {rm : Room} {Ts : List Cond} {own host : String} {b : Addr} {As rest st0 : List Value} {pc : Nat} {ls : Array Slot} {D : va_G} {cA : Nat → ClassId} {A0 : Nat → Prop} {ws wc wr : va_W} {w1 ws2 : (Nat → Nat) → va_W}
    (S : CallFix p m c cc nL s args Ts own) (hK : va_K D vwCl (atys cA) s) (hP : va_P D vwCl ws H) (hD : va_D A0 ws) (hS : va_S A0 s.heap H locs) (hA : ∀ q : Nat, s.heap.size ≤ q → A0 q) (hEV : eX G A0 s s.heap)
    (hM : Met l y wsm rm (va_Pc (.ref b :: As) (gqEB G D cA wc H.size)) (gqQ D (fun _ => none) w1 (va_A wc H.size)) mc ms (va_A wc H.size))
    (cw : va_CN R s args own index y host bytes maxL none wsm rm mc ms n ∧ y.name = "<init>" ∧ (Cond.instanceMethod y).before args s = true) (isC isR pm : List Nat) (hC : isC.map (fun i => ws[i]?) = wc.map some) (hR : isR.map (fun i => ws[i]?) = wr.map some) (hnc : va_nd isC = true) (hn : va_nd isR = true) (hdis : ∀ i ∈ isR, i ∉ isC) (hpm : ∀ as, pm.map (fun i => (wr ++ w1 as)[i]?) = (ws2 as).map some) (hpn : va_nd pm = true)
    (hst0 : st0 = As.reverse ++ .ref b :: rest) (hAn : As.length = n) (hl : ls.size = nL) (hW : (rest.map fun v => v.category).sum ≤ 8)
    (hdg : decode cc pc = .ok (.invokespecial index, 3)) (hf : cells + mc ≤ R.cells ∧ slots + ms ≤ R.slots)
    (kk : ∀ (as : Nat → Nat) (H1 : Heap) (locs1 : List Loc), va_P D vwCl (ws2 as) H1 → va_D A0 (ws2 as) → va_S A0 s.heap H1 locs1 → W p l e R s m args below meth c H1 locs1 (cells + mc) (slots + ms) Q (F0 m (pc + 3) ls rest)) : W p l e R s m args below meth c H locs cells slots Q (F0 m pc ls st0) := by
  subst hst0
  exact gq_go hP hD hS hA isC isR pm hC hR hn hdis hpm hpn (va_runIN S hM cw ⟨gqE_blind, fun U hU hW => ⟨rfl, ⟨by rw [hU], by rw [hU]; exact gq_sub hP isC hC, va_K.moved hW.alike hK, (hD.sub isC hnc hC).weaken (fun _ _ _ _ => trivial)⟩, by rw [hU]; exact hEV.to hW hS.2.1 (va_free hD hS hA isC hC)⟩⟩ rfl hAn hl rfl (lv_room hW) hdg hf) (fun as H1 locs1 h1 h2 h3 => kk as H1 locs1 h1 h2 h3)
/-- a constructor that calls such -/
theorem gqN_I {G : eG} {y : MethodName} {bytes cc : ByteArray} {maxL nL n index mc ms : Nat} {wsm : List Cond} {rm : Room} {Ts : List Cond} {own : String} {b : Addr} {As rest st0 : List Value} {pc : Nat} {ls : Array Slot} {D : va_G} {cA : Nat → ClassId} {A0 : Nat → Prop} {ws wc wr : va_W} {w1 ws2 : (Nat → Nat) → va_W}
    (S : CallFix p m c cc nL s args Ts own) (hK : va_K D vwCl (atys cA) s) (hP : va_P D vwCl ws H) (hD : va_D A0 ws) (hS : va_S A0 s.heap H locs) (hA : ∀ q : Nat, s.heap.size ≤ q → A0 q) (hEV : eX G A0 s s.heap) (hN : nX s)
    (hM : Met l y wsm rm (va_Pc (.ref b :: As) (gqNB G D cA wc H.size)) (gqQ D (fun _ => none) w1 (va_A wc H.size)) mc ms (va_A wc H.size))
    (cw : CallB R s args own index y bytes maxL none wsm rm mc ms n ∧ y.name = "<init>" ∧ (Cond.instanceMethod y).before args s = true) (isC isR pm : List Nat) (hC : isC.map (fun i => ws[i]?) = wc.map some) (hR : isR.map (fun i => ws[i]?) = wr.map some) (hnc : va_nd isC = true) (hn : va_nd isR = true) (hdis : ∀ i ∈ isR, i ∉ isC) (hpm : ∀ as, pm.map (fun i => (wr ++ w1 as)[i]?) = (ws2 as).map some) (hpn : va_nd pm = true)
    (hst0 : st0 = As.reverse ++ .ref b :: rest) (hAn : As.length = n) (hl : ls.size = nL) (hW : (rest.map fun v => v.category).sum ≤ 8)
    (hdg : decode cc pc = .ok (.invokespecial index, 3)) (hf : cells + mc ≤ R.cells ∧ slots + ms ≤ R.slots)
    (kk : ∀ (as : Nat → Nat) (H1 : Heap) (locs1 : List Loc), va_P D vwCl (ws2 as) H1 → va_D A0 (ws2 as) → va_S A0 s.heap H1 locs1 → W p l e R s m args below meth c H1 locs1 (cells + mc) (slots + ms) Q (F0 m (pc + 3) ls rest)) : W p l e R s m args below meth c H locs cells slots Q (F0 m pc ls st0) := by
  subst hst0
  exact gq_go hP hD hS hA isC isR pm hC hR hn hdis hpm hpn (va_runI S hM cw ⟨gqN_blind, fun U hU hW => ⟨rfl, ⟨⟨by rw [hU], by rw [hU]; exact gq_sub hP isC hC, va_K.moved hW.alike hK, (hD.sub isC hnc hC).weaken (fun _ _ _ _ => trivial)⟩, by rw [hU]; exact hEV.to hW hS.2.1 (va_free hD hS hA isC hC)⟩, hN.warm hW⟩⟩ rfl hAn hl rfl (lv_room hW) hdg hf) (fun as H1 locs1 h1 h2 h3 => kk as H1 locs1 h1 h2 h3)
end TLN
theorem gqN_ofW {G : eG} {l : Launch} {y : MethodName} {ws ws' : List Cond} {rm : Room} {As : List Value} {D : va_G} {cA : Nat → ClassId} {wc : va_W} {w1 : (Nat → Nat) → va_W} {sz mc ms : Nat} {v : (Nat → Nat) → Option Value} {cc : ByteArray} {maxL : Nat} {ret : Option FieldType} (hy : plainName y.cls = true) (hw : ws = Cond.code y cc maxL ret :: ws') (hsl : (lg_sl As).length ≤ maxL)
    (body : ∀ (p : Program) (e : Env) (s : State) (m : MethodId) (args : Array Value) (below : List Frame) (meth : Method) (c : Code) (ls : Array Slot) (Q : State → Prop) (A : Nat → Prop), p.tables.exec = Jvm.exec → c.code = cc → c.maxLocals = maxL → (∀ w ∈ ws, w.before args s = true) → s.vm.findClass y.cls = some m.cls → meth.name = y.name → va_K D vwCl (atys cA) s → va_P D vwCl wc s.heap → va_D A wc → va_S A s.heap s.heap [] → (∀ q : Nat, s.heap.size ≤ q → A q) → eX G A s s.heap → nX s → lv_has ls maxL (lv_args 0 As) →
      (∀ (as : Nat → Nat) (H : Heap) (locs : List Loc) (i : Instr) (v' : Option Value) (w' : va_W) (pc : Nat) (ls : Array Slot), v' = v as → w' = w1 as → rtn ret i v' → va_P D vwCl w' H → va_D A w' → va_S A s.heap H locs → decode cc pc = .ok (i, 1) → W p l e rm s m args below meth c H locs mc ms Q (F0 m pc ls v'.toList)) →
      W p l e rm s m args below meth c s.heap [] 0 0 Q (F0 m 0 ls [])) : Met l y ws rm (va_Pc As (gqNB G D cA wc sz)) (gqQ D v w1 (va_A wc sz)) mc ms (va_A wc sz) := by
  refine Met.ofW (cc := cc) (maxL := maxL) (ret := ret) hy hw ?_
  intro p e s m args below meth c s₁ B hml hv
  obtain ⟨rfl, ⟨⟨hsz, hP, hK, hD0⟩, hEV⟩, hN⟩ := hv
  subst hsz
  have hl := lv_entry As hsl
  rw [lg_entry_eq]
  refine body p e s m _ below meth c _ _ (va_A wc s.heap.size) B.exec B.bytes hml (atoms_spec (ws := ws) B.pre) (findClass_of_methodNamed B.named) (name_of_methodNamed B.named B.method).1 hK hP hD0.self va_S.rf (fun q h => Or.inr h) hEV hN hl (fun as H locs i v' w' pc ls hv hw' hrt hP hD hS hdg => ?_)
  subst hv; subst hw'
  exact rtn_end B.exec B.bytes B.returns B.notSynchronized hrt (fun t ht _ => ⟨as, rfl, by rw [ht]; exact hP, hD, hS.F ht⟩) hS.2.2 hdg
/-! methods with handlers: the law's wrappers -/
def lWs : List Cond := [.classLink RL 14 "java/lang/IllegalArgumentException", .classLink RL 16 "java/lang/IllegalStateException", .classLink RL 28 "java/lang/IndexOutOfBoundsException", .classLink RL 84 "java/util/NoSuchElementException"]
theorem lW_good : ∀ w ∈ lWs, (w.onTables && w.keeps) = true := by
  intro w hw
  simp only [lWs, List.mem_cons, List.not_mem_nil, or_false] at hw
  rcases hw with rfl | rfl | rfl | rfl <;> rfl
def lX (U : State) : Prop := (va_Nc "java/lang/IllegalStateException" "java/lang/IllegalArgumentException" U ∧ va_Nc "java/lang/IllegalArgumentException" "java/lang/IndexOutOfBoundsException" U ∧ va_Nc "java/lang/IllegalStateException" "java/lang/IndexOutOfBoundsException" U ∧ va_Nc "java/util/NoSuchElementException" "java/lang/IndexOutOfBoundsException" U) ∧ ∀ w ∈ lWs, w.before #[] U = true
theorem lX.warm {s U : State} (hW : s.WarmedH U.vm) (hL : lX s) : lX U := ⟨⟨va_Nc.moved hW.alike hL.1.1, va_Nc.moved hW.alike hL.1.2.1, va_Nc.moved hW.alike hL.1.2.2.1, va_Nc.moved hW.alike hL.1.2.2.2⟩, fun w hw => word_at hW (Or.inl (lW_good w hw)) (hL.2 w hw)⟩
theorem lX.calling {U : State} {g : JFrame} {mk : MethodId} {a : Array Value} (h : lX U) : lX (U.calling g mk a) := h.warm (s := U) (U := U.calling g mk a) (State.WarmedH.refl U)
theorem lX.link {args : Array Value} {s : State} (h : lX s) {w : Cond} (hw : w ∈ lWs) : w.before args s = true := word_at (State.WarmedH.refl s) (Or.inl (lW_good w hw)) (h.2 w hw)
def gqLB (G : eG) (D : va_G) (cA : Nat → ClassId) (ws : va_W) (sz : Nat) (U : State) : Prop := gqEB G D cA ws sz U ∧ lX U
theorem gqL_blind {As : List Value} {G : eG} {D : va_G} {cA : Nat → ClassId} {ws : va_W} {sz : Nat} : FrameBlind (va_Pc As (gqLB G D cA ws sz)) := fun a U g mk q => ⟨q.1, (gqE_blind (As := As) a U g mk ⟨q.1, q.2.1⟩).2, q.2.2.calling⟩
theorem gqL_ofW {G : eG} {l : Launch} {y : MethodName} {ws ws' : List Cond} {rm : Room} {As : List Value} {D : va_G} {cA : Nat → ClassId} {wc : va_W} {w1 : (Nat → Nat) → va_W} {sz mc ms : Nat} {v : (Nat → Nat) → Option Value} {cc : ByteArray} {maxL : Nat} {ret : Option FieldType} {hh : List (Nat × Nat × Nat × Nat)} (hy : plainName y.cls = true) (hw : ws = Cond.codeWith y cc maxL ret hh :: ws') (hsl : (lg_sl As).length ≤ maxL)
    (body : ∀ (p : Program) (e : Env) (s : State) (m : MethodId) (args : Array Value) (below : List Frame) (meth : Method) (c : Code) (ls : Array Slot) (Q : State → Prop) (A : Nat → Prop), p.tables.exec = Jvm.exec → c.code = cc → c.maxLocals = maxL → c.exceptionTable.toList = tableOf hh → (∀ w ∈ ws, w.before args s = true) → s.vm.findClass y.cls = some m.cls → va_K D vwCl (atys cA) s → va_P D vwCl wc s.heap → va_D A wc → va_S A s.heap s.heap [] → (∀ q : Nat, s.heap.size ≤ q → A q) → eX G A s s.heap → lX s → lv_has ls maxL (lv_args 0 As) →
      (∀ (as : Nat → Nat) (H : Heap) (locs : List Loc) (i : Instr) (v' : Option Value) (w' : va_W) (pc : Nat) (ls : Array Slot), v' = v as → w' = w1 as → rtn ret i v' → va_P D vwCl w' H → va_D A w' → va_S A s.heap H locs → decode cc pc = .ok (i, 1) → W p l e rm s m args below meth c H locs mc ms Q (F0 m pc ls v'.toList)) →
      W p l e rm s m args below meth c s.heap [] 0 0 Q (F0 m 0 ls [])) : Met l y ws rm (va_Pc As (gqLB G D cA wc sz)) (gqQ D v w1 (va_A wc sz)) mc ms (va_A wc sz) := by
  refine va_MetW (cc := cc) (maxL := maxL) (ret := ret) (hh := hh) hy hw ?_
  intro p e s m args below meth c s₁ B hml hv
  obtain ⟨rfl, ⟨⟨hsz, hP, hK, hD0⟩, hEV⟩, hL9⟩ := hv
  subst hsz
  have hl := lv_entry As hsl
  rw [lg_entry_eq]
  have hts := atoms_spec (ws := ws) B.pre
  have hT9 : c.exceptionTable.toList = tableOf hh := vx_table (x := y) B (hts _ (by rw [hw]; exact List.mem_cons_self))
  refine body p e s m _ below meth c _ _ (va_A wc s.heap.size) B.exec B.bytes hml hT9 hts (findClass_of_methodNamed B.named) hK hP hD0.self va_S.rf (fun q h => Or.inr h) hEV hL9 hl (fun as H locs i v' w' pc ls hv hw' hrt hP hD hS hdg => ?_)
  subst hv; subst hw'
  exact rtn_end B.exec B.bytes B.returns B.notSynchronized hrt (fun t ht _ => ⟨as, rfl, by rw [ht]; exact hP, hD, hS.F ht⟩) hS.2.2 hdg
section TLL
variable {p : Program} {l : Launch} {e : Env} {R : Room} {s : State} {m : MethodId} {args : Array Value} {below : List Frame} {meth : Method} {c : Code} {H : Heap} {locs : List Loc} {cells slots : Nat} {Q : State → Prop}
/-- a call of such -/
theorem gqL_S {G : eG} {y : MethodName} {bytes cc : ByteArray} {maxL nL n index mc ms : Nat} {ret : Option FieldType} {hh : List (Nat × Nat × Nat × Nat)} {wsm : List Cond} {rm : Room} {Ts : List Cond} {own : String} {As rest st0 : List Value} {pc : Nat} {ls : Array Slot} {D : va_G} {cA : Nat → ClassId} {A0 : Nat → Prop} {ws wc wr : va_W} {w1 ws2 : (Nat → Nat) → va_W} {v : (Nat → Nat) → Option Value} {st1 : (Nat → Nat) → List Value}
    (S : CallFix p m c cc nL s args Ts own) (hK : va_K D vwCl (atys cA) s) (hP : va_P D vwCl ws H) (hD : va_D A0 ws) (hS : va_S A0 s.heap H locs) (hA : ∀ q : Nat, s.heap.size ≤ q → A0 q) (hEV : eX G A0 s s.heap) (hL9 : lX s)
    (hM : Met l y wsm rm (va_Pc As (gqLB G D cA wc H.size)) (gqQ D v w1 (va_A wc H.size)) mc ms (va_A wc H.size))
    (cw : vx_CSW R s args own index y bytes maxL ret hh wsm rm mc ms n) (isC isR pm : List Nat) (hC : isC.map (fun i => ws[i]?) = wc.map some) (hR : isR.map (fun i => ws[i]?) = wr.map some) (hnc : va_nd isC = true) (hn : va_nd isR = true) (hdis : ∀ i ∈ isR, i ∉ isC) (hpm : ∀ as, pm.map (fun i => (wr ++ w1 as)[i]?) = (ws2 as).map some) (hpn : va_nd pm = true)
    (hst0 : st0 = As.reverse ++ rest) (hst1 : ∀ as, (v as).toList ++ rest = st1 as) (hAn : As.length = n) (hl : ls.size = nL) (hW : (rest.map fun v => v.category).sum ≤ 8)
    (hdg : decode cc pc = .ok (.invokestatic index, 3)) (hf : cells + mc ≤ R.cells ∧ slots + ms ≤ R.slots)
    (kk : ∀ (as : Nat → Nat) (H1 : Heap) (locs1 : List Loc), va_P D vwCl (ws2 as) H1 → va_D A0 (ws2 as) → va_S A0 s.heap H1 locs1 → W p l e R s m args below meth c H1 locs1 (cells + mc) (slots + ms) Q (F0 m (pc + 3) ls (st1 as))) : W p l e R s m args below meth c H locs cells slots Q (F0 m pc ls st0) := by
  subst hst0
  exact gq_go hP hD hS hA isC isR pm hC hR hn hdis hpm hpn (vx_runSW S hM cw ⟨gqL_blind, fun U hU hW => ⟨rfl, ⟨⟨by rw [hU], by rw [hU]; exact gq_sub hP isC hC, va_K.moved hW.alike hK, (hD.sub isC hnc hC).weaken (fun _ _ _ _ => trivial)⟩, by rw [hU]; exact hEV.to hW hS.2.1 (va_free hD hS hA isC hC)⟩, hL9.warm hW⟩⟩ rfl hAn hl rfl (lv_room hW) hdg hf) (fun as H1 locs1 h1 h2 h3 => by rw [hst1 as]; exact kk as H1 locs1 h1 h2 h3)
end TLL
/-! rows for inherited methods (U), super calls (P) and texts (T) -/
section TLU
variable {p : Program} {l : Launch} {e : Env} {R : Room} {s : State} {m : MethodId} {args : Array Value} {below : List Frame} {meth : Method} {c : Code} {H : Heap} {locs : List Loc} {cells slots : Nat} {Q : State → Prop}
theorem rq_U {y : MethodName} {bytes cc : ByteArray} {maxL nL n index : Nat} {ret : Option FieldType} {wsm : List Cond} {rm : Room} {Ts : List Cond} {own C owner : String} {x : MethodName} {b : Addr} {As rest st0 st1 : List Value} {pc : Nat} {ls : Array Slot} {D : va_G} {cA : Nat → ClassId} {ws wc : va_W} {v : Option Value}
    (S : CallFix p m c cc nL s args Ts own) (hK : va_K D vwCl (atys cA) s) (hP : va_P D vwCl ws H) (hM : Met l y wsm rm (va_Pc (.ref b :: As) (rqB D cA wc)) (rqQ v) 0 0 (fun _ => False))
    (cw : va_CU R s args own C owner index x y bytes maxL ret wsm rm 0 0 n) (is : List Nat) (hs : is.filterMap (fun i => ws[i]?) = wc)
    (q0 ci : Nat) {fs : List Value} {q : vw_C} (he : ws[q0]? = some (b, .inr (ci, fs))) (hc : vwCl[ci]? = some q) (hqC : q.1 = C)
    (hst0 : st0 = As.reverse ++ .ref b :: rest) (hst1 : v.toList ++ rest = st1) (hn : As.length = n) (hl : ls.size = nL) (hW : (rest.map fun v => v.category).sum ≤ 8)
    (hdg : decode cc pc = .ok (.invokevirtual index, 3)) (hf : cells ≤ R.cells ∧ slots ≤ R.slots)
    (kk : W p l e R s m args below meth c H locs cells slots Q (F0 m (pc + 3) ls st1)) : W p l e R s m args below meth c H locs cells slots Q (F0 m pc ls st0) := by
  subst hst0; subst hst1; subst hqC
  exact rq_go (va_runU S hM cw ⟨rq_blind, va_recv hK hP hc he, fun U hU hW => ⟨rfl, by rw [hU]; exact hP.sub is hs, va_K.moved hW.alike hK⟩⟩ rfl hn hl rfl (lv_room hW) hdg hf) kk
theorem rqE_U {G : eG} {A0 : Nat → Prop} {y : MethodName} {bytes cc : ByteArray} {maxL nL n index : Nat} {ret : Option FieldType} {wsm : List Cond} {rm : Room} {Ts : List Cond} {own C owner : String} {x : MethodName} {b : Addr} {As rest st0 st1 : List Value} {pc : Nat} {ls : Array Slot} {D : va_G} {cA : Nat → ClassId} {ws wc : va_W} {v : Option Value}
    (S : CallFix p m c cc nL s args Ts own) (hK : va_K D vwCl (atys cA) s) (hP : va_P D vwCl ws H) (hS : va_S A0 s.heap H locs) (hEV : eX G A0 s s.heap) (hM : Met l y wsm rm (va_Pc (.ref b :: As) (rqEB G D cA wc)) (rqQ v) 0 0 (fun _ => False))
    (cw : va_CU R s args own C owner index x y bytes maxL ret wsm rm 0 0 n) (is : List Nat) (hs : is.filterMap (fun i => ws[i]?) = wc)
    (q0 ci : Nat) {fs : List Value} {q : vw_C} (he : ws[q0]? = some (b, .inr (ci, fs))) (hc : vwCl[ci]? = some q) (hqC : q.1 = C)
    (hst0 : st0 = As.reverse ++ .ref b :: rest) (hst1 : v.toList ++ rest = st1) (hn : As.length = n) (hl : ls.size = nL) (hW : (rest.map fun v => v.category).sum ≤ 8)
    (hdg : decode cc pc = .ok (.invokevirtual index, 3)) (hf : cells ≤ R.cells ∧ slots ≤ R.slots)
    (kk : W p l e R s m args below meth c H locs cells slots Q (F0 m (pc + 3) ls st1)) : W p l e R s m args below meth c H locs cells slots Q (F0 m pc ls st0) := by
  subst hst0; subst hst1; subst hqC
  exact rq_go (va_runU S hM cw ⟨rqE_blind, va_recv hK hP hc he, fun U hU hW => ⟨rfl, ⟨by rw [hU]; exact hP.sub is hs, va_K.moved hW.alike hK⟩, by rw [hU]; exact hEV.to hW hS.2.1 (fun _ h => h.elim)⟩⟩ rfl hn hl rfl (lv_room hW) hdg hf) kk
theorem gq_U {y : MethodName} {bytes cc : ByteArray} {maxL nL n index mc ms : Nat} {ret : Option FieldType} {wsm : List Cond} {rm : Room} {Ts : List Cond} {own C owner : String} {x : MethodName} {b : Addr} {As rest st0 : List Value} {pc : Nat} {ls : Array Slot} {D : va_G} {cA : Nat → ClassId} {A0 : Nat → Prop} {H0 : Heap} {ws wc wr : va_W} {w1 ws2 : (Nat → Nat) → va_W} {v : (Nat → Nat) → Option Value} {st1 : (Nat → Nat) → List Value}
    (S : CallFix p m c cc nL s args Ts own) (hK : va_K D vwCl (atys cA) s) (hP : va_P D vwCl ws H) (hD : va_D A0 ws) (hS : va_S A0 H0 H locs) (hA : ∀ q, H0.size ≤ q → A0 q)
    (hM : Met l y wsm rm (va_Pc (.ref b :: As) (gqB D cA wc H.size)) (gqQ D v w1 (va_A wc H.size)) mc ms (va_A wc H.size))
    (cw : va_CU R s args own C owner index x y bytes maxL ret wsm rm mc ms n) (isC isR pm : List Nat) (hC : isC.map (fun i => ws[i]?) = wc.map some) (hR : isR.map (fun i => ws[i]?) = wr.map some) (hnc : va_nd isC = true) (hn : va_nd isR = true) (hdis : ∀ i ∈ isR, i ∉ isC) (hpm : ∀ as, pm.map (fun i => (wr ++ w1 as)[i]?) = (ws2 as).map some) (hpn : va_nd pm = true)
    (q0 ci : Nat) {fs : List Value} {q : vw_C} (he : ws[q0]? = some (b, .inr (ci, fs))) (hc : vwCl[ci]? = some q) (hqC : q.1 = C)
    (hst0 : st0 = As.reverse ++ .ref b :: rest) (hst1 : ∀ as, (v as).toList ++ rest = st1 as) (hAn : As.length = n) (hl : ls.size = nL) (hW : (rest.map fun v => v.category).sum ≤ 8)
    (hdg : decode cc pc = .ok (.invokevirtual index, 3)) (hf : cells + mc ≤ R.cells ∧ slots + ms ≤ R.slots)
    (kk : ∀ (as : Nat → Nat) (H1 : Heap) (locs1 : List Loc), va_P D vwCl (ws2 as) H1 → va_D A0 (ws2 as) → va_S A0 H0 H1 locs1 → W p l e R s m args below meth c H1 locs1 (cells + mc) (slots + ms) Q (F0 m (pc + 3) ls (st1 as))) : W p l e R s m args below meth c H locs cells slots Q (F0 m pc ls st0) := by
  subst hst0; subst hqC
  exact gq_go hP hD hS hA isC isR pm hC hR hn hdis hpm hpn (va_runU S hM cw ⟨gq_blind, va_recv hK hP hc he, fun U hU hW => ⟨rfl, by rw [hU], by rw [hU]; exact gq_sub hP isC hC, va_K.moved hW.alike hK, (hD.sub isC hnc hC).weaken (fun _ _ _ _ => trivial)⟩⟩ rfl hAn hl rfl (lv_room hW) hdg hf) (fun as H1 locs1 h1 h2 h3 => by rw [hst1 as]; exact kk as H1 locs1 h1 h2 h3)
theorem gqE_U {G : eG} {y : MethodName} {bytes cc : ByteArray} {maxL nL n index mc ms : Nat} {ret : Option FieldType} {wsm : List Cond} {rm : Room} {Ts : List Cond} {own C owner : String} {x : MethodName} {b : Addr} {As rest st0 : List Value} {pc : Nat} {ls : Array Slot} {D : va_G} {cA : Nat → ClassId} {A0 : Nat → Prop} {ws wc wr : va_W} {w1 ws2 : (Nat → Nat) → va_W} {v : (Nat → Nat) → Option Value} {st1 : (Nat → Nat) → List Value}
    (S : CallFix p m c cc nL s args Ts own) (hK : va_K D vwCl (atys cA) s) (hP : va_P D vwCl ws H) (hD : va_D A0 ws) (hS : va_S A0 s.heap H locs) (hA : ∀ q : Nat, s.heap.size ≤ q → A0 q) (hEV : eX G A0 s s.heap)
    (hM : Met l y wsm rm (va_Pc (.ref b :: As) (gqEB G D cA wc H.size)) (gqQ D v w1 (va_A wc H.size)) mc ms (va_A wc H.size))
    (cw : va_CU R s args own C owner index x y bytes maxL ret wsm rm mc ms n) (isC isR pm : List Nat) (hC : isC.map (fun i => ws[i]?) = wc.map some) (hR : isR.map (fun i => ws[i]?) = wr.map some) (hnc : va_nd isC = true) (hn : va_nd isR = true) (hdis : ∀ i ∈ isR, i ∉ isC) (hpm : ∀ as, pm.map (fun i => (wr ++ w1 as)[i]?) = (ws2 as).map some) (hpn : va_nd pm = true)
    (q0 ci : Nat) {fs : List Value} {q : vw_C} (he : ws[q0]? = some (b, .inr (ci, fs))) (hc : vwCl[ci]? = some q) (hqC : q.1 = C)
    (hst0 : st0 = As.reverse ++ .ref b :: rest) (hst1 : ∀ as, (v as).toList ++ rest = st1 as) (hAn : As.length = n) (hl : ls.size = nL) (hW : (rest.map fun v => v.category).sum ≤ 8)
    (hdg : decode cc pc = .ok (.invokevirtual index, 3)) (hf : cells + mc ≤ R.cells ∧ slots + ms ≤ R.slots)
    (kk : ∀ (as : Nat → Nat) (H1 : Heap) (locs1 : List Loc), va_P D vwCl (ws2 as) H1 → va_D A0 (ws2 as) → va_S A0 s.heap H1 locs1 → W p l e R s m args below meth c H1 locs1 (cells + mc) (slots + ms) Q (F0 m (pc + 3) ls (st1 as))) : W p l e R s m args below meth c H locs cells slots Q (F0 m pc ls st0) := by
  subst hst0; subst hqC
  exact gq_go hP hD hS hA isC isR pm hC hR hn hdis hpm hpn (va_runU S hM cw ⟨gqE_blind, va_recv hK hP hc he, fun U hU hW => ⟨rfl, ⟨by rw [hU], by rw [hU]; exact gq_sub hP isC hC, va_K.moved hW.alike hK, (hD.sub isC hnc hC).weaken (fun _ _ _ _ => trivial)⟩, by rw [hU]; exact hEV.to hW hS.2.1 (va_free hD hS hA isC hC)⟩⟩ rfl hAn hl rfl (lv_room hW) hdg hf) (fun as H1 locs1 h1 h2 h3 => by rw [hst1 as]; exact kk as H1 locs1 h1 h2 h3)
theorem rq_P {y : MethodName} {bytes cc : ByteArray} {maxL nL n index : Nat} {ret : Option FieldType} {wsm : List Cond} {rm : Room} {Ts : List Cond} {own C : String} {b : Addr} {As rest st0 st1 : List Value} {pc : Nat} {ls : Array Slot} {D : va_G} {cA : Nat → ClassId} {ws wc : va_W} {v : Option Value}
    (S : CallFix p m c cc nL s args Ts own) (hK : va_K D vwCl (atys cA) s) (hP : va_P D vwCl ws H) (hM : Met l y wsm rm (va_Pc (.ref b :: As) (rqB D cA wc)) (rqQ v) 0 0 (fun _ => False))
    (cw : va_CS R s args own index y bytes maxL ret wsm rm 0 0 n) (is : List Nat) (hs : is.filterMap (fun i => ws[i]?) = wc)
    (q0 ci : Nat) {fs : List Value} {q : vw_C} (he : ws[q0]? = some (b, .inr (ci, fs))) (hc : vwCl[ci]? = some q) (hqC : q.1 = C)
    (hst0 : st0 = As.reverse ++ .ref b :: rest) (hst1 : v.toList ++ rest = st1) (hn : As.length = n) (hl : ls.size = nL) (hW : (rest.map fun v => v.category).sum ≤ 8)
    (hdg : decode cc pc = .ok (.invokespecial index, 3)) (hf : cells ≤ R.cells ∧ slots ≤ R.slots)
    (kk : W p l e R s m args below meth c H locs cells slots Q (F0 m (pc + 3) ls st1)) : W p l e R s m args below meth c H locs cells slots Q (F0 m pc ls st0) := by
  subst hst0; subst hst1; subst hqC
  exact rq_go (va_runSU (hK.1 ci q hc).2 S hM cw ⟨rq_blind, va_recv hK hP hc he, fun U hU hW => ⟨rfl, by rw [hU]; exact hP.sub is hs, va_K.moved hW.alike hK⟩⟩ rfl hn hl rfl (lv_room hW) hdg hf) kk
theorem rqE_P {G : eG} {A0 : Nat → Prop} {y : MethodName} {bytes cc : ByteArray} {maxL nL n index : Nat} {ret : Option FieldType} {wsm : List Cond} {rm : Room} {Ts : List Cond} {own C : String} {b : Addr} {As rest st0 st1 : List Value} {pc : Nat} {ls : Array Slot} {D : va_G} {cA : Nat → ClassId} {ws wc : va_W} {v : Option Value}
    (S : CallFix p m c cc nL s args Ts own) (hK : va_K D vwCl (atys cA) s) (hP : va_P D vwCl ws H) (hS : va_S A0 s.heap H locs) (hEV : eX G A0 s s.heap) (hM : Met l y wsm rm (va_Pc (.ref b :: As) (rqEB G D cA wc)) (rqQ v) 0 0 (fun _ => False))
    (cw : va_CS R s args own index y bytes maxL ret wsm rm 0 0 n) (is : List Nat) (hs : is.filterMap (fun i => ws[i]?) = wc)
    (q0 ci : Nat) {fs : List Value} {q : vw_C} (he : ws[q0]? = some (b, .inr (ci, fs))) (hc : vwCl[ci]? = some q) (hqC : q.1 = C)
    (hst0 : st0 = As.reverse ++ .ref b :: rest) (hst1 : v.toList ++ rest = st1) (hn : As.length = n) (hl : ls.size = nL) (hW : (rest.map fun v => v.category).sum ≤ 8)
    (hdg : decode cc pc = .ok (.invokespecial index, 3)) (hf : cells ≤ R.cells ∧ slots ≤ R.slots)
    (kk : W p l e R s m args below meth c H locs cells slots Q (F0 m (pc + 3) ls st1)) : W p l e R s m args below meth c H locs cells slots Q (F0 m pc ls st0) := by
  subst hst0; subst hst1; subst hqC
  exact rq_go (va_runSU (hK.1 ci q hc).2 S hM cw ⟨rqE_blind, va_recv hK hP hc he, fun U hU hW => ⟨rfl, ⟨by rw [hU]; exact hP.sub is hs, va_K.moved hW.alike hK⟩, by rw [hU]; exact hEV.to hW hS.2.1 (fun _ h => h.elim)⟩⟩ rfl hn hl rfl (lv_room hW) hdg hf) kk
theorem gq_P {y : MethodName} {bytes cc : ByteArray} {maxL nL n index mc ms : Nat} {ret : Option FieldType} {wsm : List Cond} {rm : Room} {Ts : List Cond} {own C : String} {b : Addr} {As rest st0 : List Value} {pc : Nat} {ls : Array Slot} {D : va_G} {cA : Nat → ClassId} {A0 : Nat → Prop} {H0 : Heap} {ws wc wr : va_W} {w1 ws2 : (Nat → Nat) → va_W} {v : (Nat → Nat) → Option Value} {st1 : (Nat → Nat) → List Value}
    (S : CallFix p m c cc nL s args Ts own) (hK : va_K D vwCl (atys cA) s) (hP : va_P D vwCl ws H) (hD : va_D A0 ws) (hS : va_S A0 H0 H locs) (hA : ∀ q, H0.size ≤ q → A0 q)
    (hM : Met l y wsm rm (va_Pc (.ref b :: As) (gqB D cA wc H.size)) (gqQ D v w1 (va_A wc H.size)) mc ms (va_A wc H.size))
    (cw : va_CS R s args own index y bytes maxL ret wsm rm mc ms n) (isC isR pm : List Nat) (hC : isC.map (fun i => ws[i]?) = wc.map some) (hR : isR.map (fun i => ws[i]?) = wr.map some) (hnc : va_nd isC = true) (hn : va_nd isR = true) (hdis : ∀ i ∈ isR, i ∉ isC) (hpm : ∀ as, pm.map (fun i => (wr ++ w1 as)[i]?) = (ws2 as).map some) (hpn : va_nd pm = true)
    (q0 ci : Nat) {fs : List Value} {q : vw_C} (he : ws[q0]? = some (b, .inr (ci, fs))) (hc : vwCl[ci]? = some q) (hqC : q.1 = C)
    (hst0 : st0 = As.reverse ++ .ref b :: rest) (hst1 : ∀ as, (v as).toList ++ rest = st1 as) (hAn : As.length = n) (hl : ls.size = nL) (hW : (rest.map fun v => v.category).sum ≤ 8)
    (hdg : decode cc pc = .ok (.invokespecial index, 3)) (hf : cells + mc ≤ R.cells ∧ slots + ms ≤ R.slots)
    (kk : ∀ (as : Nat → Nat) (H1 : Heap) (locs1 : List Loc), va_P D vwCl (ws2 as) H1 → va_D A0 (ws2 as) → va_S A0 H0 H1 locs1 → W p l e R s m args below meth c H1 locs1 (cells + mc) (slots + ms) Q (F0 m (pc + 3) ls (st1 as))) : W p l e R s m args below meth c H locs cells slots Q (F0 m pc ls st0) := by
  subst hst0; subst hqC
  exact gq_go hP hD hS hA isC isR pm hC hR hn hdis hpm hpn (va_runSU (hK.1 ci q hc).2 S hM cw ⟨gq_blind, va_recv hK hP hc he, fun U hU hW => ⟨rfl, by rw [hU], by rw [hU]; exact gq_sub hP isC hC, va_K.moved hW.alike hK, (hD.sub isC hnc hC).weaken (fun _ _ _ _ => trivial)⟩⟩ rfl hAn hl rfl (lv_room hW) hdg hf) (fun as H1 locs1 h1 h2 h3 => by rw [hst1 as]; exact kk as H1 locs1 h1 h2 h3)
theorem gqE_P {G : eG} {y : MethodName} {bytes cc : ByteArray} {maxL nL n index mc ms : Nat} {ret : Option FieldType} {wsm : List Cond} {rm : Room} {Ts : List Cond} {own C : String} {b : Addr} {As rest st0 : List Value} {pc : Nat} {ls : Array Slot} {D : va_G} {cA : Nat → ClassId} {A0 : Nat → Prop} {ws wc wr : va_W} {w1 ws2 : (Nat → Nat) → va_W} {v : (Nat → Nat) → Option Value} {st1 : (Nat → Nat) → List Value}
    (S : CallFix p m c cc nL s args Ts own) (hK : va_K D vwCl (atys cA) s) (hP : va_P D vwCl ws H) (hD : va_D A0 ws) (hS : va_S A0 s.heap H locs) (hA : ∀ q : Nat, s.heap.size ≤ q → A0 q) (hEV : eX G A0 s s.heap)
    (hM : Met l y wsm rm (va_Pc (.ref b :: As) (gqEB G D cA wc H.size)) (gqQ D v w1 (va_A wc H.size)) mc ms (va_A wc H.size))
    (cw : va_CS R s args own index y bytes maxL ret wsm rm mc ms n) (isC isR pm : List Nat) (hC : isC.map (fun i => ws[i]?) = wc.map some) (hR : isR.map (fun i => ws[i]?) = wr.map some) (hnc : va_nd isC = true) (hn : va_nd isR = true) (hdis : ∀ i ∈ isR, i ∉ isC) (hpm : ∀ as, pm.map (fun i => (wr ++ w1 as)[i]?) = (ws2 as).map some) (hpn : va_nd pm = true)
    (q0 ci : Nat) {fs : List Value} {q : vw_C} (he : ws[q0]? = some (b, .inr (ci, fs))) (hc : vwCl[ci]? = some q) (hqC : q.1 = C)
    (hst0 : st0 = As.reverse ++ .ref b :: rest) (hst1 : ∀ as, (v as).toList ++ rest = st1 as) (hAn : As.length = n) (hl : ls.size = nL) (hW : (rest.map fun v => v.category).sum ≤ 8)
    (hdg : decode cc pc = .ok (.invokespecial index, 3)) (hf : cells + mc ≤ R.cells ∧ slots + ms ≤ R.slots)
    (kk : ∀ (as : Nat → Nat) (H1 : Heap) (locs1 : List Loc), va_P D vwCl (ws2 as) H1 → va_D A0 (ws2 as) → va_S A0 s.heap H1 locs1 → W p l e R s m args below meth c H1 locs1 (cells + mc) (slots + ms) Q (F0 m (pc + 3) ls (st1 as))) : W p l e R s m args below meth c H locs cells slots Q (F0 m pc ls st0) := by
  subst hst0; subst hqC
  exact gq_go hP hD hS hA isC isR pm hC hR hn hdis hpm hpn (va_runSU (hK.1 ci q hc).2 S hM cw ⟨gqE_blind, va_recv hK hP hc he, fun U hU hW => ⟨rfl, ⟨by rw [hU], by rw [hU]; exact gq_sub hP isC hC, va_K.moved hW.alike hK, (hD.sub isC hnc hC).weaken (fun _ _ _ _ => trivial)⟩, by rw [hU]; exact hEV.to hW hS.2.1 (va_free hD hS hA isC hC)⟩⟩ rfl hAn hl rfl (lv_room hW) hdg hf) (fun as H1 locs1 h1 h2 h3 => by rw [hst1 as]; exact kk as H1 locs1 h1 h2 h3)
theorem rqE_T {G : eG} {A0 : Nat → Prop} {y : MethodName} {bytes cc : ByteArray} {maxL nL n index : Nat} {ret : Option FieldType} {wsm : List Cond} {rm : Room} {Ts : List Cond} {own : String} {k : Nat} {As rest st0 st1 : List Value} {pc : Nat} {ls : Array Slot} {D : va_G} {cA : Nat → ClassId} {ws wc : va_W} {v : Option Value}
    (S : CallFix p m c cc nL s args Ts own) (hK : va_K D vwCl (atys cA) s) (hP : va_P D vwCl ws H) (hS : va_S A0 s.heap H locs) (hEV : eX G A0 s s.heap) (hM : Met l y wsm rm (va_Pc (.ref (G.1 k) :: As) (rqEB G D cA wc)) (rqQ v) 0 0 (fun _ => False))
    (cw : CallW R s args own "java/lang/String" index y bytes maxL ret wsm rm 0 0 n) (is : List Nat) (hs : is.filterMap (fun i => ws[i]?) = wc)
    (hk : k < 24)
    (hst0 : st0 = As.reverse ++ .ref (G.1 k) :: rest) (hst1 : v.toList ++ rest = st1) (hn : As.length = n) (hl : ls.size = nL) (hW : (rest.map fun v => v.category).sum ≤ 8)
    (hdg : decode cc pc = .ok (.invokevirtual index, 3)) (hf : cells ≤ R.cells ∧ slots ≤ R.slots)
    (kk : W p l e R s m args below meth c H locs cells slots Q (F0 m (pc + 3) ls st1)) : W p l e R s m args below meth c H locs cells slots Q (F0 m pc ls st0) := by
  subst hst0; subst hst1
  exact rq_go (va_runV S hM cw ⟨rqE_blind, vk_recv hEV.2.2.2.2.2.2.2.1 hk hS, fun U hU hW => ⟨rfl, ⟨by rw [hU]; exact hP.sub is hs, va_K.moved hW.alike hK⟩, by rw [hU]; exact hEV.to hW hS.2.1 (fun _ h => h.elim)⟩⟩ rfl hn hl rfl (lv_room hW) hdg hf) kk
theorem gx_newa {D : va_G} {tys : List (ClassId × FieldType)} {A : Nat → Prop} {H0 : Heap} {ws : va_W} {cc : ByteArray} {pc : Nat} {ls : Array Slot} {rest : List Value} (hexec : p.tables.exec = Jvm.exec) (hb : c.code = cc) {atype : ArrayType} (harr : (Cond.arrayClass (newarray.typeOf atype)).before args s = true) {ty : FieldType} (hty : newarray.typeOf atype = ty) (hK : va_K D vwCl tys s) (hP : va_P D vwCl ws H) (hD : va_D A ws) (hS : va_S A H0 H locs) (hA : ∀ q, H0.size ≤ q → A q) (i : Nat) {cI : ClassId} (hi : tys[i]? = some (cI, ty))
    {n : Int32} {N' : Nat} {a0 : vp_A} (ha : ∀ cA : ClassId, vp_cell cA a0 = arrV cA N' (fun _ => defaultValue ty)) (hn : ¬ n < 0) (hN : n.toNatClampNeg = N') (hbytes : N' * componentBytes ty ≤ 536870912) (hcells : cells + 1 ≤ R.cells) (hslots : slots + N' ≤ R.slots) (hdg : decode cc pc = .ok (.newarray atype, 2))
    (kk : ∀ (q : Nat) (H1 : Heap), va_P D vwCl (ws ++ [(q, .inl (cI, a0))]) H1 → va_D A (ws ++ [(q, .inl (cI, a0))]) → va_S A H0 H1 locs →
      W p l e R s m args below meth c H1 locs (cells + 1) (slots + N') Q (F0 m (pc + 2) ls (.ref q :: rest))) : W p l e R s m args below meth c H locs cells slots Q (F0 m pc ls (.int n :: rest)) := by
  subst hty
  refine va_newaK hexec hb harr rfl hdg rfl hn hN hbytes hcells hslots rfl fun H1 cA e1 z1 o1 hAr hNm => ?_
  have e9 : cA = cI := by
    have h1 := (hK.2 i _ hi).2
    have h2 : s.vm.findClass ("[" ++ (newarray.typeOf atype).toString) = some cI := by cases atype <;> exact h1
    exact Option.some.inj (hNm.symm.trans h2)
  subst e9
  have hk : ∀ (k : Nat) (x : Nat × va_E), ws[k]? = some x → H1[x.1]? = H[x.1]? := fun k x hx => o1 x.1 ((hP k x hx).lt)
  refine kk H.size H1 ((hP.kept hk).app (fun k x hx => ?_)) (hD.push hP rfl (hA _ hS.1)) ⟨Nat.le_trans hS.1 (by omega), fun x h1 h2 => (o1 x (Nat.lt_of_lt_of_le h1 hS.1)).trans (hS.2.1 x h1 h2), hS.2.2⟩
  have hz : k < 1 := (List.getElem?_eq_some_iff.mp hx).1
  rw [show k = 0 by omega] at hx
  cases hx
  show H1[H.size]? = some (vp_cell _ _)
  rw [ha]
  exact e1
end TLU
theorem shl0 (x : Int32) : x <<< ((0 : Int32) &&& 31) = x := sb_shl0 x
theorem shr0 (x : Int32) : x >>> ((0 : Int32) &&& 31) = x := sb_shr0 x
