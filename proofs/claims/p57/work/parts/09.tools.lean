/-! what the functions out of the bytecode are made of -/
/-- a guard: without it there is no answer -/
noncomputable def gd {α : Type} (P : Prop) (x : Option α) : Option α := @ite _ P (Classical.propDecidable P) x none
def bnd {α β : Type} (x : Option α) (k : α → Option β) : Option β := match x with | none => none | some a => k a
def lt_ {α β : Type} (x : α) (k : α → β) : β := k x
def irm (x y : Int32) : Int32 := x - x / y * y
def imax (x y : Int32) : Int32 := if x < y then y else x
def imin (x y : Int32) : Int32 := if y < x then y else x
def iabs (x : Int32) : Int32 := if 0 ≤ x then x else 0 - x
def i2c (x : Int32) : Int32 := (x.toUInt32 % 65536).toInt32
def i2b (x : Int32) : Int32 := x.toInt8.toInt32
theorem gd_i {α : Type} {P : Prop} {x : Option α} {r : α} (h : gd P x = some r) : P ∧ x = some r := by
  unfold gd at h
  by_cases c : P
  · rw [if_pos c] at h; exact ⟨c, h⟩
  · rw [if_neg c] at h; cases h
theorem gd_p {α : Type} {P : Prop} {x : Option α} (c : P) : gd P x = x := by unfold gd; rw [if_pos c]
theorem bnd_i {α β : Type} {x : Option α} {k : α → Option β} {r : β} (h : bnd x k = some r) : ∃ o, x = some o ∧ k o = some r := by
  cases x with
  | none => cases h
  | some a => exact ⟨a, rfl, h⟩
theorem bnd_s {α β : Type} {x : Option α} {k : α → Option β} {o : α} (h : x = some o) : bnd x k = k o := by rw [h]; rfl
theorem lt_i {α β : Type} {x : α} {k : α → β} {r : β} (h : lt_ x k = r) : ∃ o, x = o ∧ k o = r := ⟨x, rfl, h⟩
theorem lt_e {α β : Type} {x : α} {k : α → β} {r : β} (h : lt_ x k = r) : ∀ y, y = x → k y = r := by intro y e; subst e; exact h
theorem ite_t {α : Type} {P : Prop} {i : Decidable P} {a b r : α} (c : P) (h : @ite α P i a b = r) : a = r := by rw [if_pos c] at h; exact h
theorem ite_f {α : Type} {P : Prop} {i : Decidable P} {a b r : α} (c : ¬ P) (h : @ite α P i a b = r) : b = r := by rw [if_neg c] at h; exact h
theorem nn {α : Type} {r : α} {P : Prop} (h : none = some r) : P := by cases h
theorem ne0_a {y : Int32} (h : ¬ y < 1) : ¬ y = 0 := fun e => h (by rw [e]; decide)
theorem ne0_b {y : Int32} (h : 1 ≤ y) : ¬ y = 0 := fun e => absurd h (by rw [e]; decide)
theorem vin (i : Int32) (n : Nat) (h : ¬ (i < 0 ∨ n ≤ i.toNatClampNeg)) : vp_in i n := h
theorem vin_a {i : Int32} {n : Nat} (h0 : ¬ i < 0) (h1 : i < nI n) (hn : n < 2147483648) : vp_in i n := by
  rw [vp_in_iff]
  rw [Int32.lt_iff_toInt_lt] at h0 h1
  rw [nI_toInt hn] at h1
  have e : (0 : Int32).toInt = 0 := by decide
  omega
theorem vin_b {i : Int32} {n : Nat} (h0 : ¬ i < 0) (h1 : ¬ nI n ≤ i) (hn : n < 2147483648) : vp_in i n := by
  refine vin_a h0 ?_ hn
  rw [Int32.lt_iff_toInt_lt]
  rw [Int32.le_iff_toInt_le] at h1
  omega
section TLP
variable {p : Program} {l : Launch} {e : Env} {R : Room} {s : State} {m : MethodId} {args : Array Value} {below : List Frame} {meth : Method} {c : Code} {H : Heap} {locs : List Loc} {cells slots : Nat} {Q : State → Prop}
theorem lv_topi' {pc : Nat} {ls : Array Slot} {rest : List Value} {x y : Int32} (h : x = y) (k : W p l e R s m args below meth c H locs cells slots Q (F0 m pc ls (.int y :: rest))) : W p l e R s m args below meth c H locs cells slots Q (F0 m pc ls (.int x :: rest)) := by subst h; exact k
end TLP
/-! contracts of three kinds over the kit's rows: reading (the heap stays as it is), writing (a world comes back changed) and throwing; a row for a call of each -/
abbrev atys (cA : Nat → ClassId) : List (ClassId × FieldType) := [(cA 0, .int), (cA 1, .byte), (cA 2, .array .int), (cA 3, .long)]
/-- a reading method's start -/
def rqB (D : va_G) (cA : Nat → ClassId) (ws : va_W) (U : State) : Prop := va_P D vwCl ws U.heap ∧ va_K D vwCl (atys cA) U
/-- .. and its end -/
def rqQ (v : Option Value) : Array Value → State → Outcome → State → Prop := fun _ st o t => o = .returned v ∧ t.heap = st.heap
theorem rq_blind {As : List Value} {D : va_G} {cA : Nat → ClassId} {ws : va_W} : FrameBlind (va_Pc As (rqB D cA ws)) := fun a U g mk q => ⟨q.1, q.2.1, va_K.moved (u := U) (U := U.calling g mk a) (Vm.Alike.refl U.vm) q.2.2⟩
/-- what a return instruction hands back -/
def rtn (ret : Option FieldType) (i : Instr) (v : Option Value) : Prop :=
  (v = none ∧ ret = none ∧ i = .return_) ∨ (∃ (x : Int32) (ty : FieldType), v = some (.int x) ∧ ret = some ty ∧ narrow ty (.int x) = .int x ∧ i = .ireturn) ∨
  (∃ (a : Nat) (rt : FieldType), v = some (.ref a) ∧ ret = some rt ∧ ((∃ n, rt = .object n) ∨ ∃ t, rt = .array t) ∧ i = .areturn) ∨
  (∃ x : UInt64, v = some (.double x) ∧ ret = some .double ∧ i = .dreturn) ∨ (∃ x : UInt32, v = some (.float x) ∧ ret = some .float ∧ i = .freturn) ∨ (∃ x : Int64, v = some (.long x) ∧ ret = some .long ∧ i = .lreturn)
theorem rtn_i (x : Int32) : rtn (some .int) .ireturn (some (.int x)) := Or.inr (Or.inl ⟨x, .int, rfl, rfl, rfl, rfl⟩)
theorem rtn_n {ty : FieldType} {x : Int32} (h : narrow ty (.int x) = .int x) : rtn (some ty) .ireturn (some (.int x)) := Or.inr (Or.inl ⟨x, ty, rfl, rfl, h, rfl⟩)
theorem rtn_v : rtn none .return_ none := Or.inl ⟨rfl, rfl, rfl⟩
theorem rtn_a (n : String) (a : Nat) : rtn (some (.object n)) .areturn (some (.ref a)) := Or.inr (Or.inr (Or.inl ⟨a, _, rfl, rfl, Or.inl ⟨n, rfl⟩, rfl⟩))
theorem rtn_ar (t : FieldType) (a : Nat) : rtn (some (.array t)) .areturn (some (.ref a)) := Or.inr (Or.inr (Or.inl ⟨a, _, rfl, rfl, Or.inr ⟨t, rfl⟩, rfl⟩))
theorem rtn_d (x : UInt64) : rtn (some .double) .dreturn (some (.double x)) := Or.inr (Or.inr (Or.inr (Or.inl ⟨x, rfl, rfl, rfl⟩)))
theorem rtn_f (x : UInt32) : rtn (some .float) .freturn (some (.float x)) := Or.inr (Or.inr (Or.inr (Or.inr (Or.inl ⟨x, rfl, rfl, rfl⟩))))
theorem rtn_l (x : Int64) : rtn (some .long) .lreturn (some (.long x)) := Or.inr (Or.inr (Or.inr (Or.inr (Or.inr ⟨x, rfl, rfl, rfl⟩))))
theorem rtn_b {c : Prop} [Decidable c] : narrow .boolean (.int (if c then 1 else 0)) = .int (if c then 1 else 0) := by split <;> rfl
section TLA
variable {p : Program} {l : Launch} {e : Env} {R : Room} {s : State} {m : MethodId} {args : Array Value} {below : List Frame} {meth : Method} {c : Code} {H : Heap} {locs : List Loc} {cells slots : Nat} {Q : State → Prop}
theorem rtn_end {Qc : Array Value → State → Outcome → State → Prop} {free : Addr → Prop} {cc : ByteArray} {pc : Nat} {ls : Array Slot} {ret : Option FieldType} {i : Instr} {v : Option Value} (hx : p.tables.exec = Jvm.exec) (hb : c.code = cc) (hr : meth.sig.returnType = ret) (hlk : meth.locks = false) (h : rtn ret i v)
    (hq : ∀ t : State, t.heap = H → s.WarmedH t.vm → Qc args s (.returned v) t) (hf : ∀ q ∈ locs, free q.base) (hdg : decode cc pc = .ok (i, 1)) : W p l e R s m args below meth c H locs cells slots (MQ below Qc args s cells slots free) (F0 m pc ls v.toList) := by
  rcases h with ⟨rfl, rfl, rfl⟩ | ⟨x, ty, rfl, rfl, hn, rfl⟩ | ⟨a, rt, rfl, rfl, hrt, rfl⟩ | ⟨x, rfl, rfl, rfl⟩ | ⟨x, rfl, rfl, rfl⟩ | ⟨x, rfl, rfl, rfl⟩
  · exact W.vret hx hb hr hq hf hdg hlk
  · exact W.zret hx hb hr hn hq hf hdg hlk
  · exact W.aret hx hb hr hrt (Or.inr ⟨a, rfl⟩) hq hf hdg hlk
  · exact W.dret hx hb hr hq hf hdg hlk
  · exact W.fret hx hb hr hq hf hdg hlk
  · exact W.lret hx hb hr hq hf hdg hlk
theorem rq_go {pc : Nat} {ls : Array Slot} {st0 rest : List Value} {a : Array Value} {v : Option Value} (hr : va_Run p l e R s m args below meth c H locs cells slots 0 0 (F0 m pc ls st0) rest (rqQ v a) (fun _ => False))
    (kk : W p l e R s m args below meth c H locs cells slots Q (F0 m (pc + 3) ls (v.toList ++ rest))) : W p l e R s m args below meth c H locs cells slots Q (F0 m pc ls st0) := by
  intro T hT X
  obtain ⟨v', st₀, t, T', L, h0, X', hL, e1, e2, ⟨hv, hh⟩, st⟩ := hr T hT X
  cases hv
  have hLn : L = [] := by
    cases L with
    | nil => rfl
    | cons x L => exact absurd (hL x List.mem_cons_self) id
  subst hLn
  rw [List.append_nil] at X'
  obtain ⟨t2, a1, b1⟩ := kk T' (by rw [e1, hh, h0]) X'
  exact ⟨t2, st t2 a1, b1⟩
/-- a reading instance method -/
theorem rq_V {y : MethodName} {bytes cc : ByteArray} {maxL nL n index : Nat} {ret : Option FieldType} {wsm : List Cond} {rm : Room} {Ts : List Cond} {own C : String} {b : Addr} {As rest st0 st1 : List Value} {pc : Nat} {ls : Array Slot} {D : va_G} {cA : Nat → ClassId} {ws wc : va_W} {v : Option Value}
    (S : CallFix p m c cc nL s args Ts own) (hK : va_K D vwCl (atys cA) s) (hP : va_P D vwCl ws H) (hM : Met l y wsm rm (va_Pc (.ref b :: As) (rqB D cA wc)) (rqQ v) 0 0 (fun _ => False))
    (cw : CallW R s args own C index y bytes maxL ret wsm rm 0 0 n) (is : List Nat) (hs : is.filterMap (fun i => ws[i]?) = wc)
    (q0 ci : Nat) {fs : List Value} {q : vw_C} (he : ws[q0]? = some (b, .inr (ci, fs))) (hc : vwCl[ci]? = some q) (hqC : q.1 = C)
    (hst0 : st0 = As.reverse ++ .ref b :: rest) (hst1 : v.toList ++ rest = st1) (hn : As.length = n) (hl : ls.size = nL) (hW : (rest.map fun v => v.category).sum ≤ 8)
    (hdg : decode cc pc = .ok (.invokevirtual index, 3)) (hf : cells ≤ R.cells ∧ slots ≤ R.slots)
    (kk : W p l e R s m args below meth c H locs cells slots Q (F0 m (pc + 3) ls st1)) : W p l e R s m args below meth c H locs cells slots Q (F0 m pc ls st0) := by
  subst hst0; subst hst1; subst hqC
  exact rq_go (va_runV S hM cw ⟨rq_blind, va_recv hK hP hc he, fun U hU hW => ⟨rfl, by rw [hU]; exact hP.sub is hs, va_K.moved hW.alike hK⟩⟩ rfl hn hl rfl (lv_room hW) hdg hf) kk
/-- a reading static method -/
theorem rq_S {y : MethodName} {bytes cc : ByteArray} {maxL nL n index : Nat} {ret : Option FieldType} {wsm : List Cond} {rm : Room} {Ts : List Cond} {own : String} {As rest st0 st1 : List Value} {pc : Nat} {ls : Array Slot} {D : va_G} {cA : Nat → ClassId} {ws wc : va_W} {v : Option Value}
    (S : CallFix p m c cc nL s args Ts own) (hK : va_K D vwCl (atys cA) s) (hP : va_P D vwCl ws H) (hM : Met l y wsm rm (va_Pc As (rqB D cA wc)) (rqQ v) 0 0 (fun _ => False))
    (cw : CallB R s args own index y bytes maxL ret wsm rm 0 0 n ∧ (Cond.static y).before args s = true) (is : List Nat) (hs : is.filterMap (fun i => ws[i]?) = wc)
    (hst0 : st0 = As.reverse ++ rest) (hst1 : v.toList ++ rest = st1) (hn : As.length = n) (hl : ls.size = nL) (hW : (rest.map fun v => v.category).sum ≤ 8)
    (hdg : decode cc pc = .ok (.invokestatic index, 3)) (hf : cells ≤ R.cells ∧ slots ≤ R.slots)
    (kk : W p l e R s m args below meth c H locs cells slots Q (F0 m (pc + 3) ls st1)) : W p l e R s m args below meth c H locs cells slots Q (F0 m pc ls st0) := by
  subst hst0; subst hst1
  exact rq_go (va_runS S hM cw ⟨rq_blind, fun U hU hW => ⟨rfl, by rw [hU]; exact hP.sub is hs, va_K.moved hW.alike hK⟩⟩ rfl hn hl rfl (lv_room hW) hdg hf) kk
end TLA
/-- a reading method's body; Q: what it owes, given back by the last row -/
theorem rq_ofW {l : Launch} {y : MethodName} {ws ws' : List Cond} {rm : Room} {As : List Value} {D : va_G} {cA : Nat → ClassId} {wc : va_W} {v : Option Value} {cc : ByteArray} {maxL : Nat} {ret : Option FieldType} (hy : plainName y.cls = true) (hw : ws = Cond.code y cc maxL ret :: ws') (hsl : (lg_sl As).length ≤ maxL)
    (body : ∀ (p : Program) (e : Env) (s : State) (m : MethodId) (args : Array Value) (below : List Frame) (meth : Method) (c : Code) (ls : Array Slot) (Q : State → Prop), p.tables.exec = Jvm.exec → c.code = cc → c.maxLocals = maxL → (∀ w ∈ ws, w.before args s = true) → s.vm.findClass y.cls = some m.cls → va_K D vwCl (atys cA) s → va_P D vwCl wc s.heap → lv_has ls maxL (lv_args 0 As) →
      (∀ (i : Instr) (v' : Option Value) (pc : Nat) (ls : Array Slot), v' = v → rtn ret i v' → decode cc pc = .ok (i, 1) → W p l e rm s m args below meth c s.heap [] 0 0 Q (F0 m pc ls v'.toList)) →
      W p l e rm s m args below meth c s.heap [] 0 0 Q (F0 m 0 ls [])) : Met l y ws rm (va_Pc As (rqB D cA wc)) (rqQ v) 0 0 (fun _ => False) := by
  refine Met.ofW (cc := cc) (maxL := maxL) (ret := ret) hy hw ?_
  intro p e s m args below meth c s₁ B hml hv
  obtain ⟨rfl, hP, hK⟩ := hv
  have hl := lv_entry As hsl
  rw [lg_entry_eq]
  refine body p e s m _ below meth c _ _ B.exec B.bytes hml (atoms_spec (ws := ws) B.pre) (findClass_of_methodNamed B.named) hK hP hl (fun i v' pc ls hv hrt hdg => ?_)
  subst hv
  exact rtn_end B.exec B.bytes B.returns B.notSynchronized hrt (fun t ht _ => ⟨rfl, ht⟩) (fun _ h => absurd h List.not_mem_nil) hdg
/-! writing methods -/
def gqB (D : va_G) (cA : Nat → ClassId) (ws : va_W) (sz : Nat) (U : State) : Prop := U.heap.size = sz ∧ va_P D vwCl ws U.heap ∧ va_K D vwCl (atys cA) U ∧ va_D (fun _ => True) ws
/-- .. what it gives back and the cells behind it, by the addresses `as` that it names -/
def gqQ (D : va_G) (v : (Nat → Nat) → Option Value) (w1 : (Nat → Nat) → va_W) (A : Nat → Prop) : Array Value → State → Outcome → State → Prop := fun _ st o t => ∃ as : Nat → Nat, o = .returned (v as) ∧ va_P D vwCl (w1 as) t.heap ∧ va_D A (w1 as) ∧ va_F A st t
def adr (l : List Nat) (k : Nat) : Nat := l.getD k 0
theorem gq_blind {As : List Value} {D : va_G} {cA : Nat → ClassId} {ws : va_W} {sz : Nat} : FrameBlind (va_Pc As (gqB D cA ws sz)) := fun a U g mk q => ⟨q.1, q.2.1, q.2.2.1, va_K.moved (u := U) (U := U.calling g mk a) (Vm.Alike.refl U.vm) q.2.2.2.1, q.2.2.2.2⟩
theorem gq_sub {D : va_G} {ws wc : va_W} {H : Heap} (hP : va_P D vwCl ws H) (is : List Nat) (hC : is.map (fun i => ws[i]?) = wc.map some) : va_P D vwCl wc H := by
  intro k q hk
  have h1 : (is.map (fun i => ws[i]?))[k]? = some (some q) := by rw [hC, List.getElem?_map, hk]; rfl
  rw [List.getElem?_map] at h1
  cases hi : is[k]? with
  | none => rw [hi] at h1; cases h1
  | some i => rw [hi] at h1; exact hP i q (Option.some.inj h1)
section TLB
variable {p : Program} {l : Launch} {e : Env} {R : Room} {s : State} {m : MethodId} {args : Array Value} {below : List Frame} {meth : Method} {c : Code} {H : Heap} {locs : List Loc} {cells slots : Nat} {Q : State → Prop}
theorem gq_go {pc mc ms : Nat} {ls : Array Slot} {st0 rest : List Value} {a : Array Value} {v : (Nat → Nat) → Option Value} {D : va_G} {A0 : Nat → Prop} {H0 : Heap} {ws wc wr : va_W} {w1 ws2 : (Nat → Nat) → va_W} (hP : va_P D vwCl ws H) (hD : va_D A0 ws) (hS : va_S A0 H0 H locs) (hA : ∀ q, H0.size ≤ q → A0 q)
    (isC isR pm : List Nat) (hC : isC.map (fun i => ws[i]?) = wc.map some) (hR : isR.map (fun i => ws[i]?) = wr.map some) (hn : va_nd isR = true) (hdis : ∀ i ∈ isR, i ∉ isC) (hpm : ∀ as, pm.map (fun i => (wr ++ w1 as)[i]?) = (ws2 as).map some) (hpn : va_nd pm = true)
    (hr : va_Run p l e R s m args below meth c H locs cells slots mc ms (F0 m pc ls st0) rest (gqQ D v w1 (va_A wc H.size) a) (va_A wc H.size))
    (kk : ∀ (as : Nat → Nat) (H1 : Heap) (locs1 : List Loc), va_P D vwCl (ws2 as) H1 → va_D A0 (ws2 as) → va_S A0 H0 H1 locs1 → W p l e R s m args below meth c H1 locs1 (cells + mc) (slots + ms) Q (F0 m (pc + 3) ls ((v as).toList ++ rest))) : W p l e R s m args below meth c H locs cells slots Q (F0 m pc ls st0) := by
  intro T hT X
  obtain ⟨v', st₀, t, T', L, h0, X', hL, e1, e2, ⟨as, hv, hP1, hD1, hz, hk⟩, st⟩ := hr T hT X
  cases hv
  rw [h0] at hz hk
  have hF := va_free hD hS hA isC hC
  rw [← e1] at hP1 hz hk
  obtain ⟨hP2, hD2⟩ := va_join hP hD isC isR hC hR hn hdis hk hF hP1 hD1
  have hS2 : va_S A0 H0 T'.heap (locs ++ L) := ⟨Nat.le_trans hS.1 hz, fun q h1 h2 => by rw [hk q (Nat.lt_of_lt_of_le h1 hS.1) (fun z => h2 (hF q z))]; exact hS.2.1 q h1 h2, fun q hq => by
    rcases List.mem_append.mp hq with h | h
    · exact hS.2.2 q h
    · exact hF _ (hL q h)⟩
  obtain ⟨t2, a1, b1⟩ := kk as T'.heap (locs ++ L) (gq_sub hP2 pm (hpm as)) (hD2.sub pm hpn (hpm as)) hS2 T' rfl X'
  exact ⟨t2, st t2 a1, b1⟩
/-- a writing instance method -/
theorem gq_V {y : MethodName} {bytes cc : ByteArray} {maxL nL n index mc ms : Nat} {ret : Option FieldType} {wsm : List Cond} {rm : Room} {Ts : List Cond} {own C : String} {b : Addr} {As rest st0 : List Value} {pc : Nat} {ls : Array Slot} {D : va_G} {cA : Nat → ClassId} {A0 : Nat → Prop} {H0 : Heap} {ws wc wr : va_W} {w1 ws2 : (Nat → Nat) → va_W} {v : (Nat → Nat) → Option Value} {st1 : (Nat → Nat) → List Value}
    (S : CallFix p m c cc nL s args Ts own) (hK : va_K D vwCl (atys cA) s) (hP : va_P D vwCl ws H) (hD : va_D A0 ws) (hS : va_S A0 H0 H locs) (hA : ∀ q, H0.size ≤ q → A0 q)
    (hM : Met l y wsm rm (va_Pc (.ref b :: As) (gqB D cA wc H.size)) (gqQ D v w1 (va_A wc H.size)) mc ms (va_A wc H.size))
    (cw : CallW R s args own C index y bytes maxL ret wsm rm mc ms n) (isC isR pm : List Nat) (hC : isC.map (fun i => ws[i]?) = wc.map some) (hR : isR.map (fun i => ws[i]?) = wr.map some) (hnc : va_nd isC = true) (hn : va_nd isR = true) (hdis : ∀ i ∈ isR, i ∉ isC) (hpm : ∀ as, pm.map (fun i => (wr ++ w1 as)[i]?) = (ws2 as).map some) (hpn : va_nd pm = true)
    (q0 ci : Nat) {fs : List Value} {q : vw_C} (he : ws[q0]? = some (b, .inr (ci, fs))) (hc : vwCl[ci]? = some q) (hqC : q.1 = C)
    (hst0 : st0 = As.reverse ++ .ref b :: rest) (hst1 : ∀ as, (v as).toList ++ rest = st1 as) (hAn : As.length = n) (hl : ls.size = nL) (hW : (rest.map fun v => v.category).sum ≤ 8)
    (hdg : decode cc pc = .ok (.invokevirtual index, 3)) (hf : cells + mc ≤ R.cells ∧ slots + ms ≤ R.slots)
    (kk : ∀ (as : Nat → Nat) (H1 : Heap) (locs1 : List Loc), va_P D vwCl (ws2 as) H1 → va_D A0 (ws2 as) → va_S A0 H0 H1 locs1 → W p l e R s m args below meth c H1 locs1 (cells + mc) (slots + ms) Q (F0 m (pc + 3) ls (st1 as))) : W p l e R s m args below meth c H locs cells slots Q (F0 m pc ls st0) := by
  subst hst0; subst hqC
  exact gq_go hP hD hS hA isC isR pm hC hR hn hdis hpm hpn (va_runV S hM cw ⟨gq_blind, va_recv hK hP hc he, fun U hU hW => ⟨rfl, by rw [hU], by rw [hU]; exact gq_sub hP isC hC, va_K.moved hW.alike hK, (hD.sub isC hnc hC).weaken (fun _ _ _ _ => trivial)⟩⟩ rfl hAn hl rfl (lv_room hW) hdg hf) (fun as H1 locs1 h1 h2 h3 => by rw [hst1 as]; exact kk as H1 locs1 h1 h2 h3)
/-- a constructor -/
theorem gq_I {y : MethodName} {bytes cc : ByteArray} {maxL nL n index mc ms : Nat} {wsm : List Cond} {rm : Room} {Ts : List Cond} {own : String} {b : Addr} {As rest st0 : List Value} {pc : Nat} {ls : Array Slot} {D : va_G} {cA : Nat → ClassId} {A0 : Nat → Prop} {H0 : Heap} {ws wc wr : va_W} {w1 ws2 : (Nat → Nat) → va_W}
    (S : CallFix p m c cc nL s args Ts own) (hK : va_K D vwCl (atys cA) s) (hP : va_P D vwCl ws H) (hD : va_D A0 ws) (hS : va_S A0 H0 H locs) (hA : ∀ q, H0.size ≤ q → A0 q)
    (hM : Met l y wsm rm (va_Pc (.ref b :: As) (gqB D cA wc H.size)) (gqQ D (fun _ => none) w1 (va_A wc H.size)) mc ms (va_A wc H.size))
    (cw : CallB R s args own index y bytes maxL none wsm rm mc ms n ∧ y.name = "<init>" ∧ (Cond.instanceMethod y).before args s = true) (isC isR pm : List Nat) (hC : isC.map (fun i => ws[i]?) = wc.map some) (hR : isR.map (fun i => ws[i]?) = wr.map some) (hnc : va_nd isC = true) (hn : va_nd isR = true) (hdis : ∀ i ∈ isR, i ∉ isC) (hpm : ∀ as, pm.map (fun i => (wr ++ w1 as)[i]?) = (ws2 as).map some) (hpn : va_nd pm = true)
    (hst0 : st0 = As.reverse ++ .ref b :: rest) (hAn : As.length = n) (hl : ls.size = nL) (hW : (rest.map fun v => v.category).sum ≤ 8)
    (hdg : decode cc pc = .ok (.invokespecial index, 3)) (hf : cells + mc ≤ R.cells ∧ slots + ms ≤ R.slots)
    (kk : ∀ (as : Nat → Nat) (H1 : Heap) (locs1 : List Loc), va_P D vwCl (ws2 as) H1 → va_D A0 (ws2 as) → va_S A0 H0 H1 locs1 → W p l e R s m args below meth c H1 locs1 (cells + mc) (slots + ms) Q (F0 m (pc + 3) ls rest)) : W p l e R s m args below meth c H locs cells slots Q (F0 m pc ls st0) := by
  subst hst0
  exact gq_go hP hD hS hA isC isR pm hC hR hn hdis hpm hpn (va_runI S hM cw ⟨gq_blind, fun U hU hW => ⟨rfl, by rw [hU], by rw [hU]; exact gq_sub hP isC hC, va_K.moved hW.alike hK, (hD.sub isC hnc hC).weaken (fun _ _ _ _ => trivial)⟩⟩ rfl hAn hl rfl (lv_room hW) hdg hf) (fun as H1 locs1 h1 h2 h3 => kk as H1 locs1 h1 h2 h3)
/-- a writing static method -/
theorem gq_S {y : MethodName} {bytes cc : ByteArray} {maxL nL n index mc ms : Nat} {ret : Option FieldType} {wsm : List Cond} {rm : Room} {Ts : List Cond} {own : String} {As rest st0 : List Value} {pc : Nat} {ls : Array Slot} {D : va_G} {cA : Nat → ClassId} {A0 : Nat → Prop} {H0 : Heap} {ws wc wr : va_W} {w1 ws2 : (Nat → Nat) → va_W} {v : (Nat → Nat) → Option Value} {st1 : (Nat → Nat) → List Value}
    (S : CallFix p m c cc nL s args Ts own) (hK : va_K D vwCl (atys cA) s) (hP : va_P D vwCl ws H) (hD : va_D A0 ws) (hS : va_S A0 H0 H locs) (hA : ∀ q, H0.size ≤ q → A0 q)
    (hM : Met l y wsm rm (va_Pc As (gqB D cA wc H.size)) (gqQ D v w1 (va_A wc H.size)) mc ms (va_A wc H.size))
    (cw : CallB R s args own index y bytes maxL ret wsm rm mc ms n ∧ (Cond.static y).before args s = true) (isC isR pm : List Nat) (hC : isC.map (fun i => ws[i]?) = wc.map some) (hR : isR.map (fun i => ws[i]?) = wr.map some) (hnc : va_nd isC = true) (hn : va_nd isR = true) (hdis : ∀ i ∈ isR, i ∉ isC) (hpm : ∀ as, pm.map (fun i => (wr ++ w1 as)[i]?) = (ws2 as).map some) (hpn : va_nd pm = true)
    (hst0 : st0 = As.reverse ++ rest) (hst1 : ∀ as, (v as).toList ++ rest = st1 as) (hAn : As.length = n) (hl : ls.size = nL) (hW : (rest.map fun v => v.category).sum ≤ 8)
    (hdg : decode cc pc = .ok (.invokestatic index, 3)) (hf : cells + mc ≤ R.cells ∧ slots + ms ≤ R.slots)
    (kk : ∀ (as : Nat → Nat) (H1 : Heap) (locs1 : List Loc), va_P D vwCl (ws2 as) H1 → va_D A0 (ws2 as) → va_S A0 H0 H1 locs1 → W p l e R s m args below meth c H1 locs1 (cells + mc) (slots + ms) Q (F0 m (pc + 3) ls (st1 as))) : W p l e R s m args below meth c H locs cells slots Q (F0 m pc ls st0) := by
  subst hst0
  exact gq_go hP hD hS hA isC isR pm hC hR hn hdis hpm hpn (va_runS S hM cw ⟨gq_blind, fun U hU hW => ⟨rfl, by rw [hU], by rw [hU]; exact gq_sub hP isC hC, va_K.moved hW.alike hK, (hD.sub isC hnc hC).weaken (fun _ _ _ _ => trivial)⟩⟩ rfl hAn hl rfl (lv_room hW) hdg hf) (fun as H1 locs1 h1 h2 h3 => by rw [hst1 as]; exact kk as H1 locs1 h1 h2 h3)
end TLB
/-- a writing method's body -/
theorem gq_ofW {l : Launch} {y : MethodName} {ws ws' : List Cond} {rm : Room} {As : List Value} {D : va_G} {cA : Nat → ClassId} {wc : va_W} {w1 : (Nat → Nat) → va_W} {sz mc ms : Nat} {v : (Nat → Nat) → Option Value} {cc : ByteArray} {maxL : Nat} {ret : Option FieldType} (hy : plainName y.cls = true) (hw : ws = Cond.code y cc maxL ret :: ws') (hsl : (lg_sl As).length ≤ maxL)
    (body : ∀ (p : Program) (e : Env) (s : State) (m : MethodId) (args : Array Value) (below : List Frame) (meth : Method) (c : Code) (ls : Array Slot) (Q : State → Prop) (A : Nat → Prop), p.tables.exec = Jvm.exec → c.code = cc → c.maxLocals = maxL → (∀ w ∈ ws, w.before args s = true) → s.vm.findClass y.cls = some m.cls → meth.name = y.name → va_K D vwCl (atys cA) s → va_P D vwCl wc s.heap → va_D A wc → va_S A s.heap s.heap [] → (∀ q : Nat, s.heap.size ≤ q → A q) → lv_has ls maxL (lv_args 0 As) →
      (∀ (as : Nat → Nat) (H : Heap) (locs : List Loc) (i : Instr) (v' : Option Value) (w' : va_W) (pc : Nat) (ls : Array Slot), v' = v as → w' = w1 as → rtn ret i v' → va_P D vwCl w' H → va_D A w' → va_S A s.heap H locs → decode cc pc = .ok (i, 1) → W p l e rm s m args below meth c H locs mc ms Q (F0 m pc ls v'.toList)) →
      W p l e rm s m args below meth c s.heap [] 0 0 Q (F0 m 0 ls [])) : Met l y ws rm (va_Pc As (gqB D cA wc sz)) (gqQ D v w1 (va_A wc sz)) mc ms (va_A wc sz) := by
  refine Met.ofW (cc := cc) (maxL := maxL) (ret := ret) hy hw ?_
  intro p e s m args below meth c s₁ B hml hv
  obtain ⟨rfl, hsz, hP, hK, hD0⟩ := hv
  subst hsz
  have hl := lv_entry As hsl
  rw [lg_entry_eq]
  refine body p e s m _ below meth c _ _ (va_A wc s.heap.size) B.exec B.bytes hml (atoms_spec (ws := ws) B.pre) (findClass_of_methodNamed B.named) (name_of_methodNamed B.named B.method).1 hK hP hD0.self va_S.rf (fun q h => Or.inr h) hl (fun as H locs i v' w' pc ls hv hw' hrt hP hD hS hdg => ?_)
  subst hv; subst hw'
  exact rtn_end B.exec B.bytes B.returns B.notSynchronized hrt (fun t ht _ => ⟨as, rfl, by rw [ht]; exact hP, hD, hS.F ht⟩) hS.2.2 hdg
