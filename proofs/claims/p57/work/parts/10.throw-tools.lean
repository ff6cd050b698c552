/-! throwSX with a text by a wide index, after the printed vx_throwSW -/
section WXD
variable {p : Program} {l : Launch} {e : Env} {R : Room} {s : State} {m : MethodId} {args : Array Value} {below : List Frame} {meth : Method} {c : Code} {H : Heap} {locs : List Loc} {cells slots : Nat} {Q : State → Prop}
variable {mc ms : Nat} {free : Addr → Prop} {a : Array Value} {ls : Array Slot} {st0 rest : List Value}
variable {Qc : Array Value → State → Outcome → State → Prop} {XC : String → State → State → Prop}
set_option maxHeartbeats 2000000 in
theorem vx_throwSXW {cc : ByteArray} {pc : Nat} (hexec : p.tables.exec = Jvm.exec) (hb : c.code = cc) (hl : l.stackTraces = false) {own cls text : String} {names : List String} {ik is ic mc ms sa : Nat} {A : Nat → Prop}
    (hown : s.vm.findClass own = some m.cls) (hcls : Bundle.fit cls = true) (hnames : ∀ n ∈ names, Bundle.fit n = true)
    (hk : (Cond.classLink own ik cls).before args s = true) (hini : (Cond.initialized cls).before args s = true) (hstr : vk_R own is text sa s) (hat : ∀ w ∈ vx_atSX own ic cls names, w.before args s = true)
    (hgood : ∀ w ∈ Cond.classLink own ik cls :: Cond.initialized cls :: vx_atSX own ic cls names, vx_ot w = true)
    (hU : vx_Zq Bundle.tN "UNASSIGNED_STACK" Bundle.steD A s s.heap) (hN : vx_Zq Bundle.tN "SUPPRESSED_SENTINEL" Bundle.listD A s s.heap) (hS : va_S A s.heap H locs) (hsize : ls.size = c.maxLocals)
    (d0 : decode cc pc = .ok (.new ik, 3)) (d3 : decode cc (pc + 3) = .ok (.dup, 1)) (d4 : decode cc (pc + 4) = .ok (.ldc_w is, 3)) (d7 : decode cc (pc + 7) = .ok (.invokespecial ic, 3)) (d10 : decode cc (pc + 10) = .ok (.athrow, 1))
    (hout : ∀ x ∈ c.exceptionTable.toList, covers x (pc + 10) = false)
    (hRframes : names.length + 3 < R.frames) (hRlocals : (rest.map fun v => v.category).sum + (13 * (names.length + 1) + 43) ≤ R.locals) (hRcells : cells + 1 ≤ R.cells) (hRslots : slots + 6 ≤ R.slots) (hlocks : meth.locks = false)
    (hx : ∀ t : State, s.vm.Alike t.vm → H.size ≤ t.heap.size → (∀ q : Nat, q < H.size → t.heap[q]? = H[q]?) → XC cls s t)
    (hf : ∀ z ∈ locs, free z.base) (hc : cells + 1 ≤ mc) (hs : slots + 6 ≤ ms) :
    W p l e R s m args below meth c H locs cells slots (vx_MQ below Qc XC args s mc ms free) (F0 m pc ls rest) := by
  intro T hT X
  have htr : e.platform.stackTraces = false := (show e.platform.stackTraces = l.stackTraces by rw [X.admits.platform]).trans hl
  have Y := vx_rebase X (R' := { frames := R.frames, locals := R.locals, cells := 1, slots := 6 }) (Nat.le_refl _) (Nat.le_refl _) hRcells hRslots
  obtain ⟨s', hA⟩ : ∃ z, z = (T.setVm s.vm).setFrames (.invoking m args :: below) := ⟨_, rfl⟩
  rw [← hA] at Y
  have hvm : s'.vm = s.vm := by rw [hA]; rfl
  have hhp : s'.heap = H := by rw [hA]; exact hT
  have hW0 : s.WarmedH s'.vm := by rw [hvm]; exact State.WarmedH.refl s
  have hat' : ∀ w ∈ vx_atSX own ic cls names, w.before args s' = true := fun w hw => vx_ot_at hW0 hvm.symm (hgood w (List.mem_cons_of_mem _ (List.mem_cons_of_mem _ hw))) (hat w hw)
  have hk' : (Cond.classLink own ik cls).before args s' = true := vx_ot_at hW0 hvm.symm (hgood _ List.mem_cons_self) hk
  have hini' : (Cond.initialized cls).before args s' = true := vx_ot_at hW0 hvm.symm (hgood _ (List.mem_cons_of_mem _ List.mem_cons_self)) hini
  have hU' : vx_Zq Bundle.tN "UNASSIGNED_STACK" Bundle.steD A s' s'.heap := by rw [hhp]; exact vx_Zq.moved hW0.alike (hU.kept hS.2.1)
  have hN' : vx_Zq Bundle.tN "SUPPRESSED_SENTINEL" Bundle.listD A s' s'.heap := by rw [hhp]; exact vx_Zq.moved hW0.alike (hN.kept hS.2.1)
  have h : ∀ w ∈ wx_own own ic cls 13 wx_r13 names, w.before args s' = true := vx_own hat' (vx_isRefq hU'.1) (vx_isRefq hN'.1) hU'.2.word hN'.2.word
  have hown' : s'.vm.findClass own = some m.cls := by rw [hvm]; exact hown
  have hins : (Cond.instantiable cls 6).before args s' = true := h _ (by simp [wx_own])
  obtain ⟨vm₁, cX, kX, hfX, hkX, -, -, X₁, st1⟩ := Y.newCold hexec (own := own) (C := cls) (index := ik) (n := 6) hown' hk' hins hini'
    (g := F0 m pc ls rest) rfl (by rw [hb]; exact d0) (Nat.le_refl _) (Nat.le_refl _)
  generalize hT1 : (T.setVm vm₁).pushCell { cls := cX, slots := kX.instanceTypes.map defaultValue, vm := .none } = T1 at X₁ st1
  have hcat : (Value.ref T.heap.size).category = 1 := rfl
  have hcellA : T1.heap[T.heap.size]? = some (freshCell cX kX) := by rw [← hT1]; exact State.heap_pushCell_size _ _
  have d3' : decode c.code (pc + 3) = .ok (.dup, 1) := by rw [hb]; exact d3
  have d4' : decode c.code (pc + 4) = .ok (.ldc_w is, 3) := by rw [hb]; exact d4
  have hstr' : vk_R own is text sa s' := vk_R.warm hW0 hstr
  obtain ⟨U, hsteps, hrun, hend, hW, hsame, ce, hce, hOc, hOv⟩ := wx_ctor X₁ hexec htr (own := own) (cls := cls) (names := names) (ic := ic) hown' hcls hnames h (fun x hx => nomatch hx) hfX hkX hcellA (by rw [hhp, hT]; exact Nat.le_refl _) (msg := .ref sa) rfl
    (g := { method := m, pc := pc + 7, locals := ls, stack := .ref sa :: .ref T.heap.size :: .ref T.heap.size :: rest, locked := none }) rfl hsize rfl rfl (rest := rest) rfl
    (by rw [hb]; exact d7) (by rw [hb]; exact d10) hout hRframes (by simp only [List.map_cons, List.sum_cons, hcat]; omega) hlocks
  obtain ⟨f1, f2⟩ := vx_frame hsame
  rw [hhp] at f1 f2
  have hWs : s.WarmedH U.vm := State.WarmedH.trans hW0 hW
  have hcl : s.vm.findClass cls = some ce.cls := by
    have h9 := hOc
    rw [hvm] at h9
    exact h9
  have hall : s.sameButNew ({ U with vm := s.vm } : State) locs mc ms := by
    subst hA
    obtain ⟨e1, e2⟩ := hsame
    rw [State.setFrames_setFrames] at e1
    have h2 : (T.setVm s.vm).sameButNew ({ U with vm := s.vm } : State) [] (0 + 1) (0 + 6) := ⟨e1, e2⟩
    have h3 := X.same.trans h2
    rw [List.append_nil] at h3
    exact h3.mono hc hs
  refine ⟨U, ?_, .threw T.heap.size, hrun, hend, Or.inr ⟨T.heap.size, rfl, cls, ce, locs, hx U hWs.alike f1 (fun q hq => f2 q hq (fun z hz => nomatch hz)), hce, hOv, hcl, hWs, hall, hf⟩⟩
  refine st1 _ ?_
  show Steps p.tables e below (T1.setTop { method := m, pc := pc + 3, locals := ls, stack := .ref T.heap.size :: rest, locked := none }) _
  jvm_step X₁.here [X₁.here.top, hexec, d3', Value.category]
  exact X₁.ldcStringW hexec (own := own) (text := text) (index := is) (a := sa) hown' hstr'.1 hstr'.2
    (g := { method := m, pc := pc + 4, locals := ls, stack := .ref T.heap.size :: .ref T.heap.size :: rest, locked := none }) rfl d4' _ hsteps
end WXD

/-! methods that may throw: 0 says that it came back, another number which exception it threw -/
def xN (k : Nat) : String := match k with | 1 => "java/lang/IllegalArgumentException" | 2 => "java/lang/IllegalStateException" | 3 => "java/lang/IndexOutOfBoundsException" | 4 => "java/util/NoSuchElementException" | _ => "java/lang/ArithmeticException"
/-- words that a warming may not keep by itself: constructors that are declared, classes that are their own -/
def xDe : List MethodName := [Bundle.initS "java/lang/RuntimeException", Bundle.initS "java/lang/Exception", Bundle.initS Bundle.tN]
def xCa : List String := ["java/lang/IllegalArgumentException", "java/lang/IllegalStateException", "java/lang/IndexOutOfBoundsException", "java/util/NoSuchElementException", "java/lang/ArithmeticException"]
def xB : List Cond := xDe.map (fun x => .declares x) ++ xCa.map (fun c => .castable c c)
/-- what a throw needs of the machine: two statics of Throwable, the texts, and those words -/
def xEV (T : List (Nat × String)) (A : Nat → Prop) (U : State) (H : Heap) : Prop := vx_Zq Bundle.tN "UNASSIGNED_STACK" Bundle.steD A U H ∧ vx_Zq Bundle.tN "SUPPRESSED_SENTINEL" Bundle.listD A U H ∧ (∀ q ∈ T, ∃ sa : Nat, vk_R RX5 q.1 q.2 sa U) ∧ (∀ x ∈ xDe, va_Nw (.declares x) U) ∧ ∀ x ∈ xCa, va_Nw (.castable x x) U
theorem xEV.calling {T : List (Nat × String)} {A : Nat → Prop} {U : State} {H : Heap} {g : JFrame} {mk : MethodId} {a : Array Value} (h : xEV T A U H) : xEV T A (U.calling g mk a) H := ⟨vx_Zq.moved (Vm.Alike.refl U.vm) h.1, vx_Zq.moved (Vm.Alike.refl U.vm) h.2.1, fun q hq => by obtain ⟨sa, h3⟩ := h.2.2.1 q hq; exact ⟨sa, h3.same rfl⟩, fun x hx => (h.2.2.2.1 x hx).same rfl rfl, fun x hx => (h.2.2.2.2 x hx).same rfl rfl⟩
theorem xEV.to {T : List (Nat × String)} {A B : Nat → Prop} {s U : State} {H1 : Heap} (h : xEV T A s s.heap) (hW : s.WarmedH U.vm) (hq : ∀ a : Nat, a < s.heap.size → ¬ A a → H1[a]? = s.heap[a]?) (hAB : ∀ q, B q → A q) : xEV T B U H1 :=
  ⟨(vx_Zq.moved hW.alike (h.1.kept hq)).narrow hAB, (vx_Zq.moved hW.alike (h.2.1.kept hq)).narrow hAB, fun q hq => by obtain ⟨sa, h3⟩ := h.2.2.1 q hq; exact ⟨sa, h3.warm hW⟩, fun x hx => (h.2.2.2.1 x hx).warmD hW, fun x hx => (h.2.2.2.2 x hx).warmC hW⟩
theorem xEV.words {T : List (Nat × String)} {A : Nat → Prop} {U : State} {H : Heap} {args : Array Value} (h : xEV T A U H) : ∀ w ∈ xB, w.before args U = true := by
  intro w hw
  rcases List.mem_append.mp hw with h1 | h1
  · obtain ⟨x, hx, rfl⟩ := List.mem_map.mp h1
    exact (h.2.2.2.1 x hx).use rfl
  · obtain ⟨x, hx, rfl⟩ := List.mem_map.mp h1
    exact (h.2.2.2.2 x hx).use rfl
abbrev xStr : List (Nat × String) := [(77, "mass, position or period out of range"), (88, "there are 5 moons"), (135, "there is a toe at the position, or there are 4 toes"), (143, "there is no toe at the position"), (154, "there is no plug"), (165, "height out of range"), (170, "there is a towel at the position, or there are 4 towels"), (193, "flow out of range"), (201, "minutes out of range"), (274, "there are no moons"), (336, "nothing can be undone"), (349, "there is no such moon"), (354, "there is no such towel"), (359, "there is no such position"), (361, "no conjunction in the next 2000 minutes"), (263, "no such character"), (284, "character out of range"), (287, "the buffer contains 60 characters"), (301, "the text is malformed"), (320, "a command failed")]
/-! the environment: what throws need, and the tables of the JDK and the texts that nobody writes -/
def jTens (j : Nat) : Int32 := nI (48 + j / 10)
def jOnes (j : Nat) : Int32 := nI (48 + j % 10)
def jLen : List Nat := [4, 4, 6, 6, 3, 5, 4, 4, 5, 5, 4, 4, 1, 1, 0, 1, 1, 1, 3, 1, 1, 5, 6, 5]
def jByt : List (List Int32) := [[104, 97, 114, 100], [115, 111, 102, 116], [98, 117, 98, 98, 108, 101], [114, 101, 109, 111, 118, 101], [116, 111, 101], [115, 104, 97, 118, 101], [112, 108, 117, 103], [112, 117, 108, 108], [116, 111, 119, 101, 108], [119, 114, 105, 110, 103], [102, 108, 111, 119], [119, 97, 105, 116], [32], [45], [], [116], [112], [119], [104, 115, 98], [64], [33], [102, 108, 111, 119, 32], [59, 119, 97, 105, 116, 32], [59, 116, 111, 101, 32]]
def jStr : List (String × Nat × String × Nat) := [(RX3, 98, "hard", 0), (RX3, 100, "soft", 1), (RX3, 102, "bubble", 2), (RX3, 104, "remove", 3), (RX3, 106, "toe", 4), (RX3, 108, "shave", 5), (RX3, 110, "plug", 6), (RX3, 112, "pull", 7), (RX3, 114, "towel", 8), (RX3, 116, "wring", 9), (RX3, 118, "flow", 10), (RX3, 120, "wait", 11), (RL, 314, " ", 12), (RL, 383, "-", 13), (RL, 305, "", 14), (RL, 319, "t", 15), (RL, 321, "p", 16), (RL, 330, "w", 17), (RL, 341, "hsb", 18), (RL, 346, "@", 19), (RL, 348, "!", 20), (RL, 381, "flow ", 21), (RL, 385, ";wait ", 22), (RL, 387, ";toe ", 23)]
abbrev eG : Type := (Nat → Nat) × (Nat → Nat) × Nat × Nat
def eX (G : eG) (A : Nat → Prop) (U : State) (H : Heap) : Prop := xEV xStr A U H ∧ va_Z "java/lang/String" "COMPACT_STRINGS" "Z" (.int 1) A U H ∧ va_Z "java/lang/Integer" "DigitTens" "[B" (.ref G.2.2.1) A U H ∧ va_Z "java/lang/Integer" "DigitOnes" "[B" (.ref G.2.2.2) A U H ∧ va_T .byte G.2.2.1 100 (fun j => .int (jTens j)) A U H ∧ va_T .byte G.2.2.2 100 (fun j => .int (jOnes j)) A U H ∧ va_Zq "jdk/internal/util/Preconditions" "SIOOBE_FORMATTER" "Ljava/util/function/BiFunction;" A U H ∧ vk_S 24 jLen jByt G.1 G.2.1 A U H ∧ (∀ q ∈ jStr, vk_R q.1 q.2.1 q.2.2.1 (G.1 q.2.2.2) U) ∧ va_Nw (.castable "[B" "java/lang/Cloneable") U
theorem eX.calling {G : eG} {A : Nat → Prop} {U : State} {H : Heap} {g : JFrame} {mk : MethodId} {a : Array Value} (h : eX G A U H) : eX G A (U.calling g mk a) H := by
  obtain ⟨h1, h2, h3, h4, h5, h6, h7, h8, h9, h10⟩ := h
  have r := Vm.Alike.refl U.vm
  exact ⟨h1.calling, va_Z.moved r h2, va_Z.moved r h3, va_Z.moved r h4, va_T.moved r h5, va_T.moved r h6, va_Zq.moved r h7, vk_S.moved r h8, fun q hq => (h9 q hq).same rfl, h10.same rfl rfl⟩
theorem eX.to {G : eG} {A B : Nat → Prop} {s U : State} {H1 : Heap} (h : eX G A s s.heap) (hW : s.WarmedH U.vm) (hq : ∀ a : Nat, a < s.heap.size → ¬ A a → H1[a]? = s.heap[a]?) (hAB : ∀ q, B q → A q) : eX G B U H1 := by
  obtain ⟨h1, h2, h3, h4, h5, h6, h7, h8, h9, h10⟩ := h
  have r := hW.alike
  exact ⟨h1.to hW hq hAB, (va_Z.moved r (h2.kept hq)).narrow hAB, (va_Z.moved r (h3.kept hq)).narrow hAB, (va_Z.moved r (h4.kept hq)).narrow hAB, (va_T.moved r (h5.kept hq)).narrow hAB, (va_T.moved r (h6.kept hq)).narrow hAB, (va_Zq.moved r (h7.kept hq)).narrow hAB, (vk_S.moved r (h8.kept hq)).narrow hAB, fun q hq => (h9 q hq).warm hW, h10.warmC hW⟩
def xqB (G : eG) (D : va_G) (cA : Nat → ClassId) (ws : va_W) (sz : Nat) (U : State) : Prop := gqB D cA ws sz U ∧ eX G (va_A ws sz) U U.heap
def xqQ (D : va_G) (k : Nat) (v : (Nat → Nat) → Option Value) (w1 : (Nat → Nat) → va_W) (A : Nat → Prop) : Array Value → State → Outcome → State → Prop := fun _ st o t => k = 0 ∧ ∃ as : Nat → Nat, o = .returned (v as) ∧ va_P D vwCl (w1 as) t.heap ∧ va_D A (w1 as) ∧ va_F A st t
def xqX (D : va_G) (k : Nat) (w1 : (Nat → Nat) → va_W) (A : Nat → Prop) : String → State → State → Prop := fun E st t => k ≠ 0 ∧ E = xN k ∧ ∃ as : Nat → Nat, va_P D vwCl (w1 as) t.heap ∧ va_D A (w1 as) ∧ va_F A st t
theorem xq_blind {G : eG} {As : List Value} {D : va_G} {cA : Nat → ClassId} {ws : va_W} {sz : Nat} : FrameBlind (va_Pc As (xqB G D cA ws sz)) := fun a U g mk q => ⟨q.1, (gq_blind (As := As) a U g mk ⟨q.1, q.2.1⟩).2, q.2.2.calling⟩
section TLX
variable {p : Program} {l : Launch} {e : Env} {R : Room} {s : State} {m : MethodId} {args : Array Value} {below : List Frame} {meth : Method} {c : Code} {H : Heap} {locs : List Loc} {cells slots : Nat} {Q : State → Prop}
theorem xq_go {pc mc ms k : Nat} {ls : Array Slot} {st0 rest : List Value} {a : Array Value} {v : (Nat → Nat) → Option Value} {D : va_G} {A0 : Nat → Prop} {H0 : Heap} {ws wc wr : va_W} {w1 ws2 : (Nat → Nat) → va_W} (hP : va_P D vwCl ws H) (hD : va_D A0 ws) (hS : va_S A0 H0 H locs) (hA : ∀ q, H0.size ≤ q → A0 q)
    (isC isR pm : List Nat) (hC : isC.map (fun i => ws[i]?) = wc.map some) (hR : isR.map (fun i => ws[i]?) = wr.map some) (hn : va_nd isR = true) (hdis : ∀ i ∈ isR, i ∉ isC) (hpm : ∀ as, pm.map (fun i => (wr ++ w1 as)[i]?) = (ws2 as).map some) (hpn : va_nd pm = true)
    (hr : vx_Run p l e R s m args below meth c H locs cells slots mc ms (F0 m pc ls st0) rest (xqQ D k v w1 (va_A wc H.size) a) (xqX D k w1 (va_A wc H.size)) (va_A wc H.size))
    (kk : k = 0 → ∀ (as : Nat → Nat) (H1 : Heap) (locs1 : List Loc), va_P D vwCl (ws2 as) H1 → va_D A0 (ws2 as) → va_S A0 H0 H1 locs1 → W p l e R s m args below meth c H1 locs1 (cells + mc) (slots + ms) Q (F0 m (pc + 3) ls ((v as).toList ++ rest)))
    (kx : k ≠ 0 → ∀ (as : Nat → Nat) (H1 : Heap) (locs1 : List Loc) (q : Addr) (ce : Cell), va_P D vwCl (ws2 as) H1 → va_D A0 (ws2 as) → va_S A0 H0 H1 locs1 → H1[q]? = some ce → ce.vm = .none → s.vm.findClass (xN k) = some ce.cls → vx_W p l e R s m args below meth c H1 locs1 (cells + mc) (slots + ms) Q (F0 m pc ls rest) q) : W p l e R s m args below meth c H locs cells slots Q (F0 m pc ls st0) := by
  intro T hT X
  have hF := va_free hD hS hA isC hC
  rcases hr T hT X with ⟨v', st₀, t, T', L, h0, X', hL, e1, e2, ⟨hk0, as, hv, hP1, hD1, hz, hk⟩, st⟩ | ⟨q, st₀, t, T', L, E, ce, h0, X', hL, e1, e2, ⟨hk0, hE, as, hP1, hD1, hz, hk⟩, hce, hcv, hcl, st⟩
  · cases hv
    rw [h0] at hz hk
    rw [← e1] at hP1 hz hk
    obtain ⟨hP2, hD2⟩ := va_join hP hD isC isR hC hR hn hdis hk hF hP1 hD1
    have hS2 : va_S A0 H0 T'.heap (locs ++ L) := ⟨Nat.le_trans hS.1 hz, fun q h1 h2 => by rw [hk q (Nat.lt_of_lt_of_le h1 hS.1) (fun z => h2 (hF q z))]; exact hS.2.1 q h1 h2, fun q hq => by
      rcases List.mem_append.mp hq with h | h
      · exact hS.2.2 q h
      · exact hF _ (hL q h)⟩
    obtain ⟨t2, a1, b1⟩ := kk hk0 as T'.heap (locs ++ L) (gq_sub hP2 pm (hpm as)) (hD2.sub pm hpn (hpm as)) hS2 T' rfl X'
    exact ⟨t2, st t2 a1, b1⟩
  · rw [h0] at hz hk
    rw [← e1] at hP1 hz hk
    obtain ⟨hP2, hD2⟩ := va_join hP hD isC isR hC hR hn hdis hk hF hP1 hD1
    have hS2 : va_S A0 H0 T'.heap (locs ++ L) := ⟨Nat.le_trans hS.1 hz, fun q h1 h2 => by rw [hk q (Nat.lt_of_lt_of_le h1 hS.1) (fun z => h2 (hF q z))]; exact hS.2.1 q h1 h2, fun q hq => by
      rcases List.mem_append.mp hq with h | h
      · exact hS.2.2 q h
      · exact hF _ (hL q h)⟩
    obtain ⟨t2, a1, b1⟩ := kx hk0 as T'.heap (locs ++ L) q ce (gq_sub hP2 pm (hpm as)) (hD2.sub pm hpn (hpm as)) hS2 (by rw [e1]; exact hce) hcv (by rw [← hE]; exact hcl) T' rfl X'
    exact ⟨t2, st.trans a1, b1⟩
/-- a throwing instance method -/
theorem xq_V {G : eG} {y : MethodName} {bytes cc : ByteArray} {maxL nL n index mc ms k : Nat} {ret : Option FieldType} {wsm : List Cond} {rm : Room} {Ts : List Cond} {own C : String} {b : Addr} {As rest st0 : List Value} {pc : Nat} {ls : Array Slot} {D : va_G} {cA : Nat → ClassId} {A0 : Nat → Prop} {ws wc wr : va_W} {w1 ws2 : (Nat → Nat) → va_W} {v : (Nat → Nat) → Option Value} {st1 : (Nat → Nat) → List Value}
    (S : CallFix p m c cc nL s args Ts own) (hK : va_K D vwCl (atys cA) s) (hP : va_P D vwCl ws H) (hD : va_D A0 ws) (hS : va_S A0 s.heap H locs) (hA : ∀ q : Nat, s.heap.size ≤ q → A0 q) (hEV : eX G A0 s s.heap)
    (hM : vx_Met l y wsm rm (va_Pc (.ref b :: As) (xqB G D cA wc H.size)) (xqQ D k v w1 (va_A wc H.size)) (xqX D k w1 (va_A wc H.size)) mc ms (va_A wc H.size))
    (cw : CallW R s args own C index y bytes maxL ret wsm rm mc ms n) (isC isR pm : List Nat) (hC : isC.map (fun i => ws[i]?) = wc.map some) (hR : isR.map (fun i => ws[i]?) = wr.map some) (hnc : va_nd isC = true) (hn : va_nd isR = true) (hdis : ∀ i ∈ isR, i ∉ isC) (hpm : ∀ as, pm.map (fun i => (wr ++ w1 as)[i]?) = (ws2 as).map some) (hpn : va_nd pm = true)
    (q0 ci : Nat) {fs : List Value} {q : vw_C} (he : ws[q0]? = some (b, .inr (ci, fs))) (hc : vwCl[ci]? = some q) (hqC : q.1 = C)
    (hst0 : st0 = As.reverse ++ .ref b :: rest) (hst1 : ∀ as, (v as).toList ++ rest = st1 as) (hAn : As.length = n) (hl : ls.size = nL) (hW : (rest.map fun v => v.category).sum ≤ 8)
    (hdg : decode cc pc = .ok (.invokevirtual index, 3)) (hf : cells + mc ≤ R.cells ∧ slots + ms ≤ R.slots)
    (kk : k = 0 → ∀ (as : Nat → Nat) (H1 : Heap) (locs1 : List Loc), va_P D vwCl (ws2 as) H1 → va_D A0 (ws2 as) → va_S A0 s.heap H1 locs1 → W p l e R s m args below meth c H1 locs1 (cells + mc) (slots + ms) Q (F0 m (pc + 3) ls (st1 as)))
    (kx : k ≠ 0 → ∀ (as : Nat → Nat) (H1 : Heap) (locs1 : List Loc) (q : Addr) (ce : Cell), va_P D vwCl (ws2 as) H1 → va_D A0 (ws2 as) → va_S A0 s.heap H1 locs1 → H1[q]? = some ce → ce.vm = .none → s.vm.findClass (xN k) = some ce.cls → vx_W p l e R s m args below meth c H1 locs1 (cells + mc) (slots + ms) Q (F0 m pc ls rest) q) : W p l e R s m args below meth c H locs cells slots Q (F0 m pc ls st0) := by
  subst hst0; subst hqC
  exact xq_go hP hD hS hA isC isR pm hC hR hn hdis hpm hpn (vx_runV S hM cw ⟨xq_blind, va_recv hK hP hc he, fun U hU hW => ⟨rfl, ⟨by rw [hU], by rw [hU]; exact gq_sub hP isC hC, va_K.moved hW.alike hK, (hD.sub isC hnc hC).weaken (fun _ _ _ _ => trivial)⟩, by rw [hU]; exact hEV.to hW hS.2.1 (va_free hD hS hA isC hC)⟩⟩ rfl hAn hl rfl (lv_room hW) hdg hf) (fun h0 as H1 locs1 h1 h2 h3 => by rw [hst1 as]; exact kk h0 as H1 locs1 h1 h2 h3) kx
/-- a throwing static method -/
theorem xq_S {G : eG} {y : MethodName} {bytes cc : ByteArray} {maxL nL n index mc ms k : Nat} {ret : Option FieldType} {wsm : List Cond} {rm : Room} {Ts : List Cond} {own : String} {As rest st0 : List Value} {pc : Nat} {ls : Array Slot} {D : va_G} {cA : Nat → ClassId} {A0 : Nat → Prop} {ws wc wr : va_W} {w1 ws2 : (Nat → Nat) → va_W} {v : (Nat → Nat) → Option Value} {st1 : (Nat → Nat) → List Value}
    (S : CallFix p m c cc nL s args Ts own) (hK : va_K D vwCl (atys cA) s) (hP : va_P D vwCl ws H) (hD : va_D A0 ws) (hS : va_S A0 s.heap H locs) (hA : ∀ q : Nat, s.heap.size ≤ q → A0 q) (hEV : eX G A0 s s.heap)
    (hM : vx_Met l y wsm rm (va_Pc As (xqB G D cA wc H.size)) (xqQ D k v w1 (va_A wc H.size)) (xqX D k w1 (va_A wc H.size)) mc ms (va_A wc H.size))
    (cw : CallB R s args own index y bytes maxL ret wsm rm mc ms n ∧ (Cond.static y).before args s = true) (isC isR pm : List Nat) (hC : isC.map (fun i => ws[i]?) = wc.map some) (hR : isR.map (fun i => ws[i]?) = wr.map some) (hnc : va_nd isC = true) (hn : va_nd isR = true) (hdis : ∀ i ∈ isR, i ∉ isC) (hpm : ∀ as, pm.map (fun i => (wr ++ w1 as)[i]?) = (ws2 as).map some) (hpn : va_nd pm = true)
    (hst0 : st0 = As.reverse ++ rest) (hst1 : ∀ as, (v as).toList ++ rest = st1 as) (hAn : As.length = n) (hl : ls.size = nL) (hW : (rest.map fun v => v.category).sum ≤ 8)
    (hdg : decode cc pc = .ok (.invokestatic index, 3)) (hf : cells + mc ≤ R.cells ∧ slots + ms ≤ R.slots)
    (kk : k = 0 → ∀ (as : Nat → Nat) (H1 : Heap) (locs1 : List Loc), va_P D vwCl (ws2 as) H1 → va_D A0 (ws2 as) → va_S A0 s.heap H1 locs1 → W p l e R s m args below meth c H1 locs1 (cells + mc) (slots + ms) Q (F0 m (pc + 3) ls (st1 as)))
    (kx : k ≠ 0 → ∀ (as : Nat → Nat) (H1 : Heap) (locs1 : List Loc) (q : Addr) (ce : Cell), va_P D vwCl (ws2 as) H1 → va_D A0 (ws2 as) → va_S A0 s.heap H1 locs1 → H1[q]? = some ce → ce.vm = .none → s.vm.findClass (xN k) = some ce.cls → vx_W p l e R s m args below meth c H1 locs1 (cells + mc) (slots + ms) Q (F0 m pc ls rest) q) : W p l e R s m args below meth c H locs cells slots Q (F0 m pc ls st0) := by
  subst hst0
  exact xq_go hP hD hS hA isC isR pm hC hR hn hdis hpm hpn (vx_runS S hM cw ⟨xq_blind, fun U hU hW => ⟨rfl, ⟨by rw [hU], by rw [hU]; exact gq_sub hP isC hC, va_K.moved hW.alike hK, (hD.sub isC hnc hC).weaken (fun _ _ _ _ => trivial)⟩, by rw [hU]; exact hEV.to hW hS.2.1 (va_free hD hS hA isC hC)⟩⟩ rfl hAn hl rfl (lv_room hW) hdg hf) (fun h0 as H1 locs1 h1 h2 h3 => by rw [hst1 as]; exact kk h0 as H1 locs1 h1 h2 h3) kx
end TLX
/-- a throwing method's body -/
theorem xq_ofW {G : eG} {l : Launch} {y : MethodName} {ws ws' : List Cond} {rm : Room} {As : List Value} {D : va_G} {cA : Nat → ClassId} {wc : va_W} {w1 : (Nat → Nat) → va_W} {sz mc ms k : Nat} {v : (Nat → Nat) → Option Value} {cc : ByteArray} {maxL : Nat} {ret : Option FieldType} (hy : plainName y.cls = true) (hw : ws = Cond.code y cc maxL ret :: ws') (hsl : (lg_sl As).length ≤ maxL)
    (body : ∀ (p : Program) (e : Env) (s : State) (m : MethodId) (args : Array Value) (below : List Frame) (meth : Method) (c : Code) (ls : Array Slot) (Q : State → Prop) (A : Nat → Prop), Q = vx_MQ below (xqQ D k v w1 A) (xqX D k w1 A) args s mc ms A → p.tables.exec = Jvm.exec → c.code = cc → c.maxLocals = maxL → (∀ x ∈ c.exceptionTable.toList, False) → meth.locks = false → (∀ w ∈ ws, w.before args s = true) → s.vm.findClass y.cls = some m.cls → meth.name = y.name → va_K D vwCl (atys cA) s → va_P D vwCl wc s.heap → va_D A wc → va_S A s.heap s.heap [] → (∀ q : Nat, s.heap.size ≤ q → A q) → eX G A s s.heap → lv_has ls maxL (lv_args 0 As) →
      (∀ (as : Nat → Nat) (H : Heap) (locs : List Loc) (i : Instr) (v' : Option Value) (w' : va_W) (pc : Nat) (ls : Array Slot), k = 0 → v' = v as → w' = w1 as → rtn ret i v' → va_P D vwCl w' H → va_D A w' → va_S A s.heap H locs → decode cc pc = .ok (i, 1) → W p l e rm s m args below meth c H locs mc ms Q (F0 m pc ls v'.toList)) →
      W p l e rm s m args below meth c s.heap [] 0 0 Q (F0 m 0 ls [])) : vx_Met l y ws rm (va_Pc As (xqB G D cA wc sz)) (xqQ D k v w1 (va_A wc sz)) (xqX D k w1 (va_A wc sz)) mc ms (va_A wc sz) := by
  refine vx_ofW (cc := cc) (maxL := maxL) (ret := ret) hy hw ?_
  intro p e s m args below meth c s₁ B hml hex hv
  obtain ⟨rfl, ⟨hsz, hP, hK, hD0⟩, hEV⟩ := hv
  subst hsz
  have hl := lv_entry As hsl
  rw [lg_entry_eq]
  refine body p e s m _ below meth c _ _ (va_A wc s.heap.size) rfl B.exec B.bytes hml hex B.notSynchronized (atoms_spec (ws := ws) B.pre) (findClass_of_methodNamed B.named) (name_of_methodNamed B.named B.method).1 hK hP hD0.self va_S.rf (fun q h => Or.inr h) hEV hl (fun as H locs i v' w' pc ls hk hv hw' hrt hP hD hS hdg => ?_)
  subst hv; subst hw'
  exact vx_ret (rtn_end B.exec B.bytes B.returns B.notSynchronized hrt (fun t ht _ => ⟨hk, as, rfl, by rw [ht]; exact hP, hD, hS.F ht⟩) hS.2.2 hdg)
section TLY
variable {p : Program} {l : Launch} {e : Env} {R : Room} {s : State} {m : MethodId} {args : Array Value} {below : List Frame} {meth : Method} {c : Code} {H : Heap} {locs : List Loc} {cells slots : Nat} {Q : State → Prop}
/-- not caught here -/
theorem xq_out {D : va_G} {k mc ms pc : Nat} {v : (Nat → Nat) → Option Value} {w1 : (Nat → Nat) → va_W} {A : Nat → Prop} {ls : Array Slot} {rest : List Value} {q : Addr} {ce : Cell} {w' : va_W} (as : Nat → Nat) (hQ : Q = vx_MQ below (xqQ D k v w1 A) (xqX D k w1 A) args s mc ms A) (hex : ∀ x ∈ c.exceptionTable.toList, False) (hlk : meth.locks = false) (hk : k ≠ 0) (hw : w' = w1 as) (hP : va_P D vwCl w' H) (hD : va_D A w') (hS : va_S A s.heap H locs)
    (h1 : H[q]? = some ce) (h2 : ce.vm = .none) (h3 : s.vm.findClass (xN k) = some ce.cls) (hc : cells ≤ mc) (hs : slots ≤ ms) : vx_W p l e R s m args below meth c H locs cells slots Q (F0 m pc ls rest) q := by
  subst hQ; subst hw
  exact vx_out (E := xN k) (fun x hx => (hex x hx).elim) hlk h1 h2 h3 (fun t ht _ => ⟨hk, rfl, as, by rw [ht]; exact hP, hD, hS.F ht⟩) hS.2.2 hc hs
end TLY
/-! readers and writers that ask the environment too -/
def rqEB (G : eG) (D : va_G) (cA : Nat → ClassId) (ws : va_W) (U : State) : Prop := rqB D cA ws U ∧ eX G (fun _ => False) U U.heap
theorem rqE_blind {As : List Value} {G : eG} {D : va_G} {cA : Nat → ClassId} {ws : va_W} : FrameBlind (va_Pc As (rqEB G D cA ws)) := fun a U g mk q => ⟨q.1, (rq_blind (As := As) a U g mk ⟨q.1, q.2.1⟩).2, q.2.2.calling⟩
def gqEB (G : eG) (D : va_G) (cA : Nat → ClassId) (ws : va_W) (sz : Nat) (U : State) : Prop := gqB D cA ws sz U ∧ eX G (va_A ws sz) U U.heap
theorem gqE_blind {As : List Value} {G : eG} {D : va_G} {cA : Nat → ClassId} {ws : va_W} {sz : Nat} : FrameBlind (va_Pc As (gqEB G D cA ws sz)) := fun a U g mk q => ⟨q.1, (gq_blind (As := As) a U g mk ⟨q.1, q.2.1⟩).2, q.2.2.calling⟩
section TLE
variable {p : Program} {l : Launch} {e : Env} {R : Room} {s : State} {m : MethodId} {args : Array Value} {below : List Frame} {meth : Method} {c : Code} {H : Heap} {locs : List Loc} {cells slots : Nat} {Q : State → Prop}
theorem rqE_V {G : eG} {A0 : Nat → Prop} {y : MethodName} {bytes cc : ByteArray} {maxL nL n index : Nat} {ret : Option FieldType} {wsm : List Cond} {rm : Room} {Ts : List Cond} {own C : String} {b : Addr} {As rest st0 st1 : List Value} {pc : Nat} {ls : Array Slot} {D : va_G} {cA : Nat → ClassId} {ws wc : va_W} {v : Option Value}
    (S : CallFix p m c cc nL s args Ts own) (hK : va_K D vwCl (atys cA) s) (hP : va_P D vwCl ws H) (hS : va_S A0 s.heap H locs) (hEV : eX G A0 s s.heap) (hM : Met l y wsm rm (va_Pc (.ref b :: As) (rqEB G D cA wc)) (rqQ v) 0 0 (fun _ => False))
    (cw : CallW R s args own C index y bytes maxL ret wsm rm 0 0 n) (is : List Nat) (hs : is.filterMap (fun i => ws[i]?) = wc)
    (q0 ci : Nat) {fs : List Value} {q : vw_C} (he : ws[q0]? = some (b, .inr (ci, fs))) (hc : vwCl[ci]? = some q) (hqC : q.1 = C)
    (hst0 : st0 = As.reverse ++ .ref b :: rest) (hst1 : v.toList ++ rest = st1) (hn : As.length = n) (hl : ls.size = nL) (hW : (rest.map fun v => v.category).sum ≤ 8)
    (hdg : decode cc pc = .ok (.invokevirtual index, 3)) (hf : cells ≤ R.cells ∧ slots ≤ R.slots)
    (kk : W p l e R s m args below meth c H locs cells slots Q (F0 m (pc + 3) ls st1)) : W p l e R s m args below meth c H locs cells slots Q (F0 m pc ls st0) := by
  subst hst0; subst hst1; subst hqC
  exact rq_go (va_runV S hM cw ⟨rqE_blind, va_recv hK hP hc he, fun U hU hW => ⟨rfl, ⟨by rw [hU]; exact hP.sub is hs, va_K.moved hW.alike hK⟩, by rw [hU]; exact hEV.to hW hS.2.1 (fun _ h => h.elim)⟩⟩ rfl hn hl rfl (lv_room hW) hdg hf) kk
theorem rqE_S {G : eG} {A0 : Nat → Prop} {y : MethodName} {bytes cc : ByteArray} {maxL nL n index : Nat} {ret : Option FieldType} {wsm : List Cond} {rm : Room} {Ts : List Cond} {own : String} {As rest st0 st1 : List Value} {pc : Nat} {ls : Array Slot} {D : va_G} {cA : Nat → ClassId} {ws wc : va_W} {v : Option Value}
    (S : CallFix p m c cc nL s args Ts own) (hK : va_K D vwCl (atys cA) s) (hP : va_P D vwCl ws H) (hS : va_S A0 s.heap H locs) (hEV : eX G A0 s s.heap) (hM : Met l y wsm rm (va_Pc As (rqEB G D cA wc)) (rqQ v) 0 0 (fun _ => False))
    (cw : CallB R s args own index y bytes maxL ret wsm rm 0 0 n ∧ (Cond.static y).before args s = true) (is : List Nat) (hs : is.filterMap (fun i => ws[i]?) = wc)
    (hst0 : st0 = As.reverse ++ rest) (hst1 : v.toList ++ rest = st1) (hn : As.length = n) (hl : ls.size = nL) (hW : (rest.map fun v => v.category).sum ≤ 8)
    (hdg : decode cc pc = .ok (.invokestatic index, 3)) (hf : cells ≤ R.cells ∧ slots ≤ R.slots)
    (kk : W p l e R s m args below meth c H locs cells slots Q (F0 m (pc + 3) ls st1)) : W p l e R s m args below meth c H locs cells slots Q (F0 m pc ls st0) := by
  subst hst0; subst hst1
  exact rq_go (va_runS S hM cw ⟨rqE_blind, fun U hU hW => ⟨rfl, ⟨by rw [hU]; exact hP.sub is hs, va_K.moved hW.alike hK⟩, by rw [hU]; exact hEV.to hW hS.2.1 (fun _ h => h.elim)⟩⟩ rfl hn hl rfl (lv_room hW) hdg hf) kk
theorem gqE_V {G : eG} {y : MethodName} {bytes cc : ByteArray} {maxL nL n index mc ms : Nat} {ret : Option FieldType} {wsm : List Cond} {rm : Room} {Ts : List Cond} {own C : String} {b : Addr} {As rest st0 : List Value} {pc : Nat} {ls : Array Slot} {D : va_G} {cA : Nat → ClassId} {A0 : Nat → Prop} {ws wc wr : va_W} {w1 ws2 : (Nat → Nat) → va_W} {v : (Nat → Nat) → Option Value} {st1 : (Nat → Nat) → List Value}
    (S : CallFix p m c cc nL s args Ts own) (hK : va_K D vwCl (atys cA) s) (hP : va_P D vwCl ws H) (hD : va_D A0 ws) (hS : va_S A0 s.heap H locs) (hA : ∀ q : Nat, s.heap.size ≤ q → A0 q) (hEV : eX G A0 s s.heap)
    (hM : Met l y wsm rm (va_Pc (.ref b :: As) (gqEB G D cA wc H.size)) (gqQ D v w1 (va_A wc H.size)) mc ms (va_A wc H.size))
    (cw : CallW R s args own C index y bytes maxL ret wsm rm mc ms n) (isC isR pm : List Nat) (hC : isC.map (fun i => ws[i]?) = wc.map some) (hR : isR.map (fun i => ws[i]?) = wr.map some) (hnc : va_nd isC = true) (hn : va_nd isR = true) (hdis : ∀ i ∈ isR, i ∉ isC) (hpm : ∀ as, pm.map (fun i => (wr ++ w1 as)[i]?) = (ws2 as).map some) (hpn : va_nd pm = true)
    (q0 ci : Nat) {fs : List Value} {q : vw_C} (he : ws[q0]? = some (b, .inr (ci, fs))) (hc : vwCl[ci]? = some q) (hqC : q.1 = C)
    (hst0 : st0 = As.reverse ++ .ref b :: rest) (hst1 : ∀ as, (v as).toList ++ rest = st1 as) (hAn : As.length = n) (hl : ls.size = nL) (hW : (rest.map fun v => v.category).sum ≤ 8)
    (hdg : decode cc pc = .ok (.invokevirtual index, 3)) (hf : cells + mc ≤ R.cells ∧ slots + ms ≤ R.slots)
    (kk : ∀ (as : Nat → Nat) (H1 : Heap) (locs1 : List Loc), va_P D vwCl (ws2 as) H1 → va_D A0 (ws2 as) → va_S A0 s.heap H1 locs1 → W p l e R s m args below meth c H1 locs1 (cells + mc) (slots + ms) Q (F0 m (pc + 3) ls (st1 as))) : W p l e R s m args below meth c H locs cells slots Q (F0 m pc ls st0) := by
  subst hst0; subst hqC
  exact gq_go hP hD hS hA isC isR pm hC hR hn hdis hpm hpn (va_runV S hM cw ⟨gqE_blind, va_recv hK hP hc he, fun U hU hW => ⟨rfl, ⟨by rw [hU], by rw [hU]; exact gq_sub hP isC hC, va_K.moved hW.alike hK, (hD.sub isC hnc hC).weaken (fun _ _ _ _ => trivial)⟩, by rw [hU]; exact hEV.to hW hS.2.1 (va_free hD hS hA isC hC)⟩⟩ rfl hAn hl rfl (lv_room hW) hdg hf) (fun as H1 locs1 h1 h2 h3 => by rw [hst1 as]; exact kk as H1 locs1 h1 h2 h3)
theorem gqE_I {G : eG} {y : MethodName} {bytes cc : ByteArray} {maxL nL n index mc ms : Nat} {wsm : List Cond} {rm : Room} {Ts : List Cond} {own : String} {b : Addr} {As rest st0 : List Value} {pc : Nat} {ls : Array Slot} {D : va_G} {cA : Nat → ClassId} {A0 : Nat → Prop} {ws wc wr : va_W} {w1 ws2 : (Nat → Nat) → va_W}
    (S : CallFix p m c cc nL s args Ts own) (hK : va_K D vwCl (atys cA) s) (hP : va_P D vwCl ws H) (hD : va_D A0 ws) (hS : va_S A0 s.heap H locs) (hA : ∀ q : Nat, s.heap.size ≤ q → A0 q) (hEV : eX G A0 s s.heap)
    (hM : Met l y wsm rm (va_Pc (.ref b :: As) (gqEB G D cA wc H.size)) (gqQ D (fun _ => none) w1 (va_A wc H.size)) mc ms (va_A wc H.size))
    (cw : CallB R s args own index y bytes maxL none wsm rm mc ms n ∧ y.name = "<init>" ∧ (Cond.instanceMethod y).before args s = true) (isC isR pm : List Nat) (hC : isC.map (fun i => ws[i]?) = wc.map some) (hR : isR.map (fun i => ws[i]?) = wr.map some) (hnc : va_nd isC = true) (hn : va_nd isR = true) (hdis : ∀ i ∈ isR, i ∉ isC) (hpm : ∀ as, pm.map (fun i => (wr ++ w1 as)[i]?) = (ws2 as).map some) (hpn : va_nd pm = true)
    (hst0 : st0 = As.reverse ++ .ref b :: rest) (hAn : As.length = n) (hl : ls.size = nL) (hW : (rest.map fun v => v.category).sum ≤ 8)
    (hdg : decode cc pc = .ok (.invokespecial index, 3)) (hf : cells + mc ≤ R.cells ∧ slots + ms ≤ R.slots)
    (kk : ∀ (as : Nat → Nat) (H1 : Heap) (locs1 : List Loc), va_P D vwCl (ws2 as) H1 → va_D A0 (ws2 as) → va_S A0 s.heap H1 locs1 → W p l e R s m args below meth c H1 locs1 (cells + mc) (slots + ms) Q (F0 m (pc + 3) ls rest)) : W p l e R s m args below meth c H locs cells slots Q (F0 m pc ls st0) := by
  subst hst0
  exact gq_go hP hD hS hA isC isR pm hC hR hn hdis hpm hpn (va_runI S hM cw ⟨gqE_blind, fun U hU hW => ⟨rfl, ⟨by rw [hU], by rw [hU]; exact gq_sub hP isC hC, va_K.moved hW.alike hK, (hD.sub isC hnc hC).weaken (fun _ _ _ _ => trivial)⟩, by rw [hU]; exact hEV.to hW hS.2.1 (va_free hD hS hA isC hC)⟩⟩ rfl hAn hl rfl (lv_room hW) hdg hf) (fun as H1 locs1 h1 h2 h3 => kk as H1 locs1 h1 h2 h3)
theorem gqE_S {G : eG} {y : MethodName} {bytes cc : ByteArray} {maxL nL n index mc ms : Nat} {ret : Option FieldType} {wsm : List Cond} {rm : Room} {Ts : List Cond} {own : String} {As rest st0 : List Value} {pc : Nat} {ls : Array Slot} {D : va_G} {cA : Nat → ClassId} {A0 : Nat → Prop} {ws wc wr : va_W} {w1 ws2 : (Nat → Nat) → va_W} {v : (Nat → Nat) → Option Value} {st1 : (Nat → Nat) → List Value}
    (S : CallFix p m c cc nL s args Ts own) (hK : va_K D vwCl (atys cA) s) (hP : va_P D vwCl ws H) (hD : va_D A0 ws) (hS : va_S A0 s.heap H locs) (hA : ∀ q : Nat, s.heap.size ≤ q → A0 q) (hEV : eX G A0 s s.heap)
    (hM : Met l y wsm rm (va_Pc As (gqEB G D cA wc H.size)) (gqQ D v w1 (va_A wc H.size)) mc ms (va_A wc H.size))
    (cw : CallB R s args own index y bytes maxL ret wsm rm mc ms n ∧ (Cond.static y).before args s = true) (isC isR pm : List Nat) (hC : isC.map (fun i => ws[i]?) = wc.map some) (hR : isR.map (fun i => ws[i]?) = wr.map some) (hnc : va_nd isC = true) (hn : va_nd isR = true) (hdis : ∀ i ∈ isR, i ∉ isC) (hpm : ∀ as, pm.map (fun i => (wr ++ w1 as)[i]?) = (ws2 as).map some) (hpn : va_nd pm = true)
    (hst0 : st0 = As.reverse ++ rest) (hst1 : ∀ as, (v as).toList ++ rest = st1 as) (hAn : As.length = n) (hl : ls.size = nL) (hW : (rest.map fun v => v.category).sum ≤ 8)
    (hdg : decode cc pc = .ok (.invokestatic index, 3)) (hf : cells + mc ≤ R.cells ∧ slots + ms ≤ R.slots)
    (kk : ∀ (as : Nat → Nat) (H1 : Heap) (locs1 : List Loc), va_P D vwCl (ws2 as) H1 → va_D A0 (ws2 as) → va_S A0 s.heap H1 locs1 → W p l e R s m args below meth c H1 locs1 (cells + mc) (slots + ms) Q (F0 m (pc + 3) ls (st1 as))) : W p l e R s m args below meth c H locs cells slots Q (F0 m pc ls st0) := by
  subst hst0
  exact gq_go hP hD hS hA isC isR pm hC hR hn hdis hpm hpn (va_runS S hM cw ⟨gqE_blind, fun U hU hW => ⟨rfl, ⟨by rw [hU], by rw [hU]; exact gq_sub hP isC hC, va_K.moved hW.alike hK, (hD.sub isC hnc hC).weaken (fun _ _ _ _ => trivial)⟩, by rw [hU]; exact hEV.to hW hS.2.1 (va_free hD hS hA isC hC)⟩⟩ rfl hAn hl rfl (lv_room hW) hdg hf) (fun as H1 locs1 h1 h2 h3 => by rw [hst1 as]; exact kk as H1 locs1 h1 h2 h3)
end TLE
theorem rqE_ofW {G : eG} {l : Launch} {y : MethodName} {ws ws' : List Cond} {rm : Room} {As : List Value} {D : va_G} {cA : Nat → ClassId} {wc : va_W} {v : Option Value} {cc : ByteArray} {maxL : Nat} {ret : Option FieldType} (hy : plainName y.cls = true) (hw : ws = Cond.code y cc maxL ret :: ws') (hsl : (lg_sl As).length ≤ maxL)
    (body : ∀ (p : Program) (e : Env) (s : State) (m : MethodId) (args : Array Value) (below : List Frame) (meth : Method) (c : Code) (ls : Array Slot) (Q : State → Prop), p.tables.exec = Jvm.exec → c.code = cc → c.maxLocals = maxL → (∀ w ∈ ws, w.before args s = true) → s.vm.findClass y.cls = some m.cls → va_K D vwCl (atys cA) s → va_P D vwCl wc s.heap → va_S (fun _ => False) s.heap s.heap [] → eX G (fun _ => False) s s.heap → lv_has ls maxL (lv_args 0 As) →
      (∀ (i : Instr) (v' : Option Value) (pc : Nat) (ls : Array Slot), v' = v → rtn ret i v' → decode cc pc = .ok (i, 1) → W p l e rm s m args below meth c s.heap [] 0 0 Q (F0 m pc ls v'.toList)) →
      W p l e rm s m args below meth c s.heap [] 0 0 Q (F0 m 0 ls [])) : Met l y ws rm (va_Pc As (rqEB G D cA wc)) (rqQ v) 0 0 (fun _ => False) := by
  refine Met.ofW (cc := cc) (maxL := maxL) (ret := ret) hy hw ?_
  intro p e s m args below meth c s₁ B hml hv
  obtain ⟨rfl, ⟨hP, hK⟩, hEV⟩ := hv
  have hl := lv_entry As hsl
  rw [lg_entry_eq]
  refine body p e s m _ below meth c _ _ B.exec B.bytes hml (atoms_spec (ws := ws) B.pre) (findClass_of_methodNamed B.named) hK hP va_S.rf hEV hl (fun i v' pc ls hv hrt hdg => ?_)
  subst hv
  exact rtn_end B.exec B.bytes B.returns B.notSynchronized hrt (fun t ht _ => ⟨rfl, ht⟩) (fun _ h => absurd h List.not_mem_nil) hdg
theorem gqE_ofW {G : eG} {l : Launch} {y : MethodName} {ws ws' : List Cond} {rm : Room} {As : List Value} {D : va_G} {cA : Nat → ClassId} {wc : va_W} {w1 : (Nat → Nat) → va_W} {sz mc ms : Nat} {v : (Nat → Nat) → Option Value} {cc : ByteArray} {maxL : Nat} {ret : Option FieldType} (hy : plainName y.cls = true) (hw : ws = Cond.code y cc maxL ret :: ws') (hsl : (lg_sl As).length ≤ maxL)
    (body : ∀ (p : Program) (e : Env) (s : State) (m : MethodId) (args : Array Value) (below : List Frame) (meth : Method) (c : Code) (ls : Array Slot) (Q : State → Prop) (A : Nat → Prop), p.tables.exec = Jvm.exec → c.code = cc → c.maxLocals = maxL → (∀ w ∈ ws, w.before args s = true) → s.vm.findClass y.cls = some m.cls → meth.name = y.name → va_K D vwCl (atys cA) s → va_P D vwCl wc s.heap → va_D A wc → va_S A s.heap s.heap [] → (∀ q : Nat, s.heap.size ≤ q → A q) → eX G A s s.heap → lv_has ls maxL (lv_args 0 As) →
      (∀ (as : Nat → Nat) (H : Heap) (locs : List Loc) (i : Instr) (v' : Option Value) (w' : va_W) (pc : Nat) (ls : Array Slot), v' = v as → w' = w1 as → rtn ret i v' → va_P D vwCl w' H → va_D A w' → va_S A s.heap H locs → decode cc pc = .ok (i, 1) → W p l e rm s m args below meth c H locs mc ms Q (F0 m pc ls v'.toList)) →
      W p l e rm s m args below meth c s.heap [] 0 0 Q (F0 m 0 ls [])) : Met l y ws rm (va_Pc As (gqEB G D cA wc sz)) (gqQ D v w1 (va_A wc sz)) mc ms (va_A wc sz) := by
  refine Met.ofW (cc := cc) (maxL := maxL) (ret := ret) hy hw ?_
  intro p e s m args below meth c s₁ B hml hv
  obtain ⟨rfl, ⟨hsz, hP, hK, hD0⟩, hEV⟩ := hv
  subst hsz
  have hl := lv_entry As hsl
  rw [lg_entry_eq]
  refine body p e s m _ below meth c _ _ (va_A wc s.heap.size) B.exec B.bytes hml (atoms_spec (ws := ws) B.pre) (findClass_of_methodNamed B.named) (name_of_methodNamed B.named B.method).1 hK hP hD0.self va_S.rf (fun q h => Or.inr h) hEV hl (fun as H locs i v' w' pc ls hv hw' hrt hP hD hS hdg => ?_)
  subst hv; subst hw'
  exact rtn_end B.exec B.bytes B.returns B.notSynchronized hrt (fun t ht _ => ⟨as, rfl, by rw [ht]; exact hP, hD, hS.F ht⟩) hS.2.2 hdg

theorem xh1_79 : ∀ w ∈ (vx_atS RX5 79 "java/lang/IllegalArgumentException" ["java/lang/RuntimeException", "java/lang/Exception"]).filter (fun w => !goodWord w), w ∈ xB := by decide +kernel
theorem xg1_79 : ∀ w ∈ Cond.classLink RX5 75 "java/lang/IllegalArgumentException" :: Cond.initialized "java/lang/IllegalArgumentException" :: vx_atS RX5 79 "java/lang/IllegalArgumentException" ["java/lang/RuntimeException", "java/lang/Exception"], vx_ot w = true := by decide +kernel
theorem xh2_90 : ∀ w ∈ (vx_atS RX5 90 "java/lang/IllegalStateException" ["java/lang/RuntimeException", "java/lang/Exception"]).filter (fun w => !goodWord w), w ∈ xB := by decide +kernel
theorem xg2_90 : ∀ w ∈ Cond.classLink RX5 86 "java/lang/IllegalStateException" :: Cond.initialized "java/lang/IllegalStateException" :: vx_atS RX5 90 "java/lang/IllegalStateException" ["java/lang/RuntimeException", "java/lang/Exception"], vx_ot w = true := by decide +kernel
theorem xh3_265 : ∀ w ∈ (vx_atS RX5 265 "java/lang/IndexOutOfBoundsException" ["java/lang/RuntimeException", "java/lang/Exception"]).filter (fun w => !goodWord w), w ∈ xB := by decide +kernel
theorem xg3_265 : ∀ w ∈ Cond.classLink RX5 261 "java/lang/IndexOutOfBoundsException" :: Cond.initialized "java/lang/IndexOutOfBoundsException" :: vx_atS RX5 265 "java/lang/IndexOutOfBoundsException" ["java/lang/RuntimeException", "java/lang/Exception"], vx_ot w = true := by decide +kernel
theorem xh4_330 : ∀ w ∈ (vx_atSX RX5 330 "java/util/NoSuchElementException" ["java/lang/RuntimeException", "java/lang/Exception"]).filter (fun w => !goodWord w), w ∈ xB := by decide +kernel
theorem xg4_330 : ∀ w ∈ Cond.classLink RX5 326 "java/util/NoSuchElementException" :: Cond.initialized "java/util/NoSuchElementException" :: vx_atSX RX5 330 "java/util/NoSuchElementException" ["java/lang/RuntimeException", "java/lang/Exception"], vx_ot w = true := by decide +kernel
theorem xh5_276 : ∀ w ∈ (vx_atS RX5 276 "java/lang/ArithmeticException" ["java/lang/RuntimeException", "java/lang/Exception"]).filter (fun w => !goodWord w), w ∈ xB := by decide +kernel
theorem xg5_276 : ∀ w ∈ Cond.classLink RX5 272 "java/lang/ArithmeticException" :: Cond.initialized "java/lang/ArithmeticException" :: vx_atS RX5 276 "java/lang/ArithmeticException" ["java/lang/RuntimeException", "java/lang/Exception"], vx_ot w = true := by decide +kernel
