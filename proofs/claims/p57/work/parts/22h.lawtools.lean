/-! the law's own body: what holds all along; the moons' rows as tables, out of the world -/
def lawC (p : Program) (l : Launch) (s : State) (m : MethodId) (args : Array Value) (c : Code) (A : Nat → Prop) (D : va_G) (cA : Nat → ClassId) (G : eG) (b L : Nat) (xs : Nat → Int32) : Prop :=
  l.stackTraces = false ∧ p.tables.exec = Jvm.exec ∧ c.code = cL_law ∧ c.maxLocals = 3 ∧ s.vm.findClass RL = some m.cls ∧ (∀ w ∈ lw_tbl, w.before args s = true) ∧ (∀ w ∈ wsL_law, w.before args s = true) ∧ va_K D vwCl (atys cA) s ∧ (∀ q : Nat, s.heap.size ≤ q → A q) ∧ eX G A s s.heap ∧ lX s ∧ nX s ∧ tX (scrT b L xs) A s s.heap ∧ aX (cA 2) s
theorem out_w {s : State} {D : va_G} {A0 : Nat → Prop} {ws wc : va_W} {H : Heap} (hP : va_P D vwCl ws H) (hD : va_D A0 ws) (isC : List Nat) (hC : isC.map (fun i => ws[i]?) = wc.map some) (q0 : Nat) {a : Nat} {x : va_E} (ha : ws[q0]? = some (a, x)) (hq0 : q0 ∉ isC) : ¬ va_A wc H.size a := by
  intro h
  rcases h with ⟨k, e, h⟩ | h
  · have h1 : (isC.map (fun i => ws[i]?))[k]? = some (some (a, e)) := by rw [hC, List.getElem?_map, h]; rfl
    rw [List.getElem?_map] at h1
    cases hi : isC[k]? with
    | none => rw [hi] at h1; cases h1
    | some i =>
      rw [hi] at h1
      have h2 : ws[i]? = some (a, e) := Option.some.inj h1
      have h3 := hD.1 q0 i _ _ ha h2 rfl
      subst h3
      exact hq0 (List.mem_of_getElem? hi)
  · exact absurd (hP q0 _ ha).lt (Nat.not_lt.mpr h)
theorem moon_w {s : State} {D : va_G} {cA : Nat → ClassId} {A0 : Nat → Prop} {ws wc : va_W} {H : Heap} (hK : va_K D vwCl (atys cA) s) (hP : va_P D vwCl ws H) (hD : va_D A0 ws) (isC : List Nat) (hC : isC.map (fun i => ws[i]?) = wc.map some) (q0 : Nat) {mo : Nat} {f : Nat → Option Nat} (ha : ws[q0]? = some (mo, .inl (cA 2, 5, .inr (.inr (.inr (.inr f)))))) (hq0 : q0 ∉ isC) {n : Nat} {mr : Nat → Nat} {mv : Nat → Nat → Int32} (qs : Nat → Nat) (hqs : ∀ k, k < n → qs k ∉ isC) (hrow : ∀ k, k < n → ws[qs k]? = some (mr k, .inl (cA 0, 5, .inl (mv k)))) (hf : ∀ j, j < 5 → va_rf (f j) = if j < n then .ref (mr j) else .null) : tX (moonT mo n mr mv) (va_A wc H.size) s H := by
  intro t ht
  rcases ht with rfl | ⟨k, hk, rfl⟩
  · refine ⟨vp_cell (cA 2) (5, .inr (.inr (.inr (.inr f)))), hP q0 _ ha, (hK.2 2 _ rfl).1 5 (fun j => va_rf (f j)), (fun h => by cases h), ?_, ?_, fun j hj => ?_, out_w (s := s) hP hD isC hC q0 ha hq0⟩
    · show 5 ≤ (arrV _ _ _).slots.size
      rw [arrV_size]
      exact Nat.le_refl 5
    · show (arrV _ _ _).slots.size.toInt32 = _
      rw [arrV_size]
    · show (arrV _ _ _).slots[j]? = _
      rw [arrV_read _ _ hj]
      exact congrArg some (hf j hj)
  · have hr := hrow k hk
    refine ⟨vp_cell (cA 0) (5, .inl (mv k)), hP _ _ hr, (hK.2 0 _ rfl).1 5 (fun j => .int (mv k j)), (fun h => by cases h), ?_, ?_, fun j hj => ?_, out_w (s := s) hP hD isC hC _ hr (hqs k hk)⟩
    · show 5 ≤ (arrV _ _ _).slots.size
      rw [arrV_size]
      exact Nat.le_refl 5
    · show (arrV _ _ _).slots.size.toInt32 = _
      rw [arrV_size]
    · show (arrV _ _ _).slots[j]? = _
      rw [arrV_read _ _ hj]
/-- the script as a table -/
theorem scr_w {s : State} {A : Nat → Prop} {b L : Nat} {xs : Nat → Int32} (hX : va_X b L xs s s.heap) (hbA : ¬ A b) : tX (scrT b L xs) A s s.heap := by
  intro t ht
  obtain ⟨scr, h1, h2, h3, h4, h5⟩ := hX
  cases ht
  exact ⟨scr, h1, h2, h3, by rw [h4]; exact Nat.le_refl _, by rw [h4], h5, hbA⟩
