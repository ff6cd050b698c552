set_option maxHeartbeats 4000000 in
theorem cC45 {p : Program} {l : Launch} {e : Env} {s : State} {m : MethodId} {args : Array Value} {below : List Frame} {meth : Method} {c : Code} {Q : State → Prop} {A : Nat → Prop} {D : va_G} {cA : Nat → ClassId} {G : eG} {b : Nat} (L : Nat) (xs : Nat → Int32) (C : lawC p l s m args c A D cA G b L xs) (z0 a0 a1 a2 b0 b1 b4 b2 b5 b3 b6 h0 h1 h2 s0 t0 r0 r1 l0 e0 e1 k0 k1 m0 q0 q1 q2 q4 q7 q9 q15 w0 w9 : Nat) {T : Int} (hT : T ≤ 800000) {N : Nat} (hN : 2100 ≤ N) (x5 : Int32) (hx1 : vp_in (x5 + 1) L) (hx2 : vp_in (x5 + 2) L) (hx3 : vp_in (x5 + 3) L) (ce se : Nat) (hce : ce + 80 ≤ 603072) (hse : se + 11200 ≤ 7202922) (K : HK p l e s m args below meth c Q A D cA b z0 a0 a1 a2 b0 b1 b4 b2 b5 b3 b6 h0 h1 h2 s0 t0 r0 r1 l0 e0 e1 k0 k1 m0 q0 q1 q2 q4 q7 q9 q15 w0 w9 x5 2950 (ce + 80) (se + 11200) (T + 900)) : HK p l e s m args below meth c Q A D cA b z0 a0 a1 a2 b0 b1 b4 b2 b5 b3 b6 h0 h1 h2 s0 t0 r0 r1 l0 e0 e1 k0 k1 m0 q0 q1 q2 q4 q7 q9 q15 w0 w9 x5 2580 ce se T := by
  intro t1 l1 f f1 f2 f3 v1 v2 g w1 w2 w3 n tf ml c0 cm n2 lf ml2 c2 bf sn u7 u8 u9 v3 v5 v6 v8 v10 v11 v12 v13 v14 v16 ss bb sv pp ln tx cd wo wd ls H locs hI hl hP hD hS
  obtain ⟨i1, i2, i3, i4, i5, i6, i7, i8, i9, i10⟩ := hI
  have hm : T ≤ T + 900 := by omega
  have hm60 : T + 60 ≤ T + 900 := by omega
  obtain ⟨r, hr⟩ : ∃ r, SC45 N f ss wd = some r := p45 hN i1 (i2.tg (by omega))
  refine kC45 L xs C z0 a0 a1 a2 b0 b1 b4 b2 b5 b3 b6 h0 h1 h2 s0 t0 r0 r1 l0 e0 e1 k0 k1 m0 q0 q1 q2 q4 q7 q9 q15 w0 w9 t1 l1 N f f1 f2 f3 v1 v2 g w1 w2 w3 n tf ml c0 cm n2 lf ml2 c2 bf sn u7 u8 u9 v3 v5 v6 v8 v10 v11 v12 v13 v14 v16 ss bb sv pp ln tx cd wo wd x5 hr ce se hce hse ls H locs hl hP hD hS (fun t1 l1 ls H locs hl hP hD hS => ?_)
  refine K t1 l1 _ _ _ _ _ _ _ _ _ _ _ _ _ _ _ _ _ _ _ _ _ _ _ _ _ _ _ _ _ _ _ _ _ _ _ _ _ _ _ _ _ _ _ ls H locs ?_ hl hP hD hS
  exact ⟨i1, i2.mono hm, i3.mono hm, i4.mono hm, i5, i6, i7, i8, i9, i10⟩
set_option maxHeartbeats 4000000 in
theorem cC46 {p : Program} {l : Launch} {e : Env} {s : State} {m : MethodId} {args : Array Value} {below : List Frame} {meth : Method} {c : Code} {Q : State → Prop} {A : Nat → Prop} {D : va_G} {cA : Nat → ClassId} {G : eG} {b : Nat} (L : Nat) (xs : Nat → Int32) (C : lawC p l s m args c A D cA G b L xs) (z0 a0 a1 a2 b0 b1 b4 b2 b5 b3 b6 h0 h1 h2 s0 t0 r0 r1 l0 e0 e1 k0 k1 m0 q0 q1 q2 q4 q7 q9 q15 w0 w9 : Nat) {T : Int} (hT : T ≤ 800000) {N : Nat} (hN : 2100 ≤ N) (x5 : Int32) (hx1 : vp_in (x5 + 1) L) (hx2 : vp_in (x5 + 2) L) (hx3 : vp_in (x5 + 3) L) (ce se : Nat) (hce : ce + 80 ≤ 603072) (hse : se + 11200 ≤ 7202922) (K : HK p l e s m args below meth c Q A D cA b z0 a0 a1 a2 b0 b1 b4 b2 b5 b3 b6 h0 h1 h2 s0 t0 r0 r1 l0 e0 e1 k0 k1 m0 q0 q1 q2 q4 q7 q9 q15 w0 w9 x5 2950 (ce + 80) (se + 11200) (T + 900)) : HK p l e s m args below meth c Q A D cA b z0 a0 a1 a2 b0 b1 b4 b2 b5 b3 b6 h0 h1 h2 s0 t0 r0 r1 l0 e0 e1 k0 k1 m0 q0 q1 q2 q4 q7 q9 q15 w0 w9 x5 2646 ce se T := by
  intro t1 l1 f f1 f2 f3 v1 v2 g w1 w2 w3 n tf ml c0 cm n2 lf ml2 c2 bf sn u7 u8 u9 v3 v5 v6 v8 v10 v11 v12 v13 v14 v16 ss bb sv pp ln tx cd wo wd ls H locs hI hl hP hD hS
  obtain ⟨i1, i2, i3, i4, i5, i6, i7, i8, i9, i10⟩ := hI
  have hm : T ≤ T + 900 := by omega
  have hm60 : T + 60 ≤ T + 900 := by omega
  obtain ⟨r, hr⟩ : ∃ r, SC46 N f f1 f2 f3 = some r := p46 hN (i2.tg (by omega)) i2.2.2.2.2.2.1 i2.2.2.2.2.2.2.2.2.2.2 f1 f2 f3
  refine kC46 L xs C z0 a0 a1 a2 b0 b1 b4 b2 b5 b3 b6 h0 h1 h2 s0 t0 r0 r1 l0 e0 e1 k0 k1 m0 q0 q1 q2 q4 q7 q9 q15 w0 w9 t1 l1 N f f1 f2 f3 v1 v2 g w1 w2 w3 n tf ml c0 cm n2 lf ml2 c2 bf sn u7 u8 u9 v3 v5 v6 v8 v10 v11 v12 v13 v14 v16 ss bb sv pp ln tx cd wo wd x5 hr ce se hce hse ls H locs hl hP hD hS (fun t1 l1 ls H locs hl hP hD hS => ?_)
  refine K t1 l1 _ _ _ _ _ _ _ _ _ _ _ _ _ _ _ _ _ _ _ _ _ _ _ _ _ _ _ _ _ _ _ _ _ _ _ _ _ _ _ _ _ _ _ ls H locs ?_ hl hP hD hS
  exact ⟨i1, i2.mono hm, i3.mono hm, i4.mono hm, i5, i6, i7, i8, i9, i10⟩
set_option maxHeartbeats 4000000 in
theorem cC47 {p : Program} {l : Launch} {e : Env} {s : State} {m : MethodId} {args : Array Value} {below : List Frame} {meth : Method} {c : Code} {Q : State → Prop} {A : Nat → Prop} {D : va_G} {cA : Nat → ClassId} {G : eG} {b : Nat} (L : Nat) (xs : Nat → Int32) (C : lawC p l s m args c A D cA G b L xs) (z0 a0 a1 a2 b0 b1 b4 b2 b5 b3 b6 h0 h1 h2 s0 t0 r0 r1 l0 e0 e1 k0 k1 m0 q0 q1 q2 q4 q7 q9 q15 w0 w9 : Nat) {T : Int} (hT : T ≤ 800000) {N : Nat} (hN : 2100 ≤ N) (x5 : Int32) (hx1 : vp_in (x5 + 1) L) (hx2 : vp_in (x5 + 2) L) (hx3 : vp_in (x5 + 3) L) (ce se : Nat) (hce : ce + 80 ≤ 603072) (hse : se + 11200 ≤ 7202922) (K : HK p l e s m args below meth c Q A D cA b z0 a0 a1 a2 b0 b1 b4 b2 b5 b3 b6 h0 h1 h2 s0 t0 r0 r1 l0 e0 e1 k0 k1 m0 q0 q1 q2 q4 q7 q9 q15 w0 w9 x5 2950 (ce + 80) (se + 11200) (T + 900)) : HK p l e s m args below meth c Q A D cA b z0 a0 a1 a2 b0 b1 b4 b2 b5 b3 b6 h0 h1 h2 s0 t0 r0 r1 l0 e0 e1 k0 k1 m0 q0 q1 q2 q4 q7 q9 q15 w0 w9 x5 2659 ce se T := by
  intro t1 l1 f f1 f2 f3 v1 v2 g w1 w2 w3 n tf ml c0 cm n2 lf ml2 c2 bf sn u7 u8 u9 v3 v5 v6 v8 v10 v11 v12 v13 v14 v16 ss bb sv pp ln tx cd wo wd ls H locs hI hl hP hD hS
  obtain ⟨i1, i2, i3, i4, i5, i6, i7, i8, i9, i10⟩ := hI
  have hm : T ≤ T + 900 := by omega
  have hm60 : T + 60 ≤ T + 900 := by omega
  obtain ⟨r, hr, hO⟩ := p47 (n := n) (tf := tf) (c0 := c0) (v10 := v10) (tx := tx) (wo := wo) (L := L) (xs := xs) (x5 := x5) i10 hx1
  refine kC47 L xs C z0 a0 a1 a2 b0 b1 b4 b2 b5 b3 b6 h0 h1 h2 s0 t0 r0 r1 l0 e0 e1 k0 k1 m0 q0 q1 q2 q4 q7 q9 q15 w0 w9 t1 l1 f f1 f2 f3 v1 v2 g w1 w2 w3 n tf ml c0 cm n2 lf ml2 c2 bf sn u7 u8 u9 v3 v5 v6 v8 v10 v11 v12 v13 v14 v16 ss bb sv pp ln tx cd wo wd x5 hr ce se hce hse ls H locs hl hP hD hS (fun t1 l1 ls H locs hl hP hD hS => ?_)
  refine K t1 l1 _ _ _ _ _ _ _ _ _ _ _ _ _ _ _ _ _ _ _ _ _ _ _ _ _ _ _ _ _ _ _ _ _ _ _ _ _ _ _ _ _ _ _ ls H locs ?_ hl hP hD hS
  exact ⟨i1, i2.mono hm, i3.mono hm, i4.mono hm, i5, i6, i7, i8, i9, hO⟩
set_option maxHeartbeats 4000000 in
theorem cC48 {p : Program} {l : Launch} {e : Env} {s : State} {m : MethodId} {args : Array Value} {below : List Frame} {meth : Method} {c : Code} {Q : State → Prop} {A : Nat → Prop} {D : va_G} {cA : Nat → ClassId} {G : eG} {b : Nat} (L : Nat) (xs : Nat → Int32) (C : lawC p l s m args c A D cA G b L xs) (z0 a0 a1 a2 b0 b1 b4 b2 b5 b3 b6 h0 h1 h2 s0 t0 r0 r1 l0 e0 e1 k0 k1 m0 q0 q1 q2 q4 q7 q9 q15 w0 w9 : Nat) {T : Int} (hT : T ≤ 800000) {N : Nat} (hN : 2100 ≤ N) (x5 : Int32) (hx1 : vp_in (x5 + 1) L) (hx2 : vp_in (x5 + 2) L) (hx3 : vp_in (x5 + 3) L) (ce se : Nat) (hce : ce + 80 ≤ 603072) (hse : se + 11200 ≤ 7202922) (K : HK p l e s m args below meth c Q A D cA b z0 a0 a1 a2 b0 b1 b4 b2 b5 b3 b6 h0 h1 h2 s0 t0 r0 r1 l0 e0 e1 k0 k1 m0 q0 q1 q2 q4 q7 q9 q15 w0 w9 x5 2950 (ce + 80) (se + 11200) (T + 900)) : HK p l e s m args below meth c Q A D cA b z0 a0 a1 a2 b0 b1 b4 b2 b5 b3 b6 h0 h1 h2 s0 t0 r0 r1 l0 e0 e1 k0 k1 m0 q0 q1 q2 q4 q7 q9 q15 w0 w9 x5 2717 ce se T := by
  intro t1 l1 f f1 f2 f3 v1 v2 g w1 w2 w3 n tf ml c0 cm n2 lf ml2 c2 bf sn u7 u8 u9 v3 v5 v6 v8 v10 v11 v12 v13 v14 v16 ss bb sv pp ln tx cd wo wd ls H locs hI hl hP hD hS
  obtain ⟨i1, i2, i3, i4, i5, i6, i7, i8, i9, i10⟩ := hI
  have hm : T ≤ T + 900 := by omega
  have hm60 : T + 60 ≤ T + 900 := by omega
  obtain ⟨r, hr, hO⟩ := p48 (N := N) (f := f) (v1 := v1) (v2 := v2) (g := g) (w3 := w3) (n := n) (tf := tf) (ml := ml) (c0 := c0) (cm := cm) (bf := bf) (u8 := u8) (u9 := u9) (v5 := v5) (v10 := v10) (v13 := v13) (v14 := v14) (ss := ss) (bb := bb) (pp := pp) (tx := tx) (cd := cd) (wo := wo) hN i1 i2 (by omega) i3 i10 i5 i6 i7 i8
  refine kC48 L xs C z0 a0 a1 a2 b0 b1 b4 b2 b5 b3 b6 h0 h1 h2 s0 t0 r0 r1 l0 e0 e1 k0 k1 m0 q0 q1 q2 q4 q7 q9 q15 w0 w9 t1 l1 N f f1 f2 f3 v1 v2 g w1 w2 w3 n tf ml c0 cm n2 lf ml2 c2 bf sn u7 u8 u9 v3 v5 v6 v8 v10 v11 v12 v13 v14 v16 ss bb sv pp ln tx cd wo wd x5 hr ce se hce hse ls H locs hl hP hD hS (fun t1 l1 ls H locs hl hP hD hS => ?_)
  refine K t1 l1 _ _ _ _ _ _ _ _ _ _ _ _ _ _ _ _ _ _ _ _ _ _ _ _ _ _ _ _ _ _ _ _ _ _ _ _ _ _ _ _ _ _ _ ls H locs ?_ hl hP hD hS
  exact ⟨hO.1, hO.2.1, hO.2.2.1, i4.mono hm, hO.2.2.2.2.1, hO.2.2.2.2.2.1, hO.2.2.2.2.2.2.1, hO.2.2.2.2.2.2.2, i9, hO.2.2.2.1⟩
set_option maxHeartbeats 4000000 in
theorem cC49 {p : Program} {l : Launch} {e : Env} {s : State} {m : MethodId} {args : Array Value} {below : List Frame} {meth : Method} {c : Code} {Q : State → Prop} {A : Nat → Prop} {D : va_G} {cA : Nat → ClassId} {G : eG} {b : Nat} (L : Nat) (xs : Nat → Int32) (C : lawC p l s m args c A D cA G b L xs) (z0 a0 a1 a2 b0 b1 b4 b2 b5 b3 b6 h0 h1 h2 s0 t0 r0 r1 l0 e0 e1 k0 k1 m0 q0 q1 q2 q4 q7 q9 q15 w0 w9 : Nat) {T : Int} (hT : T ≤ 800000) {N : Nat} (hN : 2100 ≤ N) (x5 : Int32) (hx1 : vp_in (x5 + 1) L) (hx2 : vp_in (x5 + 2) L) (hx3 : vp_in (x5 + 3) L) (ce se : Nat) (hce : ce + 80 ≤ 603072) (hse : se + 11200 ≤ 7202922) (K : HK p l e s m args below meth c Q A D cA b z0 a0 a1 a2 b0 b1 b4 b2 b5 b3 b6 h0 h1 h2 s0 t0 r0 r1 l0 e0 e1 k0 k1 m0 q0 q1 q2 q4 q7 q9 q15 w0 w9 x5 2950 (ce + 80) (se + 11200) (T + 900)) : HK p l e s m args below meth c Q A D cA b z0 a0 a1 a2 b0 b1 b4 b2 b5 b3 b6 h0 h1 h2 s0 t0 r0 r1 l0 e0 e1 k0 k1 m0 q0 q1 q2 q4 q7 q9 q15 w0 w9 x5 2761 ce se T := by
  intro t1 l1 f f1 f2 f3 v1 v2 g w1 w2 w3 n tf ml c0 cm n2 lf ml2 c2 bf sn u7 u8 u9 v3 v5 v6 v8 v10 v11 v12 v13 v14 v16 ss bb sv pp ln tx cd wo wd ls H locs hI hl hP hD hS
  obtain ⟨i1, i2, i3, i4, i5, i6, i7, i8, i9, i10⟩ := hI
  have hm : T ≤ T + 900 := by omega
  have hm60 : T + 60 ≤ T + 900 := by omega
  obtain ⟨r, hr⟩ : ∃ r, SC49 u8 v13 wo = some r := by
    rw [← i5]
    exact p49 (i5.symm ▸ i7)
  refine kC49 L xs C z0 a0 a1 a2 b0 b1 b4 b2 b5 b3 b6 h0 h1 h2 s0 t0 r0 r1 l0 e0 e1 k0 k1 m0 q0 q1 q2 q4 q7 q9 q15 w0 w9 t1 l1 f f1 f2 f3 v1 v2 g w1 w2 w3 n tf ml c0 cm n2 lf ml2 c2 bf sn u7 u8 u9 v3 v5 v6 v8 v10 v11 v12 v13 v14 v16 ss bb sv pp ln tx cd wo wd x5 hr ce se hce hse ls H locs hl hP hD hS (fun t1 l1 ls H locs hl hP hD hS => ?_)
  refine K t1 l1 _ _ _ _ _ _ _ _ _ _ _ _ _ _ _ _ _ _ _ _ _ _ _ _ _ _ _ _ _ _ _ _ _ _ _ _ _ _ _ _ _ _ _ ls H locs ?_ hl hP hD hS
  exact ⟨i1, i2.mono hm, i3.mono hm, i4.mono hm, i5, i6, i7, i8, i9, i10⟩
set_option maxHeartbeats 4000000 in
theorem cC50 {p : Program} {l : Launch} {e : Env} {s : State} {m : MethodId} {args : Array Value} {below : List Frame} {meth : Method} {c : Code} {Q : State → Prop} {A : Nat → Prop} {D : va_G} {cA : Nat → ClassId} {G : eG} {b : Nat} (L : Nat) (xs : Nat → Int32) (C : lawC p l s m args c A D cA G b L xs) (z0 a0 a1 a2 b0 b1 b4 b2 b5 b3 b6 h0 h1 h2 s0 t0 r0 r1 l0 e0 e1 k0 k1 m0 q0 q1 q2 q4 q7 q9 q15 w0 w9 : Nat) {T : Int} (hT : T ≤ 800000) {N : Nat} (hN : 2100 ≤ N) (x5 : Int32) (hx1 : vp_in (x5 + 1) L) (hx2 : vp_in (x5 + 2) L) (hx3 : vp_in (x5 + 3) L) (ce se : Nat) (hce : ce + 80 ≤ 603072) (hse : se + 11200 ≤ 7202922) (K : HK p l e s m args below meth c Q A D cA b z0 a0 a1 a2 b0 b1 b4 b2 b5 b3 b6 h0 h1 h2 s0 t0 r0 r1 l0 e0 e1 k0 k1 m0 q0 q1 q2 q4 q7 q9 q15 w0 w9 x5 2950 (ce + 80) (se + 11200) (T + 900)) : HK p l e s m args below meth c Q A D cA b z0 a0 a1 a2 b0 b1 b4 b2 b5 b3 b6 h0 h1 h2 s0 t0 r0 r1 l0 e0 e1 k0 k1 m0 q0 q1 q2 q4 q7 q9 q15 w0 w9 x5 2805 ce se T := by
  intro t1 l1 f f1 f2 f3 v1 v2 g w1 w2 w3 n tf ml c0 cm n2 lf ml2 c2 bf sn u7 u8 u9 v3 v5 v6 v8 v10 v11 v12 v13 v14 v16 ss bb sv pp ln tx cd wo wd ls H locs hI hl hP hD hS
  obtain ⟨i1, i2, i3, i4, i5, i6, i7, i8, i9, i10⟩ := hI
  have hm : T ≤ T + 900 := by omega
  have hm60 : T + 60 ≤ T + 900 := by omega
  obtain ⟨r, hr⟩ : ∃ r, SC50 u9 v14 wo = some r := by
    rw [← i6]
    exact p50 (i6.symm ▸ i8)
  refine kC50 L xs C z0 a0 a1 a2 b0 b1 b4 b2 b5 b3 b6 h0 h1 h2 s0 t0 r0 r1 l0 e0 e1 k0 k1 m0 q0 q1 q2 q4 q7 q9 q15 w0 w9 t1 l1 f f1 f2 f3 v1 v2 g w1 w2 w3 n tf ml c0 cm n2 lf ml2 c2 bf sn u7 u8 u9 v3 v5 v6 v8 v10 v11 v12 v13 v14 v16 ss bb sv pp ln tx cd wo wd x5 hr ce se hce hse ls H locs hl hP hD hS (fun t1 l1 ls H locs hl hP hD hS => ?_)
  refine K t1 l1 _ _ _ _ _ _ _ _ _ _ _ _ _ _ _ _ _ _ _ _ _ _ _ _ _ _ _ _ _ _ _ _ _ _ _ _ _ _ _ _ _ _ _ ls H locs ?_ hl hP hD hS
  exact ⟨i1, i2.mono hm, i3.mono hm, i4.mono hm, i5, i6, i7, i8, i9, i10⟩
set_option maxHeartbeats 4000000 in
theorem cC51 {p : Program} {l : Launch} {e : Env} {s : State} {m : MethodId} {args : Array Value} {below : List Frame} {meth : Method} {c : Code} {Q : State → Prop} {A : Nat → Prop} {D : va_G} {cA : Nat → ClassId} {G : eG} {b : Nat} (L : Nat) (xs : Nat → Int32) (C : lawC p l s m args c A D cA G b L xs) (z0 a0 a1 a2 b0 b1 b4 b2 b5 b3 b6 h0 h1 h2 s0 t0 r0 r1 l0 e0 e1 k0 k1 m0 q0 q1 q2 q4 q7 q9 q15 w0 w9 : Nat) {T : Int} (hT : T ≤ 800000) {N : Nat} (hN : 2100 ≤ N) (x5 : Int32) (hx1 : vp_in (x5 + 1) L) (hx2 : vp_in (x5 + 2) L) (hx3 : vp_in (x5 + 3) L) (ce se : Nat) (hce : ce + 80 ≤ 603072) (hse : se + 11200 ≤ 7202922) (K : HK p l e s m args below meth c Q A D cA b z0 a0 a1 a2 b0 b1 b4 b2 b5 b3 b6 h0 h1 h2 s0 t0 r0 r1 l0 e0 e1 k0 k1 m0 q0 q1 q2 q4 q7 q9 q15 w0 w9 x5 2950 (ce + 80) (se + 11200) (T + 900)) : HK p l e s m args below meth c Q A D cA b z0 a0 a1 a2 b0 b1 b4 b2 b5 b3 b6 h0 h1 h2 s0 t0 r0 r1 l0 e0 e1 k0 k1 m0 q0 q1 q2 q4 q7 q9 q15 w0 w9 x5 2849 ce se T := by
  intro t1 l1 f f1 f2 f3 v1 v2 g w1 w2 w3 n tf ml c0 cm n2 lf ml2 c2 bf sn u7 u8 u9 v3 v5 v6 v8 v10 v11 v12 v13 v14 v16 ss bb sv pp ln tx cd wo wd ls H locs hI hl hP hD hS
  obtain ⟨i1, i2, i3, i4, i5, i6, i7, i8, i9, i10⟩ := hI
  have hm : T ≤ T + 900 := by omega
  have hm60 : T + 60 ≤ T + 900 := by omega
  obtain ⟨r, hr, hO⟩ := p51 (N := N) (f := f) (v1 := v1) (v2 := v2) (g := g) (v5 := v5) (ss := ss) (pp := pp) (wo := wo) hN i1 i2 i3
  refine kC51 L xs C z0 a0 a1 a2 b0 b1 b4 b2 b5 b3 b6 h0 h1 h2 s0 t0 r0 r1 l0 e0 e1 k0 k1 m0 q0 q1 q2 q4 q7 q9 q15 w0 w9 t1 l1 N f f1 f2 f3 v1 v2 g w1 w2 w3 n tf ml c0 cm n2 lf ml2 c2 bf sn u7 u8 u9 v3 v5 v6 v8 v10 v11 v12 v13 v14 v16 ss bb sv pp ln tx cd wo wd x5 hr ce se hce hse ls H locs hl hP hD hS (fun t1 l1 ls H locs hl hP hD hS => ?_)
  refine K t1 l1 _ _ _ _ _ _ _ _ _ _ _ _ _ _ _ _ _ _ _ _ _ _ _ _ _ _ _ _ _ _ _ _ _ _ _ _ _ _ _ _ _ _ _ ls H locs ?_ hl hP hD hS
  exact ⟨hO.1, hO.2.1.mono hm, hO.2.2.mono hm, i4.mono hm, i5, i6, i7, i8, i9, i10⟩
set_option maxHeartbeats 4000000 in
theorem cC52 {p : Program} {l : Launch} {e : Env} {s : State} {m : MethodId} {args : Array Value} {below : List Frame} {meth : Method} {c : Code} {Q : State → Prop} {A : Nat → Prop} {D : va_G} {cA : Nat → ClassId} {G : eG} {b : Nat} (L : Nat) (xs : Nat → Int32) (C : lawC p l s m args c A D cA G b L xs) (z0 a0 a1 a2 b0 b1 b4 b2 b5 b3 b6 h0 h1 h2 s0 t0 r0 r1 l0 e0 e1 k0 k1 m0 q0 q1 q2 q4 q7 q9 q15 w0 w9 : Nat) {T : Int} (hT : T ≤ 800000) {N : Nat} (hN : 2100 ≤ N) (x5 : Int32) (hx1 : vp_in (x5 + 1) L) (hx2 : vp_in (x5 + 2) L) (hx3 : vp_in (x5 + 3) L) (ce se : Nat) (hce : ce + 80 ≤ 603072) (hse : se + 11200 ≤ 7202922) (K : HK p l e s m args below meth c Q A D cA b z0 a0 a1 a2 b0 b1 b4 b2 b5 b3 b6 h0 h1 h2 s0 t0 r0 r1 l0 e0 e1 k0 k1 m0 q0 q1 q2 q4 q7 q9 q15 w0 w9 x5 2950 (ce + 80) (se + 11200) (T + 900)) : HK p l e s m args below meth c Q A D cA b z0 a0 a1 a2 b0 b1 b4 b2 b5 b3 b6 h0 h1 h2 s0 t0 r0 r1 l0 e0 e1 k0 k1 m0 q0 q1 q2 q4 q7 q9 q15 w0 w9 x5 2893 ce se T := by
  intro t1 l1 f f1 f2 f3 v1 v2 g w1 w2 w3 n tf ml c0 cm n2 lf ml2 c2 bf sn u7 u8 u9 v3 v5 v6 v8 v10 v11 v12 v13 v14 v16 ss bb sv pp ln tx cd wo wd ls H locs hI hl hP hD hS
  obtain ⟨i1, i2, i3, i4, i5, i6, i7, i8, i9, i10⟩ := hI
  have hm : T ≤ T + 900 := by omega
  have hm60 : T + 60 ≤ T + 900 := by omega
  obtain ⟨r, hr, hO⟩ := p52 (N := N) (f := f) (sn := sn) (ss := ss) (sv := sv) hN i1 i2
  refine kC52 L xs C z0 a0 a1 a2 b0 b1 b4 b2 b5 b3 b6 h0 h1 h2 s0 t0 r0 r1 l0 e0 e1 k0 k1 m0 q0 q1 q2 q4 q7 q9 q15 w0 w9 t1 l1 N f f1 f2 f3 v1 v2 g w1 w2 w3 n tf ml c0 cm n2 lf ml2 c2 bf sn u7 u8 u9 v3 v5 v6 v8 v10 v11 v12 v13 v14 v16 ss bb sv pp ln tx cd wo wd x5 hr ce se hce hse ls H locs hl hP hD hS (fun t1 l1 ls H locs hl hP hD hS => ?_)
  refine K t1 l1 _ _ _ _ _ _ _ _ _ _ _ _ _ _ _ _ _ _ _ _ _ _ _ _ _ _ _ _ _ _ _ _ _ _ _ _ _ _ _ _ _ _ _ ls H locs ?_ hl hP hD hS
  exact ⟨i1, i2.mono hm, i3.mono hm, hO.mono hm, i5, i6, i7, i8, i9, i10⟩
set_option maxHeartbeats 4000000 in
theorem cC53 {p : Program} {l : Launch} {e : Env} {s : State} {m : MethodId} {args : Array Value} {below : List Frame} {meth : Method} {c : Code} {Q : State → Prop} {A : Nat → Prop} {D : va_G} {cA : Nat → ClassId} {G : eG} {b : Nat} (L : Nat) (xs : Nat → Int32) (C : lawC p l s m args c A D cA G b L xs) (z0 a0 a1 a2 b0 b1 b4 b2 b5 b3 b6 h0 h1 h2 s0 t0 r0 r1 l0 e0 e1 k0 k1 m0 q0 q1 q2 q4 q7 q9 q15 w0 w9 : Nat) {T : Int} (hT : T ≤ 800000) {N : Nat} (hN : 2100 ≤ N) (x5 : Int32) (hx1 : vp_in (x5 + 1) L) (hx2 : vp_in (x5 + 2) L) (hx3 : vp_in (x5 + 3) L) (ce se : Nat) (hce : ce + 80 ≤ 603072) (hse : se + 11200 ≤ 7202922) (K : HK p l e s m args below meth c Q A D cA b z0 a0 a1 a2 b0 b1 b4 b2 b5 b3 b6 h0 h1 h2 s0 t0 r0 r1 l0 e0 e1 k0 k1 m0 q0 q1 q2 q4 q7 q9 q15 w0 w9 x5 2950 (ce + 80) (se + 11200) (T + 900)) : HK p l e s m args below meth c Q A D cA b z0 a0 a1 a2 b0 b1 b4 b2 b5 b3 b6 h0 h1 h2 s0 t0 r0 r1 l0 e0 e1 k0 k1 m0 q0 q1 q2 q4 q7 q9 q15 w0 w9 x5 2906 ce se T := by
  intro t1 l1 f f1 f2 f3 v1 v2 g w1 w2 w3 n tf ml c0 cm n2 lf ml2 c2 bf sn u7 u8 u9 v3 v5 v6 v8 v10 v11 v12 v13 v14 v16 ss bb sv pp ln tx cd wo wd ls H locs hI hl hP hD hS
  obtain ⟨i1, i2, i3, i4, i5, i6, i7, i8, i9, i10⟩ := hI
  have hm : T ≤ T + 900 := by omega
  have hm60 : T + 60 ≤ T + 900 := by omega
  obtain ⟨r, hr, hO⟩ := p53 (N := N) (f := f) (v2 := v2) (sn := sn) (u7 := u7) (v3 := v3) (v5 := v5) (ss := ss) (sv := sv) (wo := wo) hN i1 i2 i3 i4
  refine kC53 L xs C z0 a0 a1 a2 b0 b1 b4 b2 b5 b3 b6 h0 h1 h2 s0 t0 r0 r1 l0 e0 e1 k0 k1 m0 q0 q1 q2 q4 q7 q9 q15 w0 w9 t1 l1 N f f1 f2 f3 v1 v2 g w1 w2 w3 n tf ml c0 cm n2 lf ml2 c2 bf sn u7 u8 u9 v3 v5 v6 v8 v10 v11 v12 v13 v14 v16 ss bb sv pp ln tx cd wo wd x5 hr ce se hce hse ls H locs hl hP hD hS (fun t1 l1 ls H locs hl hP hD hS => ?_)
  refine K t1 l1 _ _ _ _ _ _ _ _ _ _ _ _ _ _ _ _ _ _ _ _ _ _ _ _ _ _ _ _ _ _ _ _ _ _ _ _ _ _ _ _ _ _ _ ls H locs ?_ hl hP hD hS
  exact ⟨hO.1, hO.2.1.mono hm, hO.2.2.mono hm, i4.mono hm, i5, i6, i7, i8, i9, i10⟩
