set_option maxHeartbeats 4000000 in
theorem cC18 {p : Program} {l : Launch} {e : Env} {s : State} {m : MethodId} {args : Array Value} {below : List Frame} {meth : Method} {c : Code} {Q : State → Prop} {A : Nat → Prop} {D : va_G} {cA : Nat → ClassId} {G : eG} {b : Nat} (L : Nat) (xs : Nat → Int32) (C : lawC p l s m args c A D cA G b L xs) (z0 a0 a1 a2 b0 b1 b4 b2 b5 b3 b6 h0 h1 h2 s0 t0 r0 r1 l0 e0 e1 k0 k1 m0 q0 q1 q2 q4 q7 q9 q15 w0 w9 : Nat) {T : Int} (hT : T ≤ 800000) {N : Nat} (hN : 2100 ≤ N) (x5 : Int32) (hx1 : vp_in (x5 + 1) L) (hx2 : vp_in (x5 + 2) L) (hx3 : vp_in (x5 + 3) L) (ce se : Nat) (hce : ce + 80 ≤ 603072) (hse : se + 11200 ≤ 7202922) (K : HK p l e s m args below meth c Q A D cA b z0 a0 a1 a2 b0 b1 b4 b2 b5 b3 b6 h0 h1 h2 s0 t0 r0 r1 l0 e0 e1 k0 k1 m0 q0 q1 q2 q4 q7 q9 q15 w0 w9 x5 2950 (ce + 80) (se + 11200) (T + 900)) : HK p l e s m args below meth c Q A D cA b z0 a0 a1 a2 b0 b1 b4 b2 b5 b3 b6 h0 h1 h2 s0 t0 r0 r1 l0 e0 e1 k0 k1 m0 q0 q1 q2 q4 q7 q9 q15 w0 w9 x5 1336 ce se T := by
  intro t1 l1 f f1 f2 f3 v1 v2 g w1 w2 w3 n tf ml c0 cm n2 lf ml2 c2 bf sn u7 u8 u9 v3 v5 v6 v8 v10 v11 v12 v13 v14 v16 ss bb sv pp ln tx cd wo wd ls H locs hI hl hP hD hS
  obtain ⟨i1, i2, i3, i4, i5, i6, i7, i8, i9, i10⟩ := hI
  have hm : T ≤ T + 900 := by omega
  have hm60 : T + 60 ≤ T + 900 := by omega
  obtain ⟨r, hr, hO⟩ := p18 (N := N) (f := f) (v1 := v1) (v2 := v2) (g := g) (v5 := v5) (ss := ss) (bb := bb) (pp := pp) (wo := wo) (L := L) (xs := xs) (x5 := x5) hN i1 i2 (by omega) i3 hx1
  refine kC18 L xs C z0 a0 a1 a2 b0 b1 b4 b2 b5 b3 b6 h0 h1 h2 s0 t0 r0 r1 l0 e0 e1 k0 k1 m0 q0 q1 q2 q4 q7 q9 q15 w0 w9 t1 l1 N f f1 f2 f3 v1 v2 g w1 w2 w3 n tf ml c0 cm n2 lf ml2 c2 bf sn u7 u8 u9 v3 v5 v6 v8 v10 v11 v12 v13 v14 v16 ss bb sv pp ln tx cd wo wd x5 hr ce se hce hse ls H locs hl hP hD hS (fun t1 l1 ls H locs hl hP hD hS => ?_)
  refine K t1 l1 _ _ _ _ _ _ _ _ _ _ _ _ _ _ _ _ _ _ _ _ _ _ _ _ _ _ _ _ _ _ _ _ _ _ _ _ _ _ _ _ _ _ _ ls H locs ?_ hl hP hD hS
  exact ⟨hO.1, hO.2.1.mono hm60, hO.2.2.mono hm60, i4.mono hm, i5, i6, i7, i8, i9, i10⟩
set_option maxHeartbeats 4000000 in
theorem cC19 {p : Program} {l : Launch} {e : Env} {s : State} {m : MethodId} {args : Array Value} {below : List Frame} {meth : Method} {c : Code} {Q : State → Prop} {A : Nat → Prop} {D : va_G} {cA : Nat → ClassId} {G : eG} {b : Nat} (L : Nat) (xs : Nat → Int32) (C : lawC p l s m args c A D cA G b L xs) (z0 a0 a1 a2 b0 b1 b4 b2 b5 b3 b6 h0 h1 h2 s0 t0 r0 r1 l0 e0 e1 k0 k1 m0 q0 q1 q2 q4 q7 q9 q15 w0 w9 : Nat) {T : Int} (hT : T ≤ 800000) {N : Nat} (hN : 2100 ≤ N) (x5 : Int32) (hx1 : vp_in (x5 + 1) L) (hx2 : vp_in (x5 + 2) L) (hx3 : vp_in (x5 + 3) L) (ce se : Nat) (hce : ce + 80 ≤ 603072) (hse : se + 11200 ≤ 7202922) (K : HK p l e s m args below meth c Q A D cA b z0 a0 a1 a2 b0 b1 b4 b2 b5 b3 b6 h0 h1 h2 s0 t0 r0 r1 l0 e0 e1 k0 k1 m0 q0 q1 q2 q4 q7 q9 q15 w0 w9 x5 2950 (ce + 80) (se + 11200) (T + 900)) : HK p l e s m args below meth c Q A D cA b z0 a0 a1 a2 b0 b1 b4 b2 b5 b3 b6 h0 h1 h2 s0 t0 r0 r1 l0 e0 e1 k0 k1 m0 q0 q1 q2 q4 q7 q9 q15 w0 w9 x5 1392 ce se T := by
  intro t1 l1 f f1 f2 f3 v1 v2 g w1 w2 w3 n tf ml c0 cm n2 lf ml2 c2 bf sn u7 u8 u9 v3 v5 v6 v8 v10 v11 v12 v13 v14 v16 ss bb sv pp ln tx cd wo wd ls H locs hI hl hP hD hS
  obtain ⟨i1, i2, i3, i4, i5, i6, i7, i8, i9, i10⟩ := hI
  have hm : T ≤ T + 900 := by omega
  have hm60 : T + 60 ≤ T + 900 := by omega
  obtain ⟨r, hr, hO⟩ := p19 (N := N) (f := f) (v1 := v1) (v2 := v2) (g := g) (v5 := v5) (ss := ss) (bb := bb) (pp := pp) (wo := wo) (L := L) (xs := xs) (x5 := x5) hN i1 i2 (by omega) i3 hx1
  refine kC19 L xs C z0 a0 a1 a2 b0 b1 b4 b2 b5 b3 b6 h0 h1 h2 s0 t0 r0 r1 l0 e0 e1 k0 k1 m0 q0 q1 q2 q4 q7 q9 q15 w0 w9 t1 l1 N f f1 f2 f3 v1 v2 g w1 w2 w3 n tf ml c0 cm n2 lf ml2 c2 bf sn u7 u8 u9 v3 v5 v6 v8 v10 v11 v12 v13 v14 v16 ss bb sv pp ln tx cd wo wd x5 hr ce se hce hse ls H locs hl hP hD hS (fun t1 l1 ls H locs hl hP hD hS => ?_)
  refine K t1 l1 _ _ _ _ _ _ _ _ _ _ _ _ _ _ _ _ _ _ _ _ _ _ _ _ _ _ _ _ _ _ _ _ _ _ _ _ _ _ _ _ _ _ _ ls H locs ?_ hl hP hD hS
  exact ⟨hO.1, hO.2.1.mono hm60, hO.2.2.mono hm60, i4.mono hm, i5, i6, i7, i8, i9, i10⟩
set_option maxHeartbeats 4000000 in
theorem cC20 {p : Program} {l : Launch} {e : Env} {s : State} {m : MethodId} {args : Array Value} {below : List Frame} {meth : Method} {c : Code} {Q : State → Prop} {A : Nat → Prop} {D : va_G} {cA : Nat → ClassId} {G : eG} {b : Nat} (L : Nat) (xs : Nat → Int32) (C : lawC p l s m args c A D cA G b L xs) (z0 a0 a1 a2 b0 b1 b4 b2 b5 b3 b6 h0 h1 h2 s0 t0 r0 r1 l0 e0 e1 k0 k1 m0 q0 q1 q2 q4 q7 q9 q15 w0 w9 : Nat) {T : Int} (hT : T ≤ 800000) {N : Nat} (hN : 2100 ≤ N) (x5 : Int32) (hx1 : vp_in (x5 + 1) L) (hx2 : vp_in (x5 + 2) L) (hx3 : vp_in (x5 + 3) L) (ce se : Nat) (hce : ce + 80 ≤ 603072) (hse : se + 11200 ≤ 7202922) (K : HK p l e s m args below meth c Q A D cA b z0 a0 a1 a2 b0 b1 b4 b2 b5 b3 b6 h0 h1 h2 s0 t0 r0 r1 l0 e0 e1 k0 k1 m0 q0 q1 q2 q4 q7 q9 q15 w0 w9 x5 2950 (ce + 80) (se + 11200) (T + 900)) : HK p l e s m args below meth c Q A D cA b z0 a0 a1 a2 b0 b1 b4 b2 b5 b3 b6 h0 h1 h2 s0 t0 r0 r1 l0 e0 e1 k0 k1 m0 q0 q1 q2 q4 q7 q9 q15 w0 w9 x5 1448 ce se T := by
  intro t1 l1 f f1 f2 f3 v1 v2 g w1 w2 w3 n tf ml c0 cm n2 lf ml2 c2 bf sn u7 u8 u9 v3 v5 v6 v8 v10 v11 v12 v13 v14 v16 ss bb sv pp ln tx cd wo wd ls H locs hI hl hP hD hS
  obtain ⟨i1, i2, i3, i4, i5, i6, i7, i8, i9, i10⟩ := hI
  have hm : T ≤ T + 900 := by omega
  have hm60 : T + 60 ≤ T + 900 := by omega
  obtain ⟨r, hr⟩ : ∃ r, SC20 f ss = some r := p20 i1
  refine kC20 L xs C z0 a0 a1 a2 b0 b1 b4 b2 b5 b3 b6 h0 h1 h2 s0 t0 r0 r1 l0 e0 e1 k0 k1 m0 q0 q1 q2 q4 q7 q9 q15 w0 w9 t1 l1 f f1 f2 f3 v1 v2 g w1 w2 w3 n tf ml c0 cm n2 lf ml2 c2 bf sn u7 u8 u9 v3 v5 v6 v8 v10 v11 v12 v13 v14 v16 ss bb sv pp ln tx cd wo wd x5 hr ce se hce hse ls H locs hl hP hD hS (fun t1 l1 ls H locs hl hP hD hS => ?_)
  refine K t1 l1 _ _ _ _ _ _ _ _ _ _ _ _ _ _ _ _ _ _ _ _ _ _ _ _ _ _ _ _ _ _ _ _ _ _ _ _ _ _ _ _ _ _ _ ls H locs ?_ hl hP hD hS
  exact ⟨i1, i2.mono hm, i3.mono hm, i4.mono hm, i5, i6, i7, i8, i9, i10⟩
set_option maxHeartbeats 4000000 in
theorem cC21 {p : Program} {l : Launch} {e : Env} {s : State} {m : MethodId} {args : Array Value} {below : List Frame} {meth : Method} {c : Code} {Q : State → Prop} {A : Nat → Prop} {D : va_G} {cA : Nat → ClassId} {G : eG} {b : Nat} (L : Nat) (xs : Nat → Int32) (C : lawC p l s m args c A D cA G b L xs) (z0 a0 a1 a2 b0 b1 b4 b2 b5 b3 b6 h0 h1 h2 s0 t0 r0 r1 l0 e0 e1 k0 k1 m0 q0 q1 q2 q4 q7 q9 q15 w0 w9 : Nat) {T : Int} (hT : T ≤ 800000) {N : Nat} (hN : 2100 ≤ N) (x5 : Int32) (hx1 : vp_in (x5 + 1) L) (hx2 : vp_in (x5 + 2) L) (hx3 : vp_in (x5 + 3) L) (ce se : Nat) (hce : ce + 80 ≤ 603072) (hse : se + 11200 ≤ 7202922) (K : HK p l e s m args below meth c Q A D cA b z0 a0 a1 a2 b0 b1 b4 b2 b5 b3 b6 h0 h1 h2 s0 t0 r0 r1 l0 e0 e1 k0 k1 m0 q0 q1 q2 q4 q7 q9 q15 w0 w9 x5 2950 (ce + 80) (se + 11200) (T + 900)) : HK p l e s m args below meth c Q A D cA b z0 a0 a1 a2 b0 b1 b4 b2 b5 b3 b6 h0 h1 h2 s0 t0 r0 r1 l0 e0 e1 k0 k1 m0 q0 q1 q2 q4 q7 q9 q15 w0 w9 x5 1461 ce se T := by
  intro t1 l1 f f1 f2 f3 v1 v2 g w1 w2 w3 n tf ml c0 cm n2 lf ml2 c2 bf sn u7 u8 u9 v3 v5 v6 v8 v10 v11 v12 v13 v14 v16 ss bb sv pp ln tx cd wo wd ls H locs hI hl hP hD hS
  obtain ⟨i1, i2, i3, i4, i5, i6, i7, i8, i9, i10⟩ := hI
  have hm : T ≤ T + 900 := by omega
  have hm60 : T + 60 ≤ T + 900 := by omega
  obtain ⟨r, hr⟩ : ∃ r, SC21 f ss wo L xs x5 = some r := p21 i1 i2.2.2.2.2.2.1 hx1
  refine kC21 L xs C z0 a0 a1 a2 b0 b1 b4 b2 b5 b3 b6 h0 h1 h2 s0 t0 r0 r1 l0 e0 e1 k0 k1 m0 q0 q1 q2 q4 q7 q9 q15 w0 w9 t1 l1 f f1 f2 f3 v1 v2 g w1 w2 w3 n tf ml c0 cm n2 lf ml2 c2 bf sn u7 u8 u9 v3 v5 v6 v8 v10 v11 v12 v13 v14 v16 ss bb sv pp ln tx cd wo wd x5 hr ce se hce hse ls H locs hl hP hD hS (fun t1 l1 ls H locs hl hP hD hS => ?_)
  refine K t1 l1 _ _ _ _ _ _ _ _ _ _ _ _ _ _ _ _ _ _ _ _ _ _ _ _ _ _ _ _ _ _ _ _ _ _ _ _ _ _ _ _ _ _ _ ls H locs ?_ hl hP hD hS
  exact ⟨i1, i2.mono hm, i3.mono hm, i4.mono hm, i5, i6, i7, i8, i9, i10⟩
set_option maxHeartbeats 4000000 in
theorem cC22 {p : Program} {l : Launch} {e : Env} {s : State} {m : MethodId} {args : Array Value} {below : List Frame} {meth : Method} {c : Code} {Q : State → Prop} {A : Nat → Prop} {D : va_G} {cA : Nat → ClassId} {G : eG} {b : Nat} (L : Nat) (xs : Nat → Int32) (C : lawC p l s m args c A D cA G b L xs) (z0 a0 a1 a2 b0 b1 b4 b2 b5 b3 b6 h0 h1 h2 s0 t0 r0 r1 l0 e0 e1 k0 k1 m0 q0 q1 q2 q4 q7 q9 q15 w0 w9 : Nat) {T : Int} (hT : T ≤ 800000) {N : Nat} (hN : 2100 ≤ N) (x5 : Int32) (hx1 : vp_in (x5 + 1) L) (hx2 : vp_in (x5 + 2) L) (hx3 : vp_in (x5 + 3) L) (ce se : Nat) (hce : ce + 80 ≤ 603072) (hse : se + 11200 ≤ 7202922) (K : HK p l e s m args below meth c Q A D cA b z0 a0 a1 a2 b0 b1 b4 b2 b5 b3 b6 h0 h1 h2 s0 t0 r0 r1 l0 e0 e1 k0 k1 m0 q0 q1 q2 q4 q7 q9 q15 w0 w9 x5 2950 (ce + 80) (se + 11200) (T + 900)) : HK p l e s m args below meth c Q A D cA b z0 a0 a1 a2 b0 b1 b4 b2 b5 b3 b6 h0 h1 h2 s0 t0 r0 r1 l0 e0 e1 k0 k1 m0 q0 q1 q2 q4 q7 q9 q15 w0 w9 x5 1517 ce se T := by
  intro t1 l1 f f1 f2 f3 v1 v2 g w1 w2 w3 n tf ml c0 cm n2 lf ml2 c2 bf sn u7 u8 u9 v3 v5 v6 v8 v10 v11 v12 v13 v14 v16 ss bb sv pp ln tx cd wo wd ls H locs hI hl hP hD hS
  obtain ⟨i1, i2, i3, i4, i5, i6, i7, i8, i9, i10⟩ := hI
  have hm : T ≤ T + 900 := by omega
  have hm60 : T + 60 ≤ T + 900 := by omega
  obtain ⟨r, hr⟩ : ∃ r, SC22 f ss wo L xs x5 = some r := p22 i1 i2.2.2.2.2.2.1 hx1
  refine kC22 L xs C z0 a0 a1 a2 b0 b1 b4 b2 b5 b3 b6 h0 h1 h2 s0 t0 r0 r1 l0 e0 e1 k0 k1 m0 q0 q1 q2 q4 q7 q9 q15 w0 w9 t1 l1 f f1 f2 f3 v1 v2 g w1 w2 w3 n tf ml c0 cm n2 lf ml2 c2 bf sn u7 u8 u9 v3 v5 v6 v8 v10 v11 v12 v13 v14 v16 ss bb sv pp ln tx cd wo wd x5 hr ce se hce hse ls H locs hl hP hD hS (fun t1 l1 ls H locs hl hP hD hS => ?_)
  refine K t1 l1 _ _ _ _ _ _ _ _ _ _ _ _ _ _ _ _ _ _ _ _ _ _ _ _ _ _ _ _ _ _ _ _ _ _ _ _ _ _ _ _ _ _ _ ls H locs ?_ hl hP hD hS
  exact ⟨i1, i2.mono hm, i3.mono hm, i4.mono hm, i5, i6, i7, i8, i9, i10⟩
set_option maxHeartbeats 4000000 in
theorem cC23 {p : Program} {l : Launch} {e : Env} {s : State} {m : MethodId} {args : Array Value} {below : List Frame} {meth : Method} {c : Code} {Q : State → Prop} {A : Nat → Prop} {D : va_G} {cA : Nat → ClassId} {G : eG} {b : Nat} (L : Nat) (xs : Nat → Int32) (C : lawC p l s m args c A D cA G b L xs) (z0 a0 a1 a2 b0 b1 b4 b2 b5 b3 b6 h0 h1 h2 s0 t0 r0 r1 l0 e0 e1 k0 k1 m0 q0 q1 q2 q4 q7 q9 q15 w0 w9 : Nat) {T : Int} (hT : T ≤ 800000) {N : Nat} (hN : 2100 ≤ N) (x5 : Int32) (hx1 : vp_in (x5 + 1) L) (hx2 : vp_in (x5 + 2) L) (hx3 : vp_in (x5 + 3) L) (ce se : Nat) (hce : ce + 80 ≤ 603072) (hse : se + 11200 ≤ 7202922) (K : HK p l e s m args below meth c Q A D cA b z0 a0 a1 a2 b0 b1 b4 b2 b5 b3 b6 h0 h1 h2 s0 t0 r0 r1 l0 e0 e1 k0 k1 m0 q0 q1 q2 q4 q7 q9 q15 w0 w9 x5 2950 (ce + 80) (se + 11200) (T + 900)) : HK p l e s m args below meth c Q A D cA b z0 a0 a1 a2 b0 b1 b4 b2 b5 b3 b6 h0 h1 h2 s0 t0 r0 r1 l0 e0 e1 k0 k1 m0 q0 q1 q2 q4 q7 q9 q15 w0 w9 x5 1573 ce se T := by
  intro t1 l1 f f1 f2 f3 v1 v2 g w1 w2 w3 n tf ml c0 cm n2 lf ml2 c2 bf sn u7 u8 u9 v3 v5 v6 v8 v10 v11 v12 v13 v14 v16 ss bb sv pp ln tx cd wo wd ls H locs hI hl hP hD hS
  obtain ⟨i1, i2, i3, i4, i5, i6, i7, i8, i9, i10⟩ := hI
  have hm : T ≤ T + 900 := by omega
  have hm60 : T + 60 ≤ T + 900 := by omega
  obtain ⟨r, hr⟩ : ∃ r, SC23 f ss wo L xs x5 = some r := p23 i1 i2.2.2.2.2.2.1 hx1
  refine kC23 L xs C z0 a0 a1 a2 b0 b1 b4 b2 b5 b3 b6 h0 h1 h2 s0 t0 r0 r1 l0 e0 e1 k0 k1 m0 q0 q1 q2 q4 q7 q9 q15 w0 w9 t1 l1 f f1 f2 f3 v1 v2 g w1 w2 w3 n tf ml c0 cm n2 lf ml2 c2 bf sn u7 u8 u9 v3 v5 v6 v8 v10 v11 v12 v13 v14 v16 ss bb sv pp ln tx cd wo wd x5 hr ce se hce hse ls H locs hl hP hD hS (fun t1 l1 ls H locs hl hP hD hS => ?_)
  refine K t1 l1 _ _ _ _ _ _ _ _ _ _ _ _ _ _ _ _ _ _ _ _ _ _ _ _ _ _ _ _ _ _ _ _ _ _ _ _ _ _ _ _ _ _ _ ls H locs ?_ hl hP hD hS
  exact ⟨i1, i2.mono hm, i3.mono hm, i4.mono hm, i5, i6, i7, i8, i9, i10⟩
set_option maxHeartbeats 4000000 in
theorem cC24 {p : Program} {l : Launch} {e : Env} {s : State} {m : MethodId} {args : Array Value} {below : List Frame} {meth : Method} {c : Code} {Q : State → Prop} {A : Nat → Prop} {D : va_G} {cA : Nat → ClassId} {G : eG} {b : Nat} (L : Nat) (xs : Nat → Int32) (C : lawC p l s m args c A D cA G b L xs) (z0 a0 a1 a2 b0 b1 b4 b2 b5 b3 b6 h0 h1 h2 s0 t0 r0 r1 l0 e0 e1 k0 k1 m0 q0 q1 q2 q4 q7 q9 q15 w0 w9 : Nat) {T : Int} (hT : T ≤ 800000) {N : Nat} (hN : 2100 ≤ N) (x5 : Int32) (hx1 : vp_in (x5 + 1) L) (hx2 : vp_in (x5 + 2) L) (hx3 : vp_in (x5 + 3) L) (ce se : Nat) (hce : ce + 80 ≤ 603072) (hse : se + 11200 ≤ 7202922) (K : HK p l e s m args below meth c Q A D cA b z0 a0 a1 a2 b0 b1 b4 b2 b5 b3 b6 h0 h1 h2 s0 t0 r0 r1 l0 e0 e1 k0 k1 m0 q0 q1 q2 q4 q7 q9 q15 w0 w9 x5 2950 (ce + 80) (se + 11200) (T + 900)) : HK p l e s m args below meth c Q A D cA b z0 a0 a1 a2 b0 b1 b4 b2 b5 b3 b6 h0 h1 h2 s0 t0 r0 r1 l0 e0 e1 k0 k1 m0 q0 q1 q2 q4 q7 q9 q15 w0 w9 x5 1629 ce se T := by
  intro t1 l1 f f1 f2 f3 v1 v2 g w1 w2 w3 n tf ml c0 cm n2 lf ml2 c2 bf sn u7 u8 u9 v3 v5 v6 v8 v10 v11 v12 v13 v14 v16 ss bb sv pp ln tx cd wo wd ls H locs hI hl hP hD hS
  obtain ⟨i1, i2, i3, i4, i5, i6, i7, i8, i9, i10⟩ := hI
  have hm : T ≤ T + 900 := by omega
  have hm60 : T + 60 ≤ T + 900 := by omega
  obtain ⟨r, hr⟩ : ∃ r, SC24 f ss wo L xs x5 = some r := p24 i1 i2.2.2.2.2.2.1 hx1
  refine kC24 L xs C z0 a0 a1 a2 b0 b1 b4 b2 b5 b3 b6 h0 h1 h2 s0 t0 r0 r1 l0 e0 e1 k0 k1 m0 q0 q1 q2 q4 q7 q9 q15 w0 w9 t1 l1 f f1 f2 f3 v1 v2 g w1 w2 w3 n tf ml c0 cm n2 lf ml2 c2 bf sn u7 u8 u9 v3 v5 v6 v8 v10 v11 v12 v13 v14 v16 ss bb sv pp ln tx cd wo wd x5 hr ce se hce hse ls H locs hl hP hD hS (fun t1 l1 ls H locs hl hP hD hS => ?_)
  refine K t1 l1 _ _ _ _ _ _ _ _ _ _ _ _ _ _ _ _ _ _ _ _ _ _ _ _ _ _ _ _ _ _ _ _ _ _ _ _ _ _ _ _ _ _ _ ls H locs ?_ hl hP hD hS
  exact ⟨i1, i2.mono hm, i3.mono hm, i4.mono hm, i5, i6, i7, i8, i9, i10⟩
set_option maxHeartbeats 4000000 in
theorem cC25 {p : Program} {l : Launch} {e : Env} {s : State} {m : MethodId} {args : Array Value} {below : List Frame} {meth : Method} {c : Code} {Q : State → Prop} {A : Nat → Prop} {D : va_G} {cA : Nat → ClassId} {G : eG} {b : Nat} (L : Nat) (xs : Nat → Int32) (C : lawC p l s m args c A D cA G b L xs) (z0 a0 a1 a2 b0 b1 b4 b2 b5 b3 b6 h0 h1 h2 s0 t0 r0 r1 l0 e0 e1 k0 k1 m0 q0 q1 q2 q4 q7 q9 q15 w0 w9 : Nat) {T : Int} (hT : T ≤ 800000) {N : Nat} (hN : 2100 ≤ N) (x5 : Int32) (hx1 : vp_in (x5 + 1) L) (hx2 : vp_in (x5 + 2) L) (hx3 : vp_in (x5 + 3) L) (ce se : Nat) (hce : ce + 80 ≤ 603072) (hse : se + 11200 ≤ 7202922) (K : HK p l e s m args below meth c Q A D cA b z0 a0 a1 a2 b0 b1 b4 b2 b5 b3 b6 h0 h1 h2 s0 t0 r0 r1 l0 e0 e1 k0 k1 m0 q0 q1 q2 q4 q7 q9 q15 w0 w9 x5 2950 (ce + 80) (se + 11200) (T + 900)) : HK p l e s m args below meth c Q A D cA b z0 a0 a1 a2 b0 b1 b4 b2 b5 b3 b6 h0 h1 h2 s0 t0 r0 r1 l0 e0 e1 k0 k1 m0 q0 q1 q2 q4 q7 q9 q15 w0 w9 x5 1685 ce se T := by
  intro t1 l1 f f1 f2 f3 v1 v2 g w1 w2 w3 n tf ml c0 cm n2 lf ml2 c2 bf sn u7 u8 u9 v3 v5 v6 v8 v10 v11 v12 v13 v14 v16 ss bb sv pp ln tx cd wo wd ls H locs hI hl hP hD hS
  obtain ⟨i1, i2, i3, i4, i5, i6, i7, i8, i9, i10⟩ := hI
  have hm : T ≤ T + 900 := by omega
  have hm60 : T + 60 ≤ T + 900 := by omega
  obtain ⟨r, hr, hO⟩ := p25 (N := N) (f := f) (v1 := v1) (v2 := v2) (g := g) (v5 := v5) (ss := ss) (bb := bb) (pp := pp) (wo := wo) (L := L) (xs := xs) (x5 := x5) hN i1 i2 (by omega) i3 hx1
  refine kC25 L xs C z0 a0 a1 a2 b0 b1 b4 b2 b5 b3 b6 h0 h1 h2 s0 t0 r0 r1 l0 e0 e1 k0 k1 m0 q0 q1 q2 q4 q7 q9 q15 w0 w9 t1 l1 N f f1 f2 f3 v1 v2 g w1 w2 w3 n tf ml c0 cm n2 lf ml2 c2 bf sn u7 u8 u9 v3 v5 v6 v8 v10 v11 v12 v13 v14 v16 ss bb sv pp ln tx cd wo wd x5 hr ce se hce hse ls H locs hl hP hD hS (fun t1 l1 ls H locs hl hP hD hS => ?_)
  refine K t1 l1 _ _ _ _ _ _ _ _ _ _ _ _ _ _ _ _ _ _ _ _ _ _ _ _ _ _ _ _ _ _ _ _ _ _ _ _ _ _ _ _ _ _ _ ls H locs ?_ hl hP hD hS
  exact ⟨hO.1, hO.2.1.mono hm60, hO.2.2.mono hm60, i4.mono hm, i5, i6, i7, i8, i9, i10⟩
set_option maxHeartbeats 4000000 in
theorem cC26 {p : Program} {l : Launch} {e : Env} {s : State} {m : MethodId} {args : Array Value} {below : List Frame} {meth : Method} {c : Code} {Q : State → Prop} {A : Nat → Prop} {D : va_G} {cA : Nat → ClassId} {G : eG} {b : Nat} (L : Nat) (xs : Nat → Int32) (C : lawC p l s m args c A D cA G b L xs) (z0 a0 a1 a2 b0 b1 b4 b2 b5 b3 b6 h0 h1 h2 s0 t0 r0 r1 l0 e0 e1 k0 k1 m0 q0 q1 q2 q4 q7 q9 q15 w0 w9 : Nat) {T : Int} (hT : T ≤ 800000) {N : Nat} (hN : 2100 ≤ N) (x5 : Int32) (hx1 : vp_in (x5 + 1) L) (hx2 : vp_in (x5 + 2) L) (hx3 : vp_in (x5 + 3) L) (ce se : Nat) (hce : ce + 80 ≤ 603072) (hse : se + 11200 ≤ 7202922) (K : HK p l e s m args below meth c Q A D cA b z0 a0 a1 a2 b0 b1 b4 b2 b5 b3 b6 h0 h1 h2 s0 t0 r0 r1 l0 e0 e1 k0 k1 m0 q0 q1 q2 q4 q7 q9 q15 w0 w9 x5 2950 (ce + 80) (se + 11200) (T + 900)) : HK p l e s m args below meth c Q A D cA b z0 a0 a1 a2 b0 b1 b4 b2 b5 b3 b6 h0 h1 h2 s0 t0 r0 r1 l0 e0 e1 k0 k1 m0 q0 q1 q2 q4 q7 q9 q15 w0 w9 x5 1741 ce se T := by
  intro t1 l1 f f1 f2 f3 v1 v2 g w1 w2 w3 n tf ml c0 cm n2 lf ml2 c2 bf sn u7 u8 u9 v3 v5 v6 v8 v10 v11 v12 v13 v14 v16 ss bb sv pp ln tx cd wo wd ls H locs hI hl hP hD hS
  obtain ⟨i1, i2, i3, i4, i5, i6, i7, i8, i9, i10⟩ := hI
  have hm : T ≤ T + 900 := by omega
  have hm60 : T + 60 ≤ T + 900 := by omega
  obtain ⟨r, hr, hO⟩ := p26 (N := N) (f := f) (v1 := v1) (v2 := v2) (g := g) (v5 := v5) (ss := ss) (bb := bb) (pp := pp) (wo := wo) (L := L) (xs := xs) (x5 := x5) hN i1 i2 (by omega) i3 hx1
  refine kC26 L xs C z0 a0 a1 a2 b0 b1 b4 b2 b5 b3 b6 h0 h1 h2 s0 t0 r0 r1 l0 e0 e1 k0 k1 m0 q0 q1 q2 q4 q7 q9 q15 w0 w9 t1 l1 N f f1 f2 f3 v1 v2 g w1 w2 w3 n tf ml c0 cm n2 lf ml2 c2 bf sn u7 u8 u9 v3 v5 v6 v8 v10 v11 v12 v13 v14 v16 ss bb sv pp ln tx cd wo wd x5 hr ce se hce hse ls H locs hl hP hD hS (fun t1 l1 ls H locs hl hP hD hS => ?_)
  refine K t1 l1 _ _ _ _ _ _ _ _ _ _ _ _ _ _ _ _ _ _ _ _ _ _ _ _ _ _ _ _ _ _ _ _ _ _ _ _ _ _ _ _ _ _ _ ls H locs ?_ hl hP hD hS
  exact ⟨hO.1, hO.2.1.mono hm60, hO.2.2.mono hm60, i4.mono hm, i5, i6, i7, i8, i9, i10⟩
