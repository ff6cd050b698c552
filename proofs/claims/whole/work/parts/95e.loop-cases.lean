set_option maxHeartbeats 4000000 in
theorem cC36 {p : Program} {l : Launch} {e : Env} {s : State} {m : MethodId} {args : Array Value} {below : List Frame} {meth : Method} {c : Code} {Q : State → Prop} {A : Nat → Prop} {D : va_G} {cA : Nat → ClassId} {G : eG} {b : Nat} (L : Nat) (xs : Nat → Int32) (C : lawC p l s m args c A D cA G b L xs) (z0 a0 a1 a2 b0 b1 b4 b2 b5 b3 b6 h0 h1 h2 s0 t0 r0 r1 l0 e0 e1 k0 k1 m0 q0 q1 q2 q4 q7 q9 q15 w0 w9 : Nat) {T : Int} (hT : T ≤ 800000) {N : Nat} (hN : 2100 ≤ N) (x5 : Int32) (hx1 : vp_in (x5 + 1) L) (hx2 : vp_in (x5 + 2) L) (hx3 : vp_in (x5 + 3) L) (ce se : Nat) (hce : ce + 80 ≤ 603072) (hse : se + 11200 ≤ 7202922) (K : HK p l e s m args below meth c Q A D cA b z0 a0 a1 a2 b0 b1 b4 b2 b5 b3 b6 h0 h1 h2 s0 t0 r0 r1 l0 e0 e1 k0 k1 m0 q0 q1 q2 q4 q7 q9 q15 w0 w9 x5 2950 (ce + 80) (se + 11200) (T + 900)) : HK p l e s m args below meth c Q A D cA b z0 a0 a1 a2 b0 b1 b4 b2 b5 b3 b6 h0 h1 h2 s0 t0 r0 r1 l0 e0 e1 k0 k1 m0 q0 q1 q2 q4 q7 q9 q15 w0 w9 x5 2110 ce se T := by
  intro t1 l1 f f1 f2 f3 v1 v2 g w1 w2 w3 n tf ml c0 cm n2 lf ml2 c2 bf sn u7 u8 u9 v3 v5 v6 v8 v10 v11 v12 v13 v14 v16 ss bb sv pp ln tx cd wo wd ls H locs hI hl hP hD hS
  obtain ⟨i1, i2, i3, i4, i5, i6, i7, i8, i9, i10⟩ := hI
  have hm : T ≤ T + 900 := by omega
  have hm60 : T + 60 ≤ T + 900 := by omega
  obtain ⟨r, hr⟩ : ∃ r, SC36 N f v6 ss wo L xs x5 = some r := p36 hN i1 (i2.tg (by omega)) hx1
  refine kC36 L xs C z0 a0 a1 a2 b0 b1 b4 b2 b5 b3 b6 h0 h1 h2 s0 t0 r0 r1 l0 e0 e1 k0 k1 m0 q0 q1 q2 q4 q7 q9 q15 w0 w9 t1 l1 N f f1 f2 f3 v1 v2 g w1 w2 w3 n tf ml c0 cm n2 lf ml2 c2 bf sn u7 u8 u9 v3 v5 v6 v8 v10 v11 v12 v13 v14 v16 ss bb sv pp ln tx cd wo wd x5 hr ce se hce hse ls H locs hl hP hD hS (fun t1 l1 ls H locs hl hP hD hS => ?_)
  refine K t1 l1 _ _ _ _ _ _ _ _ _ _ _ _ _ _ _ _ _ _ _ _ _ _ _ _ _ _ _ _ _ _ _ _ _ _ _ _ _ _ _ _ _ _ _ ls H locs ?_ hl hP hD hS
  exact ⟨i1, i2.mono hm, i3.mono hm, i4.mono hm, i5, i6, i7, i8, i9, i10⟩
set_option maxHeartbeats 4000000 in
theorem cC37 {p : Program} {l : Launch} {e : Env} {s : State} {m : MethodId} {args : Array Value} {below : List Frame} {meth : Method} {c : Code} {Q : State → Prop} {A : Nat → Prop} {D : va_G} {cA : Nat → ClassId} {G : eG} {b : Nat} (L : Nat) (xs : Nat → Int32) (C : lawC p l s m args c A D cA G b L xs) (z0 a0 a1 a2 b0 b1 b4 b2 b5 b3 b6 h0 h1 h2 s0 t0 r0 r1 l0 e0 e1 k0 k1 m0 q0 q1 q2 q4 q7 q9 q15 w0 w9 : Nat) {T : Int} (hT : T ≤ 800000) {N : Nat} (hN : 2100 ≤ N) (x5 : Int32) (hx1 : vp_in (x5 + 1) L) (hx2 : vp_in (x5 + 2) L) (hx3 : vp_in (x5 + 3) L) (ce se : Nat) (hce : ce + 80 ≤ 603072) (hse : se + 11200 ≤ 7202922) (K : HK p l e s m args below meth c Q A D cA b z0 a0 a1 a2 b0 b1 b4 b2 b5 b3 b6 h0 h1 h2 s0 t0 r0 r1 l0 e0 e1 k0 k1 m0 q0 q1 q2 q4 q7 q9 q15 w0 w9 x5 2950 (ce + 80) (se + 11200) (T + 900)) : HK p l e s m args below meth c Q A D cA b z0 a0 a1 a2 b0 b1 b4 b2 b5 b3 b6 h0 h1 h2 s0 t0 r0 r1 l0 e0 e1 k0 k1 m0 q0 q1 q2 q4 q7 q9 q15 w0 w9 x5 2166 ce se T := by
  intro t1 l1 f f1 f2 f3 v1 v2 g w1 w2 w3 n tf ml c0 cm n2 lf ml2 c2 bf sn u7 u8 u9 v3 v5 v6 v8 v10 v11 v12 v13 v14 v16 ss bb sv pp ln tx cd wo wd ls H locs hI hl hP hD hS
  obtain ⟨i1, i2, i3, i4, i5, i6, i7, i8, i9, i10⟩ := hI
  have hm : T ≤ T + 900 := by omega
  have hm60 : T + 60 ≤ T + 900 := by omega
  obtain ⟨r, hr⟩ : ∃ r, SC37 N f v6 ss wo L xs x5 = some r := p37 hN i1 (i2.tg (by omega)) hx1
  refine kC37 L xs C z0 a0 a1 a2 b0 b1 b4 b2 b5 b3 b6 h0 h1 h2 s0 t0 r0 r1 l0 e0 e1 k0 k1 m0 q0 q1 q2 q4 q7 q9 q15 w0 w9 t1 l1 N f f1 f2 f3 v1 v2 g w1 w2 w3 n tf ml c0 cm n2 lf ml2 c2 bf sn u7 u8 u9 v3 v5 v6 v8 v10 v11 v12 v13 v14 v16 ss bb sv pp ln tx cd wo wd x5 hr ce se hce hse ls H locs hl hP hD hS (fun t1 l1 ls H locs hl hP hD hS => ?_)
  refine K t1 l1 _ _ _ _ _ _ _ _ _ _ _ _ _ _ _ _ _ _ _ _ _ _ _ _ _ _ _ _ _ _ _ _ _ _ _ _ _ _ _ _ _ _ _ ls H locs ?_ hl hP hD hS
  exact ⟨i1, i2.mono hm, i3.mono hm, i4.mono hm, i5, i6, i7, i8, i9, i10⟩
set_option maxHeartbeats 4000000 in
theorem cC38 {p : Program} {l : Launch} {e : Env} {s : State} {m : MethodId} {args : Array Value} {below : List Frame} {meth : Method} {c : Code} {Q : State → Prop} {A : Nat → Prop} {D : va_G} {cA : Nat → ClassId} {G : eG} {b : Nat} (L : Nat) (xs : Nat → Int32) (C : lawC p l s m args c A D cA G b L xs) (z0 a0 a1 a2 b0 b1 b4 b2 b5 b3 b6 h0 h1 h2 s0 t0 r0 r1 l0 e0 e1 k0 k1 m0 q0 q1 q2 q4 q7 q9 q15 w0 w9 : Nat) {T : Int} (hT : T ≤ 800000) {N : Nat} (hN : 2100 ≤ N) (x5 : Int32) (hx1 : vp_in (x5 + 1) L) (hx2 : vp_in (x5 + 2) L) (hx3 : vp_in (x5 + 3) L) (ce se : Nat) (hce : ce + 80 ≤ 603072) (hse : se + 11200 ≤ 7202922) (K : HK p l e s m args below meth c Q A D cA b z0 a0 a1 a2 b0 b1 b4 b2 b5 b3 b6 h0 h1 h2 s0 t0 r0 r1 l0 e0 e1 k0 k1 m0 q0 q1 q2 q4 q7 q9 q15 w0 w9 x5 2950 (ce + 80) (se + 11200) (T + 900)) : HK p l e s m args below meth c Q A D cA b z0 a0 a1 a2 b0 b1 b4 b2 b5 b3 b6 h0 h1 h2 s0 t0 r0 r1 l0 e0 e1 k0 k1 m0 q0 q1 q2 q4 q7 q9 q15 w0 w9 x5 2222 ce se T := by
  intro t1 l1 f f1 f2 f3 v1 v2 g w1 w2 w3 n tf ml c0 cm n2 lf ml2 c2 bf sn u7 u8 u9 v3 v5 v6 v8 v10 v11 v12 v13 v14 v16 ss bb sv pp ln tx cd wo wd ls H locs hI hl hP hD hS
  obtain ⟨i1, i2, i3, i4, i5, i6, i7, i8, i9, i10⟩ := hI
  have hm : T ≤ T + 900 := by omega
  have hm60 : T + 60 ≤ T + 900 := by omega
  obtain ⟨r, hr⟩ : ∃ r, SC38 N f ss wo L xs x5 = some r := p38 hN i1 (i2.tg (by omega)) hx1
  refine kC38 L xs C z0 a0 a1 a2 b0 b1 b4 b2 b5 b3 b6 h0 h1 h2 s0 t0 r0 r1 l0 e0 e1 k0 k1 m0 q0 q1 q2 q4 q7 q9 q15 w0 w9 t1 l1 N f f1 f2 f3 v1 v2 g w1 w2 w3 n tf ml c0 cm n2 lf ml2 c2 bf sn u7 u8 u9 v3 v5 v6 v8 v10 v11 v12 v13 v14 v16 ss bb sv pp ln tx cd wo wd x5 hr ce se hce hse ls H locs hl hP hD hS (fun t1 l1 ls H locs hl hP hD hS => ?_)
  refine K t1 l1 _ _ _ _ _ _ _ _ _ _ _ _ _ _ _ _ _ _ _ _ _ _ _ _ _ _ _ _ _ _ _ _ _ _ _ _ _ _ _ _ _ _ _ ls H locs ?_ hl hP hD hS
  exact ⟨i1, i2.mono hm, i3.mono hm, i4.mono hm, i5, i6, i7, i8, i9, i10⟩
set_option maxHeartbeats 4000000 in
theorem cC39 {p : Program} {l : Launch} {e : Env} {s : State} {m : MethodId} {args : Array Value} {below : List Frame} {meth : Method} {c : Code} {Q : State → Prop} {A : Nat → Prop} {D : va_G} {cA : Nat → ClassId} {G : eG} {b : Nat} (L : Nat) (xs : Nat → Int32) (C : lawC p l s m args c A D cA G b L xs) (z0 a0 a1 a2 b0 b1 b4 b2 b5 b3 b6 h0 h1 h2 s0 t0 r0 r1 l0 e0 e1 k0 k1 m0 q0 q1 q2 q4 q7 q9 q15 w0 w9 : Nat) {T : Int} (hT : T ≤ 800000) {N : Nat} (hN : 2100 ≤ N) (x5 : Int32) (hx1 : vp_in (x5 + 1) L) (hx2 : vp_in (x5 + 2) L) (hx3 : vp_in (x5 + 3) L) (ce se : Nat) (hce : ce + 80 ≤ 603072) (hse : se + 11200 ≤ 7202922) (K : HK p l e s m args below meth c Q A D cA b z0 a0 a1 a2 b0 b1 b4 b2 b5 b3 b6 h0 h1 h2 s0 t0 r0 r1 l0 e0 e1 k0 k1 m0 q0 q1 q2 q4 q7 q9 q15 w0 w9 x5 2950 (ce + 80) (se + 11200) (T + 900)) : HK p l e s m args below meth c Q A D cA b z0 a0 a1 a2 b0 b1 b4 b2 b5 b3 b6 h0 h1 h2 s0 t0 r0 r1 l0 e0 e1 k0 k1 m0 q0 q1 q2 q4 q7 q9 q15 w0 w9 x5 2278 ce se T := by
  intro t1 l1 f f1 f2 f3 v1 v2 g w1 w2 w3 n tf ml c0 cm n2 lf ml2 c2 bf sn u7 u8 u9 v3 v5 v6 v8 v10 v11 v12 v13 v14 v16 ss bb sv pp ln tx cd wo wd ls H locs hI hl hP hD hS
  obtain ⟨i1, i2, i3, i4, i5, i6, i7, i8, i9, i10⟩ := hI
  have hm : T ≤ T + 900 := by omega
  have hm60 : T + 60 ≤ T + 900 := by omega
  obtain ⟨r, hr⟩ : ∃ r, SC39 N f ss wo L xs x5 = some r := p39 hN i1 (i2.tg (by omega)) hx1 hx2
  refine kC39 L xs C z0 a0 a1 a2 b0 b1 b4 b2 b5 b3 b6 h0 h1 h2 s0 t0 r0 r1 l0 e0 e1 k0 k1 m0 q0 q1 q2 q4 q7 q9 q15 w0 w9 t1 l1 N f f1 f2 f3 v1 v2 g w1 w2 w3 n tf ml c0 cm n2 lf ml2 c2 bf sn u7 u8 u9 v3 v5 v6 v8 v10 v11 v12 v13 v14 v16 ss bb sv pp ln tx cd wo wd x5 hr ce se hce hse ls H locs hl hP hD hS (fun t1 l1 ls H locs hl hP hD hS => ?_)
  refine K t1 l1 _ _ _ _ _ _ _ _ _ _ _ _ _ _ _ _ _ _ _ _ _ _ _ _ _ _ _ _ _ _ _ _ _ _ _ _ _ _ _ _ _ _ _ ls H locs ?_ hl hP hD hS
  exact ⟨i1, i2.mono hm, i3.mono hm, i4.mono hm, i5, i6, i7, i8, i9, i10⟩
set_option maxHeartbeats 4000000 in
theorem cC40 {p : Program} {l : Launch} {e : Env} {s : State} {m : MethodId} {args : Array Value} {below : List Frame} {meth : Method} {c : Code} {Q : State → Prop} {A : Nat → Prop} {D : va_G} {cA : Nat → ClassId} {G : eG} {b : Nat} (L : Nat) (xs : Nat → Int32) (C : lawC p l s m args c A D cA G b L xs) (z0 a0 a1 a2 b0 b1 b4 b2 b5 b3 b6 h0 h1 h2 s0 t0 r0 r1 l0 e0 e1 k0 k1 m0 q0 q1 q2 q4 q7 q9 q15 w0 w9 : Nat) {T : Int} (hT : T ≤ 800000) {N : Nat} (hN : 2100 ≤ N) (x5 : Int32) (hx1 : vp_in (x5 + 1) L) (hx2 : vp_in (x5 + 2) L) (hx3 : vp_in (x5 + 3) L) (ce se : Nat) (hce : ce + 80 ≤ 603072) (hse : se + 11200 ≤ 7202922) (K : HK p l e s m args below meth c Q A D cA b z0 a0 a1 a2 b0 b1 b4 b2 b5 b3 b6 h0 h1 h2 s0 t0 r0 r1 l0 e0 e1 k0 k1 m0 q0 q1 q2 q4 q7 q9 q15 w0 w9 x5 2950 (ce + 80) (se + 11200) (T + 900)) : HK p l e s m args below meth c Q A D cA b z0 a0 a1 a2 b0 b1 b4 b2 b5 b3 b6 h0 h1 h2 s0 t0 r0 r1 l0 e0 e1 k0 k1 m0 q0 q1 q2 q4 q7 q9 q15 w0 w9 x5 2346 ce se T := by
  intro t1 l1 f f1 f2 f3 v1 v2 g w1 w2 w3 n tf ml c0 cm n2 lf ml2 c2 bf sn u7 u8 u9 v3 v5 v6 v8 v10 v11 v12 v13 v14 v16 ss bb sv pp ln tx cd wo wd ls H locs hI hl hP hD hS
  obtain ⟨i1, i2, i3, i4, i5, i6, i7, i8, i9, i10⟩ := hI
  have hm : T ≤ T + 900 := by omega
  have hm60 : T + 60 ≤ T + 900 := by omega
  obtain ⟨r, hr⟩ : ∃ r, SC40 N f ss wo L xs x5 = some r := p40 hN i1 (i2.tg (by omega)) hx1 hx2
  refine kC40 L xs C z0 a0 a1 a2 b0 b1 b4 b2 b5 b3 b6 h0 h1 h2 s0 t0 r0 r1 l0 e0 e1 k0 k1 m0 q0 q1 q2 q4 q7 q9 q15 w0 w9 t1 l1 N f f1 f2 f3 v1 v2 g w1 w2 w3 n tf ml c0 cm n2 lf ml2 c2 bf sn u7 u8 u9 v3 v5 v6 v8 v10 v11 v12 v13 v14 v16 ss bb sv pp ln tx cd wo wd x5 hr ce se hce hse ls H locs hl hP hD hS (fun t1 l1 ls H locs hl hP hD hS => ?_)
  refine K t1 l1 _ _ _ _ _ _ _ _ _ _ _ _ _ _ _ _ _ _ _ _ _ _ _ _ _ _ _ _ _ _ _ _ _ _ _ _ _ _ _ _ _ _ _ ls H locs ?_ hl hP hD hS
  exact ⟨i1, i2.mono hm, i3.mono hm, i4.mono hm, i5, i6, i7, i8, i9, i10⟩
set_option maxHeartbeats 4000000 in
theorem cC41 {p : Program} {l : Launch} {e : Env} {s : State} {m : MethodId} {args : Array Value} {below : List Frame} {meth : Method} {c : Code} {Q : State → Prop} {A : Nat → Prop} {D : va_G} {cA : Nat → ClassId} {G : eG} {b : Nat} (L : Nat) (xs : Nat → Int32) (C : lawC p l s m args c A D cA G b L xs) (z0 a0 a1 a2 b0 b1 b4 b2 b5 b3 b6 h0 h1 h2 s0 t0 r0 r1 l0 e0 e1 k0 k1 m0 q0 q1 q2 q4 q7 q9 q15 w0 w9 : Nat) {T : Int} (hT : T ≤ 800000) {N : Nat} (hN : 2100 ≤ N) (x5 : Int32) (hx1 : vp_in (x5 + 1) L) (hx2 : vp_in (x5 + 2) L) (hx3 : vp_in (x5 + 3) L) (ce se : Nat) (hce : ce + 80 ≤ 603072) (hse : se + 11200 ≤ 7202922) (K : HK p l e s m args below meth c Q A D cA b z0 a0 a1 a2 b0 b1 b4 b2 b5 b3 b6 h0 h1 h2 s0 t0 r0 r1 l0 e0 e1 k0 k1 m0 q0 q1 q2 q4 q7 q9 q15 w0 w9 x5 2950 (ce + 80) (se + 11200) (T + 900)) : HK p l e s m args below meth c Q A D cA b z0 a0 a1 a2 b0 b1 b4 b2 b5 b3 b6 h0 h1 h2 s0 t0 r0 r1 l0 e0 e1 k0 k1 m0 q0 q1 q2 q4 q7 q9 q15 w0 w9 x5 2414 ce se T := by
  intro t1 l1 f f1 f2 f3 v1 v2 g w1 w2 w3 n tf ml c0 cm n2 lf ml2 c2 bf sn u7 u8 u9 v3 v5 v6 v8 v10 v11 v12 v13 v14 v16 ss bb sv pp ln tx cd wo wd ls H locs hI hl hP hD hS
  obtain ⟨i1, i2, i3, i4, i5, i6, i7, i8, i9, i10⟩ := hI
  have hm : T ≤ T + 900 := by omega
  have hm60 : T + 60 ≤ T + 900 := by omega
  obtain ⟨r, hr, hO⟩ := p41 (N := N) (f := f) (n2 := n2) (lf := lf) (ml2 := ml2) (c2 := c2) (s := ss) (ln := ln) hN i1 i2 (by omega) i9
  refine kC41 L xs C z0 a0 a1 a2 b0 b1 b4 b2 b5 b3 b6 h0 h1 h2 s0 t0 r0 r1 l0 e0 e1 k0 k1 m0 q0 q1 q2 q4 q7 q9 q15 w0 w9 t1 l1 N f f1 f2 f3 v1 v2 g w1 w2 w3 n tf ml c0 cm n2 lf ml2 c2 bf sn u7 u8 u9 v3 v5 v6 v8 v10 v11 v12 v13 v14 v16 ss bb sv pp ln tx cd wo wd x5 hr ce se hce hse ls H locs hl hP hD hS (fun t1 l1 ls H locs hl hP hD hS => ?_)
  refine K t1 l1 _ _ _ _ _ _ _ _ _ _ _ _ _ _ _ _ _ _ _ _ _ _ _ _ _ _ _ _ _ _ _ _ _ _ _ _ _ _ _ _ _ _ _ ls H locs ?_ hl hP hD hS
  exact ⟨i1, i2.mono hm, i3.mono hm, i4.mono hm, i5, i6, i7, i8, hO, i10⟩
set_option maxHeartbeats 4000000 in
theorem cC42 {p : Program} {l : Launch} {e : Env} {s : State} {m : MethodId} {args : Array Value} {below : List Frame} {meth : Method} {c : Code} {Q : State → Prop} {A : Nat → Prop} {D : va_G} {cA : Nat → ClassId} {G : eG} {b : Nat} (L : Nat) (xs : Nat → Int32) (C : lawC p l s m args c A D cA G b L xs) (z0 a0 a1 a2 b0 b1 b4 b2 b5 b3 b6 h0 h1 h2 s0 t0 r0 r1 l0 e0 e1 k0 k1 m0 q0 q1 q2 q4 q7 q9 q15 w0 w9 : Nat) {T : Int} (hT : T ≤ 800000) {N : Nat} (hN : 2100 ≤ N) (x5 : Int32) (hx1 : vp_in (x5 + 1) L) (hx2 : vp_in (x5 + 2) L) (hx3 : vp_in (x5 + 3) L) (ce se : Nat) (hce : ce + 80 ≤ 603072) (hse : se + 11200 ≤ 7202922) (K : HK p l e s m args below meth c Q A D cA b z0 a0 a1 a2 b0 b1 b4 b2 b5 b3 b6 h0 h1 h2 s0 t0 r0 r1 l0 e0 e1 k0 k1 m0 q0 q1 q2 q4 q7 q9 q15 w0 w9 x5 2950 (ce + 80) (se + 11200) (T + 900)) : HK p l e s m args below meth c Q A D cA b z0 a0 a1 a2 b0 b1 b4 b2 b5 b3 b6 h0 h1 h2 s0 t0 r0 r1 l0 e0 e1 k0 k1 m0 q0 q1 q2 q4 q7 q9 q15 w0 w9 x5 2427 ce se T := by
  intro t1 l1 f f1 f2 f3 v1 v2 g w1 w2 w3 n tf ml c0 cm n2 lf ml2 c2 bf sn u7 u8 u9 v3 v5 v6 v8 v10 v11 v12 v13 v14 v16 ss bb sv pp ln tx cd wo wd ls H locs hI hl hP hD hS
  obtain ⟨i1, i2, i3, i4, i5, i6, i7, i8, i9, i10⟩ := hI
  have hm : T ≤ T + 900 := by omega
  have hm60 : T + 60 ≤ T + 900 := by omega
  obtain ⟨r, hr, hO⟩ := p42 (N := N) (f := f) (n2 := n2) (lf := lf) (ml2 := ml2) (c2 := c2) (v8 := v8) (s := ss) (ln := ln) (wo := wo) (L := L) (xs := xs) (x5 := x5) hN i1 (i2.tg (by omega)) i9 hx1
  refine kC42 L xs C z0 a0 a1 a2 b0 b1 b4 b2 b5 b3 b6 h0 h1 h2 s0 t0 r0 r1 l0 e0 e1 k0 k1 m0 q0 q1 q2 q4 q7 q9 q15 w0 w9 t1 l1 N f f1 f2 f3 v1 v2 g w1 w2 w3 n tf ml c0 cm n2 lf ml2 c2 bf sn u7 u8 u9 v3 v5 v6 v8 v10 v11 v12 v13 v14 v16 ss bb sv pp ln tx cd wo wd x5 hr ce se hce hse ls H locs hl hP hD hS (fun t1 l1 ls H locs hl hP hD hS => ?_)
  refine K t1 l1 _ _ _ _ _ _ _ _ _ _ _ _ _ _ _ _ _ _ _ _ _ _ _ _ _ _ _ _ _ _ _ _ _ _ _ _ _ _ _ _ _ _ _ ls H locs ?_ hl hP hD hS
  exact ⟨i1, i2.mono hm, i3.mono hm, i4.mono hm, i5, i6, i7, i8, hO, i10⟩
set_option maxHeartbeats 4000000 in
theorem cC43 {p : Program} {l : Launch} {e : Env} {s : State} {m : MethodId} {args : Array Value} {below : List Frame} {meth : Method} {c : Code} {Q : State → Prop} {A : Nat → Prop} {D : va_G} {cA : Nat → ClassId} {G : eG} {b : Nat} (L : Nat) (xs : Nat → Int32) (C : lawC p l s m args c A D cA G b L xs) (z0 a0 a1 a2 b0 b1 b4 b2 b5 b3 b6 h0 h1 h2 s0 t0 r0 r1 l0 e0 e1 k0 k1 m0 q0 q1 q2 q4 q7 q9 q15 w0 w9 : Nat) {T : Int} (hT : T ≤ 800000) {N : Nat} (hN : 2100 ≤ N) (x5 : Int32) (hx1 : vp_in (x5 + 1) L) (hx2 : vp_in (x5 + 2) L) (hx3 : vp_in (x5 + 3) L) (ce se : Nat) (hce : ce + 80 ≤ 603072) (hse : se + 11200 ≤ 7202922) (K : HK p l e s m args below meth c Q A D cA b z0 a0 a1 a2 b0 b1 b4 b2 b5 b3 b6 h0 h1 h2 s0 t0 r0 r1 l0 e0 e1 k0 k1 m0 q0 q1 q2 q4 q7 q9 q15 w0 w9 x5 2950 (ce + 80) (se + 11200) (T + 900)) : HK p l e s m args below meth c Q A D cA b z0 a0 a1 a2 b0 b1 b4 b2 b5 b3 b6 h0 h1 h2 s0 t0 r0 r1 l0 e0 e1 k0 k1 m0 q0 q1 q2 q4 q7 q9 q15 w0 w9 x5 2483 ce se T := by
  intro t1 l1 f f1 f2 f3 v1 v2 g w1 w2 w3 n tf ml c0 cm n2 lf ml2 c2 bf sn u7 u8 u9 v3 v5 v6 v8 v10 v11 v12 v13 v14 v16 ss bb sv pp ln tx cd wo wd ls H locs hI hl hP hD hS
  obtain ⟨i1, i2, i3, i4, i5, i6, i7, i8, i9, i10⟩ := hI
  have hm : T ≤ T + 900 := by omega
  have hm60 : T + 60 ≤ T + 900 := by omega
  obtain ⟨r, hr⟩ : ∃ r, SC43 n2 lf c2 v8 ln wo L xs x5 = some r := p43 i9 hx1
  refine kC43 L xs C z0 a0 a1 a2 b0 b1 b4 b2 b5 b3 b6 h0 h1 h2 s0 t0 r0 r1 l0 e0 e1 k0 k1 m0 q0 q1 q2 q4 q7 q9 q15 w0 w9 t1 l1 f f1 f2 f3 v1 v2 g w1 w2 w3 n tf ml c0 cm n2 lf ml2 c2 bf sn u7 u8 u9 v3 v5 v6 v8 v10 v11 v12 v13 v14 v16 ss bb sv pp ln tx cd wo wd x5 hr ce se hce hse ls H locs hl hP hD hS (fun t1 l1 ls H locs hl hP hD hS => ?_)
  refine K t1 l1 _ _ _ _ _ _ _ _ _ _ _ _ _ _ _ _ _ _ _ _ _ _ _ _ _ _ _ _ _ _ _ _ _ _ _ _ _ _ _ _ _ _ _ ls H locs ?_ hl hP hD hS
  exact ⟨i1, i2.mono hm, i3.mono hm, i4.mono hm, i5, i6, i7, i8, i9, i10⟩
set_option maxHeartbeats 4000000 in
theorem cC44 {p : Program} {l : Launch} {e : Env} {s : State} {m : MethodId} {args : Array Value} {below : List Frame} {meth : Method} {c : Code} {Q : State → Prop} {A : Nat → Prop} {D : va_G} {cA : Nat → ClassId} {G : eG} {b : Nat} (L : Nat) (xs : Nat → Int32) (C : lawC p l s m args c A D cA G b L xs) (z0 a0 a1 a2 b0 b1 b4 b2 b5 b3 b6 h0 h1 h2 s0 t0 r0 r1 l0 e0 e1 k0 k1 m0 q0 q1 q2 q4 q7 q9 q15 w0 w9 : Nat) {T : Int} (hT : T ≤ 800000) {N : Nat} (hN : 2100 ≤ N) (x5 : Int32) (hx1 : vp_in (x5 + 1) L) (hx2 : vp_in (x5 + 2) L) (hx3 : vp_in (x5 + 3) L) (ce se : Nat) (hce : ce + 80 ≤ 603072) (hse : se + 11200 ≤ 7202922) (K : HK p l e s m args below meth c Q A D cA b z0 a0 a1 a2 b0 b1 b4 b2 b5 b3 b6 h0 h1 h2 s0 t0 r0 r1 l0 e0 e1 k0 k1 m0 q0 q1 q2 q4 q7 q9 q15 w0 w9 x5 2950 (ce + 80) (se + 11200) (T + 900)) : HK p l e s m args below meth c Q A D cA b z0 a0 a1 a2 b0 b1 b4 b2 b5 b3 b6 h0 h1 h2 s0 t0 r0 r1 l0 e0 e1 k0 k1 m0 q0 q1 q2 q4 q7 q9 q15 w0 w9 x5 2539 ce se T := by
  intro t1 l1 f f1 f2 f3 v1 v2 g w1 w2 w3 n tf ml c0 cm n2 lf ml2 c2 bf sn u7 u8 u9 v3 v5 v6 v8 v10 v11 v12 v13 v14 v16 ss bb sv pp ln tx cd wo wd ls H locs hI hl hP hD hS
  obtain ⟨i1, i2, i3, i4, i5, i6, i7, i8, i9, i10⟩ := hI
  have hm : T ≤ T + 900 := by omega
  have hm60 : T + 60 ≤ T + 900 := by omega
  obtain ⟨r, hr⟩ : ∃ r, SC44 N f ss = some r := p44 hN i1 (i2.tg (by omega)) i2.2.1
  refine kC44 L xs C z0 a0 a1 a2 b0 b1 b4 b2 b5 b3 b6 h0 h1 h2 s0 t0 r0 r1 l0 e0 e1 k0 k1 m0 q0 q1 q2 q4 q7 q9 q15 w0 w9 t1 l1 N f f1 f2 f3 v1 v2 g w1 w2 w3 n tf ml c0 cm n2 lf ml2 c2 bf sn u7 u8 u9 v3 v5 v6 v8 v10 v11 v12 v13 v14 v16 ss bb sv pp ln tx cd wo wd x5 hr ce se hce hse ls H locs hl hP hD hS (fun t1 l1 ls H locs hl hP hD hS => ?_)
  refine K t1 l1 _ _ _ _ _ _ _ _ _ _ _ _ _ _ _ _ _ _ _ _ _ _ _ _ _ _ _ _ _ _ _ _ _ _ _ _ _ _ _ _ _ _ _ ls H locs ?_ hl hP hD hS
  exact ⟨i1, i2.mono hm, i3.mono hm, i4.mono hm, i5, i6, i7, i8, i9, i10⟩
