set_option maxHeartbeats 4000000 in
theorem cC27 {p : Program} {l : Launch} {e : Env} {s : State} {m : MethodId} {args : Array Value} {below : List Frame} {meth : Method} {c : Code} {Q : State → Prop} {A : Nat → Prop} {D : va_G} {cA : Nat → ClassId} {G : eG} {b : Nat} (L : Nat) (xs : Nat → Int32) (C : lawC p l s m args c A D cA G b L xs) (z0 a0 a1 a2 b0 b1 b4 b2 b5 b3 b6 h0 h1 h2 s0 t0 r0 r1 l0 e0 e1 k0 k1 m0 q0 q1 q2 q4 q7 q9 q15 w0 w9 : Nat) {T : Int} (hT : T ≤ 800000) {N : Nat} (hN : 2100 ≤ N) (x5 : Int32) (hx1 : vp_in (x5 + 1) L) (hx2 : vp_in (x5 + 2) L) (hx3 : vp_in (x5 + 3) L) (ce se : Nat) (hce : ce + 80 ≤ 603072) (hse : se + 11200 ≤ 7202922) (K : HK p l e s m args below meth c Q A D cA b z0 a0 a1 a2 b0 b1 b4 b2 b5 b3 b6 h0 h1 h2 s0 t0 r0 r1 l0 e0 e1 k0 k1 m0 q0 q1 q2 q4 q7 q9 q15 w0 w9 x5 2950 (ce + 80) (se + 11200) (T + 900)) : HK p l e s m args below meth c Q A D cA b z0 a0 a1 a2 b0 b1 b4 b2 b5 b3 b6 h0 h1 h2 s0 t0 r0 r1 l0 e0 e1 k0 k1 m0 q0 q1 q2 q4 q7 q9 q15 w0 w9 x5 1797 ce se T := by
  intro t1 l1 f f1 f2 f3 v1 v2 g w1 w2 w3 n tf ml c0 cm n2 lf ml2 c2 bf sn u7 u8 u9 v3 v5 v6 v8 v10 v11 v12 v13 v14 v16 ss bb sv pp ln tx cd wo wd ls H locs hI hl hP hD hS
  obtain ⟨i1, i2, i3, i4, i5, i6, i7, i8, i9, i10⟩ := hI
  have hm : T ≤ T + 900 := by omega
  have hm60 : T + 60 ≤ T + 900 := by omega
  obtain ⟨r, hr⟩ : ∃ r, SC27 f ss = some r := p27 i1
  refine kC27 L xs C z0 a0 a1 a2 b0 b1 b4 b2 b5 b3 b6 h0 h1 h2 s0 t0 r0 r1 l0 e0 e1 k0 k1 m0 q0 q1 q2 q4 q7 q9 q15 w0 w9 t1 l1 f f1 f2 f3 v1 v2 g w1 w2 w3 n tf ml c0 cm n2 lf ml2 c2 bf sn u7 u8 u9 v3 v5 v6 v8 v10 v11 v12 v13 v14 v16 ss bb sv pp ln tx cd wo wd x5 hr ce se hce hse ls H locs hl hP hD hS (fun t1 l1 ls H locs hl hP hD hS => ?_)
  refine K t1 l1 _ _ _ _ _ _ _ _ _ _ _ _ _ _ _ _ _ _ _ _ _ _ _ _ _ _ _ _ _ _ _ _ _ _ _ _ _ _ _ _ _ _ _ ls H locs ?_ hl hP hD hS
  exact ⟨i1, i2.mono hm, i3.mono hm, i4.mono hm, i5, i6, i7, i8, i9, i10⟩
set_option maxHeartbeats 4000000 in
theorem cC28 {p : Program} {l : Launch} {e : Env} {s : State} {m : MethodId} {args : Array Value} {below : List Frame} {meth : Method} {c : Code} {Q : State → Prop} {A : Nat → Prop} {D : va_G} {cA : Nat → ClassId} {G : eG} {b : Nat} (L : Nat) (xs : Nat → Int32) (C : lawC p l s m args c A D cA G b L xs) (z0 a0 a1 a2 b0 b1 b4 b2 b5 b3 b6 h0 h1 h2 s0 t0 r0 r1 l0 e0 e1 k0 k1 m0 q0 q1 q2 q4 q7 q9 q15 w0 w9 : Nat) {T : Int} (hT : T ≤ 800000) {N : Nat} (hN : 2100 ≤ N) (x5 : Int32) (hx1 : vp_in (x5 + 1) L) (hx2 : vp_in (x5 + 2) L) (hx3 : vp_in (x5 + 3) L) (ce se : Nat) (hce : ce + 80 ≤ 603072) (hse : se + 11200 ≤ 7202922) (K : HK p l e s m args below meth c Q A D cA b z0 a0 a1 a2 b0 b1 b4 b2 b5 b3 b6 h0 h1 h2 s0 t0 r0 r1 l0 e0 e1 k0 k1 m0 q0 q1 q2 q4 q7 q9 q15 w0 w9 x5 2950 (ce + 80) (se + 11200) (T + 900)) : HK p l e s m args below meth c Q A D cA b z0 a0 a1 a2 b0 b1 b4 b2 b5 b3 b6 h0 h1 h2 s0 t0 r0 r1 l0 e0 e1 k0 k1 m0 q0 q1 q2 q4 q7 q9 q15 w0 w9 x5 1810 ce se T := by
  intro t1 l1 f f1 f2 f3 v1 v2 g w1 w2 w3 n tf ml c0 cm n2 lf ml2 c2 bf sn u7 u8 u9 v3 v5 v6 v8 v10 v11 v12 v13 v14 v16 ss bb sv pp ln tx cd wo wd ls H locs hI hl hP hD hS
  obtain ⟨i1, i2, i3, i4, i5, i6, i7, i8, i9, i10⟩ := hI
  have hm : T ≤ T + 900 := by omega
  have hm60 : T + 60 ≤ T + 900 := by omega
  obtain ⟨r, hr⟩ : ∃ r, SC28 f ss = some r := p28 i1
  refine kC28 L xs C z0 a0 a1 a2 b0 b1 b4 b2 b5 b3 b6 h0 h1 h2 s0 t0 r0 r1 l0 e0 e1 k0 k1 m0 q0 q1 q2 q4 q7 q9 q15 w0 w9 t1 l1 f f1 f2 f3 v1 v2 g w1 w2 w3 n tf ml c0 cm n2 lf ml2 c2 bf sn u7 u8 u9 v3 v5 v6 v8 v10 v11 v12 v13 v14 v16 ss bb sv pp ln tx cd wo wd x5 hr ce se hce hse ls H locs hl hP hD hS (fun t1 l1 ls H locs hl hP hD hS => ?_)
  refine K t1 l1 _ _ _ _ _ _ _ _ _ _ _ _ _ _ _ _ _ _ _ _ _ _ _ _ _ _ _ _ _ _ _ _ _ _ _ _ _ _ _ _ _ _ _ ls H locs ?_ hl hP hD hS
  exact ⟨i1, i2.mono hm, i3.mono hm, i4.mono hm, i5, i6, i7, i8, i9, i10⟩
set_option maxHeartbeats 4000000 in
theorem cC29 {p : Program} {l : Launch} {e : Env} {s : State} {m : MethodId} {args : Array Value} {below : List Frame} {meth : Method} {c : Code} {Q : State → Prop} {A : Nat → Prop} {D : va_G} {cA : Nat → ClassId} {G : eG} {b : Nat} (L : Nat) (xs : Nat → Int32) (C : lawC p l s m args c A D cA G b L xs) (z0 a0 a1 a2 b0 b1 b4 b2 b5 b3 b6 h0 h1 h2 s0 t0 r0 r1 l0 e0 e1 k0 k1 m0 q0 q1 q2 q4 q7 q9 q15 w0 w9 : Nat) {T : Int} (hT : T ≤ 800000) {N : Nat} (hN : 2100 ≤ N) (x5 : Int32) (hx1 : vp_in (x5 + 1) L) (hx2 : vp_in (x5 + 2) L) (hx3 : vp_in (x5 + 3) L) (ce se : Nat) (hce : ce + 80 ≤ 603072) (hse : se + 11200 ≤ 7202922) (K : HK p l e s m args below meth c Q A D cA b z0 a0 a1 a2 b0 b1 b4 b2 b5 b3 b6 h0 h1 h2 s0 t0 r0 r1 l0 e0 e1 k0 k1 m0 q0 q1 q2 q4 q7 q9 q15 w0 w9 x5 2950 (ce + 80) (se + 11200) (T + 900)) : HK p l e s m args below meth c Q A D cA b z0 a0 a1 a2 b0 b1 b4 b2 b5 b3 b6 h0 h1 h2 s0 t0 r0 r1 l0 e0 e1 k0 k1 m0 q0 q1 q2 q4 q7 q9 q15 w0 w9 x5 1823 ce se T := by
  intro t1 l1 f f1 f2 f3 v1 v2 g w1 w2 w3 n tf ml c0 cm n2 lf ml2 c2 bf sn u7 u8 u9 v3 v5 v6 v8 v10 v11 v12 v13 v14 v16 ss bb sv pp ln tx cd wo wd ls H locs hI hl hP hD hS
  obtain ⟨i1, i2, i3, i4, i5, i6, i7, i8, i9, i10⟩ := hI
  have hm : T ≤ T + 900 := by omega
  have hm60 : T + 60 ≤ T + 900 := by omega
  obtain ⟨r, hr⟩ : ∃ r, SC29 f ss = some r := p29 i1
  refine kC29 L xs C z0 a0 a1 a2 b0 b1 b4 b2 b5 b3 b6 h0 h1 h2 s0 t0 r0 r1 l0 e0 e1 k0 k1 m0 q0 q1 q2 q4 q7 q9 q15 w0 w9 t1 l1 f f1 f2 f3 v1 v2 g w1 w2 w3 n tf ml c0 cm n2 lf ml2 c2 bf sn u7 u8 u9 v3 v5 v6 v8 v10 v11 v12 v13 v14 v16 ss bb sv pp ln tx cd wo wd x5 hr ce se hce hse ls H locs hl hP hD hS (fun t1 l1 ls H locs hl hP hD hS => ?_)
  refine K t1 l1 _ _ _ _ _ _ _ _ _ _ _ _ _ _ _ _ _ _ _ _ _ _ _ _ _ _ _ _ _ _ _ _ _ _ _ _ _ _ _ _ _ _ _ ls H locs ?_ hl hP hD hS
  exact ⟨i1, i2.mono hm, i3.mono hm, i4.mono hm, i5, i6, i7, i8, i9, i10⟩
set_option maxHeartbeats 4000000 in
theorem cC30 {p : Program} {l : Launch} {e : Env} {s : State} {m : MethodId} {args : Array Value} {below : List Frame} {meth : Method} {c : Code} {Q : State → Prop} {A : Nat → Prop} {D : va_G} {cA : Nat → ClassId} {G : eG} {b : Nat} (L : Nat) (xs : Nat → Int32) (C : lawC p l s m args c A D cA G b L xs) (z0 a0 a1 a2 b0 b1 b4 b2 b5 b3 b6 h0 h1 h2 s0 t0 r0 r1 l0 e0 e1 k0 k1 m0 q0 q1 q2 q4 q7 q9 q15 w0 w9 : Nat) {T : Int} (hT : T ≤ 800000) {N : Nat} (hN : 2100 ≤ N) (x5 : Int32) (hx1 : vp_in (x5 + 1) L) (hx2 : vp_in (x5 + 2) L) (hx3 : vp_in (x5 + 3) L) (ce se : Nat) (hce : ce + 80 ≤ 603072) (hse : se + 11200 ≤ 7202922) (K : HK p l e s m args below meth c Q A D cA b z0 a0 a1 a2 b0 b1 b4 b2 b5 b3 b6 h0 h1 h2 s0 t0 r0 r1 l0 e0 e1 k0 k1 m0 q0 q1 q2 q4 q7 q9 q15 w0 w9 x5 2950 (ce + 80) (se + 11200) (T + 900)) : HK p l e s m args below meth c Q A D cA b z0 a0 a1 a2 b0 b1 b4 b2 b5 b3 b6 h0 h1 h2 s0 t0 r0 r1 l0 e0 e1 k0 k1 m0 q0 q1 q2 q4 q7 q9 q15 w0 w9 x5 1836 ce se T := by
  intro t1 l1 f f1 f2 f3 v1 v2 g w1 w2 w3 n tf ml c0 cm n2 lf ml2 c2 bf sn u7 u8 u9 v3 v5 v6 v8 v10 v11 v12 v13 v14 v16 ss bb sv pp ln tx cd wo wd ls H locs hI hl hP hD hS
  obtain ⟨i1, i2, i3, i4, i5, i6, i7, i8, i9, i10⟩ := hI
  have hm : T ≤ T + 900 := by omega
  have hm60 : T + 60 ≤ T + 900 := by omega
  obtain ⟨r, hr⟩ : ∃ r, SC30 f ss = some r := p30 i1
  refine kC30 L xs C z0 a0 a1 a2 b0 b1 b4 b2 b5 b3 b6 h0 h1 h2 s0 t0 r0 r1 l0 e0 e1 k0 k1 m0 q0 q1 q2 q4 q7 q9 q15 w0 w9 t1 l1 f f1 f2 f3 v1 v2 g w1 w2 w3 n tf ml c0 cm n2 lf ml2 c2 bf sn u7 u8 u9 v3 v5 v6 v8 v10 v11 v12 v13 v14 v16 ss bb sv pp ln tx cd wo wd x5 hr ce se hce hse ls H locs hl hP hD hS (fun t1 l1 ls H locs hl hP hD hS => ?_)
  refine K t1 l1 _ _ _ _ _ _ _ _ _ _ _ _ _ _ _ _ _ _ _ _ _ _ _ _ _ _ _ _ _ _ _ _ _ _ _ _ _ _ _ _ _ _ _ ls H locs ?_ hl hP hD hS
  exact ⟨i1, i2.mono hm, i3.mono hm, i4.mono hm, i5, i6, i7, i8, i9, i10⟩
set_option maxHeartbeats 4000000 in
theorem cC31 {p : Program} {l : Launch} {e : Env} {s : State} {m : MethodId} {args : Array Value} {below : List Frame} {meth : Method} {c : Code} {Q : State → Prop} {A : Nat → Prop} {D : va_G} {cA : Nat → ClassId} {G : eG} {b : Nat} (L : Nat) (xs : Nat → Int32) (C : lawC p l s m args c A D cA G b L xs) (z0 a0 a1 a2 b0 b1 b4 b2 b5 b3 b6 h0 h1 h2 s0 t0 r0 r1 l0 e0 e1 k0 k1 m0 q0 q1 q2 q4 q7 q9 q15 w0 w9 : Nat) {T : Int} (hT : T ≤ 800000) {N : Nat} (hN : 2100 ≤ N) (x5 : Int32) (hx1 : vp_in (x5 + 1) L) (hx2 : vp_in (x5 + 2) L) (hx3 : vp_in (x5 + 3) L) (ce se : Nat) (hce : ce + 80 ≤ 603072) (hse : se + 11200 ≤ 7202922) (K : HK p l e s m args below meth c Q A D cA b z0 a0 a1 a2 b0 b1 b4 b2 b5 b3 b6 h0 h1 h2 s0 t0 r0 r1 l0 e0 e1 k0 k1 m0 q0 q1 q2 q4 q7 q9 q15 w0 w9 x5 2950 (ce + 80) (se + 11200) (T + 900)) : HK p l e s m args below meth c Q A D cA b z0 a0 a1 a2 b0 b1 b4 b2 b5 b3 b6 h0 h1 h2 s0 t0 r0 r1 l0 e0 e1 k0 k1 m0 q0 q1 q2 q4 q7 q9 q15 w0 w9 x5 1849 ce se T := by
  intro t1 l1 f f1 f2 f3 v1 v2 g w1 w2 w3 n tf ml c0 cm n2 lf ml2 c2 bf sn u7 u8 u9 v3 v5 v6 v8 v10 v11 v12 v13 v14 v16 ss bb sv pp ln tx cd wo wd ls H locs hI hl hP hD hS
  obtain ⟨i1, i2, i3, i4, i5, i6, i7, i8, i9, i10⟩ := hI
  have hm : T ≤ T + 900 := by omega
  have hm60 : T + 60 ≤ T + 900 := by omega
  obtain ⟨r, hr⟩ : ∃ r, SC31 N f ss wo L xs x5 = some r := p31 hN i1 (i2.tg (by omega)) hx1
  refine kC31 L xs C z0 a0 a1 a2 b0 b1 b4 b2 b5 b3 b6 h0 h1 h2 s0 t0 r0 r1 l0 e0 e1 k0 k1 m0 q0 q1 q2 q4 q7 q9 q15 w0 w9 t1 l1 N f f1 f2 f3 v1 v2 g w1 w2 w3 n tf ml c0 cm n2 lf ml2 c2 bf sn u7 u8 u9 v3 v5 v6 v8 v10 v11 v12 v13 v14 v16 ss bb sv pp ln tx cd wo wd x5 hr ce se hce hse ls H locs hl hP hD hS (fun t1 l1 ls H locs hl hP hD hS => ?_)
  refine K t1 l1 _ _ _ _ _ _ _ _ _ _ _ _ _ _ _ _ _ _ _ _ _ _ _ _ _ _ _ _ _ _ _ _ _ _ _ _ _ _ _ _ _ _ _ ls H locs ?_ hl hP hD hS
  exact ⟨i1, i2.mono hm, i3.mono hm, i4.mono hm, i5, i6, i7, i8, i9, i10⟩
set_option maxHeartbeats 4000000 in
theorem cC32 {p : Program} {l : Launch} {e : Env} {s : State} {m : MethodId} {args : Array Value} {below : List Frame} {meth : Method} {c : Code} {Q : State → Prop} {A : Nat → Prop} {D : va_G} {cA : Nat → ClassId} {G : eG} {b : Nat} (L : Nat) (xs : Nat → Int32) (C : lawC p l s m args c A D cA G b L xs) (z0 a0 a1 a2 b0 b1 b4 b2 b5 b3 b6 h0 h1 h2 s0 t0 r0 r1 l0 e0 e1 k0 k1 m0 q0 q1 q2 q4 q7 q9 q15 w0 w9 : Nat) {T : Int} (hT : T ≤ 800000) {N : Nat} (hN : 2100 ≤ N) (x5 : Int32) (hx1 : vp_in (x5 + 1) L) (hx2 : vp_in (x5 + 2) L) (hx3 : vp_in (x5 + 3) L) (ce se : Nat) (hce : ce + 80 ≤ 603072) (hse : se + 11200 ≤ 7202922) (K : HK p l e s m args below meth c Q A D cA b z0 a0 a1 a2 b0 b1 b4 b2 b5 b3 b6 h0 h1 h2 s0 t0 r0 r1 l0 e0 e1 k0 k1 m0 q0 q1 q2 q4 q7 q9 q15 w0 w9 x5 2950 (ce + 80) (se + 11200) (T + 900)) : HK p l e s m args below meth c Q A D cA b z0 a0 a1 a2 b0 b1 b4 b2 b5 b3 b6 h0 h1 h2 s0 t0 r0 r1 l0 e0 e1 k0 k1 m0 q0 q1 q2 q4 q7 q9 q15 w0 w9 x5 1905 ce se T := by
  intro t1 l1 f f1 f2 f3 v1 v2 g w1 w2 w3 n tf ml c0 cm n2 lf ml2 c2 bf sn u7 u8 u9 v3 v5 v6 v8 v10 v11 v12 v13 v14 v16 ss bb sv pp ln tx cd wo wd ls H locs hI hl hP hD hS
  obtain ⟨i1, i2, i3, i4, i5, i6, i7, i8, i9, i10⟩ := hI
  have hm : T ≤ T + 900 := by omega
  have hm60 : T + 60 ≤ T + 900 := by omega
  obtain ⟨r, hr⟩ : ∃ r, SC32 N f ss wo L xs x5 = some r := p32 hN i1 (i2.tg (by omega)) i2.2.1 hx1
  refine kC32 L xs C z0 a0 a1 a2 b0 b1 b4 b2 b5 b3 b6 h0 h1 h2 s0 t0 r0 r1 l0 e0 e1 k0 k1 m0 q0 q1 q2 q4 q7 q9 q15 w0 w9 t1 l1 N f f1 f2 f3 v1 v2 g w1 w2 w3 n tf ml c0 cm n2 lf ml2 c2 bf sn u7 u8 u9 v3 v5 v6 v8 v10 v11 v12 v13 v14 v16 ss bb sv pp ln tx cd wo wd x5 hr ce se hce hse ls H locs hl hP hD hS (fun t1 l1 ls H locs hl hP hD hS => ?_)
  refine K t1 l1 _ _ _ _ _ _ _ _ _ _ _ _ _ _ _ _ _ _ _ _ _ _ _ _ _ _ _ _ _ _ _ _ _ _ _ _ _ _ _ _ _ _ _ ls H locs ?_ hl hP hD hS
  exact ⟨i1, i2.mono hm, i3.mono hm, i4.mono hm, i5, i6, i7, i8, i9, i10⟩
set_option maxHeartbeats 4000000 in
theorem cC33 {p : Program} {l : Launch} {e : Env} {s : State} {m : MethodId} {args : Array Value} {below : List Frame} {meth : Method} {c : Code} {Q : State → Prop} {A : Nat → Prop} {D : va_G} {cA : Nat → ClassId} {G : eG} {b : Nat} (L : Nat) (xs : Nat → Int32) (C : lawC p l s m args c A D cA G b L xs) (z0 a0 a1 a2 b0 b1 b4 b2 b5 b3 b6 h0 h1 h2 s0 t0 r0 r1 l0 e0 e1 k0 k1 m0 q0 q1 q2 q4 q7 q9 q15 w0 w9 : Nat) {T : Int} (hT : T ≤ 800000) {N : Nat} (hN : 2100 ≤ N) (x5 : Int32) (hx1 : vp_in (x5 + 1) L) (hx2 : vp_in (x5 + 2) L) (hx3 : vp_in (x5 + 3) L) (ce se : Nat) (hce : ce + 80 ≤ 603072) (hse : se + 11200 ≤ 7202922) (K : HK p l e s m args below meth c Q A D cA b z0 a0 a1 a2 b0 b1 b4 b2 b5 b3 b6 h0 h1 h2 s0 t0 r0 r1 l0 e0 e1 k0 k1 m0 q0 q1 q2 q4 q7 q9 q15 w0 w9 x5 2950 (ce + 80) (se + 11200) (T + 900)) : HK p l e s m args below meth c Q A D cA b z0 a0 a1 a2 b0 b1 b4 b2 b5 b3 b6 h0 h1 h2 s0 t0 r0 r1 l0 e0 e1 k0 k1 m0 q0 q1 q2 q4 q7 q9 q15 w0 w9 x5 1961 ce se T := by
  intro t1 l1 f f1 f2 f3 v1 v2 g w1 w2 w3 n tf ml c0 cm n2 lf ml2 c2 bf sn u7 u8 u9 v3 v5 v6 v8 v10 v11 v12 v13 v14 v16 ss bb sv pp ln tx cd wo wd ls H locs hI hl hP hD hS
  obtain ⟨i1, i2, i3, i4, i5, i6, i7, i8, i9, i10⟩ := hI
  have hm : T ≤ T + 900 := by omega
  have hm60 : T + 60 ≤ T + 900 := by omega
  obtain ⟨r, hr⟩ : ∃ r, SC33 N f ss = some r := p33 hN i1 (i2.tg (by omega)) i2.2.1
  refine kC33 L xs C z0 a0 a1 a2 b0 b1 b4 b2 b5 b3 b6 h0 h1 h2 s0 t0 r0 r1 l0 e0 e1 k0 k1 m0 q0 q1 q2 q4 q7 q9 q15 w0 w9 t1 l1 N f f1 f2 f3 v1 v2 g w1 w2 w3 n tf ml c0 cm n2 lf ml2 c2 bf sn u7 u8 u9 v3 v5 v6 v8 v10 v11 v12 v13 v14 v16 ss bb sv pp ln tx cd wo wd x5 hr ce se hce hse ls H locs hl hP hD hS (fun t1 l1 ls H locs hl hP hD hS => ?_)
  refine K t1 l1 _ _ _ _ _ _ _ _ _ _ _ _ _ _ _ _ _ _ _ _ _ _ _ _ _ _ _ _ _ _ _ _ _ _ _ _ _ _ _ _ _ _ _ ls H locs ?_ hl hP hD hS
  exact ⟨i1, i2.mono hm, i3.mono hm, i4.mono hm, i5, i6, i7, i8, i9, i10⟩
set_option maxHeartbeats 4000000 in
theorem cC34 {p : Program} {l : Launch} {e : Env} {s : State} {m : MethodId} {args : Array Value} {below : List Frame} {meth : Method} {c : Code} {Q : State → Prop} {A : Nat → Prop} {D : va_G} {cA : Nat → ClassId} {G : eG} {b : Nat} (L : Nat) (xs : Nat → Int32) (C : lawC p l s m args c A D cA G b L xs) (z0 a0 a1 a2 b0 b1 b4 b2 b5 b3 b6 h0 h1 h2 s0 t0 r0 r1 l0 e0 e1 k0 k1 m0 q0 q1 q2 q4 q7 q9 q15 w0 w9 : Nat) {T : Int} (hT : T ≤ 800000) {N : Nat} (hN : 2100 ≤ N) (x5 : Int32) (hx1 : vp_in (x5 + 1) L) (hx2 : vp_in (x5 + 2) L) (hx3 : vp_in (x5 + 3) L) (ce se : Nat) (hce : ce + 80 ≤ 603072) (hse : se + 11200 ≤ 7202922) (K : HK p l e s m args below meth c Q A D cA b z0 a0 a1 a2 b0 b1 b4 b2 b5 b3 b6 h0 h1 h2 s0 t0 r0 r1 l0 e0 e1 k0 k1 m0 q0 q1 q2 q4 q7 q9 q15 w0 w9 x5 2950 (ce + 80) (se + 11200) (T + 900)) : HK p l e s m args below meth c Q A D cA b z0 a0 a1 a2 b0 b1 b4 b2 b5 b3 b6 h0 h1 h2 s0 t0 r0 r1 l0 e0 e1 k0 k1 m0 q0 q1 q2 q4 q7 q9 q15 w0 w9 x5 1974 ce se T := by
  intro t1 l1 f f1 f2 f3 v1 v2 g w1 w2 w3 n tf ml c0 cm n2 lf ml2 c2 bf sn u7 u8 u9 v3 v5 v6 v8 v10 v11 v12 v13 v14 v16 ss bb sv pp ln tx cd wo wd ls H locs hI hl hP hD hS
  obtain ⟨i1, i2, i3, i4, i5, i6, i7, i8, i9, i10⟩ := hI
  have hm : T ≤ T + 900 := by omega
  have hm60 : T + 60 ≤ T + 900 := by omega
  obtain ⟨r, hr⟩ : ∃ r, SC34 N f ss wo L xs x5 = some r := p34 hN i1 (i2.tg (by omega)) hx1 hx2
  refine kC34 L xs C z0 a0 a1 a2 b0 b1 b4 b2 b5 b3 b6 h0 h1 h2 s0 t0 r0 r1 l0 e0 e1 k0 k1 m0 q0 q1 q2 q4 q7 q9 q15 w0 w9 t1 l1 N f f1 f2 f3 v1 v2 g w1 w2 w3 n tf ml c0 cm n2 lf ml2 c2 bf sn u7 u8 u9 v3 v5 v6 v8 v10 v11 v12 v13 v14 v16 ss bb sv pp ln tx cd wo wd x5 hr ce se hce hse ls H locs hl hP hD hS (fun t1 l1 ls H locs hl hP hD hS => ?_)
  refine K t1 l1 _ _ _ _ _ _ _ _ _ _ _ _ _ _ _ _ _ _ _ _ _ _ _ _ _ _ _ _ _ _ _ _ _ _ _ _ _ _ _ _ _ _ _ ls H locs ?_ hl hP hD hS
  exact ⟨i1, i2.mono hm, i3.mono hm, i4.mono hm, i5, i6, i7, i8, i9, i10⟩
set_option maxHeartbeats 4000000 in
theorem cC35 {p : Program} {l : Launch} {e : Env} {s : State} {m : MethodId} {args : Array Value} {below : List Frame} {meth : Method} {c : Code} {Q : State → Prop} {A : Nat → Prop} {D : va_G} {cA : Nat → ClassId} {G : eG} {b : Nat} (L : Nat) (xs : Nat → Int32) (C : lawC p l s m args c A D cA G b L xs) (z0 a0 a1 a2 b0 b1 b4 b2 b5 b3 b6 h0 h1 h2 s0 t0 r0 r1 l0 e0 e1 k0 k1 m0 q0 q1 q2 q4 q7 q9 q15 w0 w9 : Nat) {T : Int} (hT : T ≤ 800000) {N : Nat} (hN : 2100 ≤ N) (x5 : Int32) (hx1 : vp_in (x5 + 1) L) (hx2 : vp_in (x5 + 2) L) (hx3 : vp_in (x5 + 3) L) (ce se : Nat) (hce : ce + 80 ≤ 603072) (hse : se + 11200 ≤ 7202922) (K : HK p l e s m args below meth c Q A D cA b z0 a0 a1 a2 b0 b1 b4 b2 b5 b3 b6 h0 h1 h2 s0 t0 r0 r1 l0 e0 e1 k0 k1 m0 q0 q1 q2 q4 q7 q9 q15 w0 w9 x5 2950 (ce + 80) (se + 11200) (T + 900)) : HK p l e s m args below meth c Q A D cA b z0 a0 a1 a2 b0 b1 b4 b2 b5 b3 b6 h0 h1 h2 s0 t0 r0 r1 l0 e0 e1 k0 k1 m0 q0 q1 q2 q4 q7 q9 q15 w0 w9 x5 2042 ce se T := by
  intro t1 l1 f f1 f2 f3 v1 v2 g w1 w2 w3 n tf ml c0 cm n2 lf ml2 c2 bf sn u7 u8 u9 v3 v5 v6 v8 v10 v11 v12 v13 v14 v16 ss bb sv pp ln tx cd wo wd ls H locs hI hl hP hD hS
  obtain ⟨i1, i2, i3, i4, i5, i6, i7, i8, i9, i10⟩ := hI
  have hm : T ≤ T + 900 := by omega
  have hm60 : T + 60 ≤ T + 900 := by omega
  obtain ⟨r, hr⟩ : ∃ r, SC35 N f f1 f2 f3 ss wo L xs x5 = some r := p35 hN i1 (i2.tg (by omega)) hx1 hx2
  refine kC35 L xs C z0 a0 a1 a2 b0 b1 b4 b2 b5 b3 b6 h0 h1 h2 s0 t0 r0 r1 l0 e0 e1 k0 k1 m0 q0 q1 q2 q4 q7 q9 q15 w0 w9 t1 l1 N f f1 f2 f3 v1 v2 g w1 w2 w3 n tf ml c0 cm n2 lf ml2 c2 bf sn u7 u8 u9 v3 v5 v6 v8 v10 v11 v12 v13 v14 v16 ss bb sv pp ln tx cd wo wd x5 hr ce se hce hse ls H locs hl hP hD hS (fun t1 l1 ls H locs hl hP hD hS => ?_)
  refine K t1 l1 _ _ _ _ _ _ _ _ _ _ _ _ _ _ _ _ _ _ _ _ _ _ _ _ _ _ _ _ _ _ _ _ _ _ _ _ _ _ _ _ _ _ _ ls H locs ?_ hl hP hD hS
  exact ⟨i1, i2.mono hm, i3.mono hm, i4.mono hm, i5, i6, i7, i8, i9, i10⟩
