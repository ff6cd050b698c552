/-! ===== the law's pure part: the lines ===== -/
section LH
variable {T : Int} {f : Nat → Int32} {N mn : Nat} {mv : Nat → Nat → Int32}
def sp1 (i : Nat) : List Nat := if i = 0 then [] else [32]
def rimP (f : Nat → Int32) (i : Nat) (l : List Nat) : List Nat := (((l ++ dg (LV f i)) ++ (if f (8 + i) = 1 then [116] else [])) ++ (if f 5 = nI i then [112] else [])) ++ (if lat f (nI i) (tw f) 0 = true then [119] else [])
def rimT (f : Nat → Int32) : Nat → Nat → List Nat → List Nat
  | 0, _, l => l
  | d + 1, i, l => rimT f d (i + 1) (rimP f i (l ++ sp1 i))
theorem ite_len (c : Prop) [Decidable c] (x : Nat) : (if c then [x] else []).length ≤ 1 := by
  by_cases d : c
  · rw [if_pos d]
    exact Nat.le_refl _
  · rw [if_neg d]
    exact Nat.zero_le _
theorem rimP_len (f : Nat → Int32) (i : Nat) (l : List Nat) : (rimP f i l).length ≤ l.length + 6 := by
  unfold rimP
  have h1 := ite_len (f (8 + i) = 1) 116
  have h2 := ite_len (f 5 = nI i) 112
  have h3 := ite_len (lat f (nI i) (tw f) 0 = true) 119
  have h4 := nd_le (LV f i)
  simp only [List.length_append, dg_len]
  omega
theorem rim_p (hG : Good T f) (hT : T ≤ 1000000) {i : Nat} (hi : i < 12) {l : List Nat} {n : Nat} {lf : Nat → Int32} (h : CL l n lf) (hl : l.length ≤ 84) : ∃ n' lf', CL (rimP f i l) n' lf' ∧ ∀ (o1 : Int32 × Int32 × (Nat → Int32) × Nat) (fu : Nat), (bnd (SX4_level 13 f (nI i)) (fun o6 : Int32 => bnd (SJ4_append_bf812 13 n lf (nI l.length) o6) (fun o8 : Int32 × (Nat → Int32) × Nat => bnd (SX5_writeLetter o8.2.2 o8.2.1 o8.1 (SX4_isToeAt f (nI i)) 116) (fun o11 : Int32 × (Nat → Int32) × Nat => lt_ (if (SX4_plug f) = (nI i) then (1) else (0)) (fun o15 : Int32 => bnd (SX5_writeLetter o11.2.2 o11.2.1 o11.1 o15 112) (fun o16 : Int32 × (Nat → Int32) × Nat => bnd (SX4_isTowelAt 13 f (nI i)) (fun o18 : Int32 => bnd (SX5_writeLetter o16.2.2 o16.2.1 o16.1 o18 119) (fun o20 : Int32 × (Nat → Int32) × Nat => LX5_writeRim_10 o1 f fu o20.2.1 o20.1 (nI i + 1) o20.2.2)))))))) = LX5_writeRim_10 o1 f fu lf' (nI (rimP f i l).length) (nI (i + 1)) n' := by
  have htg := hG.tg hT
  have h1 : 0 ≤ (f 1).toInt ∧ (f 1).toInt ≤ 40 := hG.2.1
  have h4 := hG.t4
  have hlv := LV_b htg h1 hi
  have et := isToe_v f hi (pos_n hi)
  have el : SX4_isTowelAt 13 f (nI i) = _ := lat_c hG (nI i) (tw f) 0 13 (by omega) (by omega)
  have k1 := ite_len (f (8 + i) = 1) 116
  have k2 := ite_len (f 5 = nI i) 112
  have k4 := nd_le (LV f i)
  obtain ⟨n1, lf1, a1, c1⟩ := cl_n (N := 13) h (v := LV f i) (by omega) (by omega) (by omega)
  obtain ⟨n2, lf2, a2, c2⟩ := cl_if c1 (by simp only [List.length_append, dg_len]; omega) (x := 116) (by omega) (f (8 + i) = 1)
  obtain ⟨n3, lf3, a3, c3⟩ := cl_if c2 (by simp only [List.length_append, dg_len]; omega) (x := 112) (by omega) (f 5 = nI i)
  obtain ⟨n4, lf4, a4, c4⟩ := cl_if c3 (by simp only [List.length_append, dg_len]; omega) (x := 119) (by omega) (lat f (nI i) (tw f) 0 = true)
  have a2' : SX5_writeLetter n1 lf1 (nI (l ++ dg (LV f i)).length) (if f (8 + i) = 1 then 1 else 0) 116 = _ := a2
  have a3' : SX5_writeLetter n2 lf2 (nI ((l ++ dg (LV f i)) ++ (if f (8 + i) = 1 then [116] else [])).length) (if f 5 = nI i then 1 else 0) 112 = _ := a3
  have a4' : SX5_writeLetter n3 lf3 (nI (((l ++ dg (LV f i)) ++ (if f (8 + i) = 1 then [116] else [])) ++ (if f 5 = nI i then [112] else [])).length) (if lat f (nI i) (tw f) 0 = true then 1 else 0) 119 = _ := a4
  refine ⟨n4, lf4, c4, fun o1 fu => ?_⟩
  rw [level_c htg h1 hi (by omega), bnd_v, a1, bnd_v, et, a2', bnd_v, plug_v, lt_v, a3', bnd_v, el, bnd_v, a4', bnd_v, nI_1]
  rfl
theorem rim_c (hG : Good T f) (hT : T ≤ 1000000) : ∀ (d i : Nat) (l : List Nat) (n : Nat) (lf : Nat → Int32), i + d = 12 → CL l n lf → l.length ≤ 7 * i - 1 → (rimT f d i l).length ≤ 83 ∧ ∃ n' lf', CL (rimT f d i l) n' lf' ∧ ∀ (o1 : Int32 × Int32 × (Nat → Int32) × Nat) (fu : Nat), d + 1 ≤ fu → LX5_writeRim_10 o1 f fu lf (nI l.length) (nI i) n = some (nI (rimT f d i l).length, o1.1, nI (rimT f d i l).length, lf', n') := by
  intro d
  induction d with
  | zero =>
    intro i l n lf hi h hl
    refine ⟨by show l.length ≤ 83; omega, n, lf, h, fun o1 fu hf => ?_⟩
    obtain ⟨fu, rfl⟩ : ∃ k, fu = k + 1 := ⟨fu - 1, by omega⟩
    rw [LX5_writeRim_10, if_pos (show (12 : Int32) ≤ nI i from nI_le (a := 12) (by omega) (by omega))]
    rfl
  | succ d ih =>
    intro i l n lf hi h hl
    by_cases c : i = 0
    · subst c
      have e0 : l ++ sp1 0 = l := List.append_nil l
      obtain ⟨n', lf', k2, k3⟩ := rim_p hG hT (i := 0) (by omega) h (by omega)
      have hp := rimP_len f 0 l
      obtain ⟨b, n2, lf2, g1, g2⟩ := ih 1 (rimP f 0 l) n' lf' (by omega) k2 (by omega)
      have eT : rimT f (d + 1) 0 l = rimT f d 1 (rimP f 0 l) := by
        show rimT f d 1 (rimP f 0 (l ++ sp1 0)) = _
        rw [e0]
      rw [eT]
      refine ⟨b, n2, lf2, g1, fun o1 fu hf => ?_⟩
      obtain ⟨fu, rfl⟩ : ∃ k, fu = k + 1 := ⟨fu - 1, by omega⟩
      rw [LX5_writeRim_10, if_neg (show ¬ (12 : Int32) ≤ nI 0 by decide), if_pos (show nI 0 ≤ 0 by decide), k3 o1 fu]
      exact g2 o1 fu (by omega)
    · have e0 : l ++ sp1 i = l ++ [32] := by
        unfold sp1
        rw [if_neg c]
      have el : (l ++ [32]).length = l.length + 1 := by simp
      obtain ⟨n1, lf1, a1, c1⟩ := cl_c h (by omega) (x := 32) (by omega)
      obtain ⟨n', lf', k2, k3⟩ := rim_p hG hT (i := i) (by omega) c1 (by omega)
      have hp := rimP_len f i (l ++ [32])
      obtain ⟨b, n2, lf2, g1, g2⟩ := ih (i + 1) (rimP f i (l ++ [32])) n' lf' (by omega) k2 (by omega)
      have eT : rimT f (d + 1) i l = rimT f d (i + 1) (rimP f i (l ++ [32])) := by
        show rimT f d (i + 1) (rimP f i (l ++ sp1 i)) = _
        rw [e0]
      rw [eT]
      refine ⟨b, n2, lf2, g1, fun o1 fu hf => ?_⟩
      obtain ⟨fu, rfl⟩ : ∃ k, fu = k + 1 := ⟨fu - 1, by omega⟩
      rw [LX5_writeRim_10, if_neg (show ¬ (12 : Int32) ≤ nI i from nI_ge (b := 12) (by omega) (by omega)), if_neg (show ¬ nI i ≤ 0 from nI_ge (b := i) (a := 0) (by omega) (by omega)), show SJ4_append_cf468 n lf (nI l.length) 32 = _ from a1, bnd_v]
      exact (k3 o1 fu).trans (g2 o1 fu (by omega))
/-! the law's text -/
theorem kw12 : KW [32] 12 := ⟨rfl, by decide, by decide⟩
theorem kw14 : KW [] 14 := ⟨rfl, by decide, by decide⟩
theorem kw15 : KW [116] 15 := ⟨rfl, by decide, by decide⟩
theorem kw16 : KW [112] 16 := ⟨rfl, by decide, by decide⟩
theorem kw17 : KW [119] 17 := ⟨rfl, by decide, by decide⟩
theorem kw19 : KW [64] 19 := ⟨rfl, by decide, by decide⟩
theorem kw20 : KW [33] 20 := ⟨rfl, by decide, by decide⟩
theorem kw_if {k x : Nat} (h : KW [x] k) (hk : k < 24) (c : Prop) [Decidable c] : KW (if c then [x] else []) (if c then k else 14) ∧ (if c then k else 14) < 24 := by
  by_cases d : c
  · rw [if_pos d, if_pos d]
    exact ⟨h, hk⟩
  · rw [if_neg d, if_neg d]
    exact ⟨kw14, by omega⟩
theorem i10 (c : Prop) [Decidable c] (k j : Nat) : (if (if c then (1 : Int32) else 0) = 0 then j else k) = (if c then k else j) := by
  by_cases d : c
  · rw [if_pos d, if_pos d, if_neg (by decide)]
  · rw [if_neg d, if_neg d, if_pos rfl]
def DT (f : Nat → Int32) : Prop := ∀ s t, s < t → t < tw f → f (45 + 4 * s + 0) ≠ f (45 + 4 * t + 0)
def tows (f : Nat → Int32) (x : Int32) : Nat → Nat → List Nat → List Nat
  | 0, _, l => l
  | d + 1, i, l => tows f x d (i + 1) (l ++ if f (45 + 4 * i + 0) = x then [119] else [])
theorem tows_le (f : Nat → Int32) (x : Int32) : ∀ (d i : Nat) (l : List Nat), l.length ≤ (tows f x d i l).length := by
  intro d
  induction d with
  | zero => intro i l; exact Nat.le_refl _
  | succ d ih =>
    intro i l
    have h := ih (i + 1) (l ++ if f (45 + 4 * i + 0) = x then [119] else [])
    rw [List.length_append] at h
    exact Nat.le_trans (by omega) h
theorem lat_n (f : Nat → Int32) (x : Int32) : ∀ d i : Nat, (∀ j, i ≤ j → j < i + d → f (45 + 4 * j + 0) ≠ x) → lat f x d i = false := by
  intro d
  induction d with
  | zero => intro i _; rfl
  | succ d ih =>
    intro i h
    have h0 := h i (by omega) (by omega)
    have h1 := ih (i + 1) (fun j h1 h2 => h j (by omega) (by omega))
    show (decide (f (45 + 4 * i + 0) = x) || lat f x d (i + 1)) = false
    rw [h1, decide_eq_false h0]
    rfl
theorem tows_d (hD : DT f) (x : Int32) : ∀ (d i : Nat) (l : List Nat), i + d = tw f → tows f x d i l = l ++ (if lat f x d i = true then [119] else []) := by
  intro d
  induction d with
  | zero =>
    intro i l hi
    show l = l ++ (if false = true then [119] else [])
    rw [if_neg (by decide), List.append_nil]
  | succ d ih =>
    intro i l hi
    have e := ih (i + 1) (l ++ if f (45 + 4 * i + 0) = x then [119] else []) (by omega)
    show tows f x d (i + 1) (l ++ if f (45 + 4 * i + 0) = x then [119] else []) = l ++ (if (decide (f (45 + 4 * i + 0) = x) || lat f x d (i + 1)) = true then [119] else [])
    rw [e]
    by_cases c : f (45 + 4 * i + 0) = x
    · have hn : lat f x d (i + 1) = false := lat_n f x d (i + 1) (fun j h1 h2 h3 => hD i j (by omega) (by omega) (c.trans h3.symm))
      rw [hn, if_pos c, decide_eq_true c]
      simp
    · rw [if_neg c, decide_eq_false c, List.append_nil, Bool.false_or]
theorem lshore (hG : Good T f) {k : Nat} (hk : k < tw f) : SX5_shoreOf f (nI k) = (0, f (45 + 4 * k + 0)) := by
  have h4 := hG.t4
  unfold SX5_shoreOf
  rw [rqT1 (isT hG hk), show SX4_ofTowel f (nI k) 0 = f (45 + 4 * k + 0) from tow_v f (t := k) (k := 0) (by omega) (by omega)]
  rfl
theorem law_tow (hG : Good T f) {x : Int32} {K : ((Nat → Int32) × Nat) → Option (Int32 × Int32 × (Nat → Int32) × Nat)} : ∀ (d i : Nat) (l : List Nat) (w : Nat → Int32), i + d = tw f → WS l w → (tows f x d i l).length ≤ 83 → ∃ w', WS (tows f x d i l) w' ∧ ∀ fu : Nat, d + 1 ≤ fu → LL_lines_94p1 K f x fu (nI i) w l.length = K (w', (tows f x d i l).length) := by
  have h4 := hG.t4
  have e7 : SX5_towelCount f = nI (tw f) := (towels_v f).trans hG.f7
  intro d
  induction d with
  | zero =>
    intro i l w hi h hl
    refine ⟨w, h, fun fu hf => ?_⟩
    obtain ⟨fu, rfl⟩ : ∃ k, fu = k + 1 := ⟨fu - 1, by omega⟩
    rw [LL_lines_94p1, e7, if_pos (nI_le (by omega) (by omega))]
    rfl
  | succ d ih =>
    intro i l w hi h hl
    have hle := tows_le f x d (i + 1) (l ++ if f (45 + 4 * i + 0) = x then [119] else [])
    have hl2 : (tows f x d (i + 1) (l ++ if f (45 + 4 * i + 0) = x then [119] else [])).length ≤ 83 := hl
    have hl3 : l.length ≤ 83 := by
      rw [List.length_append] at hle
      omega
    obtain ⟨n1, lf1, a1, b1⟩ := sb_w sb_0 h (by simp only [List.length_nil]; omega)
    rw [List.nil_append] at a1 b1
    obtain ⟨q1, q2⟩ := kw_if kw17 (by omega) (f (45 + 4 * i + 0) = x)
    obtain ⟨n2, lf2, a2, b2⟩ := sb_s b1 q1 (by rw [List.length_append] at hle; omega)
    obtain ⟨w2, a3, b3⟩ := sb_t b2 (by omega)
    obtain ⟨w', k1, k2⟩ := ih (i + 1) (l ++ if f (45 + 4 * i + 0) = x then [119] else []) w2 (by omega) b3 hl2
    refine ⟨w', k1, fun fu hf => ?_⟩
    obtain ⟨fu, rfl⟩ : ∃ k, fu = k + 1 := ⟨fu - 1, by omega⟩
    have a1' : SJ4_append_15ec4_w 16 (fun _ => 0) 0 l.length w = _ := a1
    have hn2 := b2.2.1
    rw [LL_lines_94p1, e7, if_neg (nI_ge (by omega) (by omega)), init_J, bnd_v, a1', bnd_v, lshore hG (by omega), lt_v, if_pos rfl, lt_v, gd_p q2, a2, bnd_v, gd_p (by show n2 < 2147483648; omega), a3, bnd_v, nI_1]
    exact k2 fu (by omega)
theorem l94 (K : ((Nat → Int32) × Nat) → Option (Int32 × Int32 × (Nat → Int32) × Nat)) (f : Nat → Int32) : ∀ fu : Nat, LL_lines_94 K f fu = LL_lines_94p1 K f 0 fu := by
  intro fu
  induction fu with
  | zero => funext a b c; rw [LL_lines_94, LL_lines_94p1]
  | succ fu ih => funext a b c; rw [LL_lines_94, LL_lines_94p1, ih]
theorem llev5 (hN : 2100 ≤ N) (hG : TG f) (h1 : 0 ≤ q f 1 ∧ q f 1 ≤ 40) {p : Nat} (hp : p < 12) : SX5_levelAt N f (nI p) = some (0, nI (LV f p)) := by
  unfold SX5_levelAt
  rw [rqP1 (pos_n hp), lt_v, if_pos rfl, level_c hG h1 hp (by omega), bnd_v]
theorem plug_i (h5 : -1 ≤ q f 5 ∧ q f 5 ≤ 11) {i : Nat} (hi : i < 12) (a b : Nat) : (if (if q f 5 < 0 then (-13 : Int32) else f 5) = nI i then a else b) = (if f 5 = nI i then a else b) := by
  by_cases c : q f 5 < 0
  · rw [if_pos c, if_neg (fun e => by
      have h := congrArg Int32.toInt e
      rw [nI_toInt (by omega)] at h
      have h2 : (-13 : Int32).toInt = -13 := by decide
      omega), if_neg (fun e => by
      have h : q f 5 = _ := congrArg Int32.toInt e
      rw [nI_toInt (by omega)] at h
      omega)]
  · rw [if_neg c]
/-- what the law's text gets of one position, without its towels -/
theorem law_b (hN : 2100 ≤ N) (hG : Good T f) (hT : T ≤ 1000000) {i : Nat} (hi : i < 12) {l : List Nat} {n : Nat} {lf : Nat → Int32} (h : SB l n lf) (hl : l.length + 5 ≤ 83) {K : ((Nat → Int32) × Nat) → Option (Int32 × Int32 × (Nat → Int32) × Nat)} : ∃ w, WS (((l ++ dg (LV f i)) ++ (if f (8 + i) = 1 then [116] else [])) ++ (if f 5 = nI i then [112] else [])) w ∧ bnd (SX5_levelAt N f (nI i)) (fun o64 : Nat × Int32 => if o64.1 = 0 then (bnd (SJ4_append_bf812 N n lf (nI l.length) o64.2) (fun o67 : Int32 × (Nat → Int32) × Nat => bnd (SX5_hasToe f (nI i)) (fun o69 : Nat × Int32 => if o69.1 = 0 then (lt_ (if o69.2 = 0 then (14) else (15)) (fun o73 : Nat => gd (o73 < 24) (bnd (SJ4_append_15ec4 o73 o67.2.2 o67.2.1 o67.1) (fun o75 : Int32 × (Nat → Int32) × Nat => bnd (SL_plugPosition f) (fun o77 : Int32 => lt_ (if o77 = nI i then (16) else (14)) (fun o80 : Nat => gd (o80 < 24) (bnd (SJ4_append_15ec4 o80 o75.2.2 o75.2.1 o75.1) (fun o82 : Int32 × (Nat → Int32) × Nat => gd (o82.2.2 < 2147483648) (bnd (SJ4_toString_0e30d o82.2.2 o82.2.1 o82.1) (fun o85 : (Nat → Int32) × Nat => K (o85.1, o85.2))))))))))) else (none)))) else (none)) = K (w, (((l ++ dg (LV f i)) ++ (if f (8 + i) = 1 then [116] else [])) ++ (if f 5 = nI i then [112] else [])).length) := by
  have htg := hG.tg hT
  have h1 : 0 ≤ q f 1 ∧ q f 1 ≤ 40 := hG.2.1
  have hlv := LV_b htg h1 hi
  have k1 := ite_len (f (8 + i) = 1) 116
  have k2 := ite_len (f 5 = nI i) 112
  have k4 := nd_le (LV f i)
  obtain ⟨n1, lf1, a1, c1⟩ := sb_n (N := N) h (v := LV f i) (by omega) (by omega) (by omega)
  obtain ⟨q1, q2⟩ := kw_if kw15 (by omega) (f (8 + i) = 1)
  obtain ⟨n2, lf2, a2, c2⟩ := sb_s c1 q1 (by simp only [List.length_append, dg_len]; omega)
  obtain ⟨q3, q4⟩ := kw_if kw16 (by omega) (f 5 = nI i)
  obtain ⟨n3, lf3, a3, c3⟩ := sb_s c2 q3 (by simp only [List.length_append, dg_len]; omega)
  obtain ⟨w, a4, c4⟩ := sb_t c3 (by simp only [List.length_append, dg_len]; omega)
  have hn3 := c3.2.1
  refine ⟨w, c4, ?_⟩
  rw [llev5 hN htg h1 hi, bnd_v, if_pos rfl, a1, bnd_v, toe_h hi, bnd_v, if_pos rfl, i10, lt_v, gd_p q2, a2, bnd_v, plugP htg.2.1, bnd_v, plug_i htg.2.1 hi, lt_v, gd_p q4, a3, bnd_v, gd_p (by show n3 < 2147483648; omega), a4, bnd_v]
theorem law_rim (hN : 2100 ≤ N) (hG : Good T f) (hT : T ≤ 1000000) (hD : DT f) {K : ((Nat → Int32) × Nat) → Option (Int32 × Int32 × (Nat → Int32) × Nat)} : ∀ (d i : Nat) (l : List Nat) (w : Nat → Int32) (fu : Nat), i + d = 12 → 1 ≤ i → WS l w → l.length ≤ 7 * i - 1 → d + 1 ≤ fu → ∃ w', WS (rimT f d i l) w' ∧ LL_lines_6 K N f fu (nI i) w l.length = K (w', (rimT f d i l).length) := by
  have h4 := hG.t4
  intro d
  induction d with
  | zero =>
    intro i l w fu hi h1 h hl hf
    refine ⟨w, h, ?_⟩
    obtain ⟨fu, rfl⟩ : ∃ k, fu = k + 1 := ⟨fu - 1, by omega⟩
    rw [LL_lines_6, if_pos (show (12 : Int32) ≤ nI i from nI_le (a := 12) (by omega) (by omega))]
    rfl
  | succ d ih =>
    intro i l w fu hi h1 h hl hf
    obtain ⟨fu, rfl⟩ : ∃ k, fu = k + 1 := ⟨fu - 1, by omega⟩
    have el : (l ++ [32]).length = l.length + 1 := by simp
    have e0 : l ++ sp1 i = l ++ [32] := by
      unfold sp1
      rw [if_neg (by omega)]
    have eT : rimT f (d + 1) i l = rimT f d (i + 1) (rimP f i (l ++ [32])) := by
      show rimT f d (i + 1) (rimP f i (l ++ sp1 i)) = _
      rw [e0]
    have hp := rimP_len f i (l ++ [32])
    obtain ⟨n1, lf1, a1, b1⟩ := sb_w sb_0 h (by simp only [List.length_nil]; omega)
    rw [List.nil_append] at a1 b1
    have a1' : SJ4_append_15ec4_w 16 (fun _ => 0) 0 l.length w = _ := a1
    obtain ⟨n2, lf2, a2, b2⟩ := sb_s b1 kw12 (by show l.length + 1 ≤ 83; omega)
    rw [eT]
    have ef : ∀ X : List Nat, tows f (nI i) (tw f) 0 X = X ++ (if lat f (nI i) (tw f) 0 = true then [119] else []) := fun X => tows_d hD (nI i) (tw f) 0 X (by omega)
    have hi12 : i < 12 := by omega
    obtain ⟨w1, c1, k1⟩ := law_b hN hG hT hi12 b2 (by omega) (K := fun o85 => LL_lines_94p1 (fun o87 : (Nat → Int32) × Nat => LL_lines_6 K N f fu (nI i + 1) o87.1 o87.2) f (nI i) 6 0 o85.1 o85.2)
    obtain ⟨w2, c2, k2⟩ := law_tow hG (x := nI i) (K := fun o87 : (Nat → Int32) × Nat => LL_lines_6 K N f fu (nI i + 1) o87.1 o87.2) (tw f) 0 _ w1 (by omega) c1 (by rw [ef]; show (rimP f i (l ++ [32])).length ≤ 83; omega)
    rw [ef] at c2 k2
    obtain ⟨w3, c3, k3⟩ := ih (i + 1) (rimP f i (l ++ [32])) w2 fu (by omega) (by omega) c2 (by omega) (by omega)
    refine ⟨w3, c3, ?_⟩
    have hz : ¬ nI i = 0 := fun e => by have := (nI_0eq (by omega)).mp e; omega
    rw [LL_lines_6, if_neg (show ¬ (12 : Int32) ≤ nI i from nI_ge (b := 12) (by omega) (by omega)), init_J, bnd_v, a1', bnd_v, if_neg hz, lt_v, gd_p (by decide), a2, bnd_v]
    refine k1.trans ((k2 6 (by omega)).trans ?_)
    rw [nI_1]
    exact k3
/-! a moon's line -/
def kch (k : Nat) : Nat := if k = 0 then 104 else if k = 1 then 115 else 98
def mlin (f : Nat → Int32) (k : Nat) : List Nat := (((([kch (kd f k)] ++ dg (ma f k 0)) ++ [64]) ++ dg (pl f k 0)) ++ (if sh f (pl f k 0) = true then [33] else []))
theorem kch_p (k : Nat) : 32 ≤ kch k ∧ kch k < 127 := by
  unfold kch
  split
  · omega
  · split <;> omega
theorem mlin_len (f : Nat → Int32) (k : Nat) : (mlin f k).length ≤ 9 := by
  have h1 := ite_len (sh f (pl f k 0) = true) 33
  have h2 := nd_le (ma f k 0)
  have h3 := nd_le (pl f k 0)
  unfold mlin
  simp only [List.length_append, dg_len, List.length_cons, List.length_nil]
  omega
theorem wmoon (hN : 2100 ≤ N) (hG : TG f) {k : Nat} (hk : k < mo f) {l : List Nat} {n : Nat} {lf : Nat → Int32} (h : CL l n lf) (ml : Int32) : ∃ ml' n' lf', SL_writeMoon N f n lf ml (nI l.length) (nI k) = some (nI (mlin f k).length, ml', nI (mlin f k).length, lf', n') ∧ CL (mlin f k) n' lf' := by
  have h5 := hG.mo5
  have hg := hG.2.2.2 k hk
  obtain ⟨d1, d2⟩ := kd_b hg
  have eP : SX4_placeAfter f (nI k) 0 = nI (pl f k 0) := pl_c hG.1 (Int.le_refl _) hg (by omega) (m := 0) (by omega)
  have eM : SX4_massAfter f (nI k) 0 = nI (ma f k 0) := ma_c hG.1 (Int.le_refl _) hg (by omega) (m := 0) (by omega)
  have hm := ma_le hg 0
  have hp := pl_lt f k 0
  have h2 := nd_le (ma f k 0)
  have h3 := nd_le (pl f k 0)
  have eK : (if (SX4_kindOf f (nI k)) = 0 then (104 : Int32) else (if (SX4_kindOf f (nI k)) = 1 then (115) else (98))) = nI (kch (kd f k)) := by
    rw [kind_v f (by omega), d2]
    unfold kch
    by_cases c0 : kd f k = 0
    · rw [if_pos ((nI_0eq (by omega)).mpr c0), if_pos c0]
      rfl
    · rw [if_neg (fun e => c0 ((nI_0eq (by omega)).mp e)), if_neg c0]
      by_cases c1 : kd f k = 1
      · rw [if_pos ((nI_1eq (by omega)).mpr c1), if_pos c1]
        rfl
      · rw [if_neg (fun e => c1 ((nI_1eq (by omega)).mp e)), if_neg c1]
        rfl
  obtain ⟨ml', z0, c0⟩ := cl_0 h (ml := ml)
  obtain ⟨n1, lf1, a1, c1⟩ := cl_c c0 (by decide) (kch_p (kd f k))
  rw [List.nil_append] at a1 c1
  have a1' : SJ4_append_cf468 n lf 0 (nI (kch (kd f k))) = _ := a1
  obtain ⟨n2, lf2, a2, c2⟩ := cl_n (N := N) c1 (v := ma f k 0) (by omega) (by simp only [List.length_cons, List.length_nil]; omega) (by omega)
  obtain ⟨n3, lf3, a3, c3⟩ := cl_c c2 (by simp only [List.length_append, dg_len, List.length_cons, List.length_nil]; omega) (x := 64) (by omega)
  have a3' : SJ4_append_cf468 n2 lf2 (nI ([kch (kd f k)] ++ dg (ma f k 0)).length) 64 = _ := a3
  obtain ⟨n4, lf4, a4, c4⟩ := cl_n (N := N) c3 (v := pl f k 0) (by omega) (by simp only [List.length_append, dg_len, List.length_cons, List.length_nil]; omega) (by omega)
  obtain ⟨n5, lf5, a5, c5⟩ := cl_if c4 (by simp only [List.length_append, dg_len, List.length_cons, List.length_nil]; omega) (x := 33) (by omega) (sh f (pl f k 0) = true)
  have a5' : SX5_writeLetter n4 lf4 (nI ((([kch (kd f k)] ++ dg (ma f k 0)) ++ [64]) ++ dg (pl f k 0)).length) (if sh f (pl f k 0) = true then 1 else 0) 33 = _ := a5
  refine ⟨ml', n5, lf5, ?_, c5⟩
  unfold SL_writeMoon SX5_writeMoon
  rw [rqM1 (isM hG hk), lt_v, if_pos rfl, z0, bnd_v, eK, lt_v, a1', bnd_v, eM, a2, bnd_v, a3', bnd_v, eP, a4, bnd_v, ecl_c hG.2.1 hp, a5', bnd_v, bnd_v, if_pos rfl]
  rfl
theorem wmoon_x (hG : TG f) (n : Nat) (lf : Nat → Int32) (ml c0 : Int32) : SL_writeMoon N f n lf ml c0 (nI (mo f)) = some (-11, ml, c0, lf, n) := by
  unfold SL_writeMoon SX5_writeMoon
  rw [rqM0 (noM hG)]
  rfl
theorem hsb : ∀ k, k < 3 → SJ0_charAt_5068e 18 (nI k) = some (nI (kch k)) := by
  intro k hk
  have e : jLen.getD 18 0 = 3 := rfl
  have e2 : ∀ k, k < 3 → (jByt.getD 18 []).getD k 0 = nI (kch k) := by decide
  have hp := kch_p k
  unfold SJ0_charAt_5068e SJ1_charAt_3b067 SJ0_checkIndex_df160 SJ3_checkIndex_8e157_n
  rw [lt_v, e, gd_p (nI_pos (by omega)), gd_p (nI_lt hk (by omega)), bnd_v, bnd_v, gd_p (vp_in_nI hk (by omega)), nI_clamp (by omega), e2 k hk, i2c_w _ (by omega), gd_p (nrc (by omega)), bnd_v, gd_p (nrc (by omega))]
theorem law_moon (hN : 2100 ≤ N) (hG : TG f) (hmn : mn = mo f) (hr : ∀ k, k < mn → RW f k (mv k)) {K : (Int32 × Int32 × (Nat → Int32) × Nat) → Option (Int32 × Int32 × (Nat → Int32) × Nat)} : ∀ (d i fu : Nat) (l : List Nat) (n : Nat) (lf : Nat → Int32) (ml : Int32), i + d = mo f → d + 1 ≤ fu → CL l n lf → ∃ ml' l' n' lf', CL l' n' lf' ∧ LL_lines_168 K N f mn mv fu (nI i) ml (nI l.length) lf n = K (ml', nI l'.length, lf', n') := by
  have h5 := hG.mo5
  intro d
  induction d with
  | zero =>
    intro i fu l n lf ml hi hf h
    obtain ⟨fu, rfl⟩ : ∃ k, fu = k + 1 := ⟨fu - 1, by omega⟩
    exact ⟨ml, l, n, lf, h, by rw [LL_lines_168, mc hG, if_pos (nI_le (by omega) (by omega))]⟩
  | succ d ih =>
    intro i fu l n lf ml hi hf h
    obtain ⟨fu, rfl⟩ : ∃ k, fu = k + 1 := ⟨fu - 1, by omega⟩
    have hk : i < mo f := by omega
    have hg := hG.2.2.2 i hk
    obtain ⟨d1, d2⟩ := kd_b hg
    have hm := ma_le hg 0
    have hp := pl_lt f i 0
    have h2 := nd_le (ma f i 0)
    have h3 := nd_le (pl f i 0)
    have hk5 := ite_len (sh f (pl f i 0) = true) 33
    obtain ⟨ml1, n1, lf1, z1, c1⟩ := wmoon hN hG hk h ml
    have hri := hr i (by omega)
    have r0 : mv i 0 = nI (kd f i) := (hri 0 (by omega)).trans d2
    obtain ⟨m1', g1, a1, b1⟩ := sb_c sb_0 (by decide) (kch_p (kd f i))
    rw [List.nil_append] at a1 b1
    have a1' : SJ4_append_cf468 16 (fun _ => 0) 0 (nI (kch (kd f i))) = _ := a1
    obtain ⟨m2, g2, a2, b2⟩ := sb_s b1 kw14 (by show 1 ≤ 83; omega)
    rw [List.append_nil] at a2 b2
    obtain ⟨m3, g3, a3, b3⟩ := sb_n (N := N) b2 (v := ma f i 0) (by omega) (by simp only [List.length_cons, List.length_nil]; omega) (by omega)
    obtain ⟨m4, g4, a4, b4⟩ := sb_s b3 kw19 (by simp only [List.length_append, dg_len, List.length_cons, List.length_nil]; omega)
    obtain ⟨m5', g5, a5, b5⟩ := sb_n (N := N) b4 (v := pl f i 0) (by omega) (by simp only [List.length_append, dg_len, List.length_cons, List.length_nil]; omega) (by omega)
    obtain ⟨q1, q2⟩ := kw_if kw20 (by omega) (sh f (pl f i 0) = true)
    obtain ⟨m6, g6, a6, b6⟩ := sb_s b5 q1 (by simp only [List.length_append, dg_len, List.length_cons, List.length_nil]; omega)
    have hl9 := mlin_len f i
    obtain ⟨w, a7, b7⟩ := sb_t b6 (by show (mlin f i).length ≤ 83; omega)
    have hm6 := b6.2.1
    have sM : SX5_massOf f (nI i) = (0, nI (ma f i 0)) := by
      have e : SX4_massAfter f (nI i) 0 = nI (ma f i 0) := ma_c hG.1 (Int.le_refl _) hg (by omega) (m := 0) (by omega)
      unfold SX5_massOf
      rw [rqM1 (isM hG hk), e]
      rfl
    have eP : SX4_placeAfter f (nI i) 0 = nI (pl f i 0) := pl_c hG.1 (Int.le_refl _) hg (by omega) (m := 0) (by omega)
    have sP : SX5_positionOf f (nI i) = (0, nI (pl f i 0)) := by
      unfold SX5_positionOf
      rw [rqM1 (isM hG hk), eP]
      rfl
    have sE : SX5_isEclipsed f (nI i) = some (0, if sh f (pl f i 0) = true then 1 else 0) := by
      unfold SX5_isEclipsed
      rw [rqM1 (isM hG hk), eP, ecl_c hG.2.1 hp, lt_v, if_pos rfl, gd_p nar_b]
    obtain ⟨ml2, l2, n2, lf2, c2, k2⟩ := ih (i + 1) fu (mlin f i) n1 lf1 ml1 (by omega) (by omega) c1
    refine ⟨ml2, l2, n2, lf2, c2, ?_⟩
    rw [LL_lines_168, mc hG, if_neg (nI_ge (by omega) (by omega)), z1, bnd_v, init_J, bnd_v, gd_p (vp_in_nI (by omega) (by omega)), nI_clamp (by omega), gd_p (by omega), r0, hsb _ (by omega), bnd_v, a1', bnd_v, a2, bnd_v, sM, lt_v, if_pos rfl, a3, bnd_v, a4, bnd_v, sP, lt_v, if_pos rfl, a5, bnd_v, sE, bnd_v, if_pos rfl, i10, lt_v, gd_p q2, a6, bnd_v, gd_p (by show m6 < 2147483648; omega), a7, bnd_v]
    refine Eq.trans ?_ k2
    show bnd (SL_spells n1 lf1 (nI (mlin f i).length) (mlin f i).length w (nI (mlin f i).length)) _ = _
    rw [spells_c c1 b7 (by omega), bnd_v, nI_1]
noncomputable def K111 (N : Nat) (f : Nat → Int32) : (Int32 × Int32 × (Nat → Int32) × Nat) → Option (Int32 × Int32 × (Nat → Int32) × Nat) := fun o111 : Int32 × Int32 × (Nat → Int32) × Nat => bnd (SL_writeMoon N f o111.2.2.2 o111.2.2.1 o111.1 o111.2.1 (SX5_moonCount f)) (fun o154 : Int32 × Int32 × Int32 × (Nat → Int32) × Nat => if o154.1 = (-11) then (some ((o154.2.1, o154.2.2.1, o154.2.2.2.1, o154.2.2.2.2))) else (none))
noncomputable def K52 (N : Nat) (f : Nat → Int32) (n : Nat) (lf : Nat → Int32) (ml c0 : Int32) (mn : Nat) (mv : Nat → Nat → Int32) : ((Nat → Int32) × Nat) → Option (Int32 × Int32 × (Nat → Int32) × Nat) := fun o52 : (Nat → Int32) × Nat => bnd (SX5_writeRim f n lf ml c0) (fun o106 : Int32 × Int32 × Int32 × (Nat → Int32) × Nat => bnd (SL_spells o106.2.2.2.2 o106.2.2.2.1 o106.2.2.1 o52.2 o52.1 o106.1) (fun o108 : Unit => LL_lines_168 (K111 N f) N f mn mv 7 0 o106.2.1 o106.2.2.1 o106.2.2.2.1 o106.2.2.2.2))
noncomputable def K33 (N : Nat) (f : Nat → Int32) (n : Nat) (lf : Nat → Int32) (ml c0 : Int32) (mn : Nat) (mv : Nat → Nat → Int32) : ((Nat → Int32) × Nat) → Option (Int32 × Int32 × (Nat → Int32) × Nat) := fun o33 : (Nat → Int32) × Nat => LL_lines_6 (K52 N f n lf ml c0 mn mv) N f 13 1 o33.1 o33.2
noncomputable def K31 (N : Nat) (f : Nat → Int32) (n : Nat) (lf : Nat → Int32) (ml c0 : Int32) (mn : Nat) (mv : Nat → Nat → Int32) : ((Nat → Int32) × Nat) → Option (Int32 × Int32 × (Nat → Int32) × Nat) := fun o31 : (Nat → Int32) × Nat => LL_lines_94 (K33 N f n lf ml c0 mn mv) f 6 0 o31.1 o31.2
theorem lines_k (hN : 2100 ≤ N) (hG : TG f) (hmn : mn = mo f) (hr : ∀ k, k < mn → RW f k (mv k)) {R : List Nat} (hR : R.length ≤ 83) {n n1 : Nat} {lf lf1 w : Nat → Int32} {ml ml1 c0 : Int32} (cR : CL R n1 lf1) (hw : WS R w) (hWr : SX5_writeRim f n lf ml c0 = some (nI R.length, ml1, nI R.length, lf1, n1)) : ∃ r, K52 N f n lf ml c0 mn mv (w, R.length) = some r := by
  have h5 := hG.mo5
  obtain ⟨ml2, l2, n4, lf4, c4, k4⟩ := law_moon hN hG hmn hr (K := K111 N f) (mo f) 0 7 R n1 lf1 ml1 (by omega) (by omega) cR
  have hfin : K111 N f (ml2, nI l2.length, lf4, n4) = some (ml2, nI l2.length, lf4, n4) := by
    unfold K111
    rw [mc hG, wmoon_x hG, bnd_v, if_pos rfl]
  refine ⟨_, Eq.trans ?_ (k4.trans hfin)⟩
  unfold K52
  rw [hWr, bnd_v]
  dsimp only
  rw [spells_c cR hw hR, bnd_v]
  rfl
theorem lines_c (hN : 2100 ≤ N) (hG : Good T f) (hT : T ≤ 1000000) (hD : DT f) (hmn : mn = mo f) (hr : ∀ k, k < mn → RW f k (mv k)) {l : List Nat} {n : Nat} {lf : Nat → Int32} (h : CL l n lf) (ml : Int32) : ∃ r, SL_lines N f n lf ml (nI l.length) mn mv = some r := by
  have htg := hG.tg hT
  have h4 := hG.t4
  have h5 := htg.mo5
  obtain ⟨n2, lf2, a2, b2⟩ := sb_s sb_0 kw14 (by decide)
  rw [List.append_nil] at a2 b2
  have a2' : SJ4_append_15ec4 14 16 (fun _ => 0) 0 = some (0, lf2, n2) := a2
  obtain ⟨n3, lf3, a3, b3⟩ := sb_s b2 kw14 (by decide)
  rw [List.append_nil] at a3 b3
  have a3' : SJ4_append_15ec4 14 n2 lf2 0 = some (0, lf3, n3) := a3
  have ef : ∀ X : List Nat, tows f 0 (tw f) 0 X = X ++ (if lat f 0 (tw f) 0 = true then [119] else []) := fun X => tows_d hD 0 (tw f) 0 X (by omega)
  have hp := rimP_len f 0 []
  have hP : ∃ P, P = rimP f 0 [] := ⟨_, rfl⟩
  obtain ⟨ml1, z0, c0⟩ := cl_0 h (ml := ml)
  obtain ⟨bR, n1, lf1, cR, kR⟩ := rim_c hG hT 12 0 [] n lf (by omega) c0 (by decide)
  have hT0 : rimT f 12 0 [] = rimT f 11 1 (rimP f 0 []) := by
    have e : ([] : List Nat) ++ sp1 0 = [] := rfl
    rw [rimT, e]
  have hWr : SX5_writeRim f n lf ml (nI l.length) = some (nI (rimT f 12 0 []).length, ml1, nI (rimT f 12 0 []).length, lf1, n1) := by
    unfold SX5_writeRim
    rw [z0, bnd_v]
    exact kR (ml1, 0, lf, n) 13 (by omega)
  rw [hT0] at bR cR hWr
  obtain ⟨w1, d1, e1⟩ := law_b hN hG hT (i := 0) (by omega) b3 (by decide) (K := K31 N f n lf ml (nI l.length) mn mv)
  have e11 : SL_lines N f n lf ml (nI l.length) mn mv = K31 N f n lf ml (nI l.length) mn mv (w1, ((([] ++ dg (LV f 0)) ++ (if f (8 + 0) = 1 then [116] else [])) ++ (if f 5 = nI 0 then [112] else [])).length) := by
    unfold SL_lines
    rw [init_J, bnd_v, a2', bnd_v, a3', bnd_v]
    exact e1
  have hl2 : (tows f 0 (tw f) 0 ((([] ++ dg (LV f 0)) ++ (if f (8 + 0) = 1 then [116] else [])) ++ (if f 5 = nI 0 then [112] else []))).length ≤ 83 := by
    rw [ef]
    show (rimP f 0 []).length ≤ 83
    simp only [List.length_nil] at hp
    omega
  obtain ⟨w2, d2, e2⟩ := law_tow hG (x := 0) (K := K33 N f n lf ml (nI l.length) mn mv) (tw f) 0 _ w1 (by omega) d1 hl2
  rw [ef] at d2 e2
  replace d2 : WS (rimP f 0 []) w2 := d2
  simp only [List.length_nil] at hp
  obtain ⟨w3, d3, e3⟩ := law_rim hN hG hT hD (K := K52 N f n lf ml (nI l.length) mn mv) 11 1 (rimP f 0 []) w2 13 (by omega) (by omega) d2 (by omega) (by omega)
  obtain ⟨r, hr⟩ := lines_k hN htg hmn hr bR cR d3 hWr
  refine ⟨r, e11.trans ?_⟩
  refine Eq.trans ?_ hr
  refine Eq.trans ?_ e3
  refine Eq.trans ?_ (e2 6 (by omega))
  unfold K31
  rw [l94]
  rfl
end LH
