/-! a text is carried out -/
def P48 (T : Int) (tx : Nat → Int32) (r : (Nat → Int32) × (Nat → Int32) × (Nat → Int32) × (Nat → Int32) × (Nat → Int32) × (Nat → Int32) × (Nat → Int32) × (Nat → Int32) × (Nat → Int32) × (Nat → Int64) × Int32 × Int32 × Int32 × Int32 × Int32 × Int32 × Int32 × Int32 × Int32 × Int32 × Int32 × Int32 × Int32 × Int32 × Int32 × Int32 × Int32 × Nat) : Prop := Rel r.2.2.2.2.2.2.2.1 r.2.2.2.2.1 ∧ Good T r.2.2.2.2.2.2.2.1 ∧ RH T r.2.2.2.2.2.2.2.2.2.2.2.2.1 r.2.2.2.2.2.2.2.2.2.2.2.2.2.1 r.1 r.2.2.2.2.2.2.2.2.2.2.2.2.2.2.2.2.2.2.2.2.2.2.2.2.2.1 r.2.2.2.2.2.2.1 ∧ TT r.2.2.2.2.2.2.2.2.2.2.2.2.2.2.2.2.2.2.2.2.2.2.2.2.2.2.2 r.2.1 r.2.2.2.2.2.2.2.2.2.2.2.2.2.2.2.2.2.2.1 r.2.2.2.2.2.2.2.2.2.2.2.2.2.2.2.2.2.2.2.1 tx ∧ r.2.2.2.2.2.2.2.2.2.2.1 = r.2.2.2.2.2.2.2.2.2.2.2.2.2.2.2.2.2.2.2.2.2.2.1 ∧ r.2.2.2.2.2.2.2.2.2.2.2.1 = r.2.2.2.2.2.2.2.2.2.2.2.2.2.2.2.2.2.2.2.2.2.2.2.1 ∧ (r.2.2.2.2.2.2.2.2.2.2.2.2.2.2.2.2.2.2.2.2.2.2.1 = -1 ∨ 0 ≤ r.2.2.2.2.2.2.2.2.2.2.2.2.2.2.2.2.2.2.2.2.2.2.1) ∧ (r.2.2.2.2.2.2.2.2.2.2.2.2.2.2.2.2.2.2.2.2.2.2.2.1 = -1 ∨ 0 ≤ r.2.2.2.2.2.2.2.2.2.2.2.2.2.2.2.2.2.2.2.2.2.2.2.1)
section PE
variable {N : Nat}
theorem exe_l (hN : 2100 ≤ N) {k : Nat} (hk : k ≤ 13) {g1 cd b pp g tf B : Nat → Int32} {n : Nat} {p' u3' v1 v2 v5 u8 u9 v13 v14 ml' : Int32} (hce : ∀ j, j < k → CE g1 cd j) : ∀ (d x : Nat) (T : Int) (f s : Nat → Int32), x + d = k → T + 60 * d ≤ 900000 → Rel f s → Good T f → (∃ f' s', Rel f' s' ∧ Good (T + 60 * d) f' ∧ (∀ fu, d + 1 ≤ fu → LX5_execute_61 N (1, nI k, p', u3', g1) v1 v2 g B u8 u9 (ml', 0, tf, n) fu f (nI x) = bnd (SX1_keep N v1 v2 g B) (fun o10 : (Nat → Int32) × Int32 × Int32 => some ((0, nI k, u8, u9, f', o10.2.1, o10.2.2, o10.1, nI k, p', u3', ml', 0, tf, n, g1, B)))) ∧ (∀ fu, d + 1 ≤ fu → LX6_execute_126 N (p', 0, nI k, cd) v5 (b, 0) pp 0 v13 v14 fu s 0 (nI x) = bnd (SX6_ends v5 0 s' b pp (nI k)) (fun o20 : Int32 × (Nat → Int32) × (Nat → Int32) × Int32 => some ((o20.1, o20.2.2.2, 0, 0, p', 0, v13, v14, nI k, o20.2.1, b, o20.2.2.1, cd))))) ∨ (∃ j F s', j < k ∧ (∀ fu, d + 1 ≤ fu → LX5_execute_61 N (1, nI k, p', u3', g1) v1 v2 g B u8 u9 (ml', 0, tf, n) fu f (nI x) = some ((2, 0, u8, nI j, va_cpy B F 0 0 61, v1, v2, g, nI k, p', u3', ml', 0, tf, n, g1, B))) ∧ (∀ fu, d + 1 ≤ fu → LX6_execute_126 N (p', 0, nI k, cd) v5 (b, 0) pp 0 v13 v14 fu s 0 (nI x) = some ((0, v5, 2, 0, p', 0, v13, nI j, nI k, va_cpy b s' 0 0 60, b, pp, cd)))) := by
  intro d
  induction d with
  | zero =>
    intro x T f s hx hT hR hG
    refine Or.inl ⟨f, s, hR, hG.mono (by omega), fun fu hf => ?_, fun fu hf => ?_⟩
    · obtain ⟨fu, rfl⟩ : ∃ k, fu = k + 1 := ⟨fu - 1, by omega⟩
      rw [LX5_execute_61]
      exact if_pos (show nI k ≤ nI x from nI_le (by omega) (by omega))
    · obtain ⟨fu, rfl⟩ : ∃ k, fu = k + 1 := ⟨fu - 1, by omega⟩
      rw [LX6_execute_126]
      exact if_pos (show nI k ≤ nI x from nI_le (by omega) (by omega))
  | succ d ih =>
    intro x T f s hx hT hR hG
    obtain ⟨w, hw, c1, c2, c3⟩ := hce x (by omega)
    have hn := (nums_3 w hw).1
    have a0 : SX3_commandAt g1 (nI x) = nI w := by
      unfold SX3_commandAt
      rw [show nI x * 4 = nI (x * 4) from nI_mul x 4, Nat.mul_comm, at_n g1 (by omega) (by omega), c1]
    have ai : ∀ i, i < 3 → SX3_numberAt g1 (nI x) (nI i) = g1 (4 * x + 1 + i) := fun i hi => by
      unfold SX3_numberAt
      rw [show nI x * 4 = nI (x * 4) from nI_mul x 4, show nI (x * 4) + 1 = nI (x * 4 + 1) from nI_1 _, nI_add, Nat.mul_comm x 4, at_n g1 (by omega) (by omega)]
    have a1 : SX3_numberAt g1 (nI x) 0 = g1 (4 * x + 1) := ai 0 (by omega)
    have a2 : SX3_numberAt g1 (nI x) 1 = g1 (4 * x + 2) := ai 1 (by omega)
    have a3 : SX3_numberAt g1 (nI x) 2 = g1 (4 * x + 3) := ai 2 (by omega)
    have co := co_all (T := T) (a := g1 (4 * x + 1)) (b := g1 (4 * x + 2)) (c := g1 (4 * x + 3)) hN hR hG (by omega) (j := x) (cd := cd) (by omega) hw c2 (fun h => (c3 0 (by omega)).symm) (fun h => (c3 1 (by omega)).symm) (fun h => (c3 2 (by omega)).symm)
    have hnk : ¬ nI k ≤ nI x := nI_ge (by omega) (by omega)
    have hL : ∀ fu, LX5_execute_61 N (1, nI k, p', u3', g1) v1 v2 g B u8 u9 (ml', 0, tf, n) (fu + 1) f (nI x) = bnd (SX4_allows N f (nI w) (g1 (4 * x + 1)) (g1 (4 * x + 2)) (g1 (4 * x + 3))) (fun o21 : Int32 => if o21 = 0 then (bnd (SX2_copy N 61 f 61 B 0 0 61) (fun o26 : Nat → Int32 => some ((2, 0, u8, nI x, o26, v1, v2, g, nI k, p', u3', ml', 0, tf, n, g1, B)))) else (bnd (SX4_obey N f (nI w) (g1 (4 * x + 1)) (g1 (4 * x + 2)) (g1 (4 * x + 3))) (fun o24 : Nat → Int32 => LX5_execute_61 N (1, nI k, p', u3', g1) v1 v2 g B u8 u9 (ml', 0, tf, n) fu o24 (nI (x + 1))))) := fun fu => by
      rw [LX5_execute_61]
      refine (if_neg (show ¬ SX3_commands (nI k) ≤ nI x from hnk)).trans ?_
      dsimp only
      rw [a0, a1, a2, a3, lt_v, lt_v, lt_v, lt_v, nI_1]
    have hM : ∀ fu, LX6_execute_126 N (p', 0, nI k, cd) v5 (b, 0) pp 0 v13 v14 (fu + 1) s 0 (nI x) = bnd (SX6_does N 0 s cd (nI x)) (fun o22 : Int32 × (Nat → Int32) => if o22.1 ≤ 0 then (LX6_execute_126 N (p', 0, nI k, cd) v5 (b, 0) pp 0 v13 v14 fu o22.2 o22.1 (nI (x + 1))) else (lt_ (SX6_fails 2) (fun o25 : Int32 × Int32 => bnd (SX6_ends v5 o25.2 o22.2 b pp o25.1) (fun o27 : Int32 × (Nat → Int32) × (Nat → Int32) × Int32 => some ((o27.1, o27.2.2.2, o25.2, 0, p', 0, v13, nI x, nI k, o27.2.1, b, o27.2.2.1, cd)))))) := fun fu => by
      rw [LX6_execute_126]
      refine (if_neg hnk).trans ?_
      dsimp only
      rw [nI_1]
    rcases co with ⟨k1, kk, s', k2, k3⟩ | ⟨k1, f', s', k2, k3, k4, k5⟩
    · refine Or.inr ⟨x, f, s', by omega, fun fu hf => ?_, fun fu hf => ?_⟩
      · obtain ⟨fu, rfl⟩ : ∃ k, fu = k + 1 := ⟨fu - 1, by omega⟩
        rw [hL, k1, bnd_v, if_pos rfl, copy61 hN, bnd_v]
      · obtain ⟨fu, rfl⟩ : ∃ k, fu = k + 1 := ⟨fu - 1, by omega⟩
        rw [hM, k2, bnd_v, if_neg k3]
        rw [show SX6_fails 2 = (0, 2) from rfl, lt_v]
        dsimp only
        rw [ends_x two_x, bnd_v]
    · rcases ih (x + 1) (T + 60) f' s' (by omega) (by omega) k4 k5 with ⟨f2, s2, r1, r2, r3, r4⟩ | ⟨j, F, s2, r1, r2, r3⟩
      · refine Or.inl ⟨f2, s2, r1, r2.mono (by omega), fun fu hf => ?_, fun fu hf => ?_⟩
        · obtain ⟨fu, rfl⟩ : ∃ k, fu = k + 1 := ⟨fu - 1, by omega⟩
          rw [hL, k1, bnd_v, if_neg (by decide), k2, bnd_v]
          exact r3 fu (by omega)
        · obtain ⟨fu, rfl⟩ : ∃ k, fu = k + 1 := ⟨fu - 1, by omega⟩
          rw [hM, k3, bnd_v, if_pos (show (0 : Int32) ≤ 0 by decide)]
          exact r4 fu (by omega)
      · refine Or.inr ⟨j, F, s2, r1, fun fu hf => ?_, fun fu hf => ?_⟩
        · obtain ⟨fu, rfl⟩ : ∃ k, fu = k + 1 := ⟨fu - 1, by omega⟩
          rw [hL, k1, bnd_v, if_neg (by decide), k2, bnd_v]
          exact r2 fu (by omega)
        · obtain ⟨fu, rfl⟩ : ∃ k, fu = k + 1 := ⟨fu - 1, by omega⟩
          rw [hM, k3, bnd_v, if_pos (show (0 : Int32) ≤ 0 by decide)]
          exact r3 fu (by omega)
theorem p48 {T : Int} {f : Nat → Int32} {ss bb pp g tf tx cm bf cd : Nat → Int32} {n : Nat} {v1 v2 v5 v10 v13 v14 u8 u9 w3 ml c0 : Int32} {wo : Nat → Int64} (hN : 2100 ≤ N) (hR : Rel f ss) (hG : Good T f) (hT : T ≤ 800000) (hH : RH T v1 v2 g v5 pp) (hl : TT n tf c0 v10 tx) (h8 : u8 = v13) (h9 : u9 = v14) (h8s : v13 = -1 ∨ 0 ≤ v13) (h9s : v14 = -1 ∨ 0 ≤ v14) : ∃ r, SC48 N f v1 v2 g w3 n tf ml c0 cm bf u8 u9 v5 v10 v13 v14 ss bb pp tx cd wo = some r ∧ P48 (T + 900) tx r := by
  obtain ⟨q, rfl, rfl, hl⟩ := hl
  have hq60 : q ≤ 60 := hl.2.2.1
  obtain ⟨ok, p', k', m', v12, u3', g1, cd', r1, r2, r3, r4, r5⟩ := read_v hl hN 13 0 0 N N w3 cm cd (by omega) (by omega) (by omega) (by omega) (by omega) (fun j hj => absurd hj (by omega))
  obtain ⟨ml', e0⟩ := setl (lf := tf) (ml := ml) hl.1 hl.2.1
  have eE : SX3_empty n tf ml (nI q) = some (ml', 0, tf, n) := by
    unfold SX3_empty
    rw [e0, bnd_v]
  have eR : SX3_read N w3 n tf (nI q) cm = _ := r1
  have hT0 : TT n tf 0 0 tx := ⟨0, rfl, rfl, hl.nil⟩
  have hB : Rel f (va_cpy ss bb 0 0 60) := hR.cpy bb
  have hTT : T ≤ T + 900 := by omega
  unfold SC48
  cases ok
  · have hL : SL_execute N u8 u9 f v1 v2 g w3 n tf ml (nI q) cm bf wo = some (1, nI p', u9, f, v1, v2, g, nI m', nI p', u3', ml', 0, tf, n, g1, bf, wo) := by
      unfold SL_execute SX5_execute
      rw [eR, bnd_v, eE, bnd_v]
      rfl
    have hM : SX6_execute N v5 (nI q) v13 v14 ss bb pp tx cd = some (0, v5, 1, 0, nI p', 1, nI p', v14, nI k', ss, bb, pp, cd') := by
      refine (r2 _).trans ?_
      dsimp only
      have e11 : (if v12 = 0 then (if nI q ≤ nI p' then (0 : Int32) else 1) else 1) = 1 := by
        rcases r5 rfl with rfl | ⟨rfl, h⟩
        · rfl
        · rw [if_pos rfl, if_neg (nI_ge (by omega) (by omega))]
      rw [e11, lt_v, gd_p ⟨nar_1, rfl⟩, if_neg (by decide), lt_v, if_neg (by decide)]
      rfl
    rw [hL, bnd_v, hM, bnd_v]
    exact fin3 rfl (fun h => absurd (show (1 : Int32) = 0 from h) (by decide)) ⟨hR, hG.mono hTT, hH.mono hTT, hT0, rfl, h9, Or.inr (show (0 : Int32) ≤ nI p' from nI_le (a := 0) (by omega) (by omega)), h9s⟩
  · obtain ⟨rfl, t2, rfl, t4, t5⟩ := r4 rfl
    have hBf : ∀ i, i < 61 → va_cpy f bf 0 0 61 i = f i := fun i hi => cpy61 _ _ hi
    have hRB : Rel (va_cpy f bf 0 0 61) (va_cpy ss bb 0 0 60) := fun i hi => by rw [hBf _ (tau_le hi), cpy60 _ _ hi, hR i hi]
    have hGB : Good T (va_cpy f bf 0 0 61) := hG.congr hBf
    have hM0 : SX6_execute N v5 (nI q) v13 v14 ss bb pp tx cd = LX6_execute_126 N (nI p', 0, nI m', cd') v5 (va_cpy ss bb 0 0 60, 0) pp 0 v13 v14 N ss 0 0 := by
      refine (r2 _).trans ?_
      dsimp only
      rw [if_pos rfl, if_pos (show nI q ≤ nI p' from nI_le (by omega) (by omega)), lt_v, gd_p ⟨nar_0, rfl⟩, if_pos rfl, lt_v, if_pos rfl]
      rfl
    have hL0 : SX5_execute N u8 u9 f v1 v2 g w3 n tf ml (nI q) cm bf = LX5_execute_61 N (1, nI m', nI p', u3', g1) v1 v2 g (va_cpy f bf 0 0 61) u8 u9 (ml', 0, tf, n) N f 0 := by
      unfold SX5_execute
      rw [eR, bnd_v, eE, bnd_v]
      refine (if_neg (show ¬ (1 : Int32) = 0 by decide)).trans ?_
      rw [copy61 hN, bnd_v]
      rfl
    rcases exe_l (N := N) hN (k := m') t4 (g1 := g1) (cd := cd') (b := va_cpy ss bb 0 0 60) (pp := pp) (g := g) (tf := tf) (B := va_cpy f bf 0 0 61) (n := n) (p' := nI p') (u3' := u3') (v1 := v1) (v2 := v2) (v5 := v5) (u8 := u8) (u9 := u9) (v13 := v13) (v14 := v14) (ml' := ml') t5 m' 0 T f ss (by omega) (by omega) hR hG with ⟨f', s', q1, q2, q3, q4⟩ | ⟨j, F, s', q1, q2, q3⟩
    · obtain ⟨g2, a, c, hk, pp', e, hH1, he⟩ := keep_r (N := N) hH hRB hGB (by omega)
      have hL : SL_execute N u8 u9 f v1 v2 g w3 n tf ml (nI q) cm bf wo = some (0, u8, u9, f', a, c, g2, nI m', nI p', u3', ml', 0, tf, n, g1, va_cpy f bf 0 0 61, vp_updL wo 0 (nI m').toInt64) := by
        unfold SL_execute
        rw [hL0, show LX5_execute_61 N (1, nI m', nI p', u3', g1) v1 v2 g (va_cpy f bf 0 0 61) u8 u9 (ml', 0, tf, n) N f 0 = _ from q3 N (by omega), hk, bnd_v, bnd_v]
        rfl
      have hM : SX6_execute N v5 (nI q) v13 v14 ss bb pp tx cd = some (nI m', e, 0, 0, nI p', 0, v13, v14, nI m', s', va_cpy ss bb 0 0 60, pp', cd') := by
        rw [hM0, show LX6_execute_126 N (nI p', 0, nI m', cd') v5 (va_cpy ss bb 0 0 60, 0) pp 0 v13 v14 N ss 0 0 = _ from q4 N (by omega), he, bnd_v]
      rw [hL, bnd_v, hM, bnd_v]
      exact fin3 rfl (fun _ => updL_0 wo _) ⟨q1, q2.mono (by omega), hH1.mono hTT, hT0, h8, h9, h8s, h9s⟩
    · have hL : SL_execute N u8 u9 f v1 v2 g w3 n tf ml (nI q) cm bf wo = some (2, u8, nI j, va_cpy (va_cpy f bf 0 0 61) F 0 0 61, v1, v2, g, nI m', nI p', u3', ml', 0, tf, n, g1, va_cpy f bf 0 0 61, wo) := by
        unfold SL_execute
        rw [hL0, show LX5_execute_61 N (1, nI m', nI p', u3', g1) v1 v2 g (va_cpy f bf 0 0 61) u8 u9 (ml', 0, tf, n) N f 0 = _ from q2 N (by omega), bnd_v]
        rfl
      have hM : SX6_execute N v5 (nI q) v13 v14 ss bb pp tx cd = some (0, v5, 2, 0, nI p', 0, v13, nI j, nI m', va_cpy (va_cpy ss bb 0 0 60) s' 0 0 60, va_cpy ss bb 0 0 60, pp, cd') := by
        rw [hM0]
        exact q3 N (by omega)
      rw [hL, bnd_v, hM, bnd_v]
      refine fin3 rfl (fun h => absurd (show (2 : Int32) = 0 from h) (by decide)) ⟨fun i hi => ?_, (hG.mono hTT).congr (fun i hi => ?_), hH.mono hTT, hT0, h8, rfl, h8s, Or.inr (show (0 : Int32) ≤ nI j from nI_le (a := 0) (by omega) (by omega))⟩
      · show va_cpy (va_cpy ss bb 0 0 60) s' 0 0 60 i = va_cpy (va_cpy f bf 0 0 61) F 0 0 61 (tau i)
        rw [cpy60 _ _ hi, cpy60 _ _ hi, cpy61 _ _ (tau_le hi), cpy61 _ _ (tau_le hi), hR i hi]
      · show va_cpy (va_cpy f bf 0 0 61) F 0 0 61 i = f i
        rw [cpy61 _ _ hi, cpy61 _ _ hi]
end PE
