/-! numbers of a text -/
section PNm
variable {q n : Nat} {tf tx : Nat → Int32} {N : Nat}
theorem two_d (a b : Int32) : ((a - 48) * 10 + b) - 48 = 10 * (a - 48) + (b - 48) := by
  refine i_eq (P := fun a b _ _ _ => ((a - 48) * 10 + b) - 48 = 10 * (a - 48) + (b - 48)) ?_ a b 0 0 0
  intro a b _ _ _
  simp only [show (48 : Int32) = iI 48 from rfl, show (10 : Int32) = iI 10 from rfl, iI_sub, iI_mul, iI_add]
  congr 1; omega
theorem isd_c (x : Int32) : SX3_isDigit x = SX6_in x 48 57 := rfl
theorem in_01 (x : Int32) : SX6_in x 48 57 = 1 ∨ SX6_in x 48 57 = 0 := by
  rcases inn x 48 57 with ⟨h, _⟩ | h
  · exact Or.inl h
  · exact Or.inr h
theorem in_lt {p : Nat} (h : SX6_in (cg q tf p) 48 57 = 1) : p < q := by
  apply Classical.byContradiction
  intro c
  have e : cg q tf p = 0 := if_neg c
  rw [e] at h
  exact absurd h (by decide)
theorem wf (hN : 2100 ≤ N) (hl : LR 60 q n tf tx) {p : Nat} (hp : p ≤ 100) : ∀ d k best fu : Nat, k + d = 12 → d + 1 ≤ fu → best ≤ MM (cg q tf) (Wd (cg q tf p) (cg q tf (p + 1)) (cg q tf (p + 2))) p → (k ≤ Wd (cg q tf p) (cg q tf (p + 1)) (cg q tf (p + 2)) ∨ best = MM (cg q tf) (Wd (cg q tf p) (cg q tf (p + 1)) (cg q tf (p + 2))) p) → (MM (cg q tf) (Wd (cg q tf p) (cg q tf (p + 1)) (cg q tf (p + 2))) p = wl (Wd (cg q tf p) (cg q tf (p + 1)) (cg q tf (p + 2))) → k ≤ Wd (cg q tf p) (cg q tf (p + 1)) (cg q tf (p + 2))) → LX3_readWord_4 N (nI p) n tf (nI q) fu (nI best) (nI k) = some (if MM (cg q tf) (Wd (cg q tf p) (cg q tf (p + 1)) (cg q tf (p + 2))) p = wl (Wd (cg q tf p) (cg q tf (p + 1)) (cg q tf (p + 2))) then nI (Wd (cg q tf p) (cg q tf (p + 1)) (cg q tf (p + 2))) else -1, nI (p + MM (cg q tf) (Wd (cg q tf p) (cg q tf (p + 1)) (cg q tf (p + 2))) p)) := by
  have hwl := Wd_lt (cg q tf p) (cg q tf (p + 1)) (cg q tf (p + 2))
  have hwf := wfact (cg q tf) p
  generalize Wd (cg q tf p) (cg q tf (p + 1)) (cg q tf (p + 2)) = W at hwl hwf
  have hWof : ∀ k, k < 12 → SX3_wordOf (nI k) = k := by decide
  intro d
  induction d with
  | zero =>
    intro k best fu hk hf h1 h2 h3
    obtain ⟨fu, rfl⟩ : ∃ k, fu = k + 1 := ⟨fu - 1, by omega⟩
    rw [LX3_readWord_4, if_pos (show (12 : Int32) ≤ nI k from nI_le (a := 12) (by omega) (by omega)), nI_add, if_neg (fun z => by have := h3 z; omega), show best = MM (cg q tf) W p by omega]
  | succ d ih =>
    intro k best fu hk hf h1 h2 h3
    obtain ⟨fu, rfl⟩ : ∃ k, fu = k + 1 := ⟨fu - 1, by omega⟩
    have hk6 := wl_b k (by omega)
    have hmk := (MM_p (cg q tf) k p).1
    obtain ⟨f1, f2⟩ := hwf k (by omega)
    have es : SX3_sameSigns N k (nI p) n tf (nI q) = some (nI (MM (cg q tf) k p)) := same_v hl (by omega) (by omega) (wl k) 0 N (by omega) (by omega)
    rw [LX3_readWord_4, if_neg (show ¬ (12 : Int32) ≤ nI k from nI_ge (b := 12) (by omega) (by omega)), hWof k (by omega), es, bnd_v, len_v]
    by_cases c : MM (cg q tf) k p = wl k
    · have e := f2 c
      subst e
      rw [if_pos (by rw [c]), nI_add, if_pos c]
    · have em : imax (nI best) (nI (MM (cg q tf) k p)) = nI (max best (MM (cg q tf) k p)) := by
        rw [iI_n, iI_n, iI_n, imax_v ⟨by omega, by have := (MM_p (cg q tf) W p).1; have := (wl_b W (by omega)).2; omega⟩ ⟨by omega, by omega⟩]
        congr 1; omega
      rw [if_neg (fun z => c ((nI_eq (by omega) (by omega)).mp z)), em, nI_1]
      refine ih (k + 1) _ fu (by omega) (by omega) (by omega) ?_ ?_
      · by_cases ek : k = W
        · subst ek
          exact Or.inr (by omega)
        · omega
      · intro z
        by_cases ek : k = W
        · subst ek
          exact absurd z c
        · have := h3 z
          omega
theorem dig_ok (hl : LR 60 q n tf tx) {p : Nat} (h : SX6_in (cg q tf p) 48 57 = 1) : SX6_digit (nI q) (nI p) 0 tx = some (cg q tf p - 48, nI (p + 1), 0) := by
  have hp := in_lt h
  have hq : q ≤ 60 := hl.2.2.1
  have ht : tx p = cg q tf p := by
    obtain ⟨x, x1, x2, x3, x4⟩ := hl.2.2.2.2 p hp
    unfold cg
    rw [if_pos hp, x3, x4]
  have e1 : nI (p + 1) - 1 = nI p := by
    rw [show nI (p + 1) - 1 = nI (p + 1 - 1) from nI_sub (b := 1) (by omega)]
    rfl
  unfold SX6_digit SX6_isDigit
  rw [if_pos rfl, if_pos rfl, behind0 hl (by omega), bnd_v, h, if_neg (by decide), bnd_v, if_neg (by decide), bnd_v, gd_p ⟨nar_0, rfl⟩, if_pos rfl, nI_1, e1, gd_p (vp_in_nI (by omega) (by omega)), nI_clamp (by omega), ht]
theorem dig_no (hl : LR 60 q n tf tx) {p : Nat} (hp : p < 900) (h : SX6_in (cg q tf p) 48 57 = 0) : SX6_digit (nI q) (nI p) 0 tx = some (0, nI p, 1) := by
  unfold SX6_digit SX6_isDigit
  rw [if_pos rfl, if_pos rfl, behind0 hl (by omega), bnd_v, h, if_pos rfl, bnd_v, if_pos rfl, bnd_v, gd_p ⟨nar_1, rfl⟩, if_neg (by decide)]
theorem dig_1 {v10 v11 : Int32} : SX6_digit v10 v11 1 tx = some (0, v11, 1) := by
  unfold SX6_digit
  rw [if_neg (by decide), bnd_v, gd_p ⟨nar_1, rfl⟩, if_neg (by decide)]
theorem isd_0 (hl : LR 60 q n tf tx) {p : Nat} (hp : p < 900) : SX6_isDigit (nI q) (nI p) 0 tx = some (if SX6_in (cg q tf p) 48 57 = 0 then 0 else 1) := by
  unfold SX6_isDigit
  rw [if_pos rfl, behind0 hl (by omega), bnd_v]
  split <;> rfl
theorem isd_1 {v10 v11 : Int32} : SX6_isDigit v10 v11 1 tx = some 0 := by
  unfold SX6_isDigit
  rw [if_neg (by decide)]
theorem sk_one (hl : LR 60 q n tf tx) (hN : 2100 ≤ N) {k p : Nat} (hk : k = 12 ∨ k = 13) (hp : p < 900) : SX6_skip N k (nI q) (nI p) 0 tx = if cg q tf p = nI (wb k 0) then some (nI (p + 1), 0) else some (nI p, 1) := by
  have e : SX6_skip N k (nI q) (nI p) 0 tx = _ := skip_v hl (k := k) (by omega) hp (wl k) 0 N (by omega) (by have := (wl_b k (by omega)).2; omega)
  have hw : wl k = 1 := by rcases hk with rfl | rfl <;> rfl
  rw [e, hw]
  by_cases c : cg q tf p = nI (wb k 0)
  · have ep : pm (cg q tf) k p 1 0 = 1 := if_pos c
    rw [ep, if_pos c, if_pos rfl]
  · have ep : pm (cg q tf) k p 1 0 = 0 := if_neg c
    rw [ep, if_neg c, if_neg (by decide)]
    rfl
/-- the digits of a number that may have two, at p -/
theorem tail_c (hl : LR 60 q n tf tx) {p : Nat} (h : SX6_in (cg q tf p) 48 57 = 1) : ∃ p' v, (bnd (SX3_signAt n tf (nI q) (nI p + 1)) (fun o19 : Int32 => if (SX3_isDigit o19) = 0 then (some ((nI p + 1, cg q tf p - 48))) else (bnd (SX3_signAt n tf (nI q) (nI p + 1)) (fun o23 : Int32 => lt_ ((((cg q tf p - 48) * 10) + o23) - 48) (fun t25 : Int32 => some (((nI p + 1) + 1, t25))))))) = some (nI p', v) ∧ p + 1 ≤ p' ∧ p' ≤ p + 2 ∧ p' ≤ q ∧ (bnd (SX6_digit (nI q) (nI p) 0 tx) (fun o3 : Int32 × Int32 × Int32 => bnd (SX6_isDigit (nI q) o3.2.1 o3.2.2 tx) (fun o5 : Int32 => if o5 = 0 then (some ((o3.1, o3.2.1, o3.2.2))) else (bnd (SX6_digit (nI q) o3.2.1 o3.2.2 tx) (fun o8 : Int32 × Int32 × Int32 => some (((10 * o3.1) + o8.1, o8.2.1, o8.2.2))))))) = some (v, nI p', 0) := by
  have hp := in_lt h
  have hq : q ≤ 60 := hl.2.2.1
  rw [nI_1, nI_1, sign_v hl (by omega), bnd_v, bnd_v, isd_c, dig_ok hl h, bnd_v, isd_0 hl (by omega), bnd_v]
  rcases in_01 (cg q tf (p + 1)) with g | g
  · have hp1 := in_lt g
    refine ⟨p + 2, ((cg q tf p - 48) * 10 + cg q tf (p + 1)) - 48, ?_, by omega, by omega, by omega, ?_⟩
    · rw [g, if_neg (by decide), lt_v]
    · rw [g, if_neg (by decide), dig_ok hl g, bnd_v, two_d]
  · refine ⟨p + 1, cg q tf p - 48, ?_, by omega, by omega, by omega, ?_⟩
    · rw [g, if_pos rfl]
    · rw [g, if_pos rfl, if_pos rfl]
theorem num_n (hl : LR 60 q n tf tx) (hN : 2100 ≤ N) {p : Nat} (hp : p ≤ 200) (u3 : Int32) : ∃ (ok : Bool) (p' : Nat) (v v' : Int32), SX3_readNumber (nI p) u3 n tf (nI q) 0 = some (if ok then 1 else 0, nI p', v) ∧ SX6_readNumber N (nI q) (nI p) 0 tx = some (v', nI p', if ok then 0 else 1) ∧ (ok = true → v' = v ∧ p + 2 ≤ p' ∧ p' ≤ q) ∧ p ≤ p' ∧ p' ≤ p + 4 := by
  unfold SX3_readNumber SX6_readNumber
  rw [sign_v hl (by omega), bnd_v, sk_one hl hN (Or.inl rfl) (by omega)]
  by_cases c : cg q tf p = 32
  · have e1 : ((1 : Int32) = 0) = False := by decide
    rw [if_pos c, if_pos (show cg q tf p = nI (wb 12 0) from c), if_pos rfl, bnd_v, if_pos rfl, lt_v, bnd_v, nI_1, sign_v hl (by omega), bnd_v, bnd_v, if_pos rfl, isd_c]
    rcases in_01 (cg q tf (p + 1)) with g | g
    · obtain ⟨p', v, t1, t2, t3, t4, t5⟩ := tail_c hl g
      refine ⟨true, p', v, v, ?_, t5, fun _ => ⟨rfl, by omega, by omega⟩, by omega, by omega⟩
      rw [g, if_neg (by decide), t1, bnd_v]
      rfl
    · refine ⟨false, p + 1, u3, 0, ?_, ?_, fun z => (Bool.noConfusion z), by omega, by omega⟩
      · rw [g, if_pos rfl]
        rfl
      · rw [dig_no hl (by omega) g, bnd_v, isd_1, bnd_v, if_pos rfl]
        rfl
  · rw [if_neg c, if_neg (show ¬ cg q tf p = nI (wb 12 0) from c), bnd_v, dig_1, bnd_v, isd_1, bnd_v, if_pos rfl]
    exact ⟨false, p, u3, 0, rfl, rfl, fun z => (Bool.noConfusion z), by omega, by omega⟩
theorem num_f (hl : LR 60 q n tf tx) (hN : 2100 ≤ N) {p : Nat} (hp : p ≤ 200) (u3 : Int32) : ∃ (ok : Bool) (p' : Nat) (v v' : Int32), SX3_readNumber (nI p) u3 n tf (nI q) 1 = some (if ok then 1 else 0, nI p', v) ∧ SX6_readFlow N (nI q) (nI p) 0 tx = some (v', nI p', if ok then 0 else 1) ∧ (ok = true → v' = v ∧ p + 2 ≤ p' ∧ p' ≤ q) ∧ p ≤ p' ∧ p' ≤ p + 4 := by
  unfold SX3_readNumber SX6_readFlow
  rw [sign_v hl (by omega), bnd_v, sk_one hl hN (Or.inl rfl) (by omega)]
  by_cases c : cg q tf p = 32
  · rw [if_pos c, if_pos (show cg q tf p = nI (wb 12 0) from c), if_neg (by decide), bnd_v, nI_1, behind0 hl (by omega), bnd_v, sign_v hl (by omega), bnd_v]
    by_cases m : cg q tf (p + 1) = 45
    · rw [if_pos m, if_pos m, bnd_v, if_neg (by decide), lt_v, nI_1, sign_v hl (by omega), bnd_v, bnd_v, isd_c, sk_one hl hN (Or.inr rfl) (by omega), if_pos (show cg q tf (p + 1) = nI (wb 13 0) from m), bnd_v]
      rcases in_01 (cg q tf (p + 1 + 1)) with g | g
      · have hp2 := in_lt g
        refine ⟨true, p + 3, -(cg q tf (p + 1 + 1) - 48), -(cg q tf (p + 1 + 1) - 48), ?_, ?_, fun _ => ⟨rfl, by omega, by omega⟩, by omega, by omega⟩
        · rw [g, if_neg (by decide), if_neg (by decide), bnd_v, nI_1]
          rfl
        · rw [dig_ok hl g, bnd_v]
          rfl
      · refine ⟨false, p + 2, u3, -0, ?_, ?_, fun z => (Bool.noConfusion z), by omega, by omega⟩
        · rw [g, if_pos rfl]
          rfl
        · rw [dig_no hl (by omega) g, bnd_v]
          rfl
    · rw [if_neg m, if_neg m, bnd_v, if_pos rfl, lt_v, sign_v hl (by omega), bnd_v, bnd_v, if_pos rfl, isd_c]
      rcases in_01 (cg q tf (p + 1)) with g | g
      · obtain ⟨p', v, t1, t2, t3, t4, t5⟩ := tail_c hl g
        refine ⟨true, p', v, v, ?_, t5, fun _ => ⟨rfl, by omega, by omega⟩, by omega, by omega⟩
        rw [g, if_neg (by decide), t1, bnd_v]
        rfl
      · refine ⟨false, p + 1, u3, 0, ?_, ?_, fun z => (Bool.noConfusion z), by omega, by omega⟩
        · rw [g, if_pos rfl]
          rfl
        · rw [dig_no hl (by omega) g, bnd_v, isd_1, bnd_v, if_pos rfl]
          rfl
  · rw [if_neg c, if_neg (show ¬ cg q tf p = nI (wb 12 0) from c), bnd_v, behind0 hl (by omega), bnd_v]
    by_cases m : cg q tf p = 45
    · rw [if_pos m, skip_1 (by omega) (by omega), bnd_v, dig_1, bnd_v]
      exact ⟨false, p, u3, -0, rfl, rfl, fun z => (Bool.noConfusion z), by omega, by omega⟩
    · rw [if_neg m, dig_1, bnd_v, isd_1, bnd_v, if_pos rfl]
      exact ⟨false, p, u3, 0, rfl, rfl, fun z => (Bool.noConfusion z), by omega, by omega⟩
end PNm
