/-! ===== the law's pure part: eclipses, conjunctions ===== -/
section LE
variable {f : Nat → Int32} {N mn : Nat} {mv : Nat → Nat → Int32}
def mtl (o : Option Nat) : Int32 := match o with | some k => nI k | none => -13
theorem leclipse (hG : TG f) {k : Nat} (hk : k < mo f) : SL_eclipseIn f (nI k) = some (if q f 5 < 0 then -13 else nI (ec f k)) := by
  have hp := plugd_c (f := f) hG.2.1.1
  unfold SL_eclipseIn SX5_eclipseIn SX5_requirePlug
  by_cases c : q f 5 < 0
  · rw [if_pos c] at hp
    rw [rqM1 (isM hG hk), hp, if_pos c]
    rfl
  · rw [if_neg c] at hp
    rw [rqM1 (isM hG hk), hp, if_neg c, ecl_v hG hk (by omega)]
    rfl
theorem met_ec (hG : TG f) (h5 : 0 ≤ q f 5) {k : Nat} (hk : k < mo f) (hmn : mn = mo f) (hr : ∀ k, k < mn → RW f k (mv k)) {K : Int32 → Option Unit} : ∀ (d i fu : Nat), i + d = ec f k → d + 1 ≤ fu → LL_met_15 K f (nI k) mn mv fu (nI i) = K (nI (ec f k)) := by
  have h55 := hG.mo5
  have hg := hG.2.2.2 k hk
  have hec := ec_b hg
  have hc : (nI k).toNatClampNeg = k := nI_clamp (by omega)
  have hn : ¬ f 5 < 0 := fun e => by have := lt0_q.mp e; omega
  intro d
  induction d with
  | zero =>
    intro i fu hi hf
    obtain ⟨fu, rfl⟩ : ∃ k, fu = k + 1 := ⟨fu - 1, by omega⟩
    have s : sh f (pl f k i) = true := (ec_sh hg ⟨h5, hG.2.1.2⟩ i (by omega)).mpr (by omega)
    rw [LL_met_15, plugP hG.2.1, bnd_v, if_neg (show ¬ q f 5 < 0 by omega), if_neg hn, gd_p (vp_in_nI (by omega) (by omega)), hc, gd_p (by omega), dark_l hG hk (by omega) (hr k (by omega)), bnd_v, if_pos s, if_neg (by decide)]
    exact congrArg K (congrArg nI (show i = ec f k by omega))
  | succ d ih =>
    intro i fu hi hf
    obtain ⟨fu, rfl⟩ : ∃ k, fu = k + 1 := ⟨fu - 1, by omega⟩
    have s : ¬ sh f (pl f k i) = true := fun e => by have := (ec_sh hg ⟨h5, hG.2.1.2⟩ i (by omega)).mp e; omega
    rw [LL_met_15, plugP hG.2.1, bnd_v, if_neg (show ¬ q f 5 < 0 by omega), if_neg hn, gd_p (vp_in_nI (by omega) (by omega)), hc, gd_p (by omega), dark_l hG hk (by omega) (hr k (by omega)), bnd_v, if_neg s, if_pos rfl, nI_1]
    exact ih (i + 1) fu (by omega) (by omega)
theorem met_ec0 (hG : TG f) (h5 : q f 5 < 0) {k : Nat} {K : Int32 → Option Unit} : LL_met_15 K f (nI k) mn mv 150 0 = K 0 := by
  rw [show (150 : Nat) = 149 + 1 from rfl, LL_met_15, plugP hG.2.1, bnd_v, if_pos h5, if_pos (by decide)]
theorem met_mt (hG : TG f) {a b : Nat} (ha : a < mo f) (hb : b < mo f) (hmn : mn = mo f) (hr : ∀ k, k < mn → RW f k (mv k)) {K : Int32 → Option Unit} : ∀ (n fu : Nat), n ≤ 2001 → n + 1 ≤ fu → LL_met_82 K (nI a) mn f mv (nI b) fu (mtl (mt f a b (2001 - n) n)) (iI ((n : Int) - 1)) = K (mtl (mt f a b 2001 0)) := by
  have h55 := hG.mo5
  have ca : (nI a).toNatClampNeg = a := nI_clamp (by omega)
  have cb : (nI b).toNatClampNeg = b := nI_clamp (by omega)
  intro n
  induction n with
  | zero =>
    intro fu hn hf
    obtain ⟨fu, rfl⟩ : ∃ k, fu = k + 1 := ⟨fu - 1, by omega⟩
    rw [LL_met_82, if_pos (show iI (((0 : Nat) : Int) - 1) < 0 by decide)]
  | succ n ih =>
    intro fu hn hf
    obtain ⟨fu, rfl⟩ : ∃ k, fu = k + 1 := ⟨fu - 1, by omega⟩
    have e1 : iI (((n + 1 : Nat) : Int) - 1) = nI n := by
      rw [iI_n]
      congr 1
      omega
    have e2 : nI n + (-1) = iI ((n : Int) - 1) := by
      rw [iI_n, show (-1 : Int32) = iI (-1) from rfl, iI_add]
      congr 1
    have e3 : (if nI (pl f a n) = nI (pl f b n) then nI n else mtl (mt f a b (2001 - (n + 1)) (n + 1))) = mtl (mt f a b (2001 - n) n) := by
      rw [show 2001 - n = (2001 - (n + 1)) + 1 by omega]
      show _ = mtl (if pl f a n = pl f b n then some n else mt f a b (2001 - (n + 1)) (n + 1))
      have la := pl_lt f a n
      have lb := pl_lt f b n
      by_cases c : pl f a n = pl f b n
      · rw [if_pos c, if_pos (congrArg nI c)]
        rfl
      · rw [if_neg c, if_neg (fun e => c ((nI_eq (by omega) (by omega)).mp e))]
    rw [LL_met_82, e1, if_neg (nI_pos (by omega)), gd_p (vp_in_nI (by omega) (by omega)), ca, gd_p (by omega), place_l hG ha (by omega) (hr a (by omega)), bnd_v, gd_p (vp_in_nI (by omega) (by omega)), cb, gd_p (by omega), place_l hG hb (by omega) (hr b (by omega)), bnd_v, e3, lt_v, e2]
    exact ih fu (by omega) (by omega)
theorem lconj (hN : 2100 ≤ N) (hG : TG f) {a b : Nat} (ha : a < mo f) (hb : b < mo f) : SL_conjunctionIn N f (nI a) (nI b) = some (mtl (mt f a b 2001 0)) := by
  have e : SX0_meetingByMinutes N f (nI a) (nI b) = some (mtc (mt f a b 2001 0)) := meet_c hG ha hb 2001 0 N (by omega) (by omega)
  unfold SL_conjunctionIn SX5_conjunctionIn
  rw [rqM1 (isM hG ha), rqM1 (isM hG hb), e]
  rcases mt_end (f := f) (a := a) (b := b) with ⟨k, h, hk⟩ | h
  · rw [h]
    simp [mtc, mtl, found_k hk, lt_v, bnd_v]
  · rw [h]
    simp [mtc, mtl, found_n, lt_v, bnd_v]
theorem lmoves (hN : 2100 ≤ N) (hG : TG f) {a b : Nat} (ha : a < mo f) (hb : b < mo f) : SL_conjunctionByMoves N f (nI a) (nI b) = some (mtl (mt f a b 2001 0)) := by
  have e : SX0_meetingByMoves N f (nI a) (nI b) = some (mtc (mt f a b 2001 0)) := moves_c hG ha hb N 0 0 (by omega) (by omega) (by omega) (by omega)
  unfold SL_conjunctionByMoves SX5_conjunctionByMoves
  rw [rqM1 (isM hG ha), rqM1 (isM hG hb), e]
  rcases mt_end (f := f) (a := a) (b := b) with ⟨k, h, hk⟩ | h
  · rw [h]
    simp [mtc, mtl, found_k hk, lt_v, bnd_v]
  · rw [h]
    simp [mtc, mtl, found_n, lt_v, bnd_v]
theorem met_o (hN : 2100 ≤ N) (hG : TG f) {a : Nat} (ha : a < mo f) (hmn : mn = mo f) (hr : ∀ k, k < mn → RW f k (mv k)) {K : Unit → Option Unit} : ∀ (d i fu : Nat), i + d = mo f → d + 1 ≤ fu → LL_met_67 K N f (nI a) mn mv fu (nI i) = K () := by
  have h55 := hG.mo5
  intro d
  induction d with
  | zero =>
    intro i fu hi hf
    obtain ⟨fu, rfl⟩ : ∃ k, fu = k + 1 := ⟨fu - 1, by omega⟩
    rw [LL_met_67, mc hG, if_pos (nI_le (by omega) (by omega))]
  | succ d ih =>
    intro i fu hi hf
    obtain ⟨fu, rfl⟩ : ∃ k, fu = k + 1 := ⟨fu - 1, by omega⟩
    rw [LL_met_67, mc hG, if_neg (nI_ge (by omega) (by omega))]
    refine (met_mt hG ha (b := i) (by omega) hmn hr 2001 2003 (by omega) (by omega)).trans ?_
    rw [lconj hN hG ha (by omega), bnd_v, if_pos rfl, lmoves hN hG ha (by omega), bnd_v, if_pos rfl, nI_1]
    exact ih (i + 1) fu (by omega) (by omega)
theorem met_l (hN : 2100 ≤ N) (hG : TG f) (hmn : mn = mo f) (hr : ∀ k, k < mn → RW f k (mv k)) {K : Unit → Option Unit} : ∀ (d i fu : Nat), i + d = mo f → d + 1 ≤ fu → LL_met_7 K N f mn mv fu (nI i) = K () := by
  have h55 := hG.mo5
  intro d
  induction d with
  | zero =>
    intro i fu hi hf
    obtain ⟨fu, rfl⟩ : ∃ k, fu = k + 1 := ⟨fu - 1, by omega⟩
    rw [LL_met_7, mc hG, if_pos (nI_le (by omega) (by omega))]
  | succ d ih =>
    intro i fu hi hf
    obtain ⟨fu, rfl⟩ : ∃ k, fu = k + 1 := ⟨fu - 1, by omega⟩
    have hk : i < mo f := by omega
    rw [LL_met_7, mc hG, if_neg (nI_ge (by omega) (by omega))]
    by_cases c : q f 5 < 0
    · refine (met_ec0 hG c).trans ?_
      rw [leclipse hG hk, bnd_v, if_pos c, plugP hG.2.1, bnd_v, if_pos c, lt_v, if_neg (show ¬ (0 : Int32) ≤ -13 by decide), if_pos rfl]
      refine (met_o hN hG hk hmn hr (mo f) 0 7 (by omega) (by omega)).trans ?_
      rw [nI_1]
      exact ih (i + 1) fu (by omega) (by omega)
    · have he := ec_b (hG.2.2.2 i hk)
      refine (met_ec hG (by omega) hk hmn hr (ec f i) 0 150 (by omega) (by omega)).trans ?_
      rw [leclipse hG hk, bnd_v, if_neg c, plugP hG.2.1, bnd_v, if_neg c, lt_v, if_pos (ge0_q.mpr (by omega)), if_pos rfl]
      refine (met_o hN hG hk hmn hr (mo f) 0 7 (by omega) (by omega)).trans ?_
      rw [nI_1]
      exact ih (i + 1) fu (by omega) (by omega)
theorem met_c (hN : 2100 ≤ N) (hG : TG f) (h1 : 1 ≤ mo f) (hmn : mn = mo f) (hr : ∀ k, k < mn → RW f k (mv k)) : SL_met N f mn mv = some () := by
  have h55 := hG.mo5
  have n1 := noM hG
  have i0 : SX4_isMoon f 0 = 1 := isM hG (k := 0) (by omega)
  unfold SL_met
  refine (met_l hN hG hmn hr (mo f) 0 7 (by omega) (by omega)).trans ?_
  rw [mc hG]
  simp [SL_eclipseIn, SX5_eclipseIn, SL_conjunctionIn, SX5_conjunctionIn, SL_conjunctionByMoves, SX5_conjunctionByMoves, rqM0 n1, rqM0 (noM1 (f := f)), rqM1 i0, lt_v, bnd_v]
end LE
