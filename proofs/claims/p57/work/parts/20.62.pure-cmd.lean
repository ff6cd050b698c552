/-! commands of a text -/
section PCm
variable {q n : Nat} {tf tx : Nat → Int32} {N : Nat}
theorem nums_c : ∀ w, w < 12 → SX3_numbersOf (nI w) = nI (nums w) := by decide
theorem nums_s : ∀ w, w < 12 → (if 3 ≤ nI w then (if nI w = 7 then (0 : Int32) else (if nI w = 8 then 2 else 1)) else 3) = nI (nums w) := by decide
theorem nums_3 : ∀ w, w < 12 → nums w ≤ 3 ∧ 4 ≤ wl w + 2 * nums w := by decide
theorem text_s : ∀ w, w < 12 → SX6_textOf (nI w) = w := by decide
theorem wb_0 : ∀ k, k < 12 → ∀ i, i < 6 → i < wl k → ¬ nI (wb k i) = 0 := by decide
theorem num_j (hl : LR 60 q n tf tx) (hN : 2100 ≤ N) {p : Nat} (hp : p ≤ 200) (u3 W : Int32) : ∃ (ok : Bool) (p' : Nat) (v v' : Int32), SX3_readNumber (nI p) u3 n tf (nI q) (if W = 10 then 1 else 0) = some (if ok then 1 else 0, nI p', v) ∧ (if W = 10 then (bnd (SX6_readFlow N (nI q) (nI p) 0 tx) (fun o18 : Int32 × Int32 × Int32 => some ((o18.1, o18.2.1, o18.2.2)))) else (bnd (SX6_readNumber N (nI q) (nI p) 0 tx) (fun o16 : Int32 × Int32 × Int32 => some ((o16.1, o16.2.1, o16.2.2))))) = some (v', nI p', if ok then 0 else 1) ∧ (ok = true → v' = v ∧ p + 2 ≤ p' ∧ p' ≤ q) ∧ p ≤ p' ∧ p' ≤ p + 4 := by
  by_cases c : W = 10
  · obtain ⟨ok, p', v, v', h1, h2, h3⟩ := num_f hl hN hp u3
    refine ⟨ok, p', v, v', by rw [if_pos c, h1], by rw [if_pos c, h2, bnd_v], h3⟩
  · obtain ⟨ok, p', v, v', h1, h2, h3⟩ := num_n hl hN hp u3
    refine ⟨ok, p', v, v', by rw [if_neg c, h1], by rw [if_neg c, h2, bnd_v], h3⟩
theorem nums_l (hl : LR 60 q n tf tx) (hN : 2100 ≤ N) {W k : Nat} (hW : W < 12) (hk : k ≤ 12) (o : Int32) : ∀ (d x p fu fu' : Nat) (u3 : Int32) (g cd : Nat → Int32), x + d = nums W → d + 1 ≤ fu → d + 1 ≤ fu' → p ≤ q → (∀ i, i < x → g (4 * k + 1 + i) = cd (4 * k + 1 + i)) → ∃ (ok : Bool) (p' : Nat) (u3' : Int32) (g' cd' : Nat → Int32), LX3_readCommand_28 (nI W, o) n tf (nI q) (nI k) fu g (nI p) u3 (nI x) = some (if ok then 1 else 0, nI p', u3', g') ∧ LX6_readCommand_70 N (nI (nums W)) (nI k) (nI W) (nI q) tx fu' cd (nI p) 0 (nI x) = some (nI p', if ok then 0 else 1, nI (k + 1), cd') ∧ (ok = true → p + 2 * d ≤ p' ∧ p' ≤ q ∧ ∀ i, i < nums W → g' (4 * k + 1 + i) = cd' (4 * k + 1 + i)) ∧ p' ≤ 100 ∧ (∀ i, i ≤ 4 * k → g' i = g i ∧ cd' i = cd i) := by
  have hq : q ≤ 60 := hl.2.2.1
  have h3 := (nums_3 W hW).1
  intro d
  induction d with
  | zero =>
    intro x p fu fu' u3 g cd hx hf hf' hp hi
    obtain ⟨fu, rfl⟩ : ∃ k, fu = k + 1 := ⟨fu - 1, by omega⟩
    obtain ⟨fu', rfl⟩ : ∃ k, fu' = k + 1 := ⟨fu' - 1, by omega⟩
    refine ⟨true, p, u3, g, cd, ?_, ?_, fun _ => ⟨by omega, hp, fun i h => hi i (by omega)⟩, by omega, fun i _ => ⟨rfl, rfl⟩⟩
    · rw [LX3_readCommand_28]
      dsimp only
      rw [nums_c W hW, if_pos (nI_le (by omega) (by omega))]
      rfl
    · rw [LX6_readCommand_70, if_pos (nI_le (by omega) (by omega)), nI_1]
      rfl
  | succ d ih =>
    intro x p fu fu' u3 g cd hx hf hf' hp hi
    obtain ⟨fu, rfl⟩ : ∃ k, fu = k + 1 := ⟨fu - 1, by omega⟩
    obtain ⟨fu', rfl⟩ : ∃ k, fu' = k + 1 := ⟨fu' - 1, by omega⟩
    obtain ⟨ok, p', v, v', h1, h2, h4, h5, h6⟩ := num_j hl hN (p := p) (by omega) u3 (nI W)
    have ec : nI k * 4 + 1 + nI x = nI (4 * k + 1 + x) := by
      rw [show nI k * 4 = nI (k * 4) from nI_mul k 4, show nI (k * 4) + 1 = nI (k * 4 + 1) from nI_1 _, nI_add, Nat.mul_comm k 4]
    have es : 4 * nI k + 1 + nI x = nI (4 * k + 1 + x) := by
      rw [show 4 * nI k = nI (4 * k) from nI_mul 4 k, show nI (4 * k) + 1 = nI (4 * k + 1) from nI_1 _, nI_add]
    have hL : LX3_readCommand_28 (nI W, o) n tf (nI q) (nI k) (fu + 1) g (nI p) u3 (nI x) = if ok then LX3_readCommand_28 (nI W, o) n tf (nI q) (nI k) fu (upd g (4 * k + 1 + x) v) (nI p') v (nI (x + 1)) else some (0, nI p', v, g) := by
      rw [LX3_readCommand_28]
      dsimp only
      rw [nums_c W hW, if_neg (nI_ge (by omega) (by omega)), lt_v, h1, bnd_v]
      cases ok
      · rfl
      · dsimp only
        rw [if_neg (by decide), ec, put_n g v (by omega) (by omega), lt_v, nI_1]
        rfl
    have hM : LX6_readCommand_70 N (nI (nums W)) (nI k) (nI W) (nI q) tx (fu' + 1) cd (nI p) 0 (nI x) = LX6_readCommand_70 N (nI (nums W)) (nI k) (nI W) (nI q) tx fu' (upd cd (4 * k + 1 + x) v') (nI p') (if ok then 0 else 1) (nI (x + 1)) := by
      rw [LX6_readCommand_70, if_neg (nI_ge (by omega) (by omega)), if_pos rfl, h2, bnd_v, es, gd_p (vp_in_nI (by omega) (by omega)), nI_clamp (by omega), nI_1]
    rw [hL, hM]
    cases ok
    · obtain ⟨fu', rfl⟩ : ∃ k, fu' = k + 1 := ⟨fu' - 1, by omega⟩
      refine ⟨false, p', v, g, upd cd (4 * k + 1 + x) v', rfl, ?_, fun z => Bool.noConfusion z, by omega, fun i hi => ⟨rfl, upd_ne _ _ (by omega)⟩⟩
      rw [LX6_readCommand_70, nI_1]
      by_cases c : nI (nums W) ≤ nI (x + 1)
      · rw [if_pos c]
      · rw [if_neg c]
        rfl
    · obtain ⟨e1, e2, e3⟩ := h4 rfl
      subst e1
      obtain ⟨ok', p2, u2, g2, cd2, k1, k2, k3, k4, k5⟩ := ih (x + 1) p' fu fu' v' (upd g (4 * k + 1 + x) v') (upd cd (4 * k + 1 + x) v') (by omega) (by omega) (by omega) e3 (fun i hix => by
        by_cases ei : i = x
        · subst ei
          rw [upd_same, upd_same]
        · rw [upd_ne _ _ (by omega), upd_ne _ _ (by omega)]
          exact hi i (by omega))
      refine ⟨ok', p2, u2, g2, cd2, k1, k2, fun z => ?_, k4, fun i hi => ?_⟩
      · obtain ⟨z1, z2, z3⟩ := k3 z
        exact ⟨by omega, z2, z3⟩
      · obtain ⟨z1, z2⟩ := k5 i hi
        exact ⟨by rw [z1, upd_ne _ _ (by omega)], by rw [z2, upd_ne _ _ (by omega)]⟩
def CE (g cd : Nat → Int32) (k : Nat) : Prop := ∃ w, w < 12 ∧ g (4 * k) = nI w ∧ cd (4 * k) = nI w ∧ ∀ i, i < nums w → g (4 * k + 1 + i) = cd (4 * k + 1 + i)
theorem CE.congr {g cd g' cd' : Nat → Int32} {k m : Nat} (h : CE g cd k) (hk : k < m) (e : ∀ i, i < 4 * m → g' i = g i ∧ cd' i = cd i) : CE g' cd' k := by
  obtain ⟨w, h1, h2, h3, h4⟩ := h
  have := (nums_3 w h1).1
  refine ⟨w, h1, by rw [(e _ (by omega)).1, h2], by rw [(e _ (by omega)).2, h3], fun i hi => ?_⟩
  rw [(e _ (by omega)).1, (e _ (by omega)).2, h4 i hi]
theorem cmd_v (hl : LR 60 q n tf tx) (hN : 2100 ≤ N) {k p : Nat} (hk : k ≤ 12) (hp : p ≤ q) (u3 : Int32) (g cd : Nat → Int32) : ∃ (ok : Bool) (p' : Nat) (u3' : Int32) (g' cd' : Nat → Int32), SX3_readCommand N (nI k) (nI p) u3 n tf (nI q) g = some (if ok then 1 else 0, nI p', u3', g') ∧ SX6_readCommand N (nI q) (nI p) 0 (nI k) tx cd = some (nI p', if ok then 0 else 1, nI (k + 1), cd') ∧ (ok = true → p + 4 ≤ p' ∧ p' ≤ q ∧ CE g' cd' k) ∧ p' ≤ 100 ∧ (∀ i, i < 4 * k → g' i = g i ∧ cd' i = cd i) := by
  have hq : q ≤ 60 := hl.2.2.1
  have hW := Wd_lt (cg q tf p) (cg q tf (p + 1)) (cg q tf (p + 2))
  have e1 : SX3_readWord N (nI p) n tf (nI q) = _ := wf hN hl (p := p) (by omega) 12 0 0 N (by omega) (by omega) (by omega) (Or.inl (by omega)) (fun _ => by omega)
  have e2 := word_v hl (p := p) (by omega)
  generalize Wd (cg q tf p) (cg q tf (p + 1)) (cg q tf (p + 2)) = W at hW e1 e2
  have hw6 := wl_b W (by omega)
  obtain ⟨m1, m2, m3⟩ := MM_p (cg q tf) W p
  have e3 : SX6_skip N W (nI q) (nI p) 0 tx = some (nI (p + MM (cg q tf) W p), if MM (cg q tf) W p = wl W then 0 else 1) := skip_v hl (k := W) (by omega) (by omega) (wl W) 0 N (by omega) (by omega)
  have e4 : nI k * 4 = nI (4 * k) := by rw [show nI k * 4 = nI (k * 4) from nI_mul k 4, Nat.mul_comm]
  have e5 : 4 * nI k = nI (4 * k) := nI_mul 4 k
  have hM0 : SX6_readCommand N (nI q) (nI p) 0 (nI k) tx cd = LX6_readCommand_70 N (nI (nums W)) (nI k) (nI W) (nI q) tx N (upd cd (4 * k) (nI W)) (nI (p + MM (cg q tf) W p)) (if MM (cg q tf) W p = wl W then 0 else 1) 0 := by
    unfold SX6_readCommand
    rw [if_pos rfl, e2, bnd_v, text_s W hW, e3, bnd_v, e5, gd_p (vp_in_nI (by omega) (by omega)), nums_s W hW, lt_v, nI_clamp (by omega)]
  rw [hM0]
  unfold SX3_readCommand
  rw [e1, bnd_v]
  by_cases c : MM (cg q tf) W p = wl W
  · rw [if_pos c, if_pos c]
    have hne : ¬ nI W = -1 := fun z => by
      have : (nI W).toInt = (-1 : Int32).toInt := by rw [z]
      rw [nI_toInt (by omega)] at this
      have e : (-1 : Int32).toInt = -1 := rfl
      omega
    have hlast : p + wl W - 1 < q := by
      have hm := m2 (wl W - 1) (by omega)
      have := cg_ne hm (wb_0 W hW (wl W - 1) (by omega) (by omega))
      omega
    have hn3 := nums_3 W hW
    obtain ⟨ok, p', u3', g', cd', h1, h2, h3, h4, h5⟩ := nums_l hl hN hW hk (nI (p + MM (cg q tf) W p)) (nums W) 0 (p + MM (cg q tf) W p) N N u3 (upd g (4 * k) (nI W)) (upd cd (4 * k) (nI W)) (by omega) (by omega) (by omega) (by omega) (fun i hi => absurd hi (by omega))
    refine ⟨ok, p', u3', g', cd', ?_, h2, fun z => ?_, h4, fun i hi => ?_⟩
    · dsimp only
      rw [if_neg hne, e4, put_n g (nI W) (by omega) (by omega), lt_v]
      exact h1
    · obtain ⟨z1, z2, z3⟩ := h3 z
      obtain ⟨y1, y2⟩ := h5 (4 * k) (by omega)
      exact ⟨by omega, z2, W, hW, by rw [y1, upd_same], by rw [y2, upd_same], z3⟩
    · obtain ⟨y1, y2⟩ := h5 i (by omega)
      exact ⟨by rw [y1, upd_ne _ _ (by omega)], by rw [y2, upd_ne _ _ (by omega)]⟩
  · rw [if_neg c, if_neg c]
    obtain ⟨m, rfl⟩ : ∃ m, N = m + 1 := ⟨N - 1, by omega⟩
    refine ⟨false, p + MM (cg q tf) W p, u3, g, upd cd (4 * k) (nI W), ?_, ?_, fun z => Bool.noConfusion z, by omega, fun i hi => ⟨rfl, upd_ne _ _ (by omega)⟩⟩
    · dsimp only
      rw [if_pos rfl]
      rfl
    · rw [LX6_readCommand_70, nI_1]
      by_cases c2 : nI (nums W) ≤ 0
      · rw [if_pos c2]
        rfl
      · rw [if_neg c2]
        rfl
theorem read_v (hl : LR 60 q n tf tx) (hN : 2100 ≤ N) : ∀ (d k p fu fu' : Nat) (u3 : Int32) (g cd : Nat → Int32), k + d = 13 → d + 1 ≤ fu → d + 1 ≤ fu' → 5 * k ≤ p → p ≤ q → (∀ j, j < k → CE g cd j) → ∃ (ok : Bool) (p' k' m' : Nat) (v12 u3' : Int32) (g' cd' : Nat → Int32), LX3_read_10 N n tf (nI q) fu g (nI k) (nI p) u3 = some (if ok then 1 else 0, nI m', nI p', u3', g') ∧ (∀ K, bnd (SX6_readCommand N (nI q) (nI p) 0 (nI k) tx cd) (fun o1 : Int32 × Int32 × Int32 × (Nat → Int32) => LX6_execute_19 K N (nI q) tx fu' o1.2.2.2 o1.1 o1.2.1 o1.2.2.1) = K (nI p', v12, nI k', cd')) ∧ p' ≤ 100 ∧ (ok = true → v12 = 0 ∧ q ≤ p' ∧ m' = k' ∧ k' ≤ 13 ∧ ∀ j, j < k' → CE g' cd' j) ∧ (ok = false → v12 = 1 ∨ (v12 = 0 ∧ p' < q)) := by
  have hq : q ≤ 60 := hl.2.2.1
  intro d
  induction d with
  | zero => intro k p fu fu' u3 g cd hk; intros; omega
  | succ d ih =>
    intro k p fu fu' u3 g cd hk hf hf' h5 hp hce
    obtain ⟨fu, rfl⟩ : ∃ k, fu = k + 1 := ⟨fu - 1, by omega⟩
    obtain ⟨fu', rfl⟩ : ∃ k, fu' = k + 1 := ⟨fu' - 1, by omega⟩
    obtain ⟨ok, p', u3', g', cd', h1, h2, h3, h4, h6⟩ := cmd_v hl hN (k := k) (p := p) (by omega) hp u3 g cd
    have hk15 : ¬ (15 : Int32) ≤ nI k := nI_ge (b := 15) (by omega) (by omega)
    cases ok
    · refine ⟨false, p', k + 1, k, 1, u3', g', cd', ?_, fun K => ?_, by omega, fun z => Bool.noConfusion z, fun _ => Or.inl rfl⟩
      · rw [LX3_read_10, if_neg hk15, h1, bnd_v]
        rfl
      · rw [h2, bnd_v]
        dsimp only
        rw [LX6_execute_19]
        rfl
    · obtain ⟨z1, z2, z3⟩ := h3 rfl
      have hce' : ∀ j, j < k + 1 → CE g' cd' j := fun j hj => by
        by_cases e : j = k
        · subst e
          exact z3
        · exact (hce j (by omega)).congr (m := k) (by omega) h6
      by_cases c : p' < q
      · by_cases c59 : cg q tf p' = 59
        · obtain ⟨ok2, p2, k2, m2, w2, u2, g2, cd2, t1, t2, t3⟩ := ih (k + 1) (p' + 1) fu fu' u3' g' cd' (by omega) (by omega) (by omega) (by omega) (by omega) hce'
          refine ⟨ok2, p2, k2, m2, w2, u2, g2, cd2, ?_, fun K => ?_, t3⟩
          · rw [LX3_read_10, if_neg hk15, h1, bnd_v]
            dsimp only
            rw [if_neg (by decide), show SJ4_length_8abf5 (nI q) = nI q from rfl, if_pos (nI_lt c (by omega)), sign_v hl (by omega), bnd_v, if_pos c59, nI_1, nI_1]
            exact t1
          · rw [h2, bnd_v]
            dsimp only
            rw [LX6_execute_19]
            rw [if_pos (show (if true = true then (0 : Int32) else 1) = 0 from rfl), behind0 hl (by omega), bnd_v, if_pos c59, nI_1]
            exact t2 K
        · refine ⟨false, p', k + 1, k + 1, 0, u3', g', cd', ?_, fun K => ?_, by omega, fun z => Bool.noConfusion z, fun _ => Or.inr ⟨rfl, c⟩⟩
          · rw [LX3_read_10, if_neg hk15, h1, bnd_v]
            dsimp only
            rw [if_neg (by decide), show SJ4_length_8abf5 (nI q) = nI q from rfl, if_pos (nI_lt c (by omega)), sign_v hl (by omega), bnd_v, if_neg c59, nI_1]
            rfl
          · rw [h2, bnd_v]
            dsimp only
            rw [LX6_execute_19]
            rw [if_pos (show (if true = true then (0 : Int32) else 1) = 0 from rfl), behind0 hl (by omega), bnd_v, if_neg c59]
            rfl
      · have c59 : ¬ cg q tf p' = 59 := by
          unfold cg
          rw [if_neg c]
          decide
        refine ⟨true, p', k + 1, k + 1, 0, u3', g', cd', ?_, fun K => ?_, by omega, fun _ => ⟨rfl, by omega, rfl, by omega, hce'⟩, fun z => Bool.noConfusion z⟩
        · rw [LX3_read_10, if_neg hk15, h1, bnd_v]
          dsimp only
          rw [if_neg (by decide), show SJ4_length_8abf5 (nI q) = nI q from rfl, if_neg (show ¬ nI p' < nI q from nI_nlt (by omega) (by omega)), nI_1]
          rfl
        · rw [h2, bnd_v]
          dsimp only
          rw [LX6_execute_19]
          rw [if_pos (show (if true = true then (0 : Int32) else 1) = 0 from rfl), behind0 hl (by omega), bnd_v, if_neg c59]
          rfl
end PCm
