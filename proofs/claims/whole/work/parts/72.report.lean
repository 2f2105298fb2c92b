/-! ===== spell, report: the steps ===== -/
def lp_prT (f : Nat → Nat) (k : Nat) : List Nat := if f k = 0 then [] else (lp_swd 16 ++ lp_dig k) ++ ((lp_swd 12 ++ lp_dig (f k)) ++ lp_swd 7)
def lp_plR (f : Nat → Nat) : Nat → List Nat
  | 0 => []
  | k + 1 => lp_plR f k ++ lp_prT f k
def lp_plT (f : Nat → Nat) (n : Nat) : List Nat := lp_plR f n ++ ((lp_swd 17 ++ lp_dig (lp_cst false f n)) ++ lp_swd 7)
theorem lp_plR_cg {f f' : Nat → Nat} : ∀ k, (∀ j, j < k → f j = f' j) → lp_plR f k = lp_plR f' k := by
  intro k
  induction k with
  | zero => intro _; rfl
  | succ k ih =>
    intro h
    unfold lp_plR lp_prT
    rw [ih fun j hj => h j (by omega), h k (by omega)]
theorem lp_plT_cg {f f' : Nat → Nat} {n : Nat} (h : ∀ j, j < n → f j = f' j) : lp_plT f n = lp_plT f' n := by
  unfold lp_plT
  rw [lp_plR_cg n h, lp_cst_cg h]
theorem lp_prT_le {f : Nat → Nat} {k : Nat} (hk : k < 10) (h : f k < 10) : (lp_prT f k).length ≤ 10 := by
  unfold lp_prT
  by_cases e : f k = 0
  · rw [if_pos e]; exact Nat.zero_le _
  · rw [if_neg e]
    simp only [List.length_append, lp_swN.2.2.2.2.2.2.2.2.2.2.1, lp_swN.2.2.2.2.2.2.1, lp_swN.2.1, lp_dig1 hk, lp_dig1 h]
    omega
theorem lp_plR_le {f : Nat → Nat} : ∀ k, k ≤ 10 → (∀ j, j < k → f j < 10) → (lp_plR f k).length ≤ 10 * k := by
  intro k
  induction k with
  | zero => intro _ _; exact Nat.le_refl 0
  | succ k ih =>
    intro hk h
    have h1 := ih (by omega) fun j hj => h j (by omega)
    have h2 := lp_prT_le (f := f) (k := k) (by omega) (h k (by omega))
    unfold lp_plR
    rw [List.length_append]
    omega
theorem lp_plT_le {f : Nat → Nat} {n : Nat} (hn : n ≤ 10) (h : ∀ j, j < n → f j < 10) : (lp_plT f n).length ≤ 108 := by
  have h1 := lp_plR_le n hn h
  have h2 := lp_dig2 (lp_cst false f n)
  unfold lp_plT
  simp only [List.length_append, lp_swN.2.2.2.2.2.2.2.2.2.2.2, lp_swN.2.1]
  omega
def lp_inW (r : Nat → Int32) : Prop := lp_InS (lp_vM r) (lp_vN r) (lp_LT (lp_vA r)) 0 (lp_wt r)
def lp_big (r : Nat → Int32) : Prop := 60000 < lp_vM r ^ (lp_vN r - lp_rkf (lp_vM r) (lp_vN r) (lp_LT (lp_vA r)) 0)
/-- what is reported -/
def lp_Rp (r : Nat → Int32) (ws : List Nat) : Prop := (¬ lp_inW r ∧ ws = lp_swd 14) ∨ (lp_inW r ∧ lp_big r ∧ ws = lp_swd 15) ∨ (lp_inW r ∧ ¬ lp_big r ∧ ∃ f, lp_Bst false (lp_vN r) (lp_PlnR r) f ∧ ws = lp_plT f (lp_vN r))
theorem lp_Rp_uniq {r : Nat → Int32} {ws ws' : List Nat} (h : lp_Rp r ws) (h' : lp_Rp r ws') : ws = ws' := by
  rcases h with ⟨a, b⟩ | ⟨a, b, c⟩ | ⟨a, b, f, c, d⟩
  · rcases h' with ⟨a', b'⟩ | ⟨a', b', c'⟩ | ⟨a', b', f', c', d'⟩
    · rw [b, b']
    · exact absurd a' a
    · exact absurd a' a
  · rcases h' with ⟨a', b'⟩ | ⟨a', b', c'⟩ | ⟨a', b', f', c', d'⟩
    · exact absurd a a'
    · rw [c, c']
    · exact absurd b b'
  · rcases h' with ⟨a', b'⟩ | ⟨a', b', c'⟩ | ⟨a', b', f', c', d'⟩
    · exact absurd a a'
    · exact absurd b' b
    · rw [d, d', lp_plT_cg (lp_Bst_uniq c c')]
theorem lp_Rp_le {r : Nat → Int32} (hr : lp_Ok r) {ws : List Nat} (h : lp_Rp r ws) : ws.length ≤ 108 := by
  have hn : lp_vN r ≤ 10 := hr.2.2.2.1
  have hm : lp_vM r ≤ 5 := by have := hr.2.1; omega
  rcases h with ⟨a, b⟩ | ⟨a, b, c⟩ | ⟨a, b, f, c, d⟩
  · rw [b, lp_swN.2.2.2.2.2.2.2.2.1]; omega
  · rw [c, lp_swN.2.2.2.2.2.2.2.2.2.1]; omega
  · rw [d]
    exact lp_plT_le hn fun j hj => by have := c.1.1 j hj; omega
def lp_K6 (g : lp_M) (r : Nat → Int32) : Prop := g 336 0 = nI 0 ∨ (g 336 0 = nI 1 ∧ lp_lnk g 336 1 337 (lp_spT r))
def lp_K7 (g : lp_M) (r : Nat → Int32) : Prop := g 338 0 = nI 0 ∨ (g 338 0 = nI 1 ∧ ∃ ws, lp_Rp r ws ∧ lp_lnk g 338 1 339 ws)
def lp_Kt (Rg : lp_M → (Nat → Int32) → Prop) (g : lp_M) (r : Nat → Int32) : Prop := lp_K6 g r ∧ lp_K7 g r ∧ Rg g r
def lp_RgOk (Rg : lp_M → (Nat → Int32) → Prop) : Prop :=
  (∀ g g' r r', lp_Ok r → lp_Ok r' → Rg g r → lp_Same r r' → (∀ q j, 318 ≤ q ∧ q < 340 → ¬ lp_fl1 q j → g' q j = g q j) → lp_Fl1 g' → Rg g' r') ∧
  (∀ g' r', lp_Ok r' → lp_Fl2 g' → Rg g' r') ∧
  (∀ g g' r, Rg g r → (∀ q, 327 ≤ q ∧ q ≤ 329 → g' q = g q) → Rg g' r)
theorem lp_K6_fr {g g' : lp_M} {r : Nat → Int32} (h : g' 336 = g 336) (h' : g' 337 = g 337) (k : lp_K6 g r) : lp_K6 g' r := by
  unfold lp_K6 lp_lnk at k ⊢
  rw [h, h']; exact k
theorem lp_K7_fr {g g' : lp_M} {r : Nat → Int32} (h : g' 338 = g 338) (h' : g' 339 = g 339) (k : lp_K7 g r) : lp_K7 g' r := by
  unfold lp_K7 lp_lnk at k ⊢
  rw [h, h']; exact k
theorem lp_KtOk {Rg : lp_M → (Nat → Int32) → Prop} (H : lp_RgOk Rg) : lp_RfOk (lp_Kt Rg) := by
  refine ⟨fun g g' r r' hr hr' c hs hf hF => ⟨.inl hF.2.2.2.2.1, .inl hF.2.2.2.2.2, H.1 g g' r r' hr hr' c.2.2 hs hf hF⟩, fun g' r' hr' hF => ⟨.inl hF.1.2.2.2.2.1, .inl hF.1.2.2.2.2.2, H.2.1 g' r' hr' hF⟩, fun g g' r c hf => ⟨lp_K6_fr (hf _ (by unfold lp_rc2; omega)) (hf _ (by unfold lp_rc2; omega)) c.1, lp_K7_fr (hf _ (by unfold lp_rc2; omega)) (hf _ (by unfold lp_rc2; omega)) c.2.1, H.2.2 g g' r c.2.2 (fun q hq => hf q (by unfold lp_rc2; omega))⟩⟩
theorem lp_K1_fr {g g' : lp_M} {r : Nat → Int32} (h : ∀ q, q < 318 ∨ 340 ≤ q → g' q = g q) (k : lp_K1 g r) : lp_K1 g' r := by
  rcases k with k | ⟨k, rk, ro, L, D, h2⟩
  · left; rw [h _ (by omega)]; exact k
  · right; exact ⟨by rw [h _ (by omega)]; exact k, rk, ro, L, D, lp_Sol_fr (lp_Same_rfl r) (fun j _ => by rw [h _ (by omega)]) (fun q h1 h2 h3 => h q (by omega)) h2⟩
theorem lp_K2_fr {g g' : lp_M} {r : Nat → Int32} (h : ∀ q, q < 318 ∨ 340 ≤ q → g' q = g q) (k : lp_K2 g r) : lp_K2 g' r := by
  rcases k with k | ⟨k, k2, k3⟩
  · left; rw [h _ (by omega)]; exact k
  · right
    refine ⟨by rw [h _ (by omega)]; exact k, by rw [h _ (by omega)]; exact k2, ?_⟩
    rcases k3 with ⟨u, v⟩ | ⟨u, x, v, w⟩
    · left; exact ⟨by rw [h _ (by omega)]; exact u, v⟩
    · right; exact ⟨by rw [h _ (by omega)]; exact u, x, v, fun j hj => by rw [h _ (by omega)]; exact w j hj⟩
theorem lp_Ka_tx {Rf : lp_M → (Nat → Int32) → Prop} {g g' : lp_M} {r : Nat → Int32} (h : ∀ q, q < 327 ∨ 340 ≤ q → g' q = g q) (h4 : g' 333 4 = g 333 4) (k : lp_Ka (lp_Kb Rf) g r) (k' : Rf g' r) : lp_Ka (lp_Kb Rf) g' r ∧ lp_Kc g g' :=
  ⟨⟨lp_K1_fr (fun q hq => h q (by omega)) k.1, lp_K2_fr (fun q hq => h q (by omega)) k.2.1, lp_K3_fr (h _ (by omega)) (h _ (by omega)) k.2.2.1, lp_K3_fr (h _ (by omega)) (h _ (by omega)) k.2.2.2.1, k'⟩, fun q hq => h q (by omega), fun q hq => by
    rcases hq with rfl | rfl | rfl | rfl
    · rw [h _ (by omega)]
    · rw [h _ (by omega)]
    · rw [h _ (by omega)]
    · exact h4⟩
theorem st_spell {L : Nat} {xs : Nat → Int32} {Rg : lp_M → (Nat → Int32) → Prop} (H : lp_RgOk Rg) (x : Int32) : lp_St (lp_Inv L xs (lp_Ka (lp_Kb (lp_Kt Rg)))) 130 266 [.int x] := by
  refine lp_ask3 (lp_KaOk (lp_KbOk (lp_KtOk H))) fun g r a p t T c4 c5 c6 c7 => ?_
  have lS := lp_spT_le c4
  have hk : ∃ g1, lp_rn 40 130 [.ref 0, .int x] (lp_s0 g) = some (lp_an x (lp_spT r), lp_s0 g1) ∧ (∀ q, q ≠ 336 → q ≠ 337 → g1 q = g q) ∧ lp_K6 g1 r := by
    rcases c6.2.2.2.2.1 with k | ⟨k, k2⟩
    · obtain ⟨g1, E1, a1, a2, a3⟩ := s153 (d := 31) c4 c5.1
      have E2 := s16 (d := 38) (c := 336) (cap := 900) (.inl ⟨rfl, rfl⟩) a2 lS x
      refine ⟨g1, ?_, a3, .inr ⟨a1, a2⟩⟩
      simp (disch := omega) only [e130_0, k, E1, e130_0_14, E2, e130_0_22, nI_leI, nI_ltI, nI_eq, nI_clamp, lp_oobN, nI_add, pk_mul, pk_sub, pk_rem, pk_m1, lp_neg1lt, lp_neg1le, lp_neg1eq, lp_neg1eq2, if_true, if_false, if_pos, if_neg, Option.bind_some, Nat.lt_irrefl, Nat.le_refl, true_and, and_true, false_or, or_false, true_or, or_true, not_true_eq_false, not_false_eq_true, and_self, or_self, false_and, and_false, ite_true, ite_false, reduceIte]
    · have E2 := s16 (d := 38) (c := 336) (cap := 900) (.inl ⟨rfl, rfl⟩) k2 lS x
      refine ⟨g, ?_, fun _ _ _ => rfl, .inr ⟨k, k2⟩⟩
      simp (disch := omega) only [e130_0, k, E2, e130_0_22, nI_leI, nI_ltI, nI_eq, nI_clamp, lp_oobN, nI_add, pk_mul, pk_sub, pk_rem, pk_m1, lp_neg1lt, lp_neg1le, lp_neg1eq, lp_neg1eq2, if_true, if_false, if_pos, if_neg, Option.bind_some, Nat.lt_irrefl, Nat.le_refl, true_and, and_true, false_or, or_false, true_or, or_true, not_true_eq_false, not_false_eq_true, and_self, or_self, false_and, and_false, ite_true, ite_false, reduceIte]
  obtain ⟨g1, E1, a1, a2⟩ := hk
  obtain ⟨k1, k2⟩ := lp_Ka_tx (g' := g1) (fun q hq => a1 q (by omega) (by omega)) (by rw [a1 _ (by omega) (by omega)]) c6 ⟨a2, lp_K7_fr (a1 _ (by omega) (by omega)) (a1 _ (by omega) (by omega)) c6.2.2.2.2.2.1, H.2.2 g g1 r c6.2.2.2.2.2.2 (fun q hq => a1 q (by omega) (by omega))⟩
  obtain ⟨g2, E2, b1, b2⟩ := s266 (d := 36) (g := g1) c4 (by rw [a1 _ (by omega) (by omega)]; exact c7.1) (fun j hj => by rw [a1 _ (by omega) (by omega)]; exact c7.2.2.2 j hj) x
  exact ⟨_, g1, g2, E1, k2, k1, E2, lp_Msc_a (fun q q1 q2 q3 q4 => b1 q (by omega) (by omega)) (b2 5 (by omega)) (b2 30 (by omega))⟩
theorem s13R {d w k : Nat} {g : lp_M} (hw : w < 18) (hk : g 338 1 = nI k) (hle : k + (lp_swd w).length ≤ 120) : lp_rn (d + 5) 13 [.ref 338, .retAddr w] (lp_s0 g) = some (nI 0, lp_s0 (lp_ps 338 1 339 g (lp_swd w))) := s13 (.inr ⟨rfl, rfl⟩) hw hk hle
theorem s14R {d w n k : Nat} {g : lp_M} (hw : w < 18) (hn : n < 100) (hk : g 338 1 = nI k) (hle : k + (lp_swd w ++ lp_dig n).length ≤ 120) : lp_rn (d + 6) 14 [.ref 338, .retAddr w, .int (nI n)] (lp_s0 g) = some (nI 0, lp_s0 (lp_ps 338 1 339 g (lp_swd w ++ lp_dig n))) := s14 (.inr ⟨rfl, rfl⟩) hw hn hk hle
/-- the class writes the best plan -/
theorem s156 {d rk : Nat} {g : lp_M} {r : Nat → Int32} (hr : lp_Ok r) (c : lp_CN g 1 r) (h2 : g 244 2 = nI (lp_vN r - rk)) (hrk : lp_rkf (lp_vM r) (lp_vN r) (lp_LT (lp_vA r)) 0 = rk)
    (hc : (g 0 15 = nI 0 ∧ ¬ lp_inW r) ∨ (g 0 15 = nI 1 ∧ lp_inW r ∧ lp_big r) ∨ (g 0 15 = nI 1 ∧ lp_inW r ∧ ¬ lp_big r ∧ ∃ f, lp_Bst false (lp_vN r) (lp_PlnR r) f ∧ g 318 1 = nI (lp_cst false f (lp_vN r)) ∧ ∀ j, j < lp_vN r → g 319 j = nI (f j))) :
    ∃ g' ws, lp_rn (d + 8) 156 [.ref 0] (lp_s0 g) = some (nI 0, lp_s0 g') ∧ lp_Rp r ws ∧ g' 338 0 = nI 1 ∧ lp_lnk g' 338 1 339 ws ∧ ∀ q, q ≠ 338 → q ≠ 339 → g' q = g q := by
  have hn : lp_vN r ≤ 10 := hr.2.2.2.1
  have hm : lp_vM r ≤ 5 := by have := hr.2.1; omega
  generalize hg0 : lp_w (lp_w g 338 1 (nI 0)) 338 0 (nI 1) = g0
  have k0 : g0 338 1 = nI 0 := by rw [← hg0, lp_w_eq, pk_un (by omega), lp_w_eq, pk_us]
  have k00 : g0 338 0 = nI 1 := by rw [← hg0, lp_w_eq, pk_us]
  have f0 : ∀ q, q ≠ 338 → g0 q = g q := fun q h => by rw [← hg0, lp_w_ne h, lp_w_ne h]
  have E0 : lp_rn (d + 7) 12 [.ref 338] (lp_s0 g) = some (nI 0, lp_s0 g0) := by rw [← hg0, e12_338, e12_338_5]
  have fr : ∀ ws q, q ≠ 338 → q ≠ 339 → lp_ps 338 1 339 g0 ws q = g q := fun ws q h1 h2 => by rw [lp_ps_fr _ _ _ _ _ _ h1 h2, f0 q h1]
  have len : ∀ ws : List Nat, ws.length ≤ 1000 → lp_ps 338 1 339 g0 ws 338 1 = nI ws.length := fun ws h => by
    have := lp_ps_len (c := 338) (f := 1) (e := 339) (ws := ws) (by omega) k0 (by omega)
    rw [Nat.zero_add] at this; exact this
  have fin : ∀ ws : List Nat, lp_Rp r ws → lp_rn (d + 8) 156 [.ref 0] (lp_s0 g) = some (nI 0, lp_s0 (lp_ps 338 1 339 g0 ws)) → ∃ g' ws, lp_rn (d + 8) 156 [.ref 0] (lp_s0 g) = some (nI 0, lp_s0 g') ∧ lp_Rp r ws ∧ g' 338 0 = nI 1 ∧ lp_lnk g' 338 1 339 ws ∧ ∀ q, q ≠ 338 → q ≠ 339 → g' q = g q := by
    intro ws hw E
    have lw := lp_Rp_le hr hw
    obtain ⟨b1, b2, b3, b4, b5⟩ := lp_ps_all (c := 338) (f := 1) (e := 339) (by omega) ws g0 0 k0 (by omega)
    refine ⟨_, ws, E, hw, by rw [b5 _ (by omega)]; exact k00, ⟨len _ (by omega), fun i hi => ?_⟩, fun q h1 h2 => fr _ q h1 h2⟩
    have := b2 i hi
    rw [Nat.zero_add] at this
    exact this
  have z10 : g0 1 0 = nI (lp_vM r) := by rw [f0 _ (by omega)]; exact c.1.trans hr.1
  have z2 : g0 244 2 = nI (lp_vN r - rk) := by rw [f0 _ (by omega)]; exact h2
  have z15 : g0 0 15 = g 0 15 := by rw [f0 _ (by omega)]
  have E9 := s145 (d := d + 4) (g := g0) (rk := rk) hr z10 z2
  rcases hc with ⟨u, nin⟩ | ⟨u, hin, big⟩ | ⟨u, hin, nbig, f, bst, u1, u2⟩
  · refine fin (lp_swd 14) (.inl ⟨nin, rfl⟩) ?_
    have E1 := s13R (d := d + 2) (w := 14) (by omega) k0 (by rw [lp_swN.2.2.2.2.2.2.2.2.1]; omega)
    simp (disch := omega) only [e156_0, E0, e156_0_7, z15, u, E1, e156_0_24, nI_leI, nI_ltI, nI_eq, nI_clamp, lp_oobN, nI_add, pk_mul, pk_sub, pk_rem, pk_m1, lp_neg1lt, lp_neg1le, lp_neg1eq, lp_neg1eq2, if_true, if_false, if_pos, if_neg, Option.bind_some, Nat.lt_irrefl, Nat.le_refl, true_and, and_true, false_or, or_false, true_or, or_true, not_true_eq_false, not_false_eq_true, and_self, or_self, false_and, and_false, ite_true, ite_false, reduceIte]
  · refine fin (lp_swd 15) (.inr (.inl ⟨hin, big, rfl⟩)) ?_
    have E1 := s13R (d := d + 2) (w := 15) (by omega) k0 (by rw [lp_swN.2.2.2.2.2.2.2.2.2.1]; omega)
    unfold lp_big at big
    rw [hrk] at big
    rw [if_pos big] at E9
    simp (disch := omega) only [e156_0, E0, e156_0_7, z15, u, E9, e156_0_29, E1, e156_0_42, nI_leI, nI_ltI, nI_eq, nI_clamp, lp_oobN, nI_add, pk_mul, pk_sub, pk_rem, pk_m1, lp_neg1lt, lp_neg1le, lp_neg1eq, lp_neg1eq2, if_true, if_false, if_pos, if_neg, Option.bind_some, Nat.lt_irrefl, Nat.le_refl, true_and, and_true, false_or, or_false, true_or, or_true, not_true_eq_false, not_false_eq_true, and_self, or_self, false_and, and_false, ite_true, ite_false, reduceIte]
  · have w := lp_Rp_le hr (.inr (.inr ⟨hin, nbig, f, bst, rfl⟩))
    refine fin (lp_plT f (lp_vN r)) (.inr (.inr ⟨hin, nbig, f, bst, rfl⟩)) ?_
    unfold lp_big at nbig
    rw [hrk] at nbig
    rw [if_neg nbig] at E9
    have fl : ∀ j, j < lp_vN r → f j < 10 := fun j hj => by have := bst.1.1 j hj; omega
    have n1 : ∀ ws, lp_ps 338 1 339 g0 ws 1 1 = nI (lp_vN r) := fun ws => by rw [fr ws _ (by omega) (by omega)]; exact c.2.1.trans hr.2.2.1
    have H1 : lp_rn (d + 8) 156 [.ref 0] (lp_s0 g) = lp_fn (d + 7) 156 45 [.ref 0, .int (nI 0)] [] (lp_s0 (lp_ps 338 1 339 g0 (lp_plR f 0))) := by
      show _ = lp_fn (d + 7) 156 45 [.ref 0, .int (nI 0)] [] (lp_s0 g0)
      simp (disch := omega) only [e156_0, E0, e156_0_7, z15, u, E9, e156_0_29, nI_leI, nI_ltI, nI_eq, nI_clamp, lp_oobN, nI_add, pk_mul, pk_sub, pk_rem, pk_m1, lp_neg1lt, lp_neg1le, lp_neg1eq, lp_neg1eq2, if_true, if_false, if_pos, if_neg, Option.bind_some, Nat.lt_irrefl, Nat.le_refl, true_and, and_true, false_or, or_false, true_or, or_true, not_true_eq_false, not_false_eq_true, and_self, or_self, false_and, and_false, ite_true, ite_false, reduceIte]
    have H2 := lp_iter (fun i => lp_fn (d + 7) 156 45 [.ref 0, .int (nI i)] [] (lp_s0 (lp_ps 338 1 339 g0 (lp_plR f i)))) (lp_vN r) (fun i hi => by
      have l1 := lp_plR_le (f := f) i (by omega) (fun j hj => fl j (by omega))
      have z1 := n1 (lp_plR f i)
      have z2 : lp_ps 338 1 339 g0 (lp_plR f i) 319 i = nI (f i) := by rw [fr _ _ (by omega) (by omega)]; exact u2 i hi
      have lf := fl i hi
      have z3 := len (lp_plR f i) (by omega)
      show lp_fn (d + 7) 156 45 _ _ _ = lp_fn (d + 7) 156 45 [.ref 0, .int (nI (i + 1))] [] (lp_s0 (lp_ps 338 1 339 g0 (lp_plR f i ++ lp_prT f i)))
      rw [lp_ps_app, e156_0_45]
      have fs := fun q h1 h2 => fr (lp_plR f i) q h1 h2
      generalize lp_ps 338 1 339 g0 (lp_plR f i) = s at z1 z2 z3 fs ⊢
      unfold lp_prT
      by_cases e : f i = 0
      · rw [if_pos e, lp_ps_nil]
        simp (disch := omega) only [z1, z2, e, nI_leI, nI_ltI, nI_eq, nI_clamp, lp_oobN, nI_add, pk_mul, pk_sub, pk_rem, pk_m1, lp_neg1lt, lp_neg1le, lp_neg1eq, lp_neg1eq2, if_true, if_false, if_pos, if_neg, Option.bind_some, Nat.lt_irrefl, Nat.le_refl, true_and, and_true, false_or, or_false, true_or, or_true, not_true_eq_false, not_false_eq_true, and_self, or_self, false_and, and_false, ite_true, ite_false, reduceIte]
      · have d1 := lp_dig1 (n := i) (by omega)
        have d2 := lp_dig1 (n := f i) (by omega)
        have l16 := lp_swN.2.2.2.2.2.2.2.2.2.2.1
        have l12 := lp_swN.2.2.2.2.2.2.1
        have l7 := lp_swN.2.1
        rw [if_neg e, lp_ps_app, lp_ps_app _ _ _ _ (lp_swd 12 ++ lp_dig (f i))]
        have E1 := s14R (d := d + 1) (w := 16) (n := i) (by omega) (by omega) z3 (by simp only [List.length_append]; omega)
        have a1 := lp_ps_len (c := 338) (f := 1) (e := 339) (ws := lp_swd 16 ++ lp_dig i) (by omega) z3 (by simp only [List.length_append]; omega)
        have f1 := lp_ps_fr 338 1 339 (lp_swd 16 ++ lp_dig i) s
        generalize lp_ps 338 1 339 s (lp_swd 16 ++ lp_dig i) = s1 at *
        simp only [List.length_append] at a1
        have E2 := s14R (d := d + 1) (w := 12) (n := f i) (by omega) (by omega) a1 (by simp only [List.length_append]; omega)
        have a2 := lp_ps_len (c := 338) (f := 1) (e := 339) (ws := lp_swd 12 ++ lp_dig (f i)) (by omega) a1 (by simp only [List.length_append]; omega)
        generalize lp_ps 338 1 339 s1 (lp_swd 12 ++ lp_dig (f i)) = s2 at *
        simp only [List.length_append] at a2
        have E3 := s13R (d := d + 2) (w := 7) (by omega) a2 (by omega)
        have z4 : s1 319 i = nI (f i) := by rw [f1 _ (by omega) (by omega)]; exact z2
        simp (disch := omega) only [z1, z2, e, E1, e156_0_79, z4, E2, e156_0_98, E3, e156_0_108, nI_leI, nI_ltI, nI_eq, nI_clamp, lp_oobN, nI_add, pk_mul, pk_sub, pk_rem, pk_m1, lp_neg1lt, lp_neg1le, lp_neg1eq, lp_neg1eq2, if_true, if_false, if_pos, if_neg, Option.bind_some, Nat.lt_irrefl, Nat.le_refl, true_and, and_true, false_or, or_false, true_or, or_true, not_true_eq_false, not_false_eq_true, and_self, or_self, false_and, and_false, ite_true, ite_false, reduceIte])
    refine H1.trans (H2.trans ?_)
    have l1 := lp_plR_le (f := f) (lp_vN r) (by omega) fl
    have z1 := n1 (lp_plR f (lp_vN r))
    have z3 := len (lp_plR f (lp_vN r)) (by omega)
    have z4 : lp_ps 338 1 339 g0 (lp_plR f (lp_vN r)) 318 1 = nI (lp_cst false f (lp_vN r)) := by rw [fr _ _ (by omega) (by omega)]; exact u1
    have cb := lp_cst_le (b := false) (x := f) (n := lp_vN r) (lp_prM hr) bst.1.1
    have d2 := lp_dig2 (lp_cst false f (lp_vN r))
    have l17 := lp_swN.2.2.2.2.2.2.2.2.2.2.2
    have l7 := lp_swN.2.1
    unfold lp_plT
    rw [lp_ps_app, lp_ps_app]
    generalize lp_ps 338 1 339 g0 (lp_plR f (lp_vN r)) = s at z1 z3 z4 ⊢
    have E1 := s14R (d := d + 1) (w := 17) (n := lp_cst false f (lp_vN r)) (by omega) (by omega) z3 (by simp only [List.length_append]; omega)
    have a1 := lp_ps_len (c := 338) (f := 1) (e := 339) (ws := lp_swd 17 ++ lp_dig (lp_cst false f (lp_vN r))) (by omega) z3 (by simp only [List.length_append]; omega)
    generalize lp_ps 338 1 339 s (lp_swd 17 ++ lp_dig (lp_cst false f (lp_vN r))) = s1 at *
    simp only [List.length_append] at a1
    have E2 := s13R (d := d + 2) (w := 7) (by omega) a1 (by omega)
    show lp_fn (d + 7) 156 45 _ _ _ = _
    rw [e156_0_45]
    simp (disch := omega) only [z1, z4, E1, e156_0_131, E2, e156_0_141, nI_leI, nI_ltI, nI_eq, nI_clamp, lp_oobN, nI_add, pk_mul, pk_sub, pk_rem, pk_m1, lp_neg1lt, lp_neg1le, lp_neg1eq, lp_neg1eq2, if_true, if_false, if_pos, if_neg, Option.bind_some, Nat.lt_irrefl, Nat.le_refl, true_and, and_true, false_or, or_false, true_or, or_true, not_true_eq_false, not_false_eq_true, and_self, or_self, false_and, and_false, ite_true, ite_false, reduceIte]
