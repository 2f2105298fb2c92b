/-! ===== levels: what the class knows of them ===== -/
theorem lp_eff_A {n i : Nat} {A A' : Nat → Nat → Nat} {x : Nat → Nat} (h : ∀ i j, i < n → j < n → A i j = A' i j) (hi : i < n) : lp_eff (lp_LT A) n x i = lp_eff (lp_LT A') n x i := lp_sm_congr fun j hj => by rw [lp_LT_eq, lp_LT_eq, h j i hj hi]
theorem lp_Eq9_A {M n : Nat} {A A' : Nat → Nat → Nat} {x y : Nat → Nat} (h : ∀ i j, i < n → j < n → A i j = A' i j) (e : lp_Eq9 M n A x y) : lp_Eq9 M n A' x y := fun i hi => by
  rw [← lp_eff_A h hi, ← lp_eff_A h hi]; exact e i hi
theorem lp_lf_A {M n : Nat} {A A' : Nat → Nat → Nat} {x : Nat → Nat} (h : ∀ i j, i < n → j < n → A i j = A' i j) : lp_lf M n A x = lp_lf M n A' x := by
  obtain ⟨y, y1, y2⟩ := lp_lf_1 M n A' x
  exact lp_lf_eq ⟨y, lp_Eq9_A (fun i j hi hj => (h i j hi hj).symm) y1, y2⟩ fun z hz => lp_lf_2 (lp_Eq9_A h hz)
theorem lp_to_A {M n : Nat} {A A' : Nat → Nat → Nat} {S x : Nat → Nat} (h : ∀ i j, i < n → j < n → A i j = A' i j) : lp_to M n A S x = lp_to M n A' S x := lp_hv_cg n fun i hi => by rw [lp_eff_A h hi]
theorem lp_Lev_A {M n w k : Nat} {A A' : Nat → Nat → Nat} {S : Nat → Nat} (h : ∀ i j, i < n → j < n → A i j = A' i j) (e : lp_Lev M n A S w k) : lp_Lev M n A' S w k := by
  obtain ⟨⟨x, x1, x2⟩, x3⟩ := e
  exact ⟨⟨x, by rw [← lp_to_A h]; exact x1, x2⟩, fun y hy => x3 y (by rw [lp_to_A h]; exact hy)⟩
theorem lp_LvK_same {g g' : lp_M} {r r' : Nat → Int32} (hs : lp_Same r r') (h2 : g' 327 2 = g 327 2) (h3 : g' 328 = g 328) (k : lp_LvK g r) : lp_LvK g' r' := by
  obtain ⟨e1, e2, e3⟩ := hs
  have e3' : ∀ i j, i < lp_vN r' → j < lp_vN r' → lp_vA r i j = lp_vA r' i j := fun i j hi hj => (e3 i j (by omega) (by omega)).symm
  have lf : ∀ x, lp_lfR r' x = lp_lfR r x := fun x => by
    unfold lp_lfR
    rw [← e1, ← e2]
    exact (lp_lf_A e3').symm
  obtain ⟨D, d1, ⟨x, d2⟩, d3, d4⟩ := k
  refine ⟨D, by rw [h2]; exact d1, ⟨x, by rw [lf]; exact d2⟩, fun x => by rw [lf]; exact d3 x, fun S k hk => ?_⟩
  rw [h3, d4 S k hk]
  congr 1
  rw [← e1, ← e2]
  exact lp_cc_cg fun w _ => ⟨lp_Lev_A e3', lp_Lev_A fun i j hi hj => (e3' i j hi hj).symm⟩
def lp_Rg (g : lp_M) (r : Nat → Int32) : Prop := (g 327 0 = nI 0 ∨ (g 327 0 = nI 1 ∧ lp_LvK g r)) ∧ (g 327 1 = nI 0 ∨ (g 327 1 = nI 1 ∧ g 327 0 = nI 1 ∧ lp_LvF g r))
theorem lp_RgH : lp_RgOk lp_Rg := by
  refine ⟨fun g g' r r' hr hr' c hs hf hF => ⟨?_, .inl hF.2.2.2.1⟩, fun g' r' hr' hF => ⟨.inl hF.2.2, .inl hF.1.2.2.2.1⟩, fun g g' r c hf => ?_⟩
  · have f0 : g' 327 0 = g 327 0 := hf 327 0 (by omega) (by unfold lp_fl1; omega)
    have f2 : g' 327 2 = g 327 2 := hf 327 2 (by omega) (by unfold lp_fl1; omega)
    have f3 : g' 328 = g 328 := funext fun j => hf 328 j (by omega) (by unfold lp_fl1; omega)
    rcases c.1 with h | ⟨h, k⟩
    · exact .inl (by rw [f0]; exact h)
    · exact .inr ⟨by rw [f0]; exact h, lp_LvK_same hs f2 f3 k⟩
  · unfold lp_Rg lp_LvK lp_LvF at c ⊢
    rw [hf 327 (by omega), hf 328 (by omega), hf 329 (by omega)]
    exact c
/-- all that the class knows -/
def lp_Kall : lp_M → (Nat → Int32) → Prop := lp_Ka (lp_Kb (lp_Kt lp_Rg))
theorem lp_KallOk : lp_CaOk lp_Kall := lp_KaOk (lp_KbOk (lp_KtOk lp_RgH))
theorem lp_Kall_lv {g g' : lp_M} {r : Nat → Int32} (h : ∀ q, q < 327 ∨ 335 < q → g' q = g q) (h4 : g' 333 4 = g 333 4) (c : lp_Kall g r) (k : lp_Rg g' r) : lp_Kall g' r ∧ lp_Kc g g' :=
  lp_Ka_tx (fun q hq => h q (by omega)) h4 c ⟨lp_K6_fr (h _ (by omega)) (h _ (by omega)) c.2.2.2.2.1, lp_K7_fr (h _ (by omega)) (h _ (by omega)) c.2.2.2.2.2.1, k⟩
/-- the levels are measured, where they aren't known -/
theorem s140 {d : Nat} {g : lp_M} {r : Nat → Int32} (hr : lp_Ok r) (cn : lp_CN g 1 r) (h4 : g 333 4 = nI 0) (c6 : lp_Kall g r) :
    ∃ g', lp_rn (d + 17) 140 [.ref 0] (lp_s0 g) = some (nI 0, lp_s0 g') ∧ lp_Kall g' r ∧ lp_Kc g g' ∧ lp_LvK g' r ∧ (g 327 0 = nI 0 ∨ g 327 1 = nI 1 → lp_LvF g' r) := by
  have hn : lp_vN r ≤ 10 := hr.2.2.2.1
  have kg : lp_Rg g r := c6.2.2.2.2.2.2
  rcases kg.1 with k0 | ⟨k0, kk⟩
  · obtain ⟨g1, rk, ro, L, D, E1, a1, a2, a3⟩ := s137 (d := d + 10) hr cn c6.1
    obtain ⟨k1, k2⟩ := lp_Ka_set (lp_KbOk (lp_KtOk lp_RgH)) a1 a2 a3 c6
    have c1 : lp_CN g1 1 r := lp_CN_fr hn (fun q h1 h2 => a1 q (by omega)) cn
    obtain ⟨g2, E2, b1, b2, b3, b4⟩ := s5 (d := d + 1) hr c1 (lp_Sol_SV a3) a3.2.2 (by rw [a1 _ (by omega)]; exact h4)
    generalize hg3 : lp_w (lp_w g2 327 0 (nI 1)) 327 1 (nI 1) = g3
    have f3 : ∀ q, q ≠ 327 → g3 q = g2 q := fun q hq => by rw [← hg3, lp_w_ne hq, lp_w_ne hq]
    have f2 : g3 327 2 = g2 327 2 := by rw [← hg3, lp_w_eq, pk_un (by omega), lp_w_eq, pk_un (by omega)]
    have fk : g3 327 0 = nI 1 := by rw [← hg3, lp_w_eq, pk_un (by omega), lp_w_eq, pk_us]
    have ff : g3 327 1 = nI 1 := by rw [← hg3, lp_w_eq, pk_us]
    have lk : lp_LvK g3 r := lp_LvK_same (lp_Same_rfl r) f2 (f3 _ (by omega)) b3
    have lf : lp_LvF g3 r := by
      unfold lp_LvF at b4 ⊢
      rw [f3 _ (by omega)]; exact b4
    obtain ⟨k3, k4⟩ := lp_Kall_lv (g' := g3) (fun q hq => by rw [f3 q (by omega)]; exact b1 q hq) (by rw [f3 _ (by omega)]; exact b2) k1 ⟨.inr ⟨fk, lk⟩, .inr ⟨ff, fk, lf⟩⟩
    refine ⟨g3, ?_, k3, lp_Kc_tr k2 k4, lk, fun _ => lf⟩
    rw [e140_0, if_pos k0, E1, Option.bind_some, e140_0_14, E2, Option.bind_some, e140_0_29, e140_0_37, hg3]
  · have ne : ¬ g 327 0 = nI 0 := by rw [k0]; decide
    refine ⟨g, ?_, c6, lp_Kc_rfl g, kk, fun z => ?_⟩
    · rw [e140_0, if_neg ne]
    · have z1 := z.resolve_left ne
      rcases kg.2 with y | ⟨_, _, y⟩
      · rw [z1] at y; exact absurd y (by decide)
      · exact y
