/-! ===== the model counts through; fewest, sparest ===== -/
/-- rows that have the same number of the later quiet rows -/
def lp_RS1 (M n F : Nat) (β : Nat → Nat → Nat) (x t : Nat → Nat) (k : Nat) (y : Nat → Nat) : Prop := ∃ t' : Nat → Nat, (∀ b, k ≤ b → b < F → t' b = t b) ∧ (∀ b, b < k → b < F → t' b < M) ∧ ∀ j, j < n → y j = lp_rwt M F β x t' j
theorem lp_rwt_cg {M F : Nat} {β : Nat → Nat → Nat} {x t t' : Nat → Nat} {j : Nat} (h : ∀ k, k < F → t k = t' k) : lp_rwt M F β x t j = lp_rwt M F β x t' j := by
  unfold lp_rwt
  rw [lp_sm_congr (f := fun k => t k * β k j) (f' := fun k => t' k * β k j) fun k hk => by rw [h k hk]]
def lp_upN (t : Nat → Nat) (k v : Nat) : Nat → Nat := fun b => if b = k then v else t b
theorem s221c {d M n F : Nat} {b : Bool} {β : Nat → Nat → Nat} {x : Nat → Nat} {g : lp_M} {bv : Int32} (hbv : bv = nI (if b = true then 1 else 0)) (hM : lp_pr M) (hn : n ≤ 10) (hF : F ≤ 10) (m0 : g 344 0 = nI M) (m1 : g 344 1 = nI n) (hg : g 343 16 = nI F) (hx : ∀ j, j < n → g 354 j = nI (x j) ∧ x j < M) (hβ : ∀ k j, k < F → j < n → g 355 (10 * k + j) = nI (β k j) ∧ β k j < M) :
    ∀ (k : Nat) (t : Nat → Nat) (s : lp_M) (c : Nat) (f : Nat → Nat) (S : (Nat → Nat) → Prop) (x3 x4 x5 : Value), k ≤ F → (∀ b, b < F → t b < M) → (∀ b, b < k → t b = 0) →
      (∀ q, q ≠ 343 → q ≠ 358 → q ≠ 359 → q ≠ 360 → s q = g q) → (∀ j, j ≠ 20 → s 343 j = g 343 j) → s 343 20 = nI c → (∀ j, j < n → s 358 j = nI (f j) ∨ c = 1000) → (∀ b, b < F → s 360 b = nI (t b)) → lp_Bs b n S c f → (∀ y z, (∀ j, j < n → y j = z j) → S y → S z) → (∀ y, S y → ∀ j, j < n → y j < M) →
      ∃ s' c' f' x3' x5', lp_fn (d + 20) 221 73 [.ref 343, .int bv, .int (nI 1), x3, x4, x5] [] (lp_s0 s) = lp_fn (d + 20) 221 252 [.ref 343, .int bv, .int (nI 1), .int x3', .int (nI k), x5'] [] (lp_s0 s') ∧ (∀ q, q ≠ 343 → q ≠ 358 → q ≠ 359 → q ≠ 360 → s' q = g q) ∧ (∀ j, j ≠ 20 → s' 343 j = g 343 j) ∧ s' 343 20 = nI c' ∧ (∀ j, j < n → s' 358 j = nI (f' j) ∨ c' = 1000) ∧ (∀ b, b < F → s' 360 b = nI (t b)) ∧ lp_Bs b n (fun y => S y ∨ lp_RS1 M n F β x t k y) c' f' := by
  obtain ⟨hM2, hM5⟩ := lp_prBd hM
  intro k
  induction k with
  | zero =>
    intro t s c f S x3 x4 x5 hk ht ht0 q1 q2 q3 q4 q5 q6 q7 q8
    obtain ⟨s', c', f', x3', x5', E, u1, u2, u3, u4, u5, u6⟩ := s221r (d := d) (x3 := x3) (x4 := x4) (x5 := x5) hbv hM hn hF m0 m1 hg hx hβ ht q1 q2 q3 q4 q5 q6 q7 q8
    refine ⟨s', c', f', x3', x5', E, u1, u2, u3, u4, fun b hb => by rw [u5]; exact q5 b hb, lp_Bs_cg (fun y => ?_) u6⟩
    constructor
    · rintro (z | z)
      · exact .inl z
      · exact .inr ⟨t, fun _ _ _ => rfl, fun b hb => by omega, z⟩
    · rintro (z | ⟨t', t1, t2, t3⟩)
      · exact .inl z
      · exact .inr fun j hj => by rw [t3 j hj]; exact lp_rwt_cg fun b hb => t1 b (by omega) hb
  | succ k ih =>
    intro t s c f S x3 x4 x5 hk ht ht0 q1 q2 q3 q4 q5 q6 q7 q8
    have htk : t k = 0 := ht0 k (by omega)
    -- the set after v of them
    have ext : ∀ v, ∀ y z, (∀ j, j < n → y j = z j) → (S y ∨ ∃ u, u < v ∧ lp_RS1 M n F β x (lp_upN t k u) k y) → (S z ∨ ∃ u, u < v ∧ lp_RS1 M n F β x (lp_upN t k u) k z) := by
      rintro v y z hyz (w | ⟨u, u1, t', t1, t2, t3⟩)
      · exact .inl (q7 y z hyz w)
      · exact .inr ⟨u, u1, t', t1, t2, fun j hj => by rw [← hyz j hj]; exact t3 j hj⟩
    have bnd : ∀ v, ∀ y, (S y ∨ ∃ u, u < v ∧ lp_RS1 M n F β x (lp_upN t k u) k y) → ∀ j, j < n → y j < M := by
      rintro v y (w | ⟨u, u1, t', t1, t2, t3⟩) j hj
      · exact q8 y w j hj
      · rw [t3 j hj]; exact Nat.mod_lt _ (by omega)
    have run : ∀ v, v < M → ∃ s' c' f' x3' x5', lp_fn (d + 20) 221 73 [.ref 343, .int bv, .int (nI 1), x3, x4, x5] [] (lp_s0 s) = lp_fn (d + 20) 221 252 [.ref 343, .int bv, .int (nI 1), .int x3', .int (nI k), x5'] [] (lp_s0 s') ∧ (∀ q, q ≠ 343 → q ≠ 358 → q ≠ 359 → q ≠ 360 → s' q = g q) ∧ (∀ j, j ≠ 20 → s' 343 j = g 343 j) ∧ s' 343 20 = nI c' ∧ (∀ j, j < n → s' 358 j = nI (f' j) ∨ c' = 1000) ∧ (∀ b, b < F → s' 360 b = nI (lp_upN t k v b)) ∧ lp_Bs b n (fun y => S y ∨ ∃ u, u < v + 1 ∧ lp_RS1 M n F β x (lp_upN t k u) k y) c' f' := by
      intro v
      induction v with
      | zero =>
        intro _
        have e0 : lp_upN t k 0 = t := funext fun b => by
          unfold lp_upN
          by_cases e : b = k
          · rw [if_pos e, e, htk]
          · rw [if_neg e]
        obtain ⟨s', c', f', x3', x5', E, u1, u2, u3, u4, u5, u6⟩ := ih t s c f S x3 x4 x5 (by omega) ht (fun b hb => ht0 b (by omega)) q1 q2 q3 q4 q5 q6 q7 q8
        refine ⟨s', c', f', x3', x5', E, u1, u2, u3, u4, fun b hb => by rw [e0]; exact u5 b hb, lp_Bs_cg (fun y => ?_) u6⟩
        constructor
        · rintro (z | z)
          · exact .inl z
          · exact .inr ⟨0, by omega, by rw [e0]; exact z⟩
        · rintro (z | ⟨u, u1, u2⟩)
          · exact .inl z
          · have : u = 0 := by omega
            subst this
            rw [e0] at u2
            exact .inr u2
      | succ v ihv =>
        intro hv
        obtain ⟨s1, c1, f1, y3, y5, E1, v1, v2, v3, v4, v5, v6⟩ := ihv (by omega)
        -- one more
        have yk : s1 360 k = nI v := by
          rw [v5 k (by omega)]
          unfold lp_upN
          rw [if_pos rfl]
        have y0 : s1 344 0 = nI M := by rw [v1 _ (by omega) (by omega) (by omega) (by omega)]; exact m0
        have yF : s1 343 16 = nI F := by rw [v2 _ (by omega)]; exact hg
        have hvM : ¬ v = M - 1 := by omega
        have E2 : lp_fn (d + 20) 221 252 [.ref 343, .int bv, .int (nI 1), .int y3, .int (nI k), y5] [] (lp_s0 s1) = lp_fn (d + 20) 221 73 [.ref 343, .int bv, .int (nI 1), .int y3, .int (nI k), y5] [] (lp_s0 (lp_w s1 360 k (nI (v + 1)))) := by
          rw [e221_343_252]
          simp (disch := omega) only [yF, yk, e168_343, y0, e221_343_272, hvM, nI_leI, nI_ltI, nI_eq, nI_clamp, lp_oobN, nI_add, pk_mul, pk_sub, pk_rem, pk_m1, lp_neg1lt, lp_neg1le, lp_neg1eq, lp_neg1eq2, if_true, if_false, if_pos, if_neg, Option.bind_some, Nat.lt_irrefl, Nat.le_refl, true_and, and_true, false_or, or_false, true_or, or_true, not_true_eq_false, not_false_eq_true, and_self, or_self, false_and, and_false, ite_true, ite_false, reduceIte]
        have tM : ∀ b, b < F → lp_upN t k (v + 1) b < M := fun b hb => by
          unfold lp_upN
          split
          · omega
          · exact ht b hb
        obtain ⟨s', c', f', x3', x5', E, u1, u2, u3, u4, u5, u6⟩ := ih (lp_upN t k (v + 1)) (lp_w s1 360 k (nI (v + 1))) c1 f1 (fun y => S y ∨ ∃ u, u < v + 1 ∧ lp_RS1 M n F β x (lp_upN t k u) k y) (.int y3) (.int (nI k)) y5 (by omega) tM (fun b hb => by
            unfold lp_upN
            rw [if_neg (by omega)]; exact ht0 b (by omega)) (fun q h1 h2 h3 h4 => by rw [lp_w_ne h4]; exact v1 q h1 h2 h3 h4) (fun j hj => by rw [lp_w_ne (by omega)]; exact v2 j hj) (by rw [lp_w_ne (by omega)]; exact v3) (fun j hj => by rw [lp_w_ne (by omega)]; exact v4 j hj) (fun b hb => by
            rw [lp_w_eq]
            unfold lp_upN
            by_cases e : b = k
            · rw [e, pk_us, if_pos rfl]
            · rw [pk_un e, if_neg e, v5 b hb]
              unfold lp_upN
              rw [if_neg e]) v6 (ext (v + 1)) (bnd (v + 1))
        refine ⟨s', c', f', x3', x5', E1.trans (E2.trans E), u1, u2, u3, u4, u5, lp_Bs_cg (fun y => ?_) u6⟩
        constructor
        · rintro ((z | ⟨u, u1, u2⟩) | z)
          · exact .inl z
          · exact .inr ⟨u, by omega, u2⟩
          · exact .inr ⟨v + 1, by omega, z⟩
        · rintro (z | ⟨u, u1, u2⟩)
          · exact .inl (.inl z)
          · by_cases e : u = v + 1
            · exact .inr (e ▸ u2)
            · exact .inl (.inr ⟨u, by omega, u2⟩)
    obtain ⟨s1, c1, f1, y3, y5, E1, v1, v2, v3, v4, v5, v6⟩ := run (M - 1) (by omega)
    have yk : s1 360 k = nI (M - 1) := by
      rw [v5 k (by omega)]
      unfold lp_upN
      rw [if_pos rfl]
    have y0 : s1 344 0 = nI M := by rw [v1 _ (by omega) (by omega) (by omega) (by omega)]; exact m0
    have yF : s1 343 16 = nI F := by rw [v2 _ (by omega)]; exact hg
    refine ⟨lp_w s1 360 k (nI 0), c1, f1, y3, y5, E1.trans ?_, fun q h1 h2 h3 h4 => by rw [lp_w_ne h4]; exact v1 q h1 h2 h3 h4, fun j hj => by rw [lp_w_ne (by omega)]; exact v2 j hj, by rw [lp_w_ne (by omega)]; exact v3, fun j hj => by rw [lp_w_ne (by omega)]; exact v4 j hj, fun b hb => ?_, lp_Bs_cg (fun y => ?_) v6⟩
    · rw [e221_343_252]
      simp (disch := omega) only [yF, yk, e168_343, y0, e221_343_272, nI_leI, nI_ltI, nI_eq, nI_clamp, lp_oobN, nI_add, pk_mul, pk_sub, pk_rem, pk_m1, lp_neg1lt, lp_neg1le, lp_neg1eq, lp_neg1eq2, if_true, if_false, if_pos, if_neg, Option.bind_some, Nat.lt_irrefl, Nat.le_refl, true_and, and_true, false_or, or_false, true_or, or_true, not_true_eq_false, not_false_eq_true, and_self, or_self, false_and, and_false, ite_true, ite_false, reduceIte]
    · rw [lp_w_eq]
      by_cases e : b = k
      · rw [e, pk_us, htk]
      · rw [pk_un e, v5 b hb]
        unfold lp_upN
        rw [if_neg e]
    · constructor
      · rintro (z | ⟨u, u1, t', t1, t2, t3⟩)
        · exact .inl z
        · refine .inr ⟨t', fun b b1 b2 => ?_, fun b b1 b2 => ?_, t3⟩
          · rw [t1 b (by omega) b2]
            unfold lp_upN
            rw [if_neg (by omega)]
          · by_cases e : b = k
            · rw [e, t1 k (Nat.le_refl k) (by omega)]
              unfold lp_upN
              rw [if_pos rfl]; omega
            · exact t2 b (by omega) b2
      · rintro (z | ⟨t', t1, t2, t3⟩)
        · exact .inl z
        · refine .inr ⟨t' k, by have := t2 k (by omega) (by omega); omega, t', fun b b1 b2 => ?_, fun b b1 b2 => t2 b (by omega) b2, t3⟩
          unfold lp_upN
          by_cases e : b = k
          · rw [if_pos e, e]
          · rw [if_neg e]; exact t1 b (by omega) b2
/-- all plans are rows with quiet rows more -/
theorem lp_all_rows {M n rk F : Nat} {L0 L D : Nat → Nat → Nat} {ro w x : Nat → Nat} {β : Nat → Nat → Nat} (hM : lp_pr M) (hn : n ≤ 10) (h : lp_RF M n L0 rk ro L D) (hF : F = lp_fc ro n) (hx : lp_FR M n L0 0 w x) (hβ : ∀ f, f < n → ¬ ro f < 10 → ∀ j, j < n → β (lp_fc ro f) j = lp_bs M ro L f j) (y : Nat → Nat) : lp_RS1 M n F β x (fun _ => 0) F y ↔ lp_Pln M n L0 w y := by
  obtain ⟨hM2, hM5⟩ := lp_prBd hM
  have pl : ∀ t : Nat → Nat, lp_Pln M n L0 w (lp_rwt M F β x t) := by
    intro t
    refine ⟨fun j _ => Nat.mod_lt _ (by omega), fun i hi => ?_⟩
    have e1 : lp_eff L0 n (lp_rwt M F β x t) i % M = lp_eff L0 n (fun j => x j + lp_sm (fun k => t k * β k j) F) i % M := lp_dt_mod (fun _ _ => rfl) (fun j _ => Nat.mod_mod _ _)
    rw [e1]
    have z : ∀ k, k ≤ F → lp_dt (L0 i) (fun j => lp_sm (fun k => t k * β k j) k) n % M = 0 := by
      intro k
      induction k with
      | zero =>
        intro _
        have e0 : lp_dt (L0 i) (fun j => lp_sm (fun k => t k * β k j) 0) n = 0 := lp_dt_zero fun j _ => .inr rfl
        rw [e0, Nat.zero_mod]
      | succ k ih =>
        intro hk
        obtain ⟨f, f1, f2, f3⟩ := lp_fc_ex (ro := ro) (n := n) (k := k) (by omega)
        have e2 : lp_dt (L0 i) (fun j => lp_sm (fun k => t k * β k j) (k + 1)) n = lp_dt (L0 i) (fun j => lp_sm (fun k => t k * β k j) k) n + t k * lp_dt (L0 i) (fun j => β k j) n := by
          rw [← lp_dt_mul, ← lp_dt_add]; rfl
        have e3 : lp_dt (L0 i) (fun j => β k j) n = lp_eff L0 n (lp_bs M ro L f) i := lp_sm_congr fun j hj => by
          show L0 i j * β k j = L0 i j * lp_bs M ro L f j
          rw [← f3, hβ f f1 f2 j hj]
        rw [e2, Nat.add_mod, ih (by omega), Nat.zero_add, Nat.mod_mod, Nat.mul_mod, e3, (lp_RF_base hM hn h f1 f2).2 i hi, Nat.mul_zero, Nat.zero_mod]
    unfold lp_eff
    rw [lp_dt_add, Nat.add_mod, z F (Nat.le_refl F), Nat.add_zero, Nat.mod_mod]
    exact hx.2.2.2 i hi
  constructor
  · rintro ⟨t, _, _, t3⟩
    exact lp_Pln_cg (fun j hj => (t3 j hj).symm) (pl t)
  · intro hy
    -- how often the chosen lamps are pressed
    have ch : ∃ t : Nat → Nat, ∀ f, f < n → ¬ ro f < 10 → t (lp_fc ro f) = y f := by
      classical
      refine ⟨fun k => if hk : ∃ f, f < n ∧ ¬ ro f < 10 ∧ lp_fc ro f = k then y (Classical.choose hk) else 0, fun f f1 f2 => ?_⟩
      have hk : ∃ f', f' < n ∧ ¬ ro f' < 10 ∧ lp_fc ro f' = lp_fc ro f := ⟨f, f1, f2, rfl⟩
      show (if hk : ∃ f', f' < n ∧ ¬ ro f' < 10 ∧ lp_fc ro f' = lp_fc ro f then y (Classical.choose hk) else 0) = y f
      rw [dif_pos hk]
      obtain ⟨c1, c2, c3⟩ := Classical.choose_spec hk
      have : Classical.choose hk = f := Classical.byContradiction fun ne => by
        by_cases lt : Classical.choose hk < f
        · have := lp_fc_lt c2 lt; omega
        · have := lp_fc_lt f2 (show f < Classical.choose hk by omega); omega
      rw [this]
    obtain ⟨t, ht⟩ := ch
    refine ⟨t, fun b b1 b2 => by omega, fun b b1 _ => ?_, fun j hj => ?_⟩
    · obtain ⟨f, f1, f2, f3⟩ := lp_fc_ex (ro := ro) (n := n) (k := b) (by omega)
      rw [← f3, ht f f1 f2]; exact hy.1 f f1
    · have e := lp_RF_uniq (x := y) (y := lp_rwt M F β x t) hM h (fun f f1 f2 => by
        have x0 : x f = 0 := hx.2.1 f f1 fun z => f2 ((lp_RF_piv hM hn h f1).mpr z)
        have e1 : lp_sm (fun k => t k * β k f) F = y f := by
          rw [lp_sm_one (k := lp_fc ro f) (by rw [hF]; exact lp_fc_lt f2 f1)]
          · have b1 : lp_bs M ro L f f = 1 := if_pos rfl
            rw [ht f f1 f2, hβ f f1 f2 f f1, b1, Nat.mul_one]
          · intro k hk hne
            obtain ⟨f', g1, g2, g3⟩ := lp_fc_ex (ro := ro) (n := n) (k := k) (by omega)
            have ne : f ≠ f' := fun z => hne (by rw [z, g3])
            have b0 : lp_bs M ro L f' f = 0 := by unfold lp_bs; rw [if_neg ne, if_neg f2]
            rw [← g3, hβ f' g1 g2 f f1, b0, Nat.mul_zero]
        unfold lp_rwt
        rw [x0, e1, Nat.zero_add, Nat.mod_mod]) (fun i hi => by rw [hy.2 i hi, (pl t).2 i hi]) j hj
      rw [Nat.mod_eq_of_lt (hy.1 j hj), Nat.mod_eq_of_lt ((pl t).1 j hj)] at e
      exact e
/-- the model's best plan -/
theorem s221 {d : Nat} {b : Bool} {rk : Nat} {g : lp_M} {r : Nat → Int32} {ro : Nat → Nat} {L D : Nat → Nat → Nat} {bv : Int32} (hbv : bv = nI (if b = true then 1 else 0)) (hr : lp_Ok r) (c : g 344 = r) (hRF : lp_RF (lp_vM r) (lp_vN r) (lp_LT (lp_vA r)) rk ro L D) :
    ∃ g', (∀ q, q < 343 ∨ q = 344 ∨ q = 345 ∨ q = 346 ∨ q = 347 ∨ q = 348 ∨ 360 < q → g' q = g q) ∧ (∀ j, j ≠ 16 → j ≠ 20 → g' 343 j = g 343 j) ∧
      ((¬ lp_InS (lp_vM r) (lp_vN r) (lp_LT (lp_vA r)) 0 (lp_wt r) ∧ lp_rn (d + 21) 221 [.ref 343, .int bv] (lp_s0 g) = some (-2, lp_s0 g')) ∨
       (lp_InS (lp_vM r) (lp_vN r) (lp_LT (lp_vA r)) 0 (lp_wt r) ∧ 60000 < lp_vM r ^ (lp_vN r - rk) ∧ lp_rn (d + 21) 221 [.ref 343, .int bv] (lp_s0 g) = some (-3, lp_s0 g')) ∨
       (lp_InS (lp_vM r) (lp_vN r) (lp_LT (lp_vA r)) 0 (lp_wt r) ∧ ¬ 60000 < lp_vM r ^ (lp_vN r - rk) ∧ lp_rn (d + 21) 221 [.ref 343, .int bv] (lp_s0 g) = some (nI 0, lp_s0 g') ∧ ∃ f, lp_Bst b (lp_vN r) (lp_Pln (lp_vM r) (lp_vN r) (lp_LT (lp_vA r)) (lp_wt r)) f ∧ g' 343 20 = nI (lp_cst b f (lp_vN r)) ∧ ∀ j, j < lp_vN r → g' 358 j = nI (f j))) := by
  have hn : lp_vN r ≤ 10 := hr.2.2.2.1
  have hM := lp_prM hr
  obtain ⟨hM2, hM5⟩ := lp_prBd hM
  obtain ⟨g1, bb, E1, a1, a2, a3⟩ := s207 (d := d + 14) hr c
  have c1 : g1 344 = r := by rw [a1 _ (by omega)]; exact c
  rcases a3 with ⟨rfl, nin⟩ | ⟨rfl, x, hx, hj⟩
  · refine ⟨g1, fun q hq => a1 q (by omega), fun j _ _ => by rw [a1 _ (by omega)], .inl ⟨nin, ?_⟩⟩
    rw [e221_343, E1, Option.bind_some, e221_343_8, if_pos rfl]
  have hin : lp_InS (lp_vM r) (lp_vN r) (lp_LT (lp_vA r)) 0 (lp_wt r) := ⟨x, fun j hj => by omega, hx.2.2.2⟩
  have zr : g1 351 0 = nI rk := by rw [a2.2 0 (by omega), lp_RF_rk hM hn hRF]
  have hrk : rk + 0 ≤ lp_vN r := hRF.2.2.2.1
  have pow10 : lp_vM r ^ (lp_vN r - rk) < 2 ^ 31 := by
    have h1 : lp_vM r ^ (lp_vN r - rk) ≤ 5 ^ (lp_vN r - rk) := Nat.pow_le_pow_left hM5 _
    have h2 : 5 ^ (lp_vN r - rk) ≤ 5 ^ 10 := Nat.pow_le_pow_right (by omega) (by omega)
    have h3 : (5 : Nat) ^ 10 = 9765625 := by decide
    omega
  have pre : lp_rn (d + 21) 221 [.ref 343, .int bv] (lp_s0 g) = (if lp_vM r ^ (lp_vN r - rk) ≤ 60000 then ((lp_rn (d + 20) 209 [.ref 343] (lp_s0 g1)).bind fun z => lp_fn (d + 20) 221 41 [.ref 343, .int bv, .long 0, .long 0, .long 0, .long 0] [] z.2) else some (-3, lp_s0 g1)) := by
    simp (disch := omega) only [e221_343, E1, e221_343_8, e169_343, lp_m1' hr c1, e221_343_19, zr, s202 (lp_m0 hr c1), e221_343_29, nI_leI, nI_ltI, nI_eq, nI_clamp, lp_oobN, nI_add, pk_mul, pk_sub, pk_rem, pk_m1, lp_neg1lt, lp_neg1le, lp_neg1eq, lp_neg1eq2, if_true, if_false, if_pos, if_neg, Option.bind_some, Nat.lt_irrefl, Nat.le_refl, true_and, and_true, false_or, or_false, true_or, or_true, not_true_eq_false, not_false_eq_true, and_self, or_self, false_and, and_false, ite_true, ite_false, reduceIte]
  by_cases hp : 60000 < lp_vM r ^ (lp_vN r - rk)
  · refine ⟨g1, fun q hq => a1 q (by omega), fun j _ _ => by rw [a1 _ (by omega)], .inr (.inl ⟨hin, hp, ?_⟩)⟩
    rw [pre, if_neg (by omega)]
  obtain ⟨g2, E2, b1, b2, b3, b4⟩ := s209 (d := d + 14) hM hn (lp_m0 hr c1) (lp_m1' hr c1) a2 (lp_mA3 hr c1)
  have fq := lp_RF_fq hM hn hRF (Nat.le_refl (lp_vN r))
  have hFn := lp_fc_le ro (lp_vN r)
  rw [fq] at b3
  have c2 : g2 344 = r := by rw [b1 _ (by omega) (by omega) (by omega) (by omega) (by omega) (by omega)]; exact c1
  -- the quiet rows
  have exβ : ∃ β : Nat → Nat → Nat, (∀ k j, k < lp_fc ro (lp_vN r) → j < lp_vN r → g2 355 (10 * k + j) = nI (β k j) ∧ β k j < lp_vM r) ∧ ∀ f, f < lp_vN r → ¬ ro f < 10 → ∀ j, j < lp_vN r → β (lp_fc ro f) j = lp_bs (lp_vM r) ro L f j := by
    have key : ∀ f, f < lp_vN r → ¬ ro f < 10 → ∀ j, j < lp_vN r → g2 355 (10 * lp_fc ro f + j) = nI (lp_bs (lp_vM r) ro L f j) := by
      intro f f1 f2 j hj
      obtain ⟨y, y1, y2⟩ := b4 f f1 fun z => f2 ((lp_RF_piv hM hn hRF f1).mpr z)
      rw [← lp_RF_fq hM hn hRF (Nat.le_of_lt f1), y1 j hj, lp_QB_bs hM hn hRF f1 f2 y2 j hj]
    refine ⟨fun k j => (g2 355 (10 * k + j)).toNatClampNeg, fun k j hk hj => ?_, fun f f1 f2 j hj => ?_⟩
    · obtain ⟨f, f1, f2, f3⟩ := lp_fc_ex hk
      have lt := lp_bs_lt (M := lp_vM r) (n := lp_vN r) (rk := rk) (f := f) (j := j) (L0 := lp_LT (lp_vA r)) (L := L) (D := D) (ro := ro) hM
      have e := key f f1 f2 j hj
      rw [f3] at e
      show g2 355 (10 * k + j) = nI (g2 355 (10 * k + j)).toNatClampNeg ∧ (g2 355 (10 * k + j)).toNatClampNeg < lp_vM r
      rw [e, nI_clamp (by omega)]
      exact ⟨rfl, lt⟩
    · have lt := lp_bs_lt (M := lp_vM r) (n := lp_vN r) (rk := rk) (f := f) (j := j) (L0 := lp_LT (lp_vA r)) (L := L) (D := D) (ro := ro) hM
      show (g2 355 (10 * lp_fc ro f + j)).toNatClampNeg = _
      rw [key f f1 f2 j hj, nI_clamp (by omega)]
  obtain ⟨β, β1, β2⟩ := exβ
  -- the counter is set to 0
  obtain ⟨g3, e3, d1, d2⟩ := lp_itE (fun k (s : lp_M) => lp_fn (d + 20) 221 43 [.ref 343, .int bv, .int (nI k), .long 0, .long 0, .long 0] [] (lp_s0 s))
    (fun k s => (∀ q, q ≠ 360 → s q = g2 q) ∧ ∀ i, i < k → s 360 i = nI 0)
    0 (lp_fc ro (lp_vN r)) g2 (by omega) ⟨fun _ _ => rfl, fun i hi => by omega⟩
    (fun k s _ hk ⟨v1, v2⟩ => by
      have yF : s 343 16 = nI (lp_fc ro (lp_vN r)) := by rw [v1 _ (by omega)]; exact b3
      refine ⟨lp_w s 360 k (nI 0), ?_, fun q hq => by rw [lp_w_ne hq]; exact v1 q hq, fun i hi => ?_⟩
      · show lp_fn (d + 20) 221 43 _ _ _ = lp_fn (d + 20) 221 43 _ _ _
        rw [e221_343_43]
        simp (disch := omega) only [yF, nI_leI, nI_ltI, nI_eq, nI_clamp, lp_oobN, nI_add, pk_mul, pk_sub, pk_rem, pk_m1, lp_neg1lt, lp_neg1le, lp_neg1eq, lp_neg1eq2, if_true, if_false, if_pos, if_neg, Option.bind_some, Nat.lt_irrefl, Nat.le_refl, true_and, and_true, false_or, or_false, true_or, or_true, not_true_eq_false, not_false_eq_true, and_self, or_self, false_and, and_false, ite_true, ite_false, reduceIte]
      · rw [lp_w_eq]
        by_cases e : i = k
        · rw [e, pk_us]
        · rw [pk_un e]; exact v2 i (by omega))
  have yF : g3 343 16 = nI (lp_fc ro (lp_vN r)) := by rw [d1 _ (by omega)]; exact b3
  obtain ⟨g5, c', f', x3', x5', E5, u1, u2, u3, u4, u5, u6⟩ := s221c (d := d) (x := x) (β := β) (F := lp_fc ro (lp_vN r)) (g := lp_w g3 343 20 (nI 1000)) hbv hM hn (by omega) (by rw [lp_w_ne (by omega), d1 _ (by omega)]; exact lp_m0 hr c2) (by rw [lp_w_ne (by omega), d1 _ (by omega)]; exact lp_m1' hr c2) (by rw [lp_w_eq, pk_un (by omega)]; exact yF) (fun j hj' => ⟨by rw [lp_w_ne (by omega), d1 _ (by omega), b1 _ (by omega) (by omega) (by omega) (by omega) (by omega) (by omega)]; exact hj j hj', hx.1 j hj'⟩) (fun k j hk hj => by rw [lp_w_ne (by omega), d1 _ (by omega)]; exact β1 k j hk hj)
    (lp_fc ro (lp_vN r)) (fun _ => 0) (lp_w g3 343 20 (nI 1000)) 1000 (fun _ => 0) (fun _ => False) (.long 0) (.long 0) (.long 0) (Nat.le_refl _) (fun _ _ => by show 0 < lp_vM r; omega) (fun _ _ => rfl) (fun _ _ _ _ _ => rfl) (fun _ _ => rfl) (by rw [lp_w_eq, pk_us]) (fun _ _ => .inr rfl) (fun i hi => by rw [lp_w_ne (by omega)]; exact d2 i hi) (.inl ⟨rfl, fun _ z => z⟩) (fun _ _ _ z => z) (fun _ z => z.elim)
  have bst : c' = lp_cst b f' (lp_vN r) ∧ lp_Bst b (lp_vN r) (lp_Pln (lp_vM r) (lp_vN r) (lp_LT (lp_vA r)) (lp_wt r)) f' := by
    have h := lp_Bs_cg (S' := lp_Pln (lp_vM r) (lp_vN r) (lp_LT (lp_vA r)) (lp_wt r)) (fun y => by
      rw [← lp_all_rows hM hn hRF rfl hx β2 y]
      exact ⟨fun z => z.resolve_left id, fun z => .inr z⟩) u6
    rcases h with ⟨_, z⟩ | ⟨z1, z2⟩
    · exact absurd ⟨hx.1, hx.2.2.2⟩ (z x)
    · exact ⟨z1, z2⟩
  have hc' : ¬ c' = 1000 := by
    have := lp_cst_le (b := b) (x := f') (n := lp_vN r) hM bst.2.1.1
    omega
  have zF : g5 343 16 = nI (lp_fc ro (lp_vN r)) := by rw [u2 _ (by omega), lp_w_eq, pk_un (by omega)]; exact yF
  refine ⟨g5, fun q hq => ?_, fun j h1 h2 => ?_, .inr (.inr ⟨hin, hp, ?_, f', bst.2, by rw [u3, bst.1], fun j hj => (u4 j hj).resolve_right hc'⟩)⟩
  · rw [u1 q (by omega) (by omega) (by omega) (by omega), lp_w_ne (by omega), d1 q (by omega), b1 q (by omega) (by omega) (by omega) (by omega) (by omega) (by omega), a1 q (by omega)]
  · rw [u2 j h2, lp_w_eq, pk_un h2, d1 _ (by omega), b2 j h1, a1 _ (by omega)]
  · rw [pre, if_pos (by omega), E2, Option.bind_some, e221_343_41]
    refine Eq.trans e3 ?_
    show lp_fn (d + 20) 221 43 _ _ _ = _
    rw [e221_343_43, yF, if_pos (Int32.le_refl _)]
    refine Eq.trans E5 ?_
    rw [e221_343_252, zF, if_pos (Int32.le_refl _), if_pos (Int32.le_refl _), e221_343_73, if_pos rfl]
