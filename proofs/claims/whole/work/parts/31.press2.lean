/-! ===== press ===== -/
theorem lp_mid_d {a b : Nat} (f h : Nat → Int32) (ha : a < b) : upd (lp_mid (a + 1) b f h) a (f a) = lp_mid a b f h := by
  funext k
  by_cases e : k = a
  · subst e; rw [pk_us, lp_mid_in (by omega) ha]
  · rw [pk_un e]
    by_cases q : a ≤ k ∧ k < b
    · rw [lp_mid_in (by omega) q.2, lp_mid_in q.1 q.2]
    · rw [lp_mid_out (by omega), lp_mid_out (by omega)]
def lp_shf (h : Nat → Int32) (i : Nat) : Nat → Int32 := lp_mid (i + 1) 20 (fun k => h (k - 1)) h
theorem lp_shf_s {h : Nat → Int32} {i : Nat} (hi : i + 1 < 20) : upd (lp_shf h (i + 1)) (i + 1) (h i) = lp_shf h i := by
  have e := lp_mid_d (a := i + 1) (b := 20) (fun k => h (k - 1)) h hi
  exact e
theorem lp_shf_19 (h : Nat → Int32) : lp_shf h 19 = h := lp_mid0 20 _ h
theorem lp_shf_lo {h : Nat → Int32} {i k : Nat} (hk : k ≤ i) : lp_shf h i k = h k := lp_mid_out (by omega)
theorem lp_shf_hi {h : Nat → Int32} {k : Nat} (hk : k + 1 < 20) : lp_shf h 0 (k + 1) = h k := by
  unfold lp_shf
  rw [lp_mid_in (by omega) hk]
  rfl
def lp_ent (g : lp_M) (x y : Int32) (b : Nat) : lp_M := lp_w (lp_u (lp_u g 16 (upd (lp_shf (g 16) 0) 0 x)) 17 (upd (lp_shf (g 17) 0) 0 y)) 15 0 (nI (min (b + 1) 20))
theorem lp_u_c {α : Type} (g : Nat → Nat → α) {k k' : Nat} (f f' : Nat → α) (h : k ≠ k') : lp_u (lp_u g k f) k' f' = lp_u (lp_u g k' f') k f := by
  funext q
  by_cases e : q = k'
  · subst e; rw [lp_ue, lp_un (Ne.symm h), lp_ue]
  · rw [lp_un e]
    by_cases e2 : q = k
    · subst e2; rw [lp_ue, lp_ue]
    · rw [lp_un e2, lp_un e2, lp_un e]
theorem s1 {d b : Nat} {x y : Int32} {g : lp_M} (hb : b ≤ 20) (h : g 15 0 = nI b) : lp_rn (d + 1) 1 [.ref 15, .int x, .int y] (lp_s0 g) = some (nI 0, lp_s0 (lp_ent g x y b)) := by
  have := lp_iterD (fun i => lp_fn d 1 3 [.ref 15, .int x, .int y, .int (nI i)] [] (lp_s0 (lp_u (lp_u g 16 (lp_shf (g 16) i)) 17 (lp_shf (g 17) i)))) 19 (fun i hi => by
    show lp_fn d 1 3 _ _ _ = _
    have e1 := lp_shf_s (h := g 16) (i := i) (by omega)
    have e2 := lp_shf_s (h := g 17) (i := i) (by omega)
    have e3 : lp_w (lp_u (lp_u g 16 (lp_shf (g 16) (i + 1))) 17 (lp_shf (g 17) (i + 1))) 16 (i + 1) (g 16 i) = lp_u (lp_u g 16 (lp_shf (g 16) i)) 17 (lp_shf (g 17) (i + 1)) := by
      rw [lp_u_c _ _ _ (by omega), lp_w_u, e1, lp_u_c _ _ _ (by omega)]
    rw [e1_15_3]
    simp (disch := omega) only [e1_15_21, nI_leI, nI_ltI, nI_eq, nI_clamp, lp_oobN, nI_add, pk_mul, pk_sub, pk_rem, pk_m1, lp_neg1lt, lp_neg1le, lp_neg1eq, lp_neg1eq2, lp_w_eq, lp_w_ne, lp_ue, lp_un, pk_us, pk_un, lp_w_u, lp_u_u, if_true, if_false, if_pos, if_neg, Option.bind_some, Nat.lt_irrefl, Nat.le_refl, true_and, and_true, false_or, or_false, true_or, or_true, not_true_eq_false, not_false_eq_true, and_self, or_self, false_and, and_false, ite_true, ite_false, reduceIte, Nat.add_sub_cancel, lp_shf_lo, e3]
    simp (disch := omega) only [e1_15_21, nI_leI, nI_ltI, nI_eq, nI_clamp, lp_oobN, nI_add, pk_mul, pk_sub, pk_rem, pk_m1, lp_neg1lt, lp_neg1le, lp_neg1eq, lp_neg1eq2, lp_w_eq, lp_w_ne, lp_ue, lp_un, pk_us, pk_un, lp_w_u, lp_u_u, if_true, if_false, if_pos, if_neg, Option.bind_some, Nat.lt_irrefl, Nat.le_refl, true_and, and_true, false_or, or_false, true_or, or_true, not_true_eq_false, not_false_eq_true, and_self, or_self, false_and, and_false, ite_true, ite_false, reduceIte, Nat.add_sub_cancel, lp_shf_lo, e2])
  rw [lp_shf_19, lp_shf_19, lp_u_id, lp_u_id] at this
  have e2 : (if 20 < b + 1 then nI 20 else nI (b + 1)) = nI (min (b + 1) 20) := by
    by_cases q : 20 < b + 1
    · rw [if_pos q, Nat.min_eq_right (by omega)]
    · rw [if_neg q, Nat.min_eq_left (by omega)]
  rw [e1_15]
  refine Eq.trans this ?_
  rw [e1_15_3]
  have e3 : ∀ (F F' : Nat → Int32), lp_w (lp_u (lp_u g 16 F) 17 F') 16 0 x = lp_u (lp_u g 16 (upd F 0 x)) 17 F' := by
    intro F F'
    rw [lp_u_c _ _ _ (by omega), lp_w_u, lp_u_c _ _ _ (by omega)]
  simp (disch := omega) only [e1_15_48, e1_15_55, nI_leI, nI_ltI, nI_eq, nI_clamp, lp_oobN, nI_add, pk_mul, pk_sub, pk_rem, pk_m1, lp_neg1lt, lp_neg1le, lp_neg1eq, lp_neg1eq2, if_true, if_false, if_pos, if_neg, Option.bind_some, Nat.lt_irrefl, Nat.le_refl, true_and, and_true, false_or, or_false, true_or, or_true, not_true_eq_false, not_false_eq_true, and_self, or_self, false_and, and_false, ite_true, ite_false, reduceIte, e3]
  simp (disch := omega) only [h, nI_leI, nI_ltI, nI_eq, nI_clamp, lp_oobN, nI_add, pk_mul, pk_sub, pk_rem, pk_m1, lp_neg1lt, lp_neg1le, lp_neg1eq, lp_neg1eq2, lp_w_eq, lp_w_ne, lp_ue, lp_un, pk_us, pk_un, lp_w_u, lp_u_u, if_true, if_false, if_pos, if_neg, Option.bind_some, Nat.lt_irrefl, Nat.le_refl, true_and, and_true, false_or, or_false, true_or, or_true, not_true_eq_false, not_false_eq_true, and_self, or_self, false_and, and_false, ite_true, ite_false, reduceIte, e2]
  rfl
def lp_prA (r : Nat → Int32) (l t : Nat) : Nat → Int32 := upd (lp_mvd r (fun k => t * lp_vA r l k) (lp_vN r)) 2 (r 2 + nI t)
def lp_prS (r : Nat → Int32) : Nat → Int32 := upd (lp_mid 134 172 (fun k => r (k + 2)) r) 3 (nI 19)
def lp_prB (r : Nat → Int32) (b l t : Nat) : Nat → Int32 := upd (upd (upd r (134 + 2 * b) (nI l)) (134 + 2 * b + 1) (nI t)) 3 (nI (b + 1))
def lp_prs (r : Nat → Int32) (l t : Nat) : Nat → Int32 := if lp_vB r = 20 then lp_prB (lp_prS (lp_prA r l t)) 19 l t else lp_prB (lp_prA r l t) (lp_vB r) l t
theorem lp_prs_at {r : Nat → Int32} {l t k : Nat} (h : k < 134) (h2 : k ≠ 2) (h3 : k ≠ 3) (hb : lp_vB r ≤ 20) : lp_prs r l t k = lp_mvd r (fun k => t * lp_vA r l k) (lp_vN r) k := by
  unfold lp_prs lp_prB lp_prS lp_prA
  by_cases e : lp_vB r = 20
  · rw [if_pos e, pk_un (by omega), pk_un (by omega), pk_un (by omega), pk_un (by omega), lp_mid_out (by omega), pk_un (by omega)]
  · rw [if_neg e, pk_un (by omega), pk_un (by omega), pk_un (by omega), pk_un (by omega)]
theorem lp_prs_2 {r : Nat → Int32} {l t : Nat} : lp_prs r l t 2 = r 2 + nI t := by
  unfold lp_prs lp_prB lp_prS lp_prA
  by_cases e : lp_vB r = 20
  · rw [if_pos e, pk_un (by omega), pk_un (by omega), pk_un (by omega), pk_un (by omega), lp_mid_out (by omega), pk_us]
  · rw [if_neg e, pk_un (by omega), pk_un (by omega), pk_un (by omega), pk_us]
theorem lp_prs_3 {r : Nat → Int32} {l t : Nat} (hb : lp_vB r ≤ 20) : lp_prs r l t 3 = nI (min (lp_vB r + 1) 20) := by
  unfold lp_prs lp_prB
  by_cases e : lp_vB r = 20
  · rw [if_pos e, pk_us, e]; rfl
  · rw [if_neg e, pk_us, Nat.min_eq_left (by omega)]
theorem lp_prs_b {r : Nat → Int32} {l t : Nat} (hn : lp_vN r ≤ 10) (hb : lp_vB r ≤ 20) : (lp_prs r l t (134 + 2 * (min (lp_vB r + 1) 20 - 1)) = nI l ∧ lp_prs r l t (134 + 2 * (min (lp_vB r + 1) 20 - 1) + 1) = nI t) ∧ ∀ k, k + 1 < min (lp_vB r + 1) 20 → lp_prs r l t (134 + 2 * (min (lp_vB r + 1) 20 - 1 - (k + 1))) = r (134 + 2 * (lp_vB r - 1 - k)) ∧ lp_prs r l t (134 + 2 * (min (lp_vB r + 1) 20 - 1 - (k + 1)) + 1) = r (134 + 2 * (lp_vB r - 1 - k) + 1) := by
  unfold lp_prs lp_prB lp_prS lp_prA
  by_cases e : lp_vB r = 20
  · simp only [if_pos e]
    rw [e]
    have e1 : min (20 + 1) 20 = 20 := by omega
    rw [e1]
    refine ⟨⟨?_, ?_⟩, fun k hk => ⟨?_, ?_⟩⟩
    · rw [pk_un (by omega), pk_un (by omega), pk_us]
    · rw [pk_un (by omega), pk_us]
    · rw [pk_un (by omega), pk_un (by omega), pk_un (by omega), pk_un (by omega), lp_mid_in (by omega) (by omega), pk_un (by omega), lp_mvd_out (by omega)]
      exact lp_at r (by omega)
    · rw [pk_un (by omega), pk_un (by omega), pk_un (by omega), pk_un (by omega), lp_mid_in (by omega) (by omega), pk_un (by omega), lp_mvd_out (by omega)]
      exact lp_at r (by omega)
  · simp only [if_neg e]
    have e1 : min (lp_vB r + 1) 20 = lp_vB r + 1 := by omega
    rw [e1]
    refine ⟨⟨?_, ?_⟩, fun k hk => ⟨?_, ?_⟩⟩
    · rw [pk_un (by omega), pk_un (by omega), Nat.add_sub_cancel, pk_us]
    · rw [pk_un (by omega), Nat.add_sub_cancel, pk_us]
    · rw [pk_un (by omega), pk_un (by omega), pk_un (by omega), pk_un (by omega), lp_mvd_out (by omega)]
      exact lp_at r (by omega)
    · rw [pk_un (by omega), pk_un (by omega), pk_un (by omega), pk_un (by omega), lp_mvd_out (by omega)]
      exact lp_at r (by omega)
theorem lp_prs_ok {r : Nat → Int32} (l t : Nat) (hr : lp_Ok r) : lp_Ok (lp_prs r l t) ∧ lp_Same r (lp_prs r l t) := by
  have hn : lp_vN r ≤ 10 := hr.2.2.2.1
  have hb : lp_vB r ≤ 20 := hr.2.2.2.2.2.2.2.2.2
  have hm0 : 0 < lp_vM r := by have := hr.2.1; omega
  refine lp_Ok_of hr (fun k hk => ?_) (fun i hi => ⟨(lp_vS r i + t * lp_vA r l i) % lp_vM r, Nat.mod_lt _ hm0, ?_⟩) (fun i hi => ⟨lp_vG r i, (hr.2.2.2.2.2.1 i hi).2, ?_⟩) ⟨min (lp_vB r + 1) 20, by omega, lp_prs_3 hb⟩
  · rw [lp_prs_at (by omega) (by omega) (by omega) hb, lp_mvd_out (by omega)]
  · rw [lp_prs_at (by omega) (by omega) (by omega) hb, lp_mvd_in hi]
  · rw [lp_prs_at (by omega) (by omega) (by omega) hb, lp_mvd_out (by omega)]; exact (hr.2.2.2.2.2.1 i hi).1
theorem lp_mul_le {a b c e : Nat} (h1 : a ≤ c) (h2 : b ≤ e) : a * b ≤ c * e := Nat.mul_le_mul h1 h2
theorem s27 {d l t : Nat} {g : lp_M} {r : Nat → Int32} (hr : lp_Ok r) (c : lp_CN g 1 r) (hl : l < lp_vN r) (ht : t ≤ 9) : ∃ g', lp_rn (d + 2) 27 [.ref 1, .int (nI l), .int (nI t)] (lp_s0 g) = some (nI 0, lp_s0 g') ∧ (∀ q, q = 0 ∨ 18 ≤ q → g' q = g q) ∧ lp_CN g' 1 (lp_prs r l t) := by
  have hn : lp_vN r ≤ 10 := hr.2.2.2.1
  have hb : lp_vB r ≤ 20 := hr.2.2.2.2.2.2.2.2.2
  have hm : lp_vM r ≤ 5 := by have := hr.2.1; omega
  have hm0 : 0 < lp_vM r := by have := hr.2.1; omega
  have g10 : g 1 0 = nI (lp_vM r) := c.1.trans hr.1
  have g11 : g 1 1 = nI (lp_vN r) := c.2.1.trans hr.2.2.1
  have := lp_iter (fun i => lp_fn (d + 1) 27 2 [.ref 1, .int (nI l), .int (nI t), .int (nI i)] [] (lp_s0 (lp_u g 2 (lp_pre i (fun k => nI ((lp_vS r k + t * lp_vA r l k) % lp_vM r)) (g 2))))) (lp_vN r) (fun i hi => by
    show lp_fn (d + 1) 27 2 _ _ _ = _
    have f := (hr.2.2.2.2.1 i hi).2
    have e : g 2 i = nI (lp_vS r i) := by rw [c.2.2.2.2.1 i hi]; exact (hr.2.2.2.2.1 i hi).1
    have f2 := hr.2.2.2.2.2.2.1 l i hl hi
    have e1 : g (4 + 1 + l) i = nI (lp_vA r l i) := by rw [← f2.1]; exact c.2.2.2.2.2.2.1 l i hl hi
    have e2 := lp_pre_s i (fun k => nI ((lp_vS r k + t * lp_vA r l k) % lp_vM r)) (g 2)
    have hb := lp_mul_le ht (Nat.le_of_lt f2.2.1)
    rw [e27_1_2]
    simp (disch := omega) only [lp_w_eq, lp_w_ne, lp_ue, lp_un, pk_us, pk_un, lp_w_u, lp_u_u, g10, g11, lp_pre_out, e, e1, lp_rA4, lp_rB4, s159, e27_1_39, e2, nI_leI, nI_ltI, nI_eq, nI_clamp, lp_oobN, nI_add, pk_mul, pk_sub, pk_rem, pk_m1, lp_neg1lt, lp_neg1le, lp_neg1eq, lp_neg1eq2, if_true, if_false, if_pos, if_neg, Option.bind_some, Nat.lt_irrefl, Nat.le_refl, true_and, and_true, false_or, or_false, true_or, or_true, not_true_eq_false, not_false_eq_true, and_self, or_self, false_and, and_false, ite_true, ite_false, reduceIte])
  rw [lp_pre0, lp_u_id] at this
  have z1 : g 15 0 = nI (lp_vB r) := by rw [← hr.2.2.2.2.2.2.2.2.1]; exact c.2.2.2.1
  refine ⟨lp_ent (lp_w (lp_u g 2 (lp_pre (lp_vN r) (fun k => nI ((lp_vS r k + t * lp_vA r l k) % lp_vM r)) (g 2))) 1 2 (g 1 2 + nI t)) (nI l) (nI t) (lp_vB r), ?_, ?_, ?_⟩
  · rw [e27_1]
    refine Eq.trans this ?_
    rw [e27_1_2]
    have z2 : lp_w (lp_u g 2 (lp_pre (lp_vN r) (fun k => nI ((lp_vS r k + t * lp_vA r l k) % lp_vM r)) (g 2))) 1 2 (g 1 2 + nI t) 15 0 = nI (lp_vB r) := by
      rw [lp_w_ne (by omega), lp_un (by omega)]; exact z1
    simp (disch := omega) only [lp_un, g11, nI_leI, nI_ltI, nI_eq, nI_clamp, lp_oobN, nI_add, pk_mul, pk_sub, pk_rem, pk_m1, lp_neg1lt, lp_neg1le, lp_neg1eq, lp_neg1eq2, if_true, if_false, if_pos, if_neg, Option.bind_some, Nat.lt_irrefl, Nat.le_refl, true_and, and_true, false_or, or_false, true_or, or_true, not_true_eq_false, not_false_eq_true, and_self, or_self, false_and, and_false, ite_true, ite_false, reduceIte, s1 hb z2, e27_1_65]
  · intro q hq
    unfold lp_ent
    rw [lp_w_ne (by omega), lp_un (by omega), lp_un (by omega), lp_w_ne (by omega), lp_un (by omega)]
  · have cc := c
    obtain ⟨b0, b1, b2, b3, b4, b5, b6, b7⟩ := c
    have eb : lp_vB (lp_prs r l t) = min (lp_vB r + 1) 20 := by unfold lp_vB; rw [lp_prs_3 hb, nI_clamp (by omega)]; rfl
    obtain ⟨⟨q1, q2⟩, q3⟩ := lp_prs_b (l := l) (t := t) hn hb
    refine lp_CN_of hn cc (fun k hk => by rw [lp_prs_at (by omega) (by omega) (by omega) hb, lp_mvd_out (by omega)]) ?_ ?_ ?_ ?_ ?_ ?_ ?_ ?_
    · unfold lp_ent
      rw [lp_w_ne (by omega), lp_un (by omega), lp_un (by omega), lp_w_eq, pk_un (by omega), lp_un (by omega)]
    · unfold lp_ent
      rw [lp_w_ne (by omega), lp_un (by omega), lp_un (by omega), lp_w_eq, pk_un (by omega), lp_un (by omega)]
    · unfold lp_ent
      rw [lp_w_ne (by omega), lp_un (by omega), lp_un (by omega), lp_w_eq, pk_us, lp_prs_2, b2]
    · unfold lp_ent
      rw [lp_w_eq, pk_us, lp_prs_3 hb]
    · intro i hi
      unfold lp_ent
      rw [lp_w_ne (by omega), lp_un (by omega), lp_un (by omega), lp_w_ne (by omega), lp_ue, lp_pre_in hi, lp_prs_at (by omega) (by omega) (by omega) hb, lp_mvd_in hi]
    · intro i hi
      unfold lp_ent
      rw [lp_w_ne (by omega), lp_un (by omega), lp_un (by omega), lp_w_ne (by omega), lp_un (by omega), lp_prs_at (by omega) (by omega) (by omega) hb, lp_mvd_out (by omega)]
      exact b5 i hi
    · intro q h1 h2
      unfold lp_ent
      rw [lp_w_ne (by omega), lp_un (by omega), lp_un (by omega), lp_w_ne (by omega), lp_un (by omega)]
    · rw [eb]
      intro k hk
      unfold lp_ent
      simp (disch := omega) only [lp_w_ne, lp_un, lp_ue]
      rcases k with _ | k
      · rw [pk_us, pk_us, Nat.sub_zero, q1, q2]; exact ⟨rfl, rfl⟩
      · rw [pk_un (by omega), pk_un (by omega), lp_shf_hi (by omega), lp_shf_hi (by omega), (q3 k hk).1, (q3 k hk).2]
        exact b7 k (by omega)
theorem s186 {d l t : Nat} {g : lp_M} {r : Nat → Int32} (hr : lp_Ok r) (c : g 344 = r) (hl : l < lp_vN r) (ht : t ≤ 9) : lp_rn (d + 3) 186 [.ref 343, .int (nI l), .int (nI t)] (lp_s0 g) = some (nI 0, lp_s0 (lp_u g 344 (lp_prs r l t))) := by
  have hn : lp_vN r ≤ 10 := hr.2.2.2.1
  have hb : lp_vB r ≤ 20 := hr.2.2.2.2.2.2.2.2.2
  have hm : lp_vM r ≤ 5 := by have := hr.2.1; omega
  have hm0 : ¬ lp_vM r = 0 := by have := hr.2.1; omega
  have h3 := hr.2.2.2.2.2.2.2.2.1
  have := lp_iter (fun i => lp_fn (d + 2) 186 2 [.ref 343, .int (nI l), .int (nI t), .int (nI i)] [] (lp_s0 (lp_u g 344 (lp_mvd r (fun k => t * lp_vA r l k) i)))) (lp_vN r) (fun i hi => by
    show lp_fn (d + 2) 186 2 _ _ _ = _
    have f := (hr.2.2.2.2.1 i hi).2
    have fA := hr.2.2.2.2.2.2.1 l i hl hi
    have f0 : lp_mvd r (fun k => t * lp_vA r l k) i 0 = nI (lp_vM r) := by rw [lp_mvd_out (by omega)]; exact hr.1
    have f1 : lp_mvd r (fun k => t * lp_vA r l k) i 1 = nI (lp_vN r) := by rw [lp_mvd_out (by omega)]; exact hr.2.2.1
    have f2 : lp_mvd r (fun k => t * lp_vA r l k) i (4 + i) = nI (lp_vS r i) := by rw [lp_mvd_out (by omega)]; exact (hr.2.2.2.2.1 i hi).1
    have f3 : lp_stp (lp_mvd r (fun k => t * lp_vA r l k) i) l i = nI (lp_vA r l i) := by
      rw [← fA.1]
      unfold lp_stp
      rw [lp_mvd_out (by omega), lp_mvd_out (by omega)]
    have e := lp_mvd_s r (fun k => t * lp_vA r l k) i
    have hb := lp_mul_le ht (Nat.le_of_lt fA.2.1)
    rw [e186_343_2]
    simp (disch := omega) only [e169_343, e168_343, s185, lp_w_eq, lp_w_ne, lp_ue, lp_un, pk_us, pk_un, lp_w_u, lp_u_u, f0, f1, f2, f3, e186_343_7, e186_343_32, e186_343_38, hm0, nI_leI, nI_ltI, nI_eq, nI_clamp, lp_oobN, nI_add, pk_mul, pk_sub, pk_rem, pk_m1, lp_neg1lt, lp_neg1le, lp_neg1eq, lp_neg1eq2, if_true, if_false, if_pos, if_neg, Option.bind_some, Nat.lt_irrefl, Nat.le_refl, true_and, and_true, false_or, or_false, true_or, or_true, not_true_eq_false, not_false_eq_true, and_self, or_self, false_and, and_false, ite_true, ite_false, reduceIte, e])
  rw [lp_mvd0, ← c, lp_u_id, c] at this
  rw [e186_343]
  refine Eq.trans this ?_
  have f1 : lp_mvd r (fun k => t * lp_vA r l k) (lp_vN r) 1 = nI (lp_vN r) := by rw [lp_mvd_out (by omega)]; exact hr.2.2.1
  have f2 : lp_mvd r (fun k => t * lp_vA r l k) (lp_vN r) 2 = r 2 := lp_mvd_out (by omega)
  rw [e186_343_2]
  have e1 : upd (lp_mvd r (fun k => t * lp_vA r l k) (lp_vN r)) 2 (r 2 + nI t) = lp_prA r l t := rfl
  simp (disch := omega) only [e169_343, lp_w_eq, lp_w_ne, lp_ue, lp_un, pk_us, pk_un, lp_w_u, lp_u_u, f1, f2, e186_343_7, nI_leI, nI_ltI, nI_eq, nI_clamp, lp_oobN, nI_add, pk_mul, pk_sub, pk_rem, pk_m1, lp_neg1lt, lp_neg1le, lp_neg1eq, lp_neg1eq2, if_true, if_false, if_pos, if_neg, Option.bind_some, Nat.lt_irrefl, Nat.le_refl, true_and, and_true, false_or, or_false, true_or, or_true, not_true_eq_false, not_false_eq_true, and_self, or_self, false_and, and_false, ite_true, ite_false, reduceIte, e1]
  have a3 : lp_prA r l t 3 = nI (lp_vB r) := by unfold lp_prA; rw [pk_un (by omega), lp_mvd_out (by omega)]; exact h3
  rw [e186_343_56]
  unfold lp_prs
  by_cases h20 : lp_vB r = 20
  · rw [if_pos h20]
    have := lp_iterF (fun i => lp_fn (d + 2) 186 69 [.ref 343, .int (nI l), .int (nI t), .int (nI i)] [] (lp_s0 (lp_u g 344 (lp_mid 134 (132 + i) (fun k => lp_prA r l t (k + 2)) (lp_prA r l t))))) 2 40 (by omega) (fun i h2 hi => by
      show lp_fn (d + 2) 186 69 _ _ _ = _
      have e := lp_mid_s (a := 134) (i := 132 + i) (fun k => lp_prA r l t (k + 2)) (lp_prA r l t) (by omega)
      have e0 : 132 + i + 2 = 134 + i := by omega
      have e1 : 134 + i - 2 = 132 + i := by omega
      rw [e0] at e
      rw [e186_343_69]
      simp (disch := omega) only [lp_w_eq, lp_w_ne, lp_ue, lp_un, pk_us, pk_un, lp_w_u, lp_u_u, lp_mid_out, e1, e, nI_leI, nI_ltI, nI_eq, nI_clamp, lp_oobN, nI_add, pk_mul, pk_sub, pk_rem, pk_m1, lp_neg1lt, lp_neg1le, lp_neg1eq, lp_neg1eq2, if_true, if_false, if_pos, if_neg, Option.bind_some, Nat.lt_irrefl, Nat.le_refl, true_and, and_true, false_or, or_false, true_or, or_true, not_true_eq_false, not_false_eq_true, and_self, or_self, false_and, and_false, ite_true, ite_false, reduceIte, Nat.add_assoc])
    have e0 : lp_mid 134 (132 + 2) (fun k => lp_prA r l t (k + 2)) (lp_prA r l t) = lp_prA r l t := lp_mid0 _ _ _
    rw [e0] at this
    have a4 : lp_mid 134 (132 + 40) (fun k => lp_prA r l t (k + 2)) (lp_prA r l t) 3 = nI 20 := by rw [lp_mid_out (by omega), a3, h20]
    have e5 : upd (lp_mid 134 (132 + 40) (fun k => lp_prA r l t (k + 2)) (lp_prA r l t)) 3 (nI (20 - 1)) = lp_prS (lp_prA r l t) := rfl
    have a5 : lp_prS (lp_prA r l t) 3 = nI 19 := pk_us
    simp (disch := omega) only [lp_w_eq, lp_w_ne, lp_ue, lp_un, pk_us, pk_un, lp_w_u, lp_u_u, a3, h20, if_true, if_false, if_pos, if_neg, Option.bind_some, Nat.lt_irrefl, Nat.le_refl, true_and, and_true, false_or, or_false, true_or, or_true, not_true_eq_false, not_false_eq_true, and_self, or_self, false_and, and_false, ite_true, ite_false, reduceIte, this]
    rw [e186_343_69]
    simp (disch := omega) only [lp_w_eq, lp_w_ne, lp_ue, lp_un, pk_us, pk_un, lp_w_u, lp_u_u, a4, nI_leI, nI_ltI, nI_eq, nI_clamp, lp_oobN, nI_add, pk_mul, pk_sub, pk_rem, pk_m1, lp_neg1lt, lp_neg1le, lp_neg1eq, lp_neg1eq2, if_true, if_false, if_pos, if_neg, Option.bind_some, Nat.lt_irrefl, Nat.le_refl, true_and, and_true, false_or, or_false, true_or, or_true, not_true_eq_false, not_false_eq_true, and_self, or_self, false_and, and_false, ite_true, ite_false, reduceIte, e5, e186_343_113, a5]
    simp (disch := omega) only [lp_w_eq, lp_w_ne, lp_ue, lp_un, pk_us, pk_un, lp_w_u, lp_u_u, a5, nI_leI, nI_ltI, nI_eq, nI_clamp, lp_oobN, nI_add, pk_mul, pk_sub, pk_rem, pk_m1, lp_neg1lt, lp_neg1le, lp_neg1eq, lp_neg1eq2, if_true, if_false, if_pos, if_neg, Option.bind_some, Nat.lt_irrefl, Nat.le_refl, true_and, and_true, false_or, or_false, true_or, or_true, not_true_eq_false, not_false_eq_true, and_self, or_self, false_and, and_false, ite_true, ite_false, reduceIte, e186_343_131, e186_343_151]
    rfl
  · rw [if_neg h20]
    simp (disch := omega) only [lp_w_eq, lp_w_ne, lp_ue, lp_un, pk_us, pk_un, lp_w_u, lp_u_u, a3, h20, nI_leI, nI_ltI, nI_eq, nI_clamp, lp_oobN, nI_add, pk_mul, pk_sub, pk_rem, pk_m1, lp_neg1lt, lp_neg1le, lp_neg1eq, lp_neg1eq2, if_true, if_false, if_pos, if_neg, Option.bind_some, Nat.lt_irrefl, Nat.le_refl, true_and, and_true, false_or, or_false, true_or, or_true, not_true_eq_false, not_false_eq_true, and_self, or_self, false_and, and_false, ite_true, ite_false, reduceIte, e186_343_113]
    simp (disch := omega) only [lp_w_eq, lp_w_ne, lp_ue, lp_un, pk_us, pk_un, lp_w_u, lp_u_u, a3, nI_leI, nI_ltI, nI_eq, nI_clamp, lp_oobN, nI_add, pk_mul, pk_sub, pk_rem, pk_m1, lp_neg1lt, lp_neg1le, lp_neg1eq, lp_neg1eq2, if_true, if_false, if_pos, if_neg, Option.bind_some, Nat.lt_irrefl, Nat.le_refl, true_and, and_true, false_or, or_false, true_or, or_true, not_true_eq_false, not_false_eq_true, and_self, or_self, false_and, and_false, ite_true, ite_false, reduceIte, e186_343_131, e186_343_151]
    rfl
theorem st_press {L : Nat} {xs : Nat → Int32} {Ca : lp_M → (Nat → Int32) → Prop} (H : lp_CaOk Ca) (x y : Int32) : lp_St (lp_Inv L xs Ca) 87 187 [.int x, .int y] := by
  intro g hI
  have hI0 := hI
  obtain ⟨hs, r, a, p, t, T, c4, c5, c6, c7⟩ := hI
  have hn : lp_vN r ≤ 10 := c4.2.2.2.1
  have hm : lp_vM r ≤ 5 := by have := c4.2.1; omega
  have hm0 : 0 < lp_vM r := by have := c4.2.1; omega
  have hm2 : lp_vM r ≤ 10 := by omega
  have g10 : g 1 0 = nI (lp_vM r) := c5.1.1.trans c4.1
  have g11 : g 1 1 = nI (lp_vN r) := c5.1.2.1.trans c4.2.2.1
  have m0 : g 344 0 = nI (lp_vM r) := by rw [c7.1]; exact c4.1
  have m1 : g 344 1 = nI (lp_vN r) := by rw [c7.1]; exact c4.2.2.1
  have ha : a ≤ 12 := c5.2.1.1
  rcases lp_ix x (n := lp_vN r) (by omega) with hx | ⟨l, hl, rfl⟩
  · refine lp_nay H hI0 (v := -1) ?_ ⟨g, ?_, lp_Msc_rfl g⟩
    · simp (disch := omega) only [e87_0, s18o g11 hx, e87_0_8, if_true, if_false, if_pos, if_neg, Option.bind_some, Nat.lt_irrefl, Nat.le_refl, true_and, and_true, false_or, or_false, true_or, or_true, not_true_eq_false, not_false_eq_true, and_self, or_self, false_and, and_false, ite_true, ite_false, reduceIte]
    · simp (disch := omega) only [e187_343, s170o m1 hn hx, e187_343_5, if_true, if_false, if_pos, if_neg, Option.bind_some, Nat.lt_irrefl, Nat.le_refl, true_and, and_true, false_or, or_false, true_or, or_true, not_true_eq_false, not_false_eq_true, and_self, or_self, false_and, and_false, ite_true, ite_false, reduceIte]
  rcases pk_ix y (n := 10) (by omega) with hy | hy | ⟨t', ht, rfl⟩
  · have hy2 : y < nI 1 := Int32.lt_trans hy (nI_lt (a := 0) (b := 1) (by omega) (by omega))
    refine lp_nay H hI0 (v := -1) ?_ ⟨g, ?_, lp_Msc_rfl g⟩
    · simp (disch := omega) only [e87_0, s18i g11 hl hn, e87_0_8, hy2, nI_leI, nI_ltI, nI_eq, nI_clamp, lp_oobN, nI_add, pk_mul, pk_sub, pk_rem, pk_m1, lp_neg1lt, lp_neg1le, lp_neg1eq, lp_neg1eq2, if_true, if_false, if_pos, if_neg, Option.bind_some, Nat.lt_irrefl, Nat.le_refl, true_and, and_true, false_or, or_false, true_or, or_true, not_true_eq_false, not_false_eq_true, and_self, or_self, false_and, and_false, ite_true, ite_false, reduceIte]
    · simp (disch := omega) only [e187_343, s170i m1 hl hn, e187_343_5, e163, hy2, e187_343_15, nI_leI, nI_ltI, nI_eq, nI_clamp, lp_oobN, nI_add, pk_mul, pk_sub, pk_rem, pk_m1, lp_neg1lt, lp_neg1le, lp_neg1eq, lp_neg1eq2, if_true, if_false, if_pos, if_neg, Option.bind_some, Nat.lt_irrefl, Nat.le_refl, true_and, and_true, false_or, or_false, true_or, or_true, not_true_eq_false, not_false_eq_true, and_self, or_self, false_and, and_false, ite_true, ite_false, reduceIte]
  · have hy2 : ¬ y < nI 1 := by
      rw [Int32.not_lt]
      exact Int32.le_trans (nI_le (a := 1) (b := 10) (by omega) (by omega)) hy
    have hy3 : nI 9 < y := Int32.lt_of_lt_of_le (nI_lt (a := 9) (b := 10) (by omega) (by omega)) hy
    have hy4 : ¬ y ≤ nI 9 := by rw [Int32.not_le]; exact hy3
    refine lp_nay H hI0 (v := -1) ?_ ⟨g, ?_, lp_Msc_rfl g⟩
    · simp (disch := omega) only [e87_0, s18i g11 hl hn, e87_0_8, hy2, hy4, nI_leI, nI_ltI, nI_eq, nI_clamp, lp_oobN, nI_add, pk_mul, pk_sub, pk_rem, pk_m1, lp_neg1lt, lp_neg1le, lp_neg1eq, lp_neg1eq2, if_true, if_false, if_pos, if_neg, Option.bind_some, Nat.lt_irrefl, Nat.le_refl, true_and, and_true, false_or, or_false, true_or, or_true, not_true_eq_false, not_false_eq_true, and_self, or_self, false_and, and_false, ite_true, ite_false, reduceIte]
    · simp (disch := omega) only [e187_343, s170i m1 hl hn, e187_343_5, e163, hy2, hy3, e187_343_15, nI_leI, nI_ltI, nI_eq, nI_clamp, lp_oobN, nI_add, pk_mul, pk_sub, pk_rem, pk_m1, lp_neg1lt, lp_neg1le, lp_neg1eq, lp_neg1eq2, if_true, if_false, if_pos, if_neg, Option.bind_some, Nat.lt_irrefl, Nat.le_refl, true_and, and_true, false_or, or_false, true_or, or_true, not_true_eq_false, not_false_eq_true, and_self, or_self, false_and, and_false, ite_true, ite_false, reduceIte]
  by_cases ht0 : t' < 1
  · refine lp_nay H hI0 (v := -1) ?_ ⟨g, ?_, lp_Msc_rfl g⟩
    · simp (disch := omega) only [e87_0, s18i g11 hl hn, e87_0_8, nI_leI, nI_ltI, nI_eq, nI_clamp, lp_oobN, nI_add, pk_mul, pk_sub, pk_rem, pk_m1, lp_neg1lt, lp_neg1le, lp_neg1eq, lp_neg1eq2, if_true, if_false, if_pos, if_neg, Option.bind_some, Nat.lt_irrefl, Nat.le_refl, true_and, and_true, false_or, or_false, true_or, or_true, not_true_eq_false, not_false_eq_true, and_self, or_self, false_and, and_false, ite_true, ite_false, reduceIte]
    · simp (disch := omega) only [e187_343, s170i m1 hl hn, e187_343_5, e163, e187_343_15, nI_leI, nI_ltI, nI_eq, nI_clamp, lp_oobN, nI_add, pk_mul, pk_sub, pk_rem, pk_m1, lp_neg1lt, lp_neg1le, lp_neg1eq, lp_neg1eq2, if_true, if_false, if_pos, if_neg, Option.bind_some, Nat.lt_irrefl, Nat.le_refl, true_and, and_true, false_or, or_false, true_or, or_true, not_true_eq_false, not_false_eq_true, and_self, or_self, false_and, and_false, ite_true, ite_false, reduceIte]
  · have hr := lp_prs_ok l t' c4
    refine lp_act H hs c4 c5 c6 c7 (fl := lp_fl1) (Fl := lp_Fl1) (v := lp_prs r l t' (4 + l)) (r' := lp_prs r l t') (a' := min (a + 1) 12) (p' := lp_push r p) (.inl ⟨rfl, rfl, hr.2⟩) hr.1 ?_ ?_
    · obtain ⟨g1, E, k1, k2, k3⟩ := s133 (d := 35) c4 c5.1 c5.2.1
      obtain ⟨k4, k5⟩ := lp_CN_keep (.inl ⟨rfl, rfl⟩) c4 k1 c5.1
      obtain ⟨g2, E2, k6, k7⟩ := s27 (d := 37) (t := t') c4 k5 hl (by omega)
      refine ⟨g2, ?_, lp_CA_of (.inl ⟨rfl, rfl⟩) k1 k2 k3 k6 k7⟩
      have e := k7.2.2.2.2.1 l (by rw [hr.2.2.1]; exact hl)
      simp (disch := omega) only [e87_0, s18i g11 hl hn, e87_0_8, E, e87_0_28, E2, e87_0_37, nI_leI, nI_ltI, nI_eq, nI_clamp, lp_oobN, nI_add, pk_mul, pk_sub, pk_rem, pk_m1, lp_neg1lt, lp_neg1le, lp_neg1eq, lp_neg1eq2, if_true, if_false, if_pos, if_neg, Option.bind_some, Nat.lt_irrefl, Nat.le_refl, true_and, and_true, false_or, or_false, true_or, or_true, not_true_eq_false, not_false_eq_true, and_self, or_self, false_and, and_false, ite_true, ite_false, reduceIte]
      rw [e]
    · intro g1 h344 hmp
      have m0 : g1 344 0 = nI (lp_vM r) := by rw [h344]; exact c4.1
      have m1 : g1 344 1 = nI (lp_vN r) := by rw [h344]; exact c4.2.2.1
      obtain ⟨g2, E, k1, k2⟩ := s167 (d := 38) ha hmp
      have e344 := lp_MA_keep k1
      have E2 := s186 (d := 36) (t := t') c4 (e344.trans h344) hl (by omega)
      refine ⟨lp_u g2 344 (lp_prs r l t'), ?_, ?_⟩
      · simp (disch := omega) only [e187_343, s170i m1 hl hn, e187_343_5, e163, e187_343_15, E, e187_343_24, E2, e187_343_30, lp_w_eq, lp_w_ne, lp_ue, lp_un, pk_us, pk_un, lp_w_u, lp_u_u, nI_leI, nI_ltI, nI_eq, nI_clamp, lp_oobN, nI_add, pk_mul, pk_sub, pk_rem, pk_m1, lp_neg1lt, lp_neg1le, lp_neg1eq, lp_neg1eq2, if_true, if_false, if_pos, if_neg, Option.bind_some, Nat.lt_irrefl, Nat.le_refl, true_and, and_true, false_or, or_false, true_or, or_true, not_true_eq_false, not_false_eq_true, and_self, or_self, false_and, and_false, ite_true, ite_false, reduceIte]
      · have := lp_MA_of (g2 := lp_u g2 344 (lp_prs r l t')) k1 k2 (fun q k h _ => by rw [lp_un h])
        rw [lp_ue, h344] at this
        exact this
