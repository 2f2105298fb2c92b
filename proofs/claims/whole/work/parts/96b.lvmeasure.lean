/-! ===== levels: the class measures ===== -/
theorem lp_Lm_j {n τ σ : Nat} {tl sl : Nat → Nat} {P Q : Nat → Prop} (h1 : lp_Lm n τ tl (fun j => P j ∧ Q j)) (h2 : lp_Lm n σ sl (fun j => P j ∧ ¬ Q j)) : lp_Lm n (τ + σ) (fun k => if k < τ then tl k else sl (k - τ)) P := by
  refine ⟨fun k hk => ?_, fun a b ha hb e => ?_, fun j hj hp => ?_⟩
  · show (if k < τ then tl k else sl (k - τ)) < n ∧ P (if k < τ then tl k else sl (k - τ))
    by_cases e : k < τ
    · rw [if_pos e]; exact ⟨(h1.1 k e).1, (h1.1 k e).2.1⟩
    · rw [if_neg e]
      have := h2.1 (k - τ) (by omega)
      exact ⟨this.1, this.2.1⟩
  · have e' : (if a < τ then tl a else sl (a - τ)) = (if b < τ then tl b else sl (b - τ)) := e
    by_cases ea : a < τ
    · by_cases eb : b < τ
      · rw [if_pos ea, if_pos eb] at e'; exact h1.2.1 a b ea eb e'
      · rw [if_pos ea, if_neg eb] at e'
        have u := (h1.1 a ea).2.2
        rw [e'] at u
        exact absurd u (h2.1 (b - τ) (by omega)).2.2
    · by_cases eb : b < τ
      · rw [if_neg ea, if_pos eb] at e'
        have u := (h1.1 b eb).2.2
        rw [← e'] at u
        exact absurd u (h2.1 (a - τ) (by omega)).2.2
      · rw [if_neg ea, if_neg eb] at e'
        have := h2.2.1 (a - τ) (b - τ) (by omega) (by omega) e'
        omega
  · by_cases q : Q j
    · obtain ⟨k, k1, k2⟩ := h1.2.2 j hj ⟨hp, q⟩
      exact ⟨k, by omega, by show (if k < τ then tl k else sl (k - τ)) = j; rw [if_pos k1]; exact k2⟩
    · obtain ⟨k, k1, k2⟩ := h2.2.2 j hj ⟨hp, q⟩
      exact ⟨τ + k, by omega, by show (if τ + k < τ then tl (τ + k) else sl (τ + k - τ)) = j; rw [if_neg (by omega), Nat.add_sub_cancel_left]; exact k2⟩
theorem lp_hv_nlx {M n : Nat} {f f' : Nat → Nat} (h : ∀ j, j < n → f j < M) (h' : ∀ j, j < n → f' j < M) (hl : ¬ lp_lx n f f') : lp_hv M f' n ≤ lp_hv M f n := by
  by_cases e : lp_lx n f' f
  · exact Nat.le_of_lt (lp_hv_lx n h' h e)
  · rw [lp_hv_cg n (lp_lx_tot hl e)]; exact Nat.le_refl _
def lp_toR (r : Nat → Int32) (x : Nat → Nat) : Nat := lp_to (lp_vM r) (lp_vN r) (lp_vA r) (lp_vS r) x
theorem lp_toR_hv (r : Nat → Int32) (x : Nat → Nat) : lp_toR r x = lp_hv (lp_vM r) (lp_wy r x) (lp_vN r) := rfl
noncomputable def lp_lfR (r : Nat → Int32) (x : Nat → Nat) : Nat := lp_lf (lp_vM r) (lp_vN r) (lp_vA r) x
/-- what is noted of the first t rows -/
def lp_Nt (s : lp_M) (r : Nat → Int32) (R : Nat → Nat → Nat) (z : Nat → Nat) (t : Nat) : Prop :=
  (t = 0 ∧ s 327 2 = -1) ∨ ∃ t0, t0 < t ∧ s 327 2 = nI (lp_lfR r (R t0)) ∧ (∀ t', t' < t → lp_lfR r (R t') ≤ lp_lfR r (R t0) ∧ (lp_lfR r (R t') = lp_lfR r (R t0) → lp_toR r (fun j => R t0 j + z j) ≤ lp_toR r (fun j => R t' j + z j))) ∧ ∀ j, j < lp_vN r → s 329 j = nI (lp_wy r (fun j => R t0 j + z j) j)
theorem s7n {d t : Nat} {r : Nat → Int32} {R : Nat → Nat → Nat} {z : Nat → Nat} {s : lp_M} (hr : lp_Ok r) (h : lp_Nt s r R z t) (h332 : ∀ i, i < lp_vN r → s 332 i = nI (lp_wy r (fun j => R t j + z j) i)) :
    ∃ s', lp_rn (d + 2) 7 [.ref 327, .int (nI (lp_lfR r (R t))), .int (nI (lp_vN r))] (lp_s0 s) = some (nI 0, lp_s0 s') ∧ (∀ q, q ≠ 327 → q ≠ 328 → q ≠ 329 → s' q = s q) ∧ (∀ j, j ≠ 2 → s' 327 j = s 327 j) ∧ s' 328 = upd (s 328) (lp_lfR r (R t)) (s 328 (lp_lfR r (R t)) + nI 1) ∧ lp_Nt s' r R z (t + 1) := by
  have hn : lp_vN r ≤ 10 := hr.2.2.2.1
  have hM := lp_prM hr
  obtain ⟨hM2, hM5⟩ := lp_prBd hM
  have bd : ∀ x, lp_lfR r x < 41 := fun x => by
    have := lp_lf_le (n := lp_vN r) (A := lp_vA r) (x := x) hM
    unfold lp_lfR; omega
  have hx : ∀ j, j < lp_vN r → s 332 j = nI (lp_wy r (fun j => R t j + z j) j) ∧ lp_wy r (fun j => R t j + z j) j < 10 := fun j hj => ⟨h332 j hj, by have := lp_wy_lt hr (fun j => R t j + z j) j; omega⟩
  have wl : ∀ x j, j < lp_vN r → lp_wy r x j < lp_vM r := fun x j _ => lp_wy_lt hr x j
  obtain ⟨k1, k2, k3, k4, k5⟩ := lp_tk9_p (g := s) (k := lp_lfR r (R t)) hn hx
  rcases h with ⟨h0, h1⟩ | ⟨t0, h0, h1, h2, h3⟩
  · refine ⟨lp_tk9 s (lp_lfR r (R t)), s7a (bd _) h1, k1, k2, k3, .inr ⟨t, by omega, k4, fun t' ht' => ?_, k5⟩⟩
    have : t' = t := by omega
    rw [this]; exact ⟨Nat.le_refl _, fun _ => Nat.le_refl _⟩
  · have hy : ∀ j, j < lp_vN r → s 329 j = nI (lp_wy r (fun j => R t0 j + z j) j) ∧ lp_wy r (fun j => R t0 j + z j) j < 10 := fun j hj => ⟨h3 j hj, by have := lp_wy_lt hr (fun j => R t0 j + z j) j; omega⟩
    rcases s7b (d := d) (k := lp_lfR r (R t)) (D := lp_lfR r (R t0)) hn (bd _) (bd _) h1 hx hy with ⟨u, E⟩ | ⟨u, E⟩
    · refine ⟨lp_tk9 s (lp_lfR r (R t)), E, k1, k2, k3, .inr ⟨t, by omega, k4, fun t' ht' => ?_, k5⟩⟩
      by_cases e : t' = t
      · rw [e]; exact ⟨Nat.le_refl _, fun _ => Nat.le_refl _⟩
      · obtain ⟨a, b⟩ := h2 t' (by omega)
        rcases u with u | ⟨u1, u2⟩
        · exact ⟨by omega, fun w => by omega⟩
        · refine ⟨by omega, fun w => ?_⟩
          have c := b (by omega)
          have lt := lp_hv_lx (M := lp_vM r) (lp_vN r) (wl _) (wl _) u2
          rw [← lp_toR_hv, ← lp_toR_hv] at lt
          omega
    · refine ⟨lp_w s 328 (lp_lfR r (R t)) (s 328 (lp_lfR r (R t)) + nI 1), E, fun q _ h' _ => lp_w_ne h', fun j _ => by rw [lp_w_ne (by omega)], lp_w_eq .., .inr ⟨t0, by omega, by rw [lp_w_ne (by omega)]; exact h1, fun t' ht' => ?_, fun j hj => by rw [lp_w_ne (by omega)]; exact h3 j hj⟩⟩
      by_cases e : t' = t
      · rw [e]
        rcases u with u | ⟨u1, u2⟩
        · exact ⟨by omega, fun w => by omega⟩
        · refine ⟨by omega, fun _ => ?_⟩
          rw [lp_toR_hv, lp_toR_hv]
          exact lp_hv_nlx (wl _) (wl _) u2
      · exact h2 t' (by omega)
/-- the levels as the class has measured them -/
def lp_LvK (g : lp_M) (r : Nat → Int32) : Prop := ∃ D, g 327 2 = nI D ∧ (∃ x, lp_lfR r x = D) ∧ (∀ x, lp_lfR r x ≤ D) ∧ ∀ S k, k < 41 → g 328 k = nI (lp_cc (fun w => lp_Lev (lp_vM r) (lp_vN r) (lp_vA r) S w k) (lp_vM r ^ lp_vN r))
def lp_LvF (g : lp_M) (r : Nat → Int32) : Prop := ∃ D W, (∀ x, lp_lfR r x ≤ D) ∧ W < lp_vM r ^ lp_vN r ∧ lp_Lev (lp_vM r) (lp_vN r) (lp_vA r) (lp_vS r) W D ∧ (∀ w, lp_Lev (lp_vM r) (lp_vN r) (lp_vA r) (lp_vS r) w D → W ≤ w) ∧ ∀ j, j < lp_vN r → g 329 j = nI (lp_dgt (lp_vM r) (lp_vN r) W j)
theorem s5 {d rk : Nat} {g : lp_M} {r : Nat → Int32} {ro : Nat → Nat} {L D : Nat → Nat → Nat} (hr : lp_Ok r) (cn : lp_CN g 1 r) (h : lp_SV g 244 245 256 267 (lp_vM r) (lp_vN r) (lp_LT (lp_vA r)) rk ro L D) (hB : lp_BS g (lp_vM r) (lp_vN r) ro L) (h4 : g 333 4 = nI 0) :
    ∃ g', lp_rn (d + 15) 5 [.ref 327, .ref 1, .ref 244] (lp_s0 g) = some (nI 0, lp_s0 g') ∧ (∀ q, q < 327 ∨ 335 < q → g' q = g q) ∧ g' 333 4 = g 333 4 ∧ lp_LvK g' r ∧ lp_LvF g' r := by
  have hn : lp_vN r ≤ 10 := hr.2.2.2.1
  have hM := lp_prM hr
  obtain ⟨hM2, hM5⟩ := lp_prBd hM
  obtain ⟨g1, τ, σ, tl, sl, E1, b1, b2, b3, b4, b5, b6, b7, b8, b9, b10, b11, b12⟩ := s6 (d := d + 11) hr cn h hB
  generalize hz : lp_zr (lp_vM r) sl σ = z at b12
  have g10 : g1 1 0 = nI (lp_vM r) := by rw [b1 _ (by omega) (by omega) (by omega) (by omega) (by omega)]; exact cn.1.trans hr.1
  have g11 : g1 1 1 = nI (lp_vN r) := by rw [b1 _ (by omega) (by omega) (by omega) (by omega) (by omega)]; exact cn.2.1.trans hr.2.2.1
  have hp := lp_pow_lt hr (show τ ≤ 10 by omega)
  have inj : ∀ a b, a < τ → b < τ → tl a = tl b → a = b := b9.2.1
  have lt0 : ∀ t j, lp_kw (lp_vM r) tl τ t j < lp_vM r := fun t j => lp_kw_lt (by omega) inj
  have ch0 : ∀ t j, ¬ ro j < 10 → lp_kw (lp_vM r) tl τ t j = 0 := fun t j hp => lp_kw_0 fun k hk e => hp (e ▸ (b9.1 k hk).2.1)
  have bd : ∀ x, lp_lfR r x < 41 := fun x => by
    have := lp_lf_le (n := lp_vN r) (A := lp_vA r) (x := x) hM
    unfold lp_lfR; omega
  obtain ⟨g2, E2, p1, p2, p3, p4, p5, p6, p7⟩ := lp_itE (fun t (s : lp_M) => lp_fn (d + 14) 5 21 [.ref 327, .ref 1, .ref 244, .int (nI (lp_vM r ^ τ)), .int (nI t)] [] (lp_s0 s))
    (fun t s => (∀ q, q < 327 ∨ q = 330 ∨ 335 < q → s q = g1 q) ∧ (∀ j, j ≠ 2 → s 327 j = g1 327 j) ∧ s 333 4 = g 333 4 ∧ (∀ k, k < 41 → s 328 k = nI (lp_cc (fun v => lp_lfR r (lp_kw (lp_vM r) tl τ v) = k) t)) ∧ (∀ j, j < lp_vN r → s 331 j = nI (lp_kw (lp_vM r) tl τ t j)) ∧ (∀ i, i < lp_vN r → s 332 i = nI (lp_wy r (fun j => lp_kw (lp_vM r) tl τ t j + z j) i)) ∧ lp_Nt s r (lp_kw (lp_vM r) tl τ) z t)
    0 (lp_vM r ^ τ) g1 (by omega) ⟨fun _ _ => rfl, fun _ _ => rfl, by rw [b1 _ (by omega) (by omega) (by omega) (by omega) (by omega)], fun k hk => by rw [b6 k hk, lp_cc_0], fun j hj => by
        have e : lp_kw (lp_vM r) tl τ 0 j = 0 := lp_sm_zero.mpr fun k _ => by
          have : lp_dgt (lp_vM r) τ 0 k = 0 := by unfold lp_dgt; rw [Nat.zero_div, Nat.zero_mod]
          show (if tl k = j then lp_dgt (lp_vM r) τ 0 k else 0) = 0
          rw [this, ite_self]
        rw [e]; exact b7 j (by omega), fun i hi => by
        rw [b12 i hi]
        congr 1
        refine lp_wy_cg fun j _ => ?_
        have e : lp_kw (lp_vM r) tl τ 0 j = 0 := lp_sm_zero.mpr fun k _ => by
          have : lp_dgt (lp_vM r) τ 0 k = 0 := by unfold lp_dgt; rw [Nat.zero_div, Nat.zero_mod]
          show (if tl k = j then lp_dgt (lp_vM r) τ 0 k else 0) = 0
          rw [this, ite_self]
        rw [e, Nat.zero_add], .inl ⟨rfl, b3⟩⟩
    (fun t s _ ht ⟨q1, q2, q3, q4, q5, q6, q7⟩ => by
      have F : ∀ q, q < 327 ∨ 335 < q → s q = g q := fun q hq => by rw [q1 q (by omega)]; exact b1 q (by omega) (by omega) (by omega) (by omega) (by omega)
      have hsv := lp_SV_fr (g' := s) hn h (fun j _ => by rw [F _ (by omega)]) (fun q hq => F q (by omega))
      have hBs : lp_BS s (lp_vM r) (lp_vN r) ro L := fun f hf hp => by
        have := lp_fc_le ro f
        rw [F _ (by omega), F _ (by omega)]; exact hB f hf hp
      obtain ⟨s1, f, E5, u1, u2, u3, u4, u5⟩ := s55 (d := d) (o := 333) (c := 331) (b := false) (w := lp_eff (lp_LT (lp_vA r)) (lp_vN r) (lp_kw (lp_vM r) tl τ t)) (x := lp_kw (lp_vM r) tl τ t) (g := s) (.inr (.inr (.inr rfl))) hM hn hsv hBs (by rw [q3]; exact h4) (by decide +kernel) (by omega) (by omega) ⟨fun j _ => lt0 t j, fun _ _ => rfl⟩ (fun j _ hp => ch0 t j hp) q5
      have lv := lp_Bst_lf hM u5
      have lv' : lp_cst false f (lp_vN r) = lp_lfR r (lp_kw (lp_vM r) tl τ t) := lv.symm
      rw [lv'] at u3
      have nt1 : lp_Nt s1 r (lp_kw (lp_vM r) tl τ) z t := by
        unfold lp_Nt at q7 ⊢
        rw [u1 327 (by omega) (by omega) (by omega), u1 329 (by omega) (by omega) (by omega)]; exact q7
      obtain ⟨s2, E7, v1, v2, v3, v4⟩ := s7n (d := d + 12) hr nt1 (fun i hi => by rw [u1 332 (by omega) (by omega) (by omega)]; exact q6 i hi)
      have F2 : ∀ q, q < 327 ∨ q = 330 ∨ q = 331 ∨ q = 332 ∨ 335 < q → s2 q = s q := fun q hq => by rw [v1 q (by omega) (by omega) (by omega), u1 q (by omega) (by omega) (by omega)]
      have c2 : lp_CN s2 1 r := lp_CN_fr hn (fun q h1 h2 => by rw [F2 q (by omega), F q (by omega)]) cn
      obtain ⟨s3, E9, w1, w2, w3⟩ := s9 (d := d + 11) (t := t) (z := z) (τ := τ) (tl := tl) (g := s2) hr c2 (by omega) (by rw [v2 6 (by omega), u1 327 (by omega) (by omega) (by omega), q2 6 (by omega)]; exact b4) (fun k hk => by rw [F2 330 (by omega), q1 330 (by omega)]; exact b8 k hk) (fun k hk => (b9.1 k hk).1) inj (fun j hj => by rw [F2 331 (by omega)]; exact q5 j hj) (fun i hi => by rw [F2 332 (by omega)]; exact q6 i hi)
      refine ⟨s3, ?_, fun q hq => ?_, fun j hj => ?_, ?_, fun k hk => ?_, w2, w3, ?_⟩
      · show lp_fn (d + 14) 5 21 _ _ _ = lp_fn (d + 14) 5 21 _ _ _
        have n1 : ¬ lp_vM r ^ τ ≤ t := by omega
        have y11 : s1 1 1 = nI (lp_vN r) := by rw [u1 1 (by omega) (by omega) (by omega), q1 1 (by omega)]; exact g11
        rw [e5_327_21]
        simp (disch := omega) only [n1, E5, nI_leI, nI_ltI, nI_eq, nI_clamp, lp_oobN, nI_add, pk_mul, pk_sub, pk_rem, pk_m1, lp_neg1lt, lp_neg1le, lp_neg1eq, lp_neg1eq2, if_true, if_false, if_pos, if_neg, Option.bind_some, Nat.lt_irrefl, Nat.le_refl, true_and, and_true, false_or, or_false, true_or, or_true, not_true_eq_false, not_false_eq_true, and_self, or_self, false_and, and_false, ite_true, ite_false, reduceIte]
        rw [e5_327_39, u3, y11, E7, Option.bind_some, e5_327_54, E9, Option.bind_some, e5_327_59, nI_add]
      · rw [w1 q (by omega) (by omega), F2 q (by omega)]; exact q1 q hq
      · rw [w1 327 (by omega) (by omega), v2 j hj, u1 327 (by omega) (by omega) (by omega)]; exact q2 j hj
      · rw [w1 333 (by omega) (by omega), v1 333 (by omega) (by omega) (by omega), u2 4 (by omega)]; exact q3
      · rw [w1 328 (by omega) (by omega), v3, u1 328 (by omega) (by omega) (by omega)]
        by_cases e : k = lp_lfR r (lp_kw (lp_vM r) tl τ t)
        · rw [← e, pk_us, q4 k hk, lp_cc_y (p := fun v => lp_lfR r (lp_kw (lp_vM r) tl τ v) = k) e.symm, nI_add]
        · rw [pk_un e, q4 k hk, lp_cc_n (p := fun v => lp_lfR r (lp_kw (lp_vM r) tl τ v) = k) (fun z => e z.symm)]
      · unfold lp_Nt at v4 ⊢
        rw [w1 327 (by omega) (by omega), w1 329 (by omega) (by omega)]; exact v4)
  -- the listed lamps
  generalize hlam : (fun k => if k < τ then tl k else sl (k - τ)) = lam
  have Lm : lp_Lm (lp_vN r) (τ + σ) lam (fun j => ro j < 10) := by rw [← hlam]; exact lp_Lm_j b9 b10
  have lam1 : ∀ k, k < τ → lam k = tl k := fun k hk => by rw [← hlam]; exact if_pos hk
  have lam2 : ∀ k, lam (τ + k) = sl k := fun k => by
    rw [← hlam]
    show (if τ + k < τ then tl (τ + k) else sl (τ + k - τ)) = _
    rw [if_neg (by omega), Nat.add_sub_cancel_left]
  have kwe : ∀ t, lp_kw (lp_vM r) lam τ t = lp_kw (lp_vM r) tl τ t := fun t => funext fun j => lp_kw_cg lam1
  have zze : lp_zz (lp_vM r) lam τ σ = z := by
    rw [← hz]
    funext j
    exact lp_sm_congr fun k _ => by rw [lam2 k]
  have st : ∀ k, k < σ → lam (τ + k) < lp_vN r ∧ lp_std (lp_vM r) (lp_vN r) (lp_vA r) (lam (τ + k)) := fun k hk => by
    rw [lam2 k]
    obtain ⟨a, b, c⟩ := b10.1 k hk
    exact ⟨a, lp_RF_std hM h.1 a b c⟩
  -- the steady lamps come in
  obtain ⟨g3, E3, r1, r2⟩ := lp_itE (fun i (s : lp_M) => lp_fn (d + 14) 5 68 [.ref 327, .ref 1, .ref 244, .int (nI (lp_vM r ^ τ)), .int (nI i)] [] (lp_s0 s))
    (fun i s => (∀ q, q ≠ 328 → s q = g2 q) ∧ ∀ k, k < 41 → s 328 k = nI (lp_cc (fun u => lp_lfR r (lp_kw (lp_vM r) lam (τ + i) u) = k) (lp_vM r ^ (τ + i))))
    0 σ g2 (by omega) ⟨fun _ _ => rfl, fun k hk => by
        have e : lp_cc (fun u => lp_lfR r (lp_kw (lp_vM r) lam (τ + 0) u) = k) (lp_vM r ^ (τ + 0)) = lp_cc (fun u => lp_lfR r (lp_kw (lp_vM r) tl τ u) = k) (lp_vM r ^ τ) := lp_cc_cg fun u _ => by
          show lp_lfR r (lp_kw (lp_vM r) lam τ u) = k ↔ _
          rw [kwe u]
        rw [e]; exact p4 k hk⟩
    (fun i s _ hi ⟨q1, q2⟩ => by
      obtain ⟨s1, E, u1, u2⟩ := s10 (d := d + 13) (M := lp_vM r) (g := s) (by omega) q2
      refine ⟨s1, ?_, fun q hq => by rw [u1 q hq]; exact q1 q hq, fun k hk => ?_⟩
      · show lp_fn (d + 14) 5 68 _ _ _ = lp_fn (d + 14) 5 68 _ _ _
        have y7 : s 327 7 = nI σ := by rw [q1 _ (by omega), p2 7 (by omega)]; exact b5
        have y10 : s 1 0 = nI (lp_vM r) := by rw [q1 _ (by omega), p1 1 (by omega)]; exact g10
        rw [e5_327_68, y7, if_neg (show ¬ nI σ ≤ nI i by rw [nI_leI (by omega) (by omega)]; omega), y10, E, Option.bind_some, e5_327_85, nI_add]
      · rw [u2 k hk]
        congr 1
        exact (lp_sprd (K := τ + i) hM (fun a b ha hb => Lm.2.1 a b (by omega) (by omega)) (st i hi).1 (st i hi).2).symm)
  have E2' : lp_fn (d + 14) 5 21 [.ref 327, .ref 1, .ref 244, .int (nI (lp_vM r ^ τ)), .int (nI 0)] [] (lp_s0 g1) = lp_fn (d + 14) 5 21 [.ref 327, .ref 1, .ref 244, .int (nI (lp_vM r ^ τ)), .int (nI (lp_vM r ^ τ))] [] (lp_s0 g2) := E2
  have E3' : lp_fn (d + 14) 5 68 [.ref 327, .ref 1, .ref 244, .int (nI (lp_vM r ^ τ)), .int (nI 0)] [] (lp_s0 g2) = lp_fn (d + 14) 5 68 [.ref 327, .ref 1, .ref 244, .int (nI (lp_vM r ^ τ)), .int (nI σ)] [] (lp_s0 g3) := E3
  have pos : 0 < lp_vM r ^ τ := Nat.pow_pos (by omega)
  obtain ⟨t0, n0, n1, n2, n3⟩ := p7.resolve_left fun z => by omega
  generalize hD0 : lp_lfR r (lp_kw (lp_vM r) tl τ t0) = D0 at n1 n2
  have y7 : g3 327 7 = nI σ := by rw [r1 _ (by omega), p2 7 (by omega)]; exact b5
  have y2 : g3 327 2 = nI D0 := by rw [r1 _ (by omega)]; exact n1
  have y10 : g3 1 0 = nI (lp_vM r) := by rw [r1 _ (by omega), p1 1 (by omega)]; exact g10
  have mx := lp_mxx (D0 := D0) (lam := lam) (τ := τ) (n := lp_vN r) (A := lp_vA r) hM (fun t ht => by rw [kwe t]; exact (n2 t ht).1) σ Lm.2.1 st
  have mx2 := lp_mxx2 (t := t0) (lam := lam) (τ := τ) (n := lp_vN r) (A := lp_vA r) hM σ Lm.2.1 st
  rw [zze, kwe t0] at mx2
  have mx2' : lp_lfR r (fun j => lp_kw (lp_vM r) tl τ t0 j + z j) = D0 + σ * (lp_vM r - 1) := by rw [← hD0]; exact mx2
  have top : ∀ x, lp_lfR r x ≤ D0 + σ * (lp_vM r - 1) := fun x => by
    obtain ⟨u, v1, v2⟩ := lp_kw_rep hM hn h.1 Lm x
    have e : lp_lfR r x = lp_lf (lp_vM r) (lp_vN r) (lp_vA r) (lp_kw (lp_vM r) lam (τ + σ) u) := lp_lf_E v2
    rw [e]; exact (mx u v1).1
  have eW : ∀ j, j < lp_vN r → lp_dgt (lp_vM r) (lp_vN r) (lp_toR r (fun j => lp_kw (lp_vM r) tl τ t0 j + z j)) j = lp_wy r (fun j => lp_kw (lp_vM r) tl τ t0 j + z j) j := fun j hj => by
    rw [lp_toR_hv, lp_dgt_hv (by omega) _ (fun j _ => lp_wy_lt hr _ j) j hj]
  refine ⟨lp_w g3 327 2 (nI (D0 + σ * (lp_vM r - 1))), ?_, fun q hq => ?_, ?_, ⟨D0 + σ * (lp_vM r - 1), by rw [lp_w_eq, pk_us], ⟨_, mx2'⟩, top, fun S k hk => ?_⟩, ⟨D0 + σ * (lp_vM r - 1), lp_toR r (fun j => lp_kw (lp_vM r) tl τ t0 j + z j), top, lp_to_lt (by omega), (lp_Lev_lf hM).mpr mx2', fun w hw => ?_, fun j hj => ?_⟩⟩
  · have z6 : g1 327 6 = nI τ := b4
    rw [e5_327, E1, Option.bind_some, e5_327_6, g10, z6, s160 (by omega), Option.bind_some, e5_327_17, E2', e5_327_21, if_pos (by rw [nI_leI (by omega) (by omega)]; exact Nat.le_refl _), E3', e5_327_68, y7, if_pos (by rw [nI_leI (by omega) (by omega)]; exact Nat.le_refl _), y2, y10, pk_sub (by omega), pk_mul, nI_add]
  · rw [lp_w_ne (by omega), r1 _ (by omega), p1 q (by omega)]; exact b1 q (by omega) (by omega) (by omega) (by omega) (by omega)
  · rw [lp_w_ne (by omega), r1 _ (by omega)]; exact p3
  · rw [lp_w_ne (by omega), r2 k hk, lp_lv_cnt hM hn h.1 Lm S k]
    rfl
  · obtain ⟨⟨x, x1, x2⟩, x3⟩ := hw
    obtain ⟨u, v1, v2⟩ := lp_kw_rep hM hn h.1 Lm x
    have e : lp_lf (lp_vM r) (lp_vN r) (lp_vA r) (lp_kw (lp_vM r) lam (τ + σ) u) = D0 + σ * (lp_vM r - 1) := by
      rw [← lp_lf_E v2]
      refine (lp_Lev_lf (S := lp_vS r) hM).mp ?_
      rw [x1]; exact ⟨⟨x, x1, x2⟩, x3⟩
    obtain ⟨t, t1, t2, t3⟩ := (mx u v1).2 e
    rw [kwe t] at t2
    have le := (n2 t t1).2 t2
    have e3 : w = lp_toR r (fun j => lp_kw (lp_vM r) tl τ t j + z j) := by
      rw [← x1]
      refine (lp_to_E hM).mpr (lp_Eq9_tr v2 (lp_Eq9_cg fun j _ => ?_))
      rw [t3 j, zze, kwe t]
    rw [e3]
    have eq0 := hD0
    exact le
  · rw [lp_w_ne (by omega), r1 _ (by omega), n3 j hj, eW j hj]
