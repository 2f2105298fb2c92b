/-! ===== the tape is read: a wire; the states ===== -/
def lp_wrA (i j v : Nat) (A : Nat → Nat → Nat) : Nat → Nat → Nat := fun a b => if (a = i ∧ b = j) ∨ (a = j ∧ b = i) then v else A a b
theorem lp_wrA_1 {i j v a b : Nat} {A : Nat → Nat → Nat} (h : (a = i ∧ b = j) ∨ (a = j ∧ b = i)) : lp_wrA i j v A a b = v := if_pos h
theorem lp_wrA_0 {i j v a b : Nat} {A : Nat → Nat → Nat} (h : ¬ ((a = i ∧ b = j) ∨ (a = j ∧ b = i))) : lp_wrA i j v A a b = A a b := if_neg h
theorem lp_D_wr {r : Nat → Int32} {m n i j v : Nat} {S G : Nat → Nat} {A : Nat → Nat → Nat} (hn : n ≤ 10) (hi : i < n) (hj : j < n) (hij : i ≠ j) (h : lp_D r m n S G A) : lp_D (upd (upd r (34 + 10 * i + j) (nI v)) (34 + 10 * j + i) (nI v)) m n S G (lp_wrA i j v A) := by
  obtain ⟨h0, h1, h2, h3, h4, h5⟩ := h
  refine ⟨by rw [pk_un (by omega), pk_un (by omega)]; exact h0, by rw [pk_un (by omega), pk_un (by omega)]; exact h1, fun a ha => by rw [pk_un (by omega), pk_un (by omega)]; exact h2 a ha, fun a ha => by rw [pk_un (by omega), pk_un (by omega)]; exact h3 a ha, fun a b ha hb => ?_, fun a ha => by rw [pk_un (by omega), pk_un (by omega)]; exact h5 a ha⟩
  have z := h4 a b ha hb
  unfold lp_stp at z ⊢
  by_cases e : a = b
  · rw [if_pos e] at z ⊢
    rw [pk_un (by omega), pk_un (by omega), lp_wrA_0 (by omega)]; exact z
  · rw [if_neg e] at z ⊢
    by_cases w1 : a = j ∧ b = i
    · obtain ⟨rfl, rfl⟩ := w1
      rw [pk_us, lp_wrA_1 (.inr ⟨rfl, rfl⟩)]
    · rw [pk_un (by omega)]
      by_cases w2 : a = i ∧ b = j
      · obtain ⟨rfl, rfl⟩ := w2
        rw [pk_us, lp_wrA_1 (.inl ⟨rfl, rfl⟩)]
      · rw [pk_un (by omega), lp_wrA_0 (by omega)]; exact z
theorem lp_C_wr {g : lp_M} {m n i j v : Nat} {S G : Nat → Nat} {A : Nat → Nat → Nat} (hi : i < n) (hj : j < n) (hij : i ≠ j) (h : lp_C g 225 226 227 228 m n S G A) : lp_C (lp_w (lp_w g (228 + 1 + i) j (nI v)) (228 + 1 + j) i (nI v)) 225 226 227 228 m n S G (lp_wrA i j v A) := by
  obtain ⟨h0, h1, h2, h3, h4⟩ := h
  refine ⟨by rw [lp_w_ne (by omega), lp_w_ne (by omega)]; exact h0, by rw [lp_w_ne (by omega), lp_w_ne (by omega)]; exact h1, fun a ha => by rw [lp_w_ne (by omega), lp_w_ne (by omega)]; exact h2 a ha, fun a ha => by rw [lp_w_ne (by omega), lp_w_ne (by omega)]; exact h3 a ha, fun a b ha hb => ?_⟩
  by_cases w1 : a = j
  · subst w1
    rw [lp_w_eq]
    by_cases w2 : b = i
    · subst w2
      rw [pk_us, lp_wrA_1 (.inr ⟨rfl, rfl⟩)]
    · rw [pk_un w2, lp_w_ne (by omega), lp_wrA_0 (by omega)]; exact h4 a b ha hb
  · rw [lp_w_ne (by omega)]
    by_cases w2 : a = i
    · subst w2
      rw [lp_w_eq]
      by_cases w3 : b = j
      · subst w3
        rw [pk_us, lp_wrA_1 (.inl ⟨rfl, rfl⟩)]
      · rw [pk_un w3, lp_wrA_0 (by omega)]; exact h4 a b ha hb
    · rw [lp_w_ne (by omega), lp_wrA_0 (by omega)]; exact h4 a b ha hb
theorem lp_Bd_wr {m n i j v : Nat} {S G : Nat → Nat} {A : Nat → Nat → Nat} (b : lp_Bd m n S G A) (hv : v < m) : lp_Bd m n S G (lp_wrA i j v A) := by
  obtain ⟨b1, b2, b3, b4, b5⟩ := b
  refine ⟨b1, b2, b3, b4, fun a c ha hc => ?_⟩
  by_cases w : (a = i ∧ c = j) ∨ (a = j ∧ c = i)
  · rw [lp_wrA_1 w, lp_wrA_1 (by omega)]; exact ⟨hv, rfl⟩
  · rw [lp_wrA_0 w, lp_wrA_0 (by omega)]; exact b5 a c ha hc
theorem lp_wireread {t k b e m n : Nat} {T : Nat → Nat} {S G : Nat → Nat} {A : Nat → Nat → Nat} (t5 : t ≤ 500) (hf : lp_twf t T k b e) (hb : lp_Bd m n S G A) (hw : k = 1 ∧ lp_isw T b e 4) (a1 : Int32) :
    lp_res t T k b e m n S G A (fun d g v g' => lp_rn (d + 7) 43 [.ref 224] (lp_s0 g) = some (v, lp_s0 g')) (fun d g g' => ((lp_rn (d + 6) 275 [.ref 343, .int (nI 4)] (lp_s0 g)).bind fun x => lp_fn (d + 6) 280 45 [.ref 343, .int a1, .int (nI b)] [.int x.1] x.2) = some (nI 0, lp_s0 g')) := by
  have hn := hb.2.1
  have hm : m ≤ 5 ∧ 2 ≤ m := by have := hb.1; omega
  obtain ⟨k1, b1, e1, hav⟩ := lp_adv_ex (T := T) k hf.2.2.1
  obtain ⟨wf1, le1, -⟩ := lp_adv_wf hav
  have b15 : b1 ≤ 500 := by have := wf1.2.1; have := wf1.2.2.1; omega
  have MW : ∀ d g, lp_RM g t T k b e → lp_DM g m n S G A → g 343 36 = nI 0 → ∃ g1, (((lp_rn (d + 6) 275 [.ref 343, .int (nI 4)] (lp_s0 g)).bind fun x => lp_fn (d + 6) 280 45 [.ref 343, .int a1, .int (nI b)] [.int x.1] x.2) = ((((lp_rn (d + 5) 276 [.ref 343, .int (nI 0), .int (nI n - nI 1)] (lp_s0 g1)).bind fun x => lp_fn (d + 5) 279 13 [.ref 343, .long 0, .long 0] [.int x.1] x.2)).bind fun x => lp_fn (d + 6) 280 52 [.ref 343, .int a1, .int (nI b)] [] x.2)) ∧ lp_RM g1 t T k1 b1 e1 ∧ lp_DM g1 m n S G A ∧ g1 343 36 = nI 0 ∧ lp_FM g g1 := by
    intro d g hg hD h0
    obtain ⟨g1, E1, r1, f1, j1⟩ := (s275 (d := d + 1) (by omega) hg hf h0).1 hw _ _ _ hav
    have D1 := lp_DM_fr (f1 _ (by omega)) hD
    refine ⟨g1, ?_, r1, D1, by rw [j1 _ (by omega)]; exact h0, lp_FM_1 f1 j1⟩
    have z : g1 345 1 = nI n := D1.1.2.1
    rw [E1, Option.bind_some, e280_343_45, if_neg (show ¬ nI 1 = nI 0 by decide), e279_343, z]
  have CW : ∀ d g, lp_RC g t T k b e → lp_DC g m n S G A → ∃ g1, lp_rn (d + 7) 43 [.ref 224] (lp_s0 g) = ((lp_rn (d + 6) 45 [.ref 224, .int (nI 0), .int (nI n - nI 1)] (lp_s0 g1)).bind fun x => lp_fn (d + 6) 43 18 [.ref 224, .long 0, .long 0, .long 0] [.int x.1] x.2) ∧ lp_RC g1 t T k1 b1 e1 ∧ lp_DC g1 m n S G A ∧ lp_FC g g1 := by
    intro d g hg hD
    obtain ⟨g1, E1, r1, f1⟩ := s49 (d := d + 3) hf.1 hg hav
    have D1 := lp_DC_fr hn f1 hD
    refine ⟨g1, ?_, r1, D1, lp_FC_1 f1⟩
    have z : g1 225 1 = nI n := D1.1.2.1
    rw [e43_224, E1, Option.bind_some, e43_224_4, z]
  have MX : ∀ d (s : lp_M) (x y : Int32) (v : Value), s 343 36 = nI 1 → ((lp_fn (d + 5) 279 81 [.ref 343, .int x, v] [] (lp_s0 s)).bind fun x => lp_fn (d + 6) 280 52 [.ref 343, .int a1, .int (nI b)] [] x.2) = some (nI 0, lp_s0 s) := by
    intro d s x y v h1
    rw [e279_343_81, h1, if_neg (by decide), Option.bind_some, e280_343_52, s280w h1]
  by_cases y1 : lp_nok T k1 b1 0 n
  case neg =>
    refine .inr ⟨b1, b15, fun d g hg hD => ?_, fun d g hg hD h0 => ?_⟩
    · obtain ⟨g1, E1, r1, D1, F1⟩ := CW d g hg hD
      refine ⟨g1, ?_, r1.2.2.1, F1⟩
      show _ = _
      rw [E1, (s45 (d := d + 2) r1 wf1 (by omega) (by omega)).2 y1, Option.bind_some, e43_224_18, if_pos rfl]
    · obtain ⟨g1, E1, r1, D1, z1, F1⟩ := MW d g hg hD h0
      have E2 := (s276 (d := d + 2) r1 wf1 z1 (by omega) (by omega)).2 y1
      have w1 : lp_w g1 343 36 (nI 1) 343 36 = nI 1 := by rw [lp_w_eq, pk_us]
      refine ⟨lp_w (lp_w g1 343 36 (nI 1)) 343 36 (nI 1), ?_, by rw [lp_w_eq, pk_un (by omega), lp_w_eq, pk_un (by omega)]; exact r1.2.2.1, by rw [lp_w_eq, pk_us], lp_FM_tr F1 ⟨fun q h1 h2 => by rw [lp_w_ne h1, lp_w_ne h1], fun j hj => by rw [lp_w_eq, pk_un (by omega), lp_w_eq, pk_un (by omega)]⟩⟩
      show _ = _
      rw [E1, E2, Option.bind_some, e279_343_13, w1, if_neg (by decide)]
      exact MX d _ _ 0 _ (by rw [lp_w_eq, pk_us])
  obtain ⟨k2, b2, e2, hav2⟩ := lp_adv_ex (T := T) k1 wf1.2.2.1
  obtain ⟨wf2, le2, -⟩ := lp_adv_wf hav2
  have b25 : b2 ≤ 500 := by have := wf2.2.1; have := wf2.2.2.1; omega
  generalize hx : T b1 - 48 = i at *
  have im : i < n := by rw [← hx]; exact y1.2.2
  have CW2 : ∀ d g, lp_RC g t T k b e → lp_DC g m n S G A → ∃ g1, lp_rn (d + 7) 43 [.ref 224] (lp_s0 g) = lp_fn (d + 6) 43 30 [.ref 224, .int (nI i), .long 0, .long 0] [.int (if k2 = 2 then nI (T b2 - 48) else -1)] (lp_s0 g1) ∧ lp_RC g1 t T k2 b2 e2 ∧ lp_DC g1 m n S G A ∧ lp_FC g g1 := by
    intro d g hg hD
    obtain ⟨g1, E1, r1, D1, F1⟩ := CW d g hg hD
    obtain ⟨g2, E2, r2, f2⟩ := (s45 (d := d + 2) r1 wf1 (by omega) (by omega)).1 y1 _ _ _ hav2
    rw [hx] at E2
    refine ⟨g2, ?_, r2, lp_DC_fr hn f2 D1, lp_FC_tr F1 (lp_FC_1 f2)⟩
    rw [E1, E2, Option.bind_some, e43_224_18, if_neg (lp_nI_ne (by omega)), s47 (d := d + 4) r2 wf2, Option.bind_some]
  have MW2 : ∀ d g, lp_RM g t T k b e → lp_DM g m n S G A → g 343 36 = nI 0 → ∃ g1, (((lp_rn (d + 6) 275 [.ref 343, .int (nI 4)] (lp_s0 g)).bind fun x => lp_fn (d + 6) 280 45 [.ref 343, .int a1, .int (nI b)] [.int x.1] x.2) = ((lp_fn (d + 5) 279 13 [.ref 343, .long 0, .long 0] [.int (nI i)] (lp_s0 g1)).bind fun x => lp_fn (d + 6) 280 52 [.ref 343, .int a1, .int (nI b)] [] x.2)) ∧ lp_RM g1 t T k2 b2 e2 ∧ lp_DM g1 m n S G A ∧ g1 343 36 = nI 0 ∧ lp_FM g g1 := by
    intro d g hg hD h0
    obtain ⟨g1, E1, r1, D1, z1, F1⟩ := MW d g hg hD h0
    obtain ⟨g2, E2, r2, f2, j2⟩ := (s276 (d := d + 2) r1 wf1 z1 (by omega) (by omega)).1 y1 _ _ _ hav2
    rw [hx] at E2
    exact ⟨g2, by rw [E1, E2, Option.bind_some], r2, lp_DM_fr (f2 _ (by omega)) D1, by rw [j2 _ (by omega)]; exact z1, lp_FM_tr F1 (lp_FM_1 f2 j2)⟩
  have k24 := wf2.1
  have w36 : ∀ s : lp_M, lp_w s 343 36 (nI 1) 343 36 = nI 1 := fun s => by rw [lp_w_eq, pk_us]
  by_cases y2 : lp_nok T k2 b2 0 n ∧ T b2 - 48 ≠ i ∧ A i (T b2 - 48) = 0
  case neg =>
    refine .inr ⟨b2, b25, fun d g hg hD => ?_, fun d g hg hD h0 => ?_⟩
    · obtain ⟨g1, E1, r1, D1, F1⟩ := CW2 d g hg hD
      refine ⟨g1, ?_, r1.2.2.1, F1⟩
      show _ = _
      have z1 : g1 225 1 = nI n := D1.1.2.1
      rw [E1, e43_224_30]
      by_cases u1 : k2 = 2
      · rw [if_pos u1]
        have w4 := lp_kb_2.mp (wf2.2.2.2.2 u1).2
        by_cases u2 : T b2 - 48 = i
        · rw [if_pos (by rw [u2])]
        · rw [if_neg (by rw [nI_eq (by omega) (by omega)]; exact u2)]
          by_cases u3 : T b2 - 48 < n
          · have zA := D1.1.2.2.2.2 i (T b2 - 48) im u3
            have ba := (hb.2.2.2.2 i (T b2 - 48) im u3).1
            have u4 : ¬ A i (T b2 - 48) = 0 := fun z => y2 ⟨⟨u1, by omega, u3⟩, u2, z⟩
            have E18 : lp_rn (d + 6) 18 [.ref 225, .int (nI (T b2 - 48))] (lp_s0 g1) = some (nI 1, lp_s0 g1) := by
              rw [e18_225, z1, if_neg (by rw [nI_ltI (by omega) (by omega)]; omega), if_neg (by rw [nI_leI (by omega) (by omega)]; omega)]
            rw [E18, Option.bind_some, e43_224_44]
            simp (disch := omega) only [lp_rA228, lp_rB228, zA, u4, nI_leI, nI_ltI, nI_eq, nI_clamp, lp_oobN, nI_add, pk_mul, pk_sub, pk_rem, pk_m1, lp_neg1lt, lp_neg1le, lp_neg1eq, lp_neg1eq2, if_true, if_false, if_pos, if_neg, Option.bind_some, Nat.lt_irrefl, Nat.le_refl, true_and, and_true, false_or, or_false, true_or, or_true, not_true_eq_false, not_false_eq_true, and_self, or_self, false_and, and_false, ite_true, ite_false, reduceIte]
          · have E18 : lp_rn (d + 6) 18 [.ref 225, .int (nI (T b2 - 48))] (lp_s0 g1) = some (nI 0, lp_s0 g1) := by
              rw [e18_225, z1, if_neg (by rw [nI_ltI (by omega) (by omega)]; omega), if_pos (by rw [nI_leI (by omega) (by omega)]; omega)]
            rw [E18, Option.bind_some, e43_224_44, if_pos rfl, z1, (s45 (d := d + 2) r1 wf2 (by omega) (by omega)).2 (fun z => u3 z.2.2), Option.bind_some, e43_224_77, if_pos rfl]
      · rw [if_neg u1, if_neg (fun z => lp_nI_ne (v := i) (by omega) z.symm)]
        have E18 : lp_rn (d + 6) 18 [.ref 225, .int (-1)] (lp_s0 g1) = some (nI 0, lp_s0 g1) := by
          rw [e18_225, if_pos (by decide)]
        rw [E18, Option.bind_some, e43_224_44, if_pos rfl, z1, (s45 (d := d + 2) r1 wf2 (by omega) (by omega)).2 (fun z => u1 z.1), Option.bind_some, e43_224_77, if_pos rfl]
    · obtain ⟨g1, E1, r1, D1, z1, F1⟩ := MW2 d g hg hD h0
      refine ⟨lp_w g1 343 36 (nI 1), ?_, by rw [lp_w_eq, pk_un (by omega)]; exact r1.2.2.1, by rw [lp_w_eq, pk_us], lp_FM_tr F1 ⟨fun q h1 h2 => by rw [lp_w_ne h1], fun j hj => by rw [lp_w_eq, pk_un (by omega)]⟩⟩
      show _ = _
      have n1 : g1 345 1 = nI n := D1.1.2.1
      rw [E1, e279_343_13, z1, if_pos rfl, r1.2.1]
      by_cases u1 : k2 = 2
      · have w4 := lp_kb_2.mp (wf2.2.2.2.2 u1).2
        have h35 := r1.2.2.2.2 u1
        rw [if_pos (by rw [u1]), h35, n1, e163, if_neg (show ¬ nI (T b2 - 48) < nI 0 by rw [nI_ltI (by omega) (by omega)]; omega)]
        have A2 := lp_lu2 (v := T b2 - 48) (u := n) (by omega) (by omega)
        by_cases u3 : T b2 - 48 < n
        · rw [if_neg (show ¬ nI n - nI 1 < nI (T b2 - 48) by rw [A2]; omega), Option.bind_some, e279_343_46, if_neg (show ¬ nI 1 = nI 0 by decide), h35]
          by_cases u2 : T b2 - 48 = i
          · rw [if_pos (by rw [u2])]
            exact MX d _ _ 0 _ (w36 g1)
          · have u4 : ¬ A i (T b2 - 48) = 0 := fun z => y2 ⟨⟨u1, by omega, u3⟩, u2, z⟩
            have zA := D1.1.2.2.2.2.1 i (T b2 - 48) im u3
            have ba := (hb.2.2.2.2 i (T b2 - 48) im u3).1
            unfold lp_stp at zA
            rw [if_neg (fun z => u2 z.symm)] at zA
            rw [if_neg (by rw [nI_eq (by omega) (by omega)]; exact u2), s172, Option.bind_some, e279_343_69]
            have u5 : ¬ A i (T b2 - 48) ≤ 0 := by omega
            simp (disch := omega) only [zA, u5, nI_leI, nI_ltI, nI_eq, nI_clamp, lp_oobN, nI_add, pk_mul, pk_sub, pk_rem, pk_m1, lp_neg1lt, lp_neg1le, lp_neg1eq, lp_neg1eq2, if_true, if_false, if_pos, if_neg, Option.bind_some, Nat.lt_irrefl, Nat.le_refl, true_and, and_true, false_or, or_false, true_or, or_true, not_true_eq_false, not_false_eq_true, and_self, or_self, false_and, and_false, ite_true, ite_false, reduceIte]
            exact MX d _ _ 0 _ (w36 g1)
        · rw [if_pos (show nI n - nI 1 < nI (T b2 - 48) by rw [A2]; omega), Option.bind_some, e279_343_46, if_pos rfl]
          exact MX d _ _ 0 _ (w36 g1)
      · rw [if_neg (by rw [nI_eq (by omega) (by omega)]; exact u1)]
        exact MX d _ _ 0 _ (w36 g1)
  obtain ⟨y2, ji, A0⟩ := y2
  obtain ⟨k3, b3, e3, hav3⟩ := lp_adv_ex (T := T) k2 wf2.2.2.1
  obtain ⟨wf3, le3, -⟩ := lp_adv_wf hav3
  have w42 := lp_kb_2.mp (wf2.2.2.2.2 y2.1).2
  generalize hj : T b2 - 48 = j at *
  have jn : j < n := by rw [← hj]; exact y2.2.2
  have CW3 : ∀ d g, lp_RC g t T k b e → lp_DC g m n S G A → ∃ g1, lp_rn (d + 7) 43 [.ref 224] (lp_s0 g) = ((lp_rn (d + 6) 44 [.ref 224, .retAddr 5, .int (nI 1), .int (nI 1), .int (nI m - nI 1)] (lp_s0 g1)).bind fun z => lp_fn (d + 6) 43 104 [.ref 224, .int (nI i), .int (nI j), .long 0] [.int z.1] z.2) ∧ lp_RC g1 t T k3 b3 e3 ∧ lp_DC g1 m n S G A ∧ lp_FC g g1 := by
    intro d g hg hD
    obtain ⟨g1, E1, r1, D1, F1⟩ := CW2 d g hg hD
    have z1 : g1 225 1 = nI n := D1.1.2.1
    have zA := D1.1.2.2.2.2 i j im jn
    rw [A0] at zA
    have E18 : lp_rn (d + 6) 18 [.ref 225, .int (nI j)] (lp_s0 g1) = some (nI 1, lp_s0 g1) := by
      rw [e18_225, z1, if_neg (by rw [nI_ltI (by omega) (by omega)]; omega), if_neg (by rw [nI_leI (by omega) (by omega)]; omega)]
    obtain ⟨g2, E2, r2, f2⟩ := (s45 (d := d + 2) r1 wf2 (by omega) (by omega)).1 y2 _ _ _ hav3
    rw [hj] at E2
    have D2 := lp_DC_fr hn f2 D1
    have z2 : g2 225 0 = nI m := D2.1.1
    refine ⟨g2, ?_, r2, D2, lp_FC_tr F1 (lp_FC_1 f2)⟩
    rw [E1, e43_224_30, if_pos y2.1, if_neg (by rw [nI_eq (by omega) (by omega)]; exact ji), E18, Option.bind_some, e43_224_44]
    simp (disch := omega) only [lp_rA228, lp_rB228, zA, z1, E2, nI_eq, nI_clamp, lp_oobN, if_true, if_false, if_pos, if_neg, Option.bind_some, Nat.lt_irrefl, Nat.le_refl, true_and, and_true, false_or, or_false, true_or, or_true, not_true_eq_false, not_false_eq_true, and_self, or_self, false_and, and_false, ite_true, ite_false, reduceIte]
    rw [e43_224_77, if_neg (lp_nI_ne (by omega)), z2]
  have MW3 : ∀ d g, lp_RM g t T k b e → lp_DM g m n S G A → g 343 36 = nI 0 → ∃ g1, (((lp_rn (d + 6) 275 [.ref 343, .int (nI 4)] (lp_s0 g)).bind fun x => lp_fn (d + 6) 280 45 [.ref 343, .int a1, .int (nI b)] [.int x.1] x.2) = (((lp_rn (d + 5) 275 [.ref 343, .int (nI 5)] (lp_s0 g1)).bind fun x => lp_fn (d + 5) 279 109 [.ref 343, .int (nI i), .int (nI j)] [.int x.1, .int (nI j), .int (nI i), .ref 345] x.2).bind fun x => lp_fn (d + 6) 280 52 [.ref 343, .int a1, .int (nI b)] [] x.2)) ∧ lp_RM g1 t T k3 b3 e3 ∧ lp_DM g1 m n S G A ∧ g1 343 36 = nI 0 ∧ lp_FM g g1 := by
    intro d g hg hD h0
    obtain ⟨g1, E1, r1, D1, z1, F1⟩ := MW2 d g hg hD h0
    have n1 : g1 345 1 = nI n := D1.1.2.1
    have h35 := r1.2.2.2.2 y2.1
    rw [hj] at h35
    have zA := D1.1.2.2.2.2.1 i j im jn
    unfold lp_stp at zA
    rw [if_neg (fun z => ji z.symm), A0] at zA
    have r1' : lp_RM (lp_w g1 343 36 (nI 0)) t T k2 b2 e2 := by
      unfold lp_RM lp_RMb at r1 ⊢
      rw [lp_w_eq, pk_un (by omega), pk_un (by omega), pk_un (by omega), pk_un (by omega), pk_un (by omega), lp_w_ne (by omega), lp_w_ne (by omega)]; exact r1
    obtain ⟨g2, E2, r2, f2, j2⟩ := s274 (d := d + 3) wf2.1 r1' hav3
    have F2 : lp_FM g1 g2 := lp_FM_tr ⟨fun q h1 h2 => by rw [lp_w_ne h1], fun j hj => by rw [lp_w_eq, pk_un (by omega)]⟩ (lp_FM_1 f2 j2)
    have q36 : lp_w g1 343 36 (nI 0) 343 36 = nI 0 := by rw [lp_w_eq, pk_us]
    have q35 : lp_w g1 343 36 (nI 0) 343 35 = nI j := by rw [lp_w_eq, pk_un (by omega)]; exact h35
    refine ⟨g2, ?_, r2, lp_DM_fr (by rw [f2 _ (by omega), lp_w_ne (by omega)]) D1, by rw [j2 _ (by omega)]; exact q36, lp_FM_tr F1 F2⟩
    have A2 := lp_lu2 (v := j) (u := n) (by omega) (by omega)
    rw [E1, e279_343_13, z1, if_pos rfl, r1.2.1, if_pos (by rw [y2.1]), h35, n1, e163, if_neg (show ¬ nI j < nI 0 by rw [nI_ltI (by omega) (by omega)]; omega), if_neg (show ¬ nI n - nI 1 < nI j by rw [A2]; omega), Option.bind_some, e279_343_46, if_neg (show ¬ nI 1 = nI 0 by decide), h35, if_neg (by rw [nI_eq (by omega) (by omega)]; exact ji), s172, Option.bind_some, e279_343_69]
    simp (disch := omega) only [zA, nI_leI, nI_ltI, nI_eq, nI_clamp, lp_oobN, nI_add, pk_mul, pk_sub, pk_rem, pk_m1, lp_neg1lt, lp_neg1le, lp_neg1eq, lp_neg1eq2, if_true, if_false, if_pos, if_neg, Option.bind_some, Nat.lt_irrefl, Nat.le_refl, true_and, and_true, false_or, or_false, true_or, or_true, not_true_eq_false, not_false_eq_true, and_self, or_self, false_and, and_false, ite_true, ite_false, reduceIte]
    rw [e279_343_81, q36, if_pos rfl, E2, Option.bind_some, q35, e279_343_98]
  -- by
  have CJ : ∀ d (g : lp_M) (v : Nat), lp_DC g m n S G A → lp_rn (d + 6) 24 [.ref 225, .int (nI i), .int (nI j), .int (nI v)] (lp_s0 g) = some (nI 0, lp_s0 (lp_w (lp_w g (228 + 1 + i) j (nI v)) (228 + 1 + j) i (nI v))) := fun d g v _ => s24c225 (by omega) (by omega)
  rcases lp_opt (w := 5) (dv := 1) (a := 1) (u := m) (by omega) (by omega) (by omega) wf3 with ⟨y, k4, b4, e4, o1, o2, wf4, le4, oC, oM⟩ | ⟨bx, bx5, oC, oM⟩
  case inr =>
    refine .inr ⟨bx, by omega, fun d g hg hD => ?_, fun d g hg hD h0 => ?_⟩
    · obtain ⟨g1, E1, r1, D1, F1⟩ := CW3 d g hg hD
      obtain ⟨g2, E2, z2, f2⟩ := oC d g1 r1
      refine ⟨g2, ?_, z2, lp_FC_tr F1 (lp_FC_1 f2)⟩
      show _ = _
      rw [E1, E2, Option.bind_some, e43_224_104, if_pos rfl]
    · obtain ⟨g1, E1, r1, D1, z1, F1⟩ := MW3 d g hg hD h0
      obtain ⟨g2, g3, E2, q2, E3, z2, z3, f3, j3⟩ := oM d g1 r1 z1
      have zz : g2 345 0 = nI m := by rw [q2]; exact D1.1.1
      have E4 := s179 (d := d + 3) (c := 345) (i := i) (j := j) (v := nI 1) (g := g3) lp_sh345 (by omega) (by omega) (by omega)
      refine ⟨lp_w (lp_w g3 345 (34 + 10 * i + j) (nI 1)) 345 (34 + 10 * j + i) (nI 1), ?_, ?_, ?_, lp_FM_tr F1 ⟨fun q h1 h2 => ?_, fun j hj => ?_⟩⟩
      · show _ = _
        rw [E1, E2, Option.bind_some, e279_343_109, if_neg (show ¬ nI 1 = nI 0 by decide), zz, E3, Option.bind_some, e279_343_125, E4, Option.bind_some, e279_343_132, Option.bind_some, e280_343_52, s280w (by rw [lp_w_ne (by omega), lp_w_ne (by omega)]; exact z3)]
      · rw [lp_w_ne (by omega), lp_w_ne (by omega)]; exact z2
      · rw [lp_w_ne (by omega), lp_w_ne (by omega)]; exact z3
      · rw [lp_w_ne h2, lp_w_ne h2]; exact f3 q h1
      · rw [lp_w_ne (by omega), lp_w_ne (by omega)]; exact j3 j hj
  have ym : y < m := by omega
  have CW4 : ∀ d g, lp_RC g t T k b e → lp_DC g m n S G A → ∃ g1, lp_rn (d + 7) 43 [.ref 224] (lp_s0 g) = ((lp_rn (d + 6) 46 [.ref 224] (lp_s0 g1)).bind fun w => lp_fn (d + 6) 43 114 [.ref 224, .int (nI i), .int (nI j), .int (nI y)] [.int w.1] w.2) ∧ lp_RC g1 t T k4 b4 e4 ∧ lp_DC g1 m n S G A ∧ lp_FC g g1 := by
    intro d g hg hD
    obtain ⟨g1, E1, r1, D1, F1⟩ := CW3 d g hg hD
    obtain ⟨g2, E2, r2, f2⟩ := oC d g1 r1
    refine ⟨g2, ?_, r2, lp_DC_fr hn f2 D1, lp_FC_tr F1 (lp_FC_1 f2)⟩
    rw [E1, E2, Option.bind_some, e43_224_104, if_neg (lp_nI_ne (by omega))]
  have MW4 : ∀ d g, lp_RM g t T k b e → lp_DM g m n S G A → g 343 36 = nI 0 → ∃ g1, (((lp_rn (d + 6) 275 [.ref 343, .int (nI 4)] (lp_s0 g)).bind fun x => lp_fn (d + 6) 280 45 [.ref 343, .int a1, .int (nI b)] [.int x.1] x.2) = lp_fn (d + 6) 280 60 [.ref 343, .int a1, .int (nI b)] [] (lp_s0 g1)) ∧ lp_RM g1 t T k4 b4 e4 ∧ lp_DM g1 m n S G (lp_wrA i j y A) ∧ g1 343 36 = nI 0 ∧ lp_FM g g1 := by
    intro d g hg hD h0
    obtain ⟨g1, E1, r1, D1, z1, F1⟩ := MW3 d g hg hD h0
    have fin : ∀ s : lp_M, lp_RM s t T k4 b4 e4 → lp_DM s m n S G A → s 343 36 = nI 0 → lp_FM g s → lp_RM (lp_w (lp_w s 345 (34 + 10 * i + j) (nI y)) 345 (34 + 10 * j + i) (nI y)) t T k4 b4 e4 ∧ lp_DM (lp_w (lp_w s 345 (34 + 10 * i + j) (nI y)) 345 (34 + 10 * j + i) (nI y)) m n S G (lp_wrA i j y A) ∧ lp_w (lp_w s 345 (34 + 10 * i + j) (nI y)) 345 (34 + 10 * j + i) (nI y) 343 36 = nI 0 ∧ lp_FM g (lp_w (lp_w s 345 (34 + 10 * i + j) (nI y)) 345 (34 + 10 * j + i) (nI y)) := by
      intro s r3 D3 z3 F3
      refine ⟨?_, ⟨by rw [lp_w_eq, lp_w_eq]; exact lp_D_wr hn im jn (fun z => ji z.symm) D3.1, by rw [lp_w_eq, pk_un (by omega), lp_w_eq, pk_un (by omega)]; exact D3.2.1, by rw [lp_w_eq, pk_un (by omega), lp_w_eq, pk_un (by omega)]; exact D3.2.2⟩, by rw [lp_w_ne (by omega), lp_w_ne (by omega)]; exact z3, lp_FM_tr F3 ⟨fun q h1 h2 => by rw [lp_w_ne h2, lp_w_ne h2], fun j hj => by rw [lp_w_ne (by omega), lp_w_ne (by omega)]⟩⟩
      unfold lp_RM lp_RMb at r3 ⊢
      rw [lp_w_ne (by omega), lp_w_ne (by omega), lp_w_ne (by omega), lp_w_ne (by omega), lp_w_ne (by omega), lp_w_ne (by omega)]; exact r3
    rcases oM d g1 r1 z1 with ⟨u1, u2, u3, u4, E2⟩ | ⟨g2, g3, E2, q2, E3, r3, f3, j3⟩
    · subst u1; subst u2; subst u3; subst u4
      have E4 := s179 (d := d + 3) (c := 345) (i := i) (j := j) (v := nI 1) (g := g1) lp_sh345 (by omega) (by omega) (by omega)
      refine ⟨_, ?_, fin g1 r1 D1 z1 F1⟩
      rw [E1, E2, Option.bind_some, e279_343_109, if_pos rfl, E4, Option.bind_some, e279_343_132, Option.bind_some, e280_343_52]
    · have zz : g2 345 0 = nI m := by rw [q2]; exact D1.1.1
      have E4 := s179 (d := d + 3) (c := 345) (i := i) (j := j) (v := nI y) (g := g3) lp_sh345 (by omega) (by omega) (by omega)
      refine ⟨_, ?_, fin g3 r3 (lp_DM_fr (f3 _ (by omega)) D1) (by rw [j3 _ (by omega)]; exact z1) (lp_FM_tr F1 (lp_FM_1 f3 j3))⟩
      rw [E1, E2, Option.bind_some, e279_343_109, if_neg (show ¬ nI 1 = nI 0 by decide), zz, E3, Option.bind_some, e279_343_125, E4, Option.bind_some, e279_343_132, Option.bind_some, e280_343_52]
  by_cases y4 : k4 = 3
  · obtain ⟨k5, b5', e5', hav5⟩ := lp_adv_ex (T := T) k4 wf4.2.2.1
    obtain ⟨wf5, le5, lt5⟩ := lp_adv_wf hav5
    refine .inl ⟨k5, b5', e5', m, n, S, G, lp_wrA i j y A, lp_Bd_wr hb ym, wf5, fun w => by have := lt5 w; omega, fun d g hg hD => ?_, fun d g hg hD h0 => ?_⟩
    · obtain ⟨g1, E1, r1, D1, F1⟩ := CW4 d g hg hD
      obtain ⟨g2, E2, r2, f2⟩ := (s46 (d := d + 2) r1 wf4).1 y4 _ _ _ hav5
      have D2 := lp_DC_fr hn f2 D1
      have E3 := CJ d g2 y D2
      refine ⟨lp_w (lp_w g2 (228 + 1 + i) j (nI y)) (228 + 1 + j) i (nI y), ?_, ⟨?_, by rw [lp_w_ne (by omega), lp_w_ne (by omega)]; exact r2.2.1, by rw [lp_w_ne (by omega), lp_w_ne (by omega)]; exact r2.2.2.1, by rw [lp_w_ne (by omega), lp_w_ne (by omega)]; exact r2.2.2.2⟩, ⟨lp_C_wr im jn (fun z => ji z.symm) D2.1, by rw [lp_w_ne (by omega), lp_w_ne (by omega)]; exact D2.2.1, by rw [lp_w_ne (by omega), lp_w_ne (by omega)]; exact D2.2.2⟩, lp_FC_tr F1 (lp_FC_tr (lp_FC_1 f2) (fun q hq => by rw [lp_w_ne (by omega), lp_w_ne (by omega)]))⟩
      · show _ = _
        rw [E1, E2, Option.bind_some, e43_224_114, if_neg (show ¬ nI 1 = nI 0 by decide), E3, Option.bind_some, e43_224_129]
      · have c2 := r2.1
        unfold lp_CT at c2 ⊢
        rw [lp_w_ne (by omega), lp_w_ne (by omega), lp_w_ne (by omega), lp_w_ne (by omega)]; exact c2
    · obtain ⟨g1, E1, r1, D1, z1, F1⟩ := MW4 d g hg hD h0
      obtain ⟨g2, E2, r2, f2, j2⟩ := (s280s (d := d + 4) (a1 := a1) (a2 := nI b) r1 wf4 z1).1 y4 _ _ _ hav5
      exact ⟨g2, E1.trans E2, r2, lp_DM_fr (f2 _ (by omega)) D1, by rw [j2 _ (by omega)]; exact z1, lp_FM_tr F1 (lp_FM_1 f2 j2)⟩
  · refine .inr ⟨b4, by have := wf4.2.1; have := wf4.2.2.1; omega, fun d g hg hD => ?_, fun d g hg hD h0 => ?_⟩
    · obtain ⟨g1, E1, r1, D1, F1⟩ := CW4 d g hg hD
      refine ⟨g1, ?_, r1.2.2.1, F1⟩
      show _ = _
      rw [E1, (s46 (d := d + 2) r1 wf4).2 y4, Option.bind_some, e43_224_114, if_pos rfl]
    · obtain ⟨g1, E1, r1, D1, z1, F1⟩ := MW4 d g hg hD h0
      have E2 := (s280s (d := d + 4) (a1 := a1) (a2 := nI b) r1 wf4 z1).2 y4
      exact ⟨_, E1.trans E2, by rw [lp_w_eq, pk_un (by omega)]; exact r1.2.2.1, by rw [lp_w_eq, pk_us], lp_FM_tr F1 ⟨fun q h1 h2 => by rw [lp_w_ne h1], fun j hj => by rw [lp_w_eq, pk_un (by omega)]⟩⟩
