/-! ===== report: the model, the step ===== -/
theorem s267 {rk : Nat} {g : lp_M} {r : Nat → Int32} {ro : Nat → Nat} {L D : Nat → Nat → Nat} (hr : lp_Ok r) (c : g 344 = r) (h8 : ∀ j, j < 50 → g 368 j = lp_wds.getD j 0) (hRF : lp_RF (lp_vM r) (lp_vN r) (lp_LT (lp_vA r)) rk ro L D) {y : Int32} (hy : -1 ≤ y) :
    ∃ g' ws, lp_rn 40 267 [.ref 343, .int y] (lp_s0 g) = some (lp_an y ws, lp_s0 g') ∧ lp_Rp r ws ∧ lp_Msc g g' := by
  have hn : lp_vN r ≤ 10 := hr.2.2.2.1
  have hm : lp_vM r ≤ 5 := by have := hr.2.1; omega
  have hrk := lp_RF_rk (lp_prM hr) hn hRF
  have w32 : ∀ b : Nat, [b].length = 1 := fun _ => rfl
  have c0 : lp_w g 343 28 (nI 0) 344 = r := by rw [lp_w_ne (by omega)]; exact c
  obtain ⟨g1, b1, b2, b3⟩ := s221 (d := 18) (b := false) (bv := nI 0) (g := lp_w g 343 28 (nI 0)) rfl hr c0 hRF
  have c1 : g1 344 = r := by rw [b1 _ (by omega)]; exact c0
  have k0 : g1 343 28 = nI 0 := by rw [b2 _ (by omega) (by omega), lp_w_eq, pk_us]
  have h81 : ∀ j, j < 50 → g1 368 j = lp_wds.getD j 0 := fun j hj => by rw [b1 _ (by omega), lp_w_ne (by omega)]; exact h8 j hj
  have ms1 : lp_Msc g g1 := lp_Msc_a (fun q q1 q2 q3 q4 => by
    by_cases e : q < 343 ∨ q = 344 ∨ q = 345 ∨ q = 346 ∨ q = 347 ∨ q = 348 ∨ 360 < q
    · rw [b1 q e, lp_w_ne q1]
    · omega) (by rw [b2 _ (by omega) (by omega), lp_w_eq, pk_un (by omega)]) (by rw [b2 _ (by omega) (by omega), lp_w_eq, pk_un (by omega)])
  have n1 : ∀ ws, lp_ps 343 28 366 g1 ws 344 1 = nI (lp_vN r) := fun ws => by rw [lp_ps_fr _ _ _ _ _ _ (by omega) (by omega), c1]; exact hr.2.2.1
  have m1 : g1 344 1 = nI (lp_vN r) := by rw [c1]; exact hr.2.2.1
  have len : ∀ ws : List Nat, ws.length ≤ 1000 → lp_ps 343 28 366 g1 ws 343 28 = nI ws.length := fun ws h => by
    have := lp_psM (ws := ws) k0 (by omega)
    rw [Nat.zero_add] at this; exact this
  have fin : ∀ (ws : List Nat) (a2 : Int32) (a3 : Value), lp_Rp r ws → lp_rn 40 267 [.ref 343, .int y] (lp_s0 g) = lp_fn 39 267 121 [.ref 343, .int y, .int a2, a3] [] (lp_s0 (lp_ps 343 28 366 g1 ws)) → (∀ s, lp_fn 39 267 121 [.ref 343, .int y, .int a2, a3] [] (lp_s0 s) = ((lp_rn 39 263 [.ref 343, .int y] (lp_s0 s)).bind fun x => lp_fn 39 267 126 [.ref 343, .int y, .int a2, a3] [.int x.1] x.2)) → (∀ s v, lp_fn 39 267 126 [.ref 343, .int y, .int a2, a3] [.int v] (lp_s0 s) = some (v, lp_s0 s)) → ∃ g' ws, lp_rn 40 267 [.ref 343, .int y] (lp_s0 g) = some (lp_an y ws, lp_s0 g') ∧ lp_Rp r ws ∧ lp_Msc g g' := by
    intro ws a2 a3 hw E q1 q2
    have lw := lp_Rp_le hr hw
    obtain ⟨d1, d2, d3, d4, d5⟩ := lp_ps_all (c := 343) (f := 28) (e := 366) (by omega) ws g1 0 k0 (by omega)
    have lk : lp_lnk (lp_ps 343 28 366 g1 ws) 343 28 366 ws := ⟨len _ (by omega), fun i hi => by
      have := d2 i hi
      rw [Nat.zero_add] at this
      exact this⟩
    refine ⟨_, ws, ?_, hw, lp_Msc_tr ms1 (lp_Msc_a (fun q q1 q2 q3 q4 => d4 q q1 (by omega)) (d5 _ (by omega)) (d5 _ (by omega)))⟩
    rw [E, q1, s263 (d := 38) lk (by omega) hy, Option.bind_some, q2]
  have n20 : ¬ (-2 : Int32) = nI 0 := by decide
  have n30 : ¬ (-3 : Int32) = nI 0 := by decide
  have n32 : ¬ (-3 : Int32) = -2 := by decide
  rcases b3 with ⟨nin, E⟩ | ⟨hin, big, E⟩ | ⟨hin, nbig, E, f, bst, u1, u2⟩
  · refine fin (lp_swd 14) (-2) (.int (nI 0)) (.inl ⟨nin, rfl⟩) ?_ (fun s => by rw [e267_343_121]) (fun s v => by rw [e267_343_126])
    have E1 := s261 (d := 37) (w := 8) (by omega) h81 k0 (by have := lp_mwN.2.2.2.2.2.2.2.2.1; omega)
    have E2 := s260 (d := 38) (b := 59) (len (lp_mwd 8) (by have := lp_mwN.2.2.2.2.2.2.2.2.1; omega)) (by have := lp_mwN.2.2.2.2.2.2.2.2.1; omega)
    have E' : lp_rn 39 221 [.ref 343, .int (nI 0)] (lp_s0 (lp_w g 343 28 (nI 0))) = some (-2, lp_s0 g1) := E
    rw [← lp_ps_app, ← lp_swL.2.2.2.2.2.2.2.2.1] at E2
    by_cases z : lp_vN r ≤ 0
    · simp (disch := omega) only [e267_343, hy, E', e267_343_17, if_true, if_false, if_pos, if_neg, Option.bind_some, Nat.lt_irrefl, Nat.le_refl, true_and, and_true, false_or, or_false, true_or, or_true, not_true_eq_false, not_false_eq_true, and_self, or_self, false_and, and_false, ite_true, ite_false, reduceIte]
      rw [e267_343_20]
      simp (disch := omega) only [e169_343, m1, e267_343_25, n20, E1, e267_343_103, E2, z, nI_leI, if_true, if_false, if_pos, if_neg, Option.bind_some, Nat.lt_irrefl, Nat.le_refl, true_and, and_true, false_or, or_false, true_or, or_true, not_true_eq_false, not_false_eq_true, and_self, or_self, false_and, and_false, ite_true, ite_false, reduceIte]
    · simp (disch := omega) only [e267_343, hy, E', e267_343_17, if_true, if_false, if_pos, if_neg, Option.bind_some, Nat.lt_irrefl, Nat.le_refl, true_and, and_true, false_or, or_false, true_or, or_true, not_true_eq_false, not_false_eq_true, and_self, or_self, false_and, and_false, ite_true, ite_false, reduceIte]
      rw [e267_343_20]
      simp (disch := omega) only [e169_343, m1, e267_343_25, n20, E1, e267_343_103, E2, z, nI_leI, if_true, if_false, if_pos, if_neg, Option.bind_some, Nat.lt_irrefl, Nat.le_refl, true_and, and_true, false_or, or_false, true_or, or_true, not_true_eq_false, not_false_eq_true, and_self, or_self, false_and, and_false, ite_true, ite_false, reduceIte]
  · rw [← hrk] at big
    refine fin (lp_swd 15) (-3) (.int (nI 0)) (.inr (.inl ⟨hin, big, rfl⟩)) ?_ (fun s => by rw [e267_343_121]) (fun s v => by rw [e267_343_126])
    have E1 := s261 (d := 37) (w := 9) (by omega) h81 k0 (by have := lp_mwN.2.2.2.2.2.2.2.2.2; omega)
    have E2 := s260 (d := 38) (b := 59) (len (lp_mwd 9) (by have := lp_mwN.2.2.2.2.2.2.2.2.2; omega)) (by have := lp_mwN.2.2.2.2.2.2.2.2.2; omega)
    have E' : lp_rn 39 221 [.ref 343, .int (nI 0)] (lp_s0 (lp_w g 343 28 (nI 0))) = some (-3, lp_s0 g1) := E
    rw [← lp_ps_app, ← lp_swL.2.2.2.2.2.2.2.2.2.1] at E2
    by_cases z : lp_vN r ≤ 0
    · simp (disch := omega) only [e267_343, hy, E', e267_343_17, if_true, if_false, if_pos, if_neg, Option.bind_some, Nat.lt_irrefl, Nat.le_refl, true_and, and_true, false_or, or_false, true_or, or_true, not_true_eq_false, not_false_eq_true, and_self, or_self, false_and, and_false, ite_true, ite_false, reduceIte]
      rw [e267_343_20]
      simp (disch := omega) only [e169_343, m1, e267_343_25, n30, n32, E1, e267_343_103, E2, z, nI_leI, if_true, if_false, if_pos, if_neg, Option.bind_some, Nat.lt_irrefl, Nat.le_refl, true_and, and_true, false_or, or_false, true_or, or_true, not_true_eq_false, not_false_eq_true, and_self, or_self, false_and, and_false, ite_true, ite_false, reduceIte]
    · simp (disch := omega) only [e267_343, hy, E', e267_343_17, if_true, if_false, if_pos, if_neg, Option.bind_some, Nat.lt_irrefl, Nat.le_refl, true_and, and_true, false_or, or_false, true_or, or_true, not_true_eq_false, not_false_eq_true, and_self, or_self, false_and, and_false, ite_true, ite_false, reduceIte]
      rw [e267_343_20]
      simp (disch := omega) only [e169_343, m1, e267_343_25, n30, n32, E1, e267_343_103, E2, z, nI_leI, if_true, if_false, if_pos, if_neg, Option.bind_some, Nat.lt_irrefl, Nat.le_refl, true_and, and_true, false_or, or_false, true_or, or_true, not_true_eq_false, not_false_eq_true, and_self, or_self, false_and, and_false, ite_true, ite_false, reduceIte]
  · rw [← hrk] at nbig
    have hRp : lp_Rp r (lp_plT f (lp_vN r)) := .inr (.inr ⟨hin, nbig, f, bst, rfl⟩)
    refine fin (lp_plT f (lp_vN r)) (nI 0) (.int (nI (lp_vN r))) hRp ?_ (fun s => by rw [e267_343_121]) (fun s v => by rw [e267_343_126])
    have E' : lp_rn 39 221 [.ref 343, .int (nI 0)] (lp_s0 (lp_w g 343 28 (nI 0))) = some (nI 0, lp_s0 g1) := E
    have fl : ∀ j, j < lp_vN r → f j < 10 := fun j hj => by have := bst.1.1 j hj; omega
    have H1 : lp_rn 40 267 [.ref 343, .int y] (lp_s0 g) = lp_fn 39 267 20 [.ref 343, .int y, .int (nI 0), .int (nI 0)] [] (lp_s0 (lp_ps 343 28 366 g1 (lp_plR f 0))) := by
      show _ = lp_fn 39 267 20 [.ref 343, .int y, .int (nI 0), .int (nI 0)] [] (lp_s0 g1)
      simp (disch := omega) only [e267_343, hy, E', e267_343_17, if_true, if_false, if_pos, if_neg, Option.bind_some, Nat.lt_irrefl, Nat.le_refl, true_and, and_true, false_or, or_false, true_or, or_true, not_true_eq_false, not_false_eq_true, and_self, or_self, false_and, and_false, ite_true, ite_false, reduceIte]
    have H2 := lp_iter (fun i => lp_fn 39 267 20 [.ref 343, .int y, .int (nI 0), .int (nI i)] [] (lp_s0 (lp_ps 343 28 366 g1 (lp_plR f i)))) (lp_vN r) (fun i hi => by
      have l1 := lp_plR_le (f := f) i (by omega) (fun j hj => fl j (by omega))
      have z1 := n1 (lp_plR f i)
      have z2 : lp_ps 343 28 366 g1 (lp_plR f i) 358 i = nI (f i) := by rw [lp_ps_fr _ _ _ _ _ _ (by omega) (by omega)]; exact u2 i hi
      have lf := fl i hi
      have z3 := len (lp_plR f i) (by omega)
      have z8 : ∀ j, j < 50 → lp_ps 343 28 366 g1 (lp_plR f i) 368 j = lp_wds.getD j 0 := fun j hj => by rw [lp_ps_fr _ _ _ _ _ _ (by omega) (by omega)]; exact h81 j hj
      show lp_fn 39 267 20 _ _ _ = lp_fn 39 267 20 [.ref 343, .int y, .int (nI 0), .int (nI (i + 1))] [] (lp_s0 (lp_ps 343 28 366 g1 (lp_plR f i ++ lp_prT f i)))
      rw [lp_ps_app, e267_343_20]
      generalize lp_ps 343 28 366 g1 (lp_plR f i) = s at z1 z2 z3 z8 ⊢
      by_cases e : f i = 0
      · have z : lp_prT f i = [] := if_pos e
        rw [z, lp_ps_nil]
        simp (disch := omega) only [e169_343, z1, e267_343_25, z2, e, nI_leI, nI_ltI, nI_eq, nI_clamp, lp_oobN, nI_add, pk_mul, pk_sub, pk_rem, pk_m1, lp_neg1lt, lp_neg1le, lp_neg1eq, lp_neg1eq2, if_true, if_false, if_pos, if_neg, Option.bind_some, Nat.lt_irrefl, Nat.le_refl, true_and, and_true, false_or, or_false, true_or, or_true, not_true_eq_false, not_false_eq_true, and_self, or_self, false_and, and_false, ite_true, ite_false, reduceIte]
      · have d1 := lp_dig1 (n := i) (by omega)
        have d2 := lp_dig1 (n := f i) (by omega)
        have l6 := lp_mwN.2.2.2.2.2.2.1
        have z : lp_prT f i = lp_mwd 6 ++ (([32] ++ lp_dig i) ++ (([32] ++ lp_dig (f i)) ++ [59])) := by
          unfold lp_prT
          rw [if_neg e, lp_swL.2.1, lp_swL.2.2.2.2.2.2.1, lp_swL.2.2.2.2.2.2.2.2.2.2.1]
          simp only [List.append_assoc]
        rw [z, lp_ps_app, lp_ps_app, lp_ps_app _ _ _ _ ([32] ++ lp_dig (f i))]
        have E1 := s261 (d := 37) (w := 6) (by omega) z8 z3 (by omega)
        have a1 := lp_psM (ws := lp_mwd 6) z3 (by omega)
        have f1 := lp_ps_fr 343 28 366 (lp_mwd 6) s
        generalize lp_ps 343 28 366 s (lp_mwd 6) = s1 at *
        have E2 := s262 (d := 37) (n := i) (by omega) a1 (by simp only [List.length_append, w32]; omega)
        have a2 := lp_psM (ws := [32] ++ lp_dig i) a1 (by simp only [List.length_append, w32]; omega)
        have f2 := lp_ps_fr 343 28 366 ([32] ++ lp_dig i) s1
        generalize lp_ps 343 28 366 s1 ([32] ++ lp_dig i) = s2 at *
        simp only [List.length_append, w32] at a2
        have E3 := s262 (d := 37) (n := f i) (by omega) a2 (by simp only [List.length_append, w32]; omega)
        have a3 := lp_psM (ws := [32] ++ lp_dig (f i)) a2 (by simp only [List.length_append, w32]; omega)
        generalize lp_ps 343 28 366 s2 ([32] ++ lp_dig (f i)) = s3 at *
        simp only [List.length_append, w32] at a3
        have E4 := s260 (d := 38) (b := 59) a3 (by omega)
        have z4 : s2 358 i = nI (f i) := by rw [f2 _ (by omega) (by omega), f1 _ (by omega) (by omega)]; exact z2
        simp (disch := omega) only [e169_343, z1, e267_343_25, z2, e, E1, e267_343_50, E2, e267_343_55, z4, E3, e267_343_65, E4, e267_343_71, nI_leI, nI_ltI, nI_eq, nI_clamp, lp_oobN, nI_add, pk_mul, pk_sub, pk_rem, pk_m1, lp_neg1lt, lp_neg1le, lp_neg1eq, lp_neg1eq2, if_true, if_false, if_pos, if_neg, Option.bind_some, Nat.lt_irrefl, Nat.le_refl, true_and, and_true, false_or, or_false, true_or, or_true, not_true_eq_false, not_false_eq_true, and_self, or_self, false_and, and_false, ite_true, ite_false, reduceIte])
    refine H1.trans (H2.trans ?_)
    have l1 := lp_plR_le (f := f) (lp_vN r) (by omega) fl
    have z1 := n1 (lp_plR f (lp_vN r))
    have z3 := len (lp_plR f (lp_vN r)) (by omega)
    have cb := lp_cst_le (b := false) (x := f) (n := lp_vN r) (lp_prM hr) bst.1.1
    have z4 : lp_ps 343 28 366 g1 (lp_plR f (lp_vN r)) 343 20 = nI (lp_cst false f (lp_vN r)) := by rw [(lp_ps_all (c := 343) (f := 28) (e := 366) (by omega) (lp_plR f (lp_vN r)) g1 0 k0 (by omega)).2.2.2.2 20 (by omega)]; exact u1
    have z8 : ∀ j, j < 50 → lp_ps 343 28 366 g1 (lp_plR f (lp_vN r)) 368 j = lp_wds.getD j 0 := fun j hj => by rw [lp_ps_fr _ _ _ _ _ _ (by omega) (by omega)]; exact h81 j hj
    have d2 := lp_dig2 (lp_cst false f (lp_vN r))
    have l7 := lp_mwN.2.2.2.2.2.2.2.1
    have z : lp_plT f (lp_vN r) = lp_plR f (lp_vN r) ++ (lp_mwd 7 ++ (([32] ++ lp_dig (lp_cst false f (lp_vN r))) ++ [59])) := by
      unfold lp_plT
      rw [lp_swL.2.1, lp_swL.2.2.2.2.2.2.2.2.2.2.2]
      simp only [List.append_assoc]
    rw [z, lp_ps_app, lp_ps_app, lp_ps_app]
    generalize lp_ps 343 28 366 g1 (lp_plR f (lp_vN r)) = s at z1 z3 z4 z8 ⊢
    have E1 := s261 (d := 37) (w := 7) (by omega) z8 z3 (by omega)
    obtain ⟨a1, -, -, -, a15⟩ := lp_ps_all (c := 343) (f := 28) (e := 366) (by omega) (lp_mwd 7) s _ z3 (by omega)
    generalize lp_ps 343 28 366 s (lp_mwd 7) = s1 at *
    have z5 : s1 343 20 = nI (lp_cst false f (lp_vN r)) := by rw [a15 _ (by omega)]; exact z4
    have E2 := s262 (d := 37) (n := lp_cst false f (lp_vN r)) (by omega) a1 (by simp only [List.length_append, w32]; omega)
    have a2 := lp_psM (ws := [32] ++ lp_dig (lp_cst false f (lp_vN r))) a1 (by simp only [List.length_append, w32]; omega)
    generalize lp_ps 343 28 366 s1 ([32] ++ lp_dig (lp_cst false f (lp_vN r))) = s2 at *
    simp only [List.length_append, w32] at a2
    have E3 := s260 (d := 38) (b := 59) a2 (by omega)
    show lp_fn 39 267 20 _ _ _ = _
    rw [e267_343_20]
    simp (disch := omega) only [e169_343, z1, e267_343_25, E1, e267_343_103, z5, E2, e267_343_115, E3, nI_leI, nI_ltI, nI_eq, nI_clamp, lp_oobN, nI_add, pk_mul, pk_sub, pk_rem, pk_m1, lp_neg1lt, lp_neg1le, lp_neg1eq, lp_neg1eq2, if_true, if_false, if_pos, if_neg, Option.bind_some, Nat.lt_irrefl, Nat.le_refl, true_and, and_true, false_or, or_false, true_or, or_true, not_true_eq_false, not_false_eq_true, and_self, or_self, false_and, and_false, ite_true, ite_false, reduceIte]
theorem st_report {L : Nat} {xs : Nat → Int32} {Rg : lp_M → (Nat → Int32) → Prop} (H : lp_RgOk Rg) (x : Int32) : lp_St (lp_Inv L xs (lp_Ka (lp_Kb (lp_Kt Rg)))) 131 267 [.int x] := by
  refine lp_ask3 (lp_KaOk (lp_KbOk (lp_KtOk H))) fun g r a p t T c4 c5 c6 c7 => ?_
  have hn : lp_vN r ≤ 10 := c4.2.2.2.1
  obtain ⟨g1, rk, ro, L', D, E1, a1, a2, a3, a4, a5⟩ := s138 (d := 32) c4 c5.1 c6.1 c6.2.1
  obtain ⟨k1, k2⟩ := lp_Ka_pl (lp_KbOk (lp_KtOk H)) a1 a2 a3 a4 a5 c6
  have cb1 := lp_CB_kc c4 k2 c5
  have sv := lp_Sol_SV a3
  have hrk := lp_RF_rk (lp_prM c4) hn sv.1
  have g10' : g1 1 0 = nI (lp_vM r) := cb1.1.1.trans c4.1
  have E3 := s145 (d := 35) (g := g1) (rk := rk) c4 g10' sv.2.2.1
  -- the best plan, if it is told
  have F : ∃ g2, lp_rn 39 139 [.ref 0, .ref 318] (lp_s0 g1) = some (nI 0, lp_s0 g2) ∧ lp_Kc g1 g2 ∧ lp_Ka (lp_Kb (lp_Kt Rg)) g2 r ∧ g2 244 2 = nI (lp_vN r - rk) ∧
      ((g2 0 15 = nI 0 ∧ ¬ lp_inW r) ∨ (g2 0 15 = nI 1 ∧ lp_inW r ∧ lp_big r) ∨ (g2 0 15 = nI 1 ∧ lp_inW r ∧ ¬ lp_big r ∧ ∃ f, lp_Bst false (lp_vN r) (lp_PlnR r) f ∧ g2 318 1 = nI (lp_cst false f (lp_vN r)) ∧ ∀ j, j < lp_vN r → g2 319 j = nI (f j))) := by
    rcases a5 with ⟨u, nin⟩ | ⟨u, y, uy, uj⟩
    · refine ⟨g1, ?_, lp_Kc_rfl g1, k1, sv.2.2.1, .inl ⟨u, nin⟩⟩
      rw [e139_0, u, if_pos rfl]
    have hin : lp_inW r := ⟨y, fun j hj => by omega, uy.2.2.2⟩
    by_cases ht : 60000 < lp_vM r ^ (lp_vN r - rk)
    · refine ⟨g1, ?_, lp_Kc_rfl g1, k1, sv.2.2.1, .inr (.inl ⟨u, hin, by unfold lp_big; rw [hrk]; exact ht⟩)⟩
      rw [if_pos ht] at E3
      rw [e139_0, u]
      simp (disch := omega) only [E3, e139_0_11, nI_leI, nI_ltI, nI_eq, nI_clamp, lp_oobN, nI_add, pk_mul, pk_sub, pk_rem, pk_m1, lp_neg1lt, lp_neg1le, lp_neg1eq, lp_neg1eq2, if_true, if_false, if_pos, if_neg, Option.bind_some, Nat.lt_irrefl, Nat.le_refl, true_and, and_true, false_or, or_false, true_or, or_true, not_true_eq_false, not_false_eq_true, and_self, or_self, false_and, and_false, ite_true, ite_false, reduceIte]
    · obtain ⟨g2, f, E4, d1, d2, d3, d4, d5, d6⟩ := s139 (d := 24) (lp_KtOk H) (.inl ⟨rfl, rfl⟩) c4 g10' cb1.2.2.2 a3 a2 u uy uj ht k1
      refine ⟨g2, E4, ⟨fun q hq => d1 q (by omega) (by omega) (by omega), fun q hq => ?_⟩, d6, by rw [d1 _ (by omega) (by omega) (by omega)]; exact sv.2.2.1, .inr (.inr ⟨by rw [d1 _ (by omega) (by omega) (by omega)]; exact u, hin, by unfold lp_big; rw [hrk]; exact ht, f, d3, d4, d5⟩)⟩
      by_cases e : q = 318
      · rw [e, d2]
      · rw [d1 q e (by omega) (by omega)]
  obtain ⟨g2, E4, k3, k4, z2, hc⟩ := F
  have k5 := lp_Kc_tr k2 k3
  have cb2 := lp_CB_kc c4 k5 c5
  -- the text
  have G : ∃ g3 ws, lp_rn 40 131 [.ref 0, .int x] (lp_s0 g) = some (lp_an x ws, lp_s0 g3) ∧ lp_Rp r ws ∧ (∀ q, q ≠ 338 → q ≠ 339 → g3 q = g2 q) ∧ lp_K7 g3 r := by
    rcases k4.2.2.2.2.2.1 with k | ⟨k, ws, w1, w2⟩
    · obtain ⟨g3, ws, E5, w1, w2, w3, w4⟩ := s156 (d := 31) c4 cb2.1 z2 hrk hc
      have E6 := s16 (d := 38) (c := 338) (cap := 120) (.inr ⟨rfl, rfl⟩) w3 (by have := lp_Rp_le c4 w1; omega) x
      refine ⟨g3, ws, ?_, w1, w4, .inr ⟨w2, ws, w1, w3⟩⟩
      simp (disch := omega) only [e131_0, E1, e131_0_4, E4, e131_0_12, k, E5, e131_0_26, E6, e131_0_34, nI_leI, nI_ltI, nI_eq, nI_clamp, lp_oobN, nI_add, pk_mul, pk_sub, pk_rem, pk_m1, lp_neg1lt, lp_neg1le, lp_neg1eq, lp_neg1eq2, if_true, if_false, if_pos, if_neg, Option.bind_some, Nat.lt_irrefl, Nat.le_refl, true_and, and_true, false_or, or_false, true_or, or_true, not_true_eq_false, not_false_eq_true, and_self, or_self, false_and, and_false, ite_true, ite_false, reduceIte]
    · have E6 := s16 (d := 38) (c := 338) (cap := 120) (.inr ⟨rfl, rfl⟩) w2 (by have := lp_Rp_le c4 w1; omega) x
      refine ⟨g2, ws, ?_, w1, fun _ _ _ => rfl, .inr ⟨k, ws, w1, w2⟩⟩
      simp (disch := omega) only [e131_0, E1, e131_0_4, E4, e131_0_12, k, E6, e131_0_34, nI_leI, nI_ltI, nI_eq, nI_clamp, lp_oobN, nI_add, pk_mul, pk_sub, pk_rem, pk_m1, lp_neg1lt, lp_neg1le, lp_neg1eq, lp_neg1eq2, if_true, if_false, if_pos, if_neg, Option.bind_some, Nat.lt_irrefl, Nat.le_refl, true_and, and_true, false_or, or_false, true_or, or_true, not_true_eq_false, not_false_eq_true, and_self, or_self, false_and, and_false, ite_true, ite_false, reduceIte]
  obtain ⟨g3, ws, E7, w1, w2, w3⟩ := G
  obtain ⟨k6, k7⟩ := lp_Ka_tx (g' := g3) (fun q hq => w2 q (by omega) (by omega)) (by rw [w2 _ (by omega) (by omega)]) k4 ⟨lp_K6_fr (w2 _ (by omega) (by omega)) (w2 _ (by omega) (by omega)) k4.2.2.2.2.1, w3, H.2.2 g2 g3 r k4.2.2.2.2.2.2 (fun q hq => w2 q (by omega) (by omega))⟩
  have k8 := lp_Kc_tr k5 k7
  by_cases hx : -1 ≤ x
  · obtain ⟨g4, ws', E8, v1, v2⟩ := s267 (g := g3) c4 (by rw [k8.1 _ (by omega)]; exact c7.1) (fun j hj => by rw [k8.1 _ (by omega)]; exact c7.2.2.2 j hj) sv.1 hx
    rw [← lp_Rp_uniq w1 v1] at E8
    exact ⟨_, g3, g4, E7, k8, k6, E8, v2⟩
  · refine ⟨_, g3, g3, E7, k8, k6, ?_, lp_Msc_rfl g3⟩
    rw [e267_343, if_neg hx]
    unfold lp_an
    rw [if_neg hx]
