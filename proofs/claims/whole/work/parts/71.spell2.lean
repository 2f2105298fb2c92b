/-! ===== the model spells; what is known of texts ===== -/
theorem lp_psM {k : Nat} {g : lp_M} {ws : List Nat} (h : g 343 28 = nI k) (hk : k + ws.length ≤ 1000) : lp_ps 343 28 366 g ws 343 28 = nI (k + ws.length) := lp_ps_len (by omega) h hk
theorem s264g {d i k x : Nat} {s : lp_M} (hi : i < 10) (h8 : ∀ j, j < 50 → s 368 j = lp_wds.getD j 0) (h3 : s 344 (24 + i) = nI x) (hx : x < 10) (hk : s 343 28 = nI k) (hle : k + (lp_goT x ++ lp_swd 7).length ≤ 900) : lp_fn (d + 2) 264 54 [.ref 343, .int (nI i)] [] (lp_s0 s) = some (nI 0, lp_s0 (lp_ps 343 28 366 s (lp_goT x ++ lp_swd 7))) := by
  have w3 := lp_mwN.2.2.2.1
  have w1 := lp_dig1 hx
  have w32 : ∀ b : Nat, [b].length = 1 := fun _ => rfl
  rw [e264_343_54]
  by_cases e : x = 0
  · have z : lp_goT x ++ lp_swd 7 = [59] := by unfold lp_goT; rw [if_pos e, lp_swL.2.1]; rfl
    rw [z] at hle ⊢
    have E := s260 (d := d + 1) (b := 59) hk (by rw [w32] at hle; omega)
    simp (disch := omega) only [h3, e, E, e264_343_96, nI_leI, nI_ltI, nI_eq, nI_clamp, lp_oobN, nI_add, pk_mul, pk_sub, pk_rem, pk_m1, lp_neg1lt, lp_neg1le, lp_neg1eq, lp_neg1eq2, if_true, if_false, if_pos, if_neg, Option.bind_some, Nat.lt_irrefl, Nat.le_refl, true_and, and_true, false_or, or_false, true_or, or_true, not_true_eq_false, not_false_eq_true, and_self, or_self, false_and, and_false, ite_true, ite_false, reduceIte]
  · have z : lp_goT x ++ lp_swd 7 = [32] ++ (lp_mwd 3 ++ (([32] ++ lp_dig x) ++ [59])) := by
      unfold lp_goT
      rw [if_neg e, lp_swL.2.1, lp_swL.2.2.2.2.1]
      simp only [List.append_assoc]
    rw [z] at hle ⊢
    simp only [List.length_append, w32] at hle
    have E1 := s260 (d := d + 1) (b := 32) hk (by omega)
    have a1 := lp_psM (ws := [32]) hk (by rw [w32]; omega)
    have f1 := lp_ps_fr 343 28 366 [32] s
    rw [lp_ps_app, lp_ps_app, lp_ps_app]
    generalize lp_ps 343 28 366 s [32] = s1 at *
    rw [w32] at a1
    have E2 := s261 (d := d) (w := 3) (by omega) (fun j hj => by rw [f1 _ (by omega) (by omega)]; exact h8 j hj) a1 (by omega)
    have a2 := lp_psM (ws := lp_mwd 3) a1 (by omega)
    have f2 := lp_ps_fr 343 28 366 (lp_mwd 3) s1
    generalize lp_ps 343 28 366 s1 (lp_mwd 3) = s2 at *
    have E3 := s262 (d := d) (n := x) (by omega) a2 (by simp only [List.length_append, w32]; omega)
    have a3 := lp_psM (ws := [32] ++ lp_dig x) a2 (by simp only [List.length_append, w32]; omega)
    generalize lp_ps 343 28 366 s2 ([32] ++ lp_dig x) = s3 at *
    simp only [List.length_append, w32] at a3
    have E4 := s260 (d := d + 1) (b := 59) a3 (by omega)
    have h32 : s2 344 (24 + i) = nI x := by rw [f2 _ (by omega) (by omega), f1 _ (by omega) (by omega)]; exact h3
    simp (disch := omega) only [h3, e, E1, e264_343_72, E2, e264_343_77, h32, E3, e264_343_90, E4, e264_343_96, nI_leI, nI_ltI, nI_eq, nI_clamp, lp_oobN, nI_add, pk_mul, pk_sub, pk_rem, pk_m1, lp_neg1lt, lp_neg1le, lp_neg1eq, lp_neg1eq2, if_true, if_false, if_pos, if_neg, Option.bind_some, Nat.lt_irrefl, Nat.le_refl, true_and, and_true, false_or, or_false, true_or, or_true, not_true_eq_false, not_false_eq_true, and_self, or_self, false_and, and_false, ite_true, ite_false, reduceIte]
theorem s264 {d i k : Nat} {s : lp_M} {r : Nat → Int32} (hr : lp_Ok r) (c : s 344 = r) (h8 : ∀ j, j < 50 → s 368 j = lp_wds.getD j 0) (hi : i < lp_vN r) (hk : s 343 28 = nI k) (hle : k + (lp_lampT r i).length ≤ 900) : lp_rn (d + 3) 264 [.ref 343, .int (nI i)] (lp_s0 s) = some (nI 0, lp_s0 (lp_ps 343 28 366 s (lp_lampT r i))) := by
  have hn : lp_vN r ≤ 10 := hr.2.2.2.1
  have hm : lp_vM r ≤ 5 := by have := hr.2.1; omega
  have w32 : ∀ b : Nat, [b].length = 1 := fun _ => rfl
  obtain ⟨zS, bS⟩ := hr.2.2.2.2.1 i hi
  obtain ⟨zG, bG⟩ := hr.2.2.2.2.2.1 i hi
  obtain ⟨zA, bA, _⟩ := hr.2.2.2.2.2.2.1 i i hi hi
  unfold lp_stp at zA
  rw [if_pos rfl] at zA
  have zL : lp_lampT r i = lp_mwd 1 ++ (([32] ++ lp_dig (lp_vS r i)) ++ (lp_owT (lp_vA r i i) ++ (lp_goT (lp_vG r i) ++ lp_swd 7))) := by
    unfold lp_lampT
    rw [lp_swL.2.2.1]
    simp only [List.append_assoc]
  rw [zL] at hle ⊢
  rw [List.length_append, List.length_append, List.length_append (as := lp_owT _)] at hle
  have E1 := s261 (d := d) (w := 1) (by omega) h8 hk (by omega)
  have a1 := lp_psM (ws := lp_mwd 1) hk (by omega)
  have f1 := lp_ps_fr 343 28 366 (lp_mwd 1) s
  rw [lp_ps_app, lp_ps_app, lp_ps_app _ _ _ _ (lp_owT _)]
  generalize lp_ps 343 28 366 s (lp_mwd 1) = s1 at *
  have E2 := s262 (d := d) (n := lp_vS r i) (by omega) a1 (by omega)
  have a2 := lp_psM (ws := [32] ++ lp_dig (lp_vS r i)) a1 (by omega)
  have f2 := lp_ps_fr 343 28 366 ([32] ++ lp_dig (lp_vS r i)) s1
  generalize lp_ps 343 28 366 s1 ([32] ++ lp_dig (lp_vS r i)) = s2 at *
  have c1 : s1 344 = r := by rw [f1 _ (by omega) (by omega)]; exact c
  have c2 : s2 344 = r := by rw [f2 _ (by omega) (by omega)]; exact c1
  have h82 : ∀ j, j < 50 → s2 368 j = lp_wds.getD j 0 := fun j hj => by rw [f2 _ (by omega) (by omega), f1 _ (by omega) (by omega)]; exact h8 j hj
  have zS1 : s1 344 (4 + i) = nI (lp_vS r i) := by rw [c1]; exact zS
  have zA2 : s2 344 (14 + i) = nI (lp_vA r i i) := by rw [c2]; exact zA
  have P : lp_rn (d + 3) 264 [.ref 343, .int (nI i)] (lp_s0 s) = lp_fn (d + 2) 264 17 [.ref 343, .int (nI i)] [] (lp_s0 s2) := by
    simp (disch := omega) only [e264_343, E1, e264_343_5, zS1, E2, nI_leI, nI_ltI, nI_eq, nI_clamp, lp_oobN, nI_add, pk_mul, pk_sub, pk_rem, pk_m1, lp_neg1lt, lp_neg1le, lp_neg1eq, lp_neg1eq2, if_true, if_false, if_pos, if_neg, Option.bind_some, Nat.lt_irrefl, Nat.le_refl, true_and, and_true, false_or, or_false, true_or, or_true, not_true_eq_false, not_false_eq_true, and_self, or_self, false_and, and_false, ite_true, ite_false, reduceIte]
  rw [P]
  by_cases e : lp_vA r i i = 1
  · have z : lp_owT (lp_vA r i i) = [] := if_pos e
    rw [z] at hle ⊢
    have z0 : ([] : List Nat).length = 0 := rfl
    rw [lp_ps_nil, ← s264g (d := d) (i := i) (x := lp_vG r i) (by omega) h82 (by rw [c2]; exact zG) (by omega) a2 (by omega)]
    rw [e264_343_17, e264_343_54]
    simp (disch := omega) only [zA2, e, nI_leI, nI_ltI, nI_eq, nI_clamp, lp_oobN, nI_add, pk_mul, pk_sub, pk_rem, pk_m1, lp_neg1lt, lp_neg1le, lp_neg1eq, lp_neg1eq2, if_true, if_false, if_pos, if_neg, Option.bind_some, Nat.lt_irrefl, Nat.le_refl, true_and, and_true, false_or, or_false, true_or, or_true, not_true_eq_false, not_false_eq_true, and_self, or_self, false_and, and_false, ite_true, ite_false, reduceIte]
  · have w2 := lp_mwN.2.2.1
    have w1 := lp_dig1 (n := lp_vA r i i) (by omega)
    have z : lp_owT (lp_vA r i i) = [32] ++ (lp_mwd 2 ++ ([32] ++ lp_dig (lp_vA r i i))) := by
      unfold lp_owT
      rw [if_neg e, lp_swL.2.2.2.1]
      simp only [List.append_assoc]
    rw [z] at hle ⊢
    have zl : ([32] ++ (lp_mwd 2 ++ ([32] ++ lp_dig (lp_vA r i i)))).length = 6 := by simp only [List.length_append, w32, w2, w1]
    rw [zl] at hle
    simp only [List.length_append, w32] at hle a2
    have E3 := s260 (d := d + 1) (b := 32) a2 (by omega)
    have a3 := lp_psM (ws := [32]) a2 (by rw [w32]; omega)
    have f3 := lp_ps_fr 343 28 366 [32] s2
    rw [lp_ps_app _ _ _ _ [32], lp_ps_app _ _ _ _ (lp_mwd 2)]
    generalize lp_ps 343 28 366 s2 [32] = s3 at *
    rw [w32] at a3
    have E4 := s261 (d := d) (w := 2) (by omega) (fun j hj => by rw [f3 _ (by omega) (by omega)]; exact h82 j hj) a3 (by omega)
    have a4 := lp_psM (ws := lp_mwd 2) a3 (by omega)
    have f4 := lp_ps_fr 343 28 366 (lp_mwd 2) s3
    generalize lp_ps 343 28 366 s3 (lp_mwd 2) = s4 at *
    have zA4 : s4 344 (14 + i) = nI (lp_vA r i i) := by rw [f4 _ (by omega) (by omega), f3 _ (by omega) (by omega)]; exact zA2
    have E5 := s262 (d := d) (n := lp_vA r i i) (by omega) a4 (by simp only [List.length_append, w32]; omega)
    have a5 := lp_psM (ws := [32] ++ lp_dig (lp_vA r i i)) a4 (by simp only [List.length_append, w32]; omega)
    have f5 := lp_ps_fr 343 28 366 ([32] ++ lp_dig (lp_vA r i i)) s4
    generalize lp_ps 343 28 366 s4 ([32] ++ lp_dig (lp_vA r i i)) = s5 at *
    simp only [List.length_append, w32] at a5
    have c5 : s5 344 = r := by rw [f5 _ (by omega) (by omega), f4 _ (by omega) (by omega), f3 _ (by omega) (by omega)]; exact c2
    rw [← s264g (d := d) (i := i) (x := lp_vG r i) (by omega) (fun j hj => by rw [f5 _ (by omega) (by omega), f4 _ (by omega) (by omega), f3 _ (by omega) (by omega)]; exact h82 j hj) (by rw [c5]; exact zG) (by omega) a5 (by simp only [List.length_append] at hle ⊢; omega)]
    rw [e264_343_17]
    simp (disch := omega) only [zA2, e, E3, e264_343_36, E4, e264_343_41, zA4, E5, nI_leI, nI_ltI, nI_eq, nI_clamp, lp_oobN, nI_add, pk_mul, pk_sub, pk_rem, pk_m1, lp_neg1lt, lp_neg1le, lp_neg1eq, lp_neg1eq2, if_true, if_false, if_pos, if_neg, Option.bind_some, Nat.lt_irrefl, Nat.le_refl, true_and, and_true, false_or, or_false, true_or, or_true, not_true_eq_false, not_false_eq_true, and_self, or_self, false_and, and_false, ite_true, ite_false, reduceIte]
theorem s265 {d a b k : Nat} {s : lp_M} {r : Nat → Int32} (hr : lp_Ok r) (c : s 344 = r) (h8 : ∀ j, j < 50 → s 368 j = lp_wds.getD j 0) (ha : a < b) (hb : b < lp_vN r) (hk : s 343 28 = nI k) (hle : k + (lp_wireT r a b).length ≤ 900) : lp_rn (d + 3) 265 [.ref 343, .int (nI a), .int (nI b)] (lp_s0 s) = some (nI 0, lp_s0 (lp_ps 343 28 366 s (lp_wireT r a b))) := by
  have hn : lp_vN r ≤ 10 := hr.2.2.2.1
  have hm : lp_vM r ≤ 5 := by have := hr.2.1; omega
  have w32 : ∀ b : Nat, [b].length = 1 := fun _ => rfl
  obtain ⟨zA, bA, _⟩ := hr.2.2.2.2.2.2.1 a b (by omega) hb
  unfold lp_stp at zA
  rw [if_neg (by omega)] at zA
  have zA0 : s 344 (34 + 10 * a + b) = nI (lp_vA r a b) := by rw [c]; exact zA
  by_cases e0 : lp_vA r a b = 0
  · have z : lp_wireT r a b = [] := if_pos e0
    rw [z, lp_ps_nil]
    simp (disch := omega) only [e265_343, s172, e265_343_9, zA0, e0, nI_leI, nI_ltI, nI_eq, nI_clamp, lp_oobN, nI_add, pk_mul, pk_sub, pk_rem, pk_m1, lp_neg1lt, lp_neg1le, lp_neg1eq, lp_neg1eq2, if_true, if_false, if_pos, if_neg, Option.bind_some, Nat.lt_irrefl, Nat.le_refl, true_and, and_true, false_or, or_false, true_or, or_true, not_true_eq_false, not_false_eq_true, and_self, or_self, false_and, and_false, ite_true, ite_false, reduceIte]
  have zL : lp_wireT r a b = lp_mwd 4 ++ (([32] ++ lp_dig a) ++ (([32] ++ lp_dig b) ++ (lp_byT (lp_vA r a b) ++ [59]))) := by
    unfold lp_wireT
    rw [if_neg e0, lp_swL.2.1, lp_swL.2.2.2.2.2.1, lp_swL.2.2.2.2.2.2.1]
    simp only [List.append_assoc]
  rw [zL] at hle ⊢
  have wa := lp_dig1 (n := a) (by omega)
  have wb := lp_dig1 (n := b) (by omega)
  have w4 := lp_mwN.2.2.2.2.1
  simp only [List.length_append, w32] at hle
  have E1 := s261 (d := d) (w := 4) (by omega) h8 hk (by omega)
  have a1 := lp_psM (ws := lp_mwd 4) hk (by omega)
  have f1 := lp_ps_fr 343 28 366 (lp_mwd 4) s
  rw [lp_ps_app, lp_ps_app, lp_ps_app _ _ _ _ ([32] ++ lp_dig b), lp_ps_app _ _ _ _ (lp_byT _)]
  generalize lp_ps 343 28 366 s (lp_mwd 4) = s1 at *
  have E2 := s262 (d := d) (n := a) (by omega) a1 (by simp only [List.length_append, w32]; omega)
  have a2 := lp_psM (ws := [32] ++ lp_dig a) a1 (by simp only [List.length_append, w32]; omega)
  have f2 := lp_ps_fr 343 28 366 ([32] ++ lp_dig a) s1
  generalize lp_ps 343 28 366 s1 ([32] ++ lp_dig a) = s2 at *
  have E3 := s262 (d := d) (n := b) (by omega) a2 (by simp only [List.length_append, w32]; omega)
  have a3 := lp_psM (ws := [32] ++ lp_dig b) a2 (by simp only [List.length_append, w32]; omega)
  have f3 := lp_ps_fr 343 28 366 ([32] ++ lp_dig b) s2
  generalize lp_ps 343 28 366 s2 ([32] ++ lp_dig b) = s3 at *
  have g3 : ∀ q, q ≠ 343 → q ≠ 366 → s3 q = s q := fun q h1 h2 => by rw [f3 _ h1 h2, f2 _ h1 h2, f1 _ h1 h2]
  have zA3 : s3 344 (34 + 10 * a + b) = nI (lp_vA r a b) := by rw [g3 _ (by omega) (by omega)]; exact zA0
  simp only [List.length_append, w32] at a3
  by_cases e : lp_vA r a b = 1
  · have z : lp_byT (lp_vA r a b) = [] := if_pos e
    rw [z, lp_ps_nil]
    have E4 := s260 (d := d + 1) (b := 59) a3 (by omega)
    simp (disch := omega) only [e265_343, s172, e265_343_9, zA0, e0, E1, e265_343_19, E2, e265_343_24, E3, e265_343_29, e265_343_38, zA3, e, E4, e265_343_74, nI_leI, nI_ltI, nI_eq, nI_clamp, lp_oobN, nI_add, pk_mul, pk_sub, pk_rem, pk_m1, lp_neg1lt, lp_neg1le, lp_neg1eq, lp_neg1eq2, if_true, if_false, if_pos, if_neg, Option.bind_some, Nat.lt_irrefl, Nat.le_refl, true_and, and_true, false_or, or_false, true_or, or_true, not_true_eq_false, not_false_eq_true, and_self, or_self, false_and, and_false, ite_true, ite_false, reduceIte]
  · have w5 := lp_mwN.2.2.2.2.2.1
    have w1 := lp_dig1 (n := lp_vA r a b) (by omega)
    have z : lp_byT (lp_vA r a b) = [32] ++ (lp_mwd 5 ++ ([32] ++ lp_dig (lp_vA r a b))) := by
      unfold lp_byT
      rw [if_neg e, lp_swL.2.2.2.2.2.2.2.1]
      simp only [List.append_assoc]
    rw [z] at hle ⊢
    simp only [List.length_append, w32] at hle
    have E4 := s260 (d := d + 1) (b := 32) a3 (by omega)
    have a4 := lp_psM (ws := [32]) a3 (by rw [w32]; omega)
    have f4 := lp_ps_fr 343 28 366 [32] s3
    rw [lp_ps_app, lp_ps_app]
    generalize lp_ps 343 28 366 s3 [32] = s4 at *
    rw [w32] at a4
    have E5 := s261 (d := d) (w := 5) (by omega) (fun j hj => by rw [f4 _ (by omega) (by omega), g3 _ (by omega) (by omega)]; exact h8 j hj) a4 (by omega)
    have a5 := lp_psM (ws := lp_mwd 5) a4 (by omega)
    have f5 := lp_ps_fr 343 28 366 (lp_mwd 5) s4
    generalize lp_ps 343 28 366 s4 (lp_mwd 5) = s5 at *
    have zA5 : s5 344 (34 + 10 * a + b) = nI (lp_vA r a b) := by rw [f5 _ (by omega) (by omega), f4 _ (by omega) (by omega)]; exact zA3
    have E6 := s262 (d := d) (n := lp_vA r a b) (by omega) a5 (by simp only [List.length_append, w32]; omega)
    have a6 := lp_psM (ws := [32] ++ lp_dig (lp_vA r a b)) a5 (by simp only [List.length_append, w32]; omega)
    generalize lp_ps 343 28 366 s5 ([32] ++ lp_dig (lp_vA r a b)) = s6 at *
    simp only [List.length_append, w32] at a6
    have E7 := s260 (d := d + 1) (b := 59) a6 (by omega)
    simp (disch := omega) only [e265_343, s172, e265_343_9, zA0, e0, E1, e265_343_19, E2, e265_343_24, E3, e265_343_29, e265_343_38, zA3, e, E4, e265_343_49, E5, e265_343_54, e265_343_64, zA5, E6, e265_343_68, E7, e265_343_74, nI_leI, nI_ltI, nI_eq, nI_clamp, lp_oobN, nI_add, pk_mul, pk_sub, pk_rem, pk_m1, lp_neg1lt, lp_neg1le, lp_neg1eq, lp_neg1eq2, if_true, if_false, if_pos, if_neg, Option.bind_some, Nat.lt_irrefl, Nat.le_refl, true_and, and_true, false_or, or_false, true_or, or_true, not_true_eq_false, not_false_eq_true, and_self, or_self, false_and, and_false, ite_true, ite_false, reduceIte]
/-- the model spells -/
theorem s266 {d : Nat} {g : lp_M} {r : Nat → Int32} (hr : lp_Ok r) (c : g 344 = r) (h8 : ∀ j, j < 50 → g 368 j = lp_wds.getD j 0) (y : Int32) : ∃ g', lp_rn (d + 4) 266 [.ref 343, .int y] (lp_s0 g) = some (lp_an y (lp_spT r), lp_s0 g') ∧ (∀ q, q ≠ 343 → q ≠ 366 → g' q = g q) ∧ ∀ j, j ≠ 28 → g' 343 j = g 343 j := by
  have hn : lp_vN r ≤ 10 := hr.2.2.2.1
  have hm : lp_vM r ≤ 5 := by have := hr.2.1; omega
  by_cases hy : -1 ≤ y
  case neg =>
    refine ⟨g, ?_, fun _ _ _ => rfl, fun _ _ => rfl⟩
    rw [e266_343, if_neg hy]
    unfold lp_an
    rw [if_neg hy]
  generalize hg0 : lp_w g 343 28 (nI 0) = g0
  have k0 : g0 343 28 = nI 0 := by rw [← hg0, lp_w_eq, pk_us]
  have f0 : ∀ q, q ≠ 343 → g0 q = g q := fun q h => by rw [← hg0, lp_w_ne h]
  have lh := lp_hdT_le hr
  have ltl := lp_tl_le hr
  have ltr := fun a ha => lp_tr_le hr (a := a) ha
  have ltw := lp_tww_le hr
  have fr : ∀ ws q, q ≠ 343 → q ≠ 366 → lp_ps 343 28 366 g0 ws q = g q := fun ws q h1 h2 => by rw [lp_ps_fr _ _ _ _ _ _ h1 h2, f0 q h1]
  have cn : ∀ ws, lp_ps 343 28 366 g0 ws 344 = r := fun ws => by rw [fr ws _ (by omega) (by omega)]; exact c
  have h8' : ∀ ws j, j < 50 → lp_ps 343 28 366 g0 ws 368 j = lp_wds.getD j 0 := fun ws j hj => by rw [fr ws _ (by omega) (by omega)]; exact h8 j hj
  have n1 : ∀ ws, lp_ps 343 28 366 g0 ws 344 1 = nI (lp_vN r) := fun ws => by rw [cn]; exact hr.2.2.1
  have n0 : ∀ ws, lp_ps 343 28 366 g0 ws 344 0 = nI (lp_vM r) := fun ws => by rw [cn]; exact hr.1
  have len : ∀ ws : List Nat, ws.length ≤ 1000 → lp_ps 343 28 366 g0 ws 343 28 = nI ws.length := fun ws h => by
    have := lp_psM (ws := ws) k0 (by omega)
    rw [Nat.zero_add] at this; exact this
  have H1 : lp_rn (d + 4) 266 [.ref 343, .int y] (lp_s0 g) = lp_fn (d + 3) 266 33 [.ref 343, .int y, .int (nI 0), .long 0] [] (lp_s0 (lp_ps 343 28 366 g0 (lp_hdT r ++ lp_tl r 0))) := by
    have w0 := lp_mwN.1
    have w1 := lp_dig1 (n := lp_vM r) (by omega)
    have w32 : ∀ b : Nat, [b].length = 1 := fun _ => rfl
    have e : lp_hdT r ++ lp_tl r 0 = (lp_mwd 0 ++ ([32] ++ lp_dig (lp_vM r))) ++ [59] := by
      show lp_hdT r ++ [] = _
      unfold lp_hdT
      rw [lp_swL.1, lp_swL.2.1]
      simp only [List.append_assoc, List.append_nil]
    have E1 := s261 (d := d + 1) (w := 0) (by omega) (h8' []) k0 (by omega)
    have E2 := s262 (d := d + 1) (n := lp_vM r) (by omega) (len (lp_mwd 0) (by omega)) (by simp only [List.length_append, w32]; omega)
    rw [← lp_ps_app] at E2
    have E3 := s260 (d := d + 2) (b := 59) (len (lp_mwd 0 ++ ([32] ++ lp_dig (lp_vM r))) (by simp only [List.length_append, w32]; omega)) (by simp only [List.length_append, w32]; omega)
    rw [← lp_ps_app] at E3
    rw [lp_ps_nil] at E1
    rw [e]
    simp (disch := omega) only [e266_343, hg0, hy, E1, e266_343_17, e168_343, n0, e266_343_22, E2, e266_343_25, E3, e266_343_31, if_true, if_false, if_pos, if_neg, Option.bind_some, Nat.lt_irrefl, Nat.le_refl, true_and, and_true, false_or, or_false, true_or, or_true, not_true_eq_false, not_false_eq_true, and_self, or_self, false_and, and_false, ite_true, ite_false, reduceIte]
  have H2 := lp_iter (fun i => lp_fn (d + 3) 266 33 [.ref 343, .int y, .int (nI i), .long 0] [] (lp_s0 (lp_ps 343 28 366 g0 (lp_hdT r ++ lp_tl r i)))) (lp_vN r) (fun i hi => by
    have l1 := ltl i (by omega)
    have l2 := lp_lampT_le hr hi
    have l3 : (lp_hdT r ++ lp_tl r i).length ≤ 209 := by rw [List.length_append]; omega
    have E := s264 (d := d) hr (cn (lp_hdT r ++ lp_tl r i)) (h8' _) hi (len _ (by omega)) (by omega)
    rw [← lp_ps_app, List.append_assoc] at E
    show lp_fn (d + 3) 266 33 _ _ _ = lp_fn (d + 3) 266 33 [.ref 343, .int y, .int (nI (i + 1)), .long 0] [] (lp_s0 (lp_ps 343 28 366 g0 (lp_hdT r ++ (lp_tl r i ++ lp_lampT r i))))
    rw [e266_343_33]
    simp (disch := omega) only [e169_343, n1, e266_343_38, E, e266_343_46, nI_leI, nI_ltI, nI_eq, nI_clamp, lp_oobN, nI_add, pk_mul, pk_sub, pk_rem, pk_m1, lp_neg1lt, lp_neg1le, lp_neg1eq, lp_neg1eq2, if_true, if_false, if_pos, if_neg, Option.bind_some, Nat.lt_irrefl, Nat.le_refl, true_and, and_true, false_or, or_false, true_or, or_true, not_true_eq_false, not_false_eq_true, and_self, or_self, false_and, and_false, ite_true, ite_false, reduceIte])
  have H3 : lp_fn (d + 3) 266 33 [.ref 343, .int y, .int (nI (lp_vN r)), .long 0] [] (lp_s0 (lp_ps 343 28 366 g0 (lp_hdT r ++ lp_tl r (lp_vN r)))) = lp_fn (d + 3) 266 54 [.ref 343, .int y, .int (nI 0), .long 0] [] (lp_s0 (lp_ps 343 28 366 g0 ((lp_hdT r ++ lp_tl r (lp_vN r)) ++ lp_tww r 0))) := by
    have e : (lp_hdT r ++ lp_tl r (lp_vN r)) ++ lp_tww r 0 = lp_hdT r ++ lp_tl r (lp_vN r) := List.append_nil _
    rw [e, e266_343_33]
    simp (disch := omega) only [e169_343, n1, e266_343_38, nI_leI, nI_ltI, nI_eq, nI_clamp, lp_oobN, nI_add, pk_mul, pk_sub, pk_rem, pk_m1, lp_neg1lt, lp_neg1le, lp_neg1eq, lp_neg1eq2, if_true, if_false, if_pos, if_neg, Option.bind_some, Nat.lt_irrefl, Nat.le_refl, true_and, and_true, false_or, or_false, true_or, or_true, not_true_eq_false, not_false_eq_true, and_self, or_self, false_and, and_false, ite_true, ite_false, reduceIte]
  have lA : (lp_hdT r ++ lp_tl r (lp_vN r)).length ≤ 209 := by have := ltl _ (Nat.le_refl _); rw [List.length_append]; omega
  generalize hA : lp_hdT r ++ lp_tl r (lp_vN r) = A at H2 H3 lA
  obtain ⟨x, H4, -⟩ := lp_itE (fun a (x : Value) => lp_fn (d + 3) 266 54 [.ref 343, .int y, .int (nI a), x] [] (lp_s0 (lp_ps 343 28 366 g0 (A ++ lp_tww r a)))) (fun _ _ => True) 0 (lp_vN r) (.long 0) (by omega) trivial (fun a x _ ha _ => by
    have l1 := ltw a (by omega)
    have l2 := lp_tri_le (a + 1) (by omega)
    have l3 : lp_tri (a + 1) = lp_tri a + (9 - a) := rfl
    have I := lp_iter (fun k => lp_fn (d + 3) 266 66 [.ref 343, .int y, .int (nI a), .int (nI (a + 1 + k))] [] (lp_s0 (lp_ps 343 28 366 g0 (A ++ (lp_tww r a ++ lp_tr r a k))))) (lp_vN r - 1 - a) (fun k hk => by
      have l4 := ltr a ha k (by omega)
      have l5 := lp_wireT_le hr ha (b := a + 1 + k) (by omega)
      have l6 : (A ++ (lp_tww r a ++ lp_tr r a k)).length ≤ 209 + 14 * lp_tri a + 14 * k := by rw [List.length_append, List.length_append]; omega
      have e1 : a + 1 + (k + 1) = a + 1 + k + 1 := by omega
      show lp_fn (d + 3) 266 66 _ _ _ = lp_fn (d + 3) 266 66 [.ref 343, .int y, .int (nI a), .int (nI (a + 1 + (k + 1)))] [] (lp_s0 (lp_ps 343 28 366 g0 (A ++ (lp_tww r a ++ (lp_tr r a k ++ lp_wireT r a (a + 1 + k))))))
      have E := s265 (d := d) hr (cn (A ++ (lp_tww r a ++ lp_tr r a k))) (h8' _) (a := a) (b := a + 1 + k) (by omega) (by omega) (len _ (by omega)) (by omega)
      rw [← lp_ps_app, List.append_assoc, List.append_assoc] at E
      rw [e266_343_66, e1]
      simp (disch := omega) only [e169_343, n1, e266_343_71, E, e266_343_80, nI_leI, nI_ltI, nI_eq, nI_clamp, lp_oobN, nI_add, pk_mul, pk_sub, pk_rem, pk_m1, lp_neg1lt, lp_neg1le, lp_neg1eq, lp_neg1eq2, if_true, if_false, if_pos, if_neg, Option.bind_some, Nat.lt_irrefl, Nat.le_refl, true_and, and_true, false_or, or_false, true_or, or_true, not_true_eq_false, not_false_eq_true, and_self, or_self, false_and, and_false, ite_true, ite_false, reduceIte])
    refine ⟨.int (nI (lp_vN r)), ?_, trivial⟩
    show lp_fn (d + 3) 266 54 _ _ _ = lp_fn (d + 3) 266 54 [.ref 343, .int y, .int (nI (a + 1)), .int (nI (lp_vN r))] [] (lp_s0 (lp_ps 343 28 366 g0 (A ++ (lp_tww r a ++ lp_tr r a (lp_vN r - 1 - a)))))
    have e3 : a + 1 + (lp_vN r - 1 - a) = lp_vN r := by omega
    rw [e266_343_54]
    simp (disch := omega) only [e169_343, n1, e266_343_59, nI_leI, nI_ltI, nI_eq, nI_clamp, lp_oobN, nI_add, pk_mul, pk_sub, pk_rem, pk_m1, lp_neg1lt, lp_neg1le, lp_neg1eq, lp_neg1eq2, if_true, if_false, if_pos, if_neg, Option.bind_some, Nat.lt_irrefl, Nat.le_refl, true_and, and_true, false_or, or_false, true_or, or_true, not_true_eq_false, not_false_eq_true, and_self, or_self, false_and, and_false, ite_true, ite_false, reduceIte]
    have I' : lp_fn (d + 3) 266 66 [.ref 343, .int y, .int (nI a), .int (nI (a + 1))] [] (lp_s0 (lp_ps 343 28 366 g0 (A ++ lp_tww r a))) = lp_fn (d + 3) 266 66 [.ref 343, .int y, .int (nI a), .int (nI (lp_vN r))] [] (lp_s0 (lp_ps 343 28 366 g0 (A ++ (lp_tww r a ++ lp_tr r a (lp_vN r - 1 - a))))) := by
      have z : lp_tww r a ++ lp_tr r a 0 = lp_tww r a := List.append_nil _
      rw [e3, z] at I
      exact I
    rw [I', e266_343_66]
    simp (disch := omega) only [e169_343, n1, e266_343_71, nI_leI, nI_ltI, nI_eq, nI_clamp, lp_oobN, nI_add, pk_mul, pk_sub, pk_rem, pk_m1, lp_neg1lt, lp_neg1le, lp_neg1eq, lp_neg1eq2, if_true, if_false, if_pos, if_neg, Option.bind_some, Nat.lt_irrefl, Nat.le_refl, true_and, and_true, false_or, or_false, true_or, or_true, not_true_eq_false, not_false_eq_true, and_self, or_self, false_and, and_false, ite_true, ite_false, reduceIte])
  have eS : lp_spT r = A ++ lp_tww r (lp_vN r) := by unfold lp_spT; rw [hA]
  have lS := lp_spT_le hr
  rw [eS] at lS ⊢
  obtain ⟨b1, b2, b3, b4, b5⟩ := lp_ps_all (c := 343) (f := 28) (e := 366) (by omega) (A ++ lp_tww r (lp_vN r)) g0 0 k0 (by omega)
  have lk : lp_lnk (lp_ps 343 28 366 g0 (A ++ lp_tww r (lp_vN r))) 343 28 366 (A ++ lp_tww r (lp_vN r)) := ⟨len _ (by omega), fun i hi => by
    have := b2 i hi
    rw [Nat.zero_add] at this
    exact this⟩
  have H5 : lp_fn (d + 3) 266 54 [.ref 343, .int y, .int (nI (lp_vN r)), x] [] (lp_s0 (lp_ps 343 28 366 g0 (A ++ lp_tww r (lp_vN r)))) = some (lp_an y (A ++ lp_tww r (lp_vN r)), lp_s0 (lp_ps 343 28 366 g0 (A ++ lp_tww r (lp_vN r)))) := by
    rw [e266_343_54]
    simp (disch := omega) only [e169_343, n1, e266_343_59, s263 (d := d + 2) lk lS hy, e266_343_97, nI_leI, nI_ltI, nI_eq, nI_clamp, lp_oobN, nI_add, pk_mul, pk_sub, pk_rem, pk_m1, lp_neg1lt, lp_neg1le, lp_neg1eq, lp_neg1eq2, if_true, if_false, if_pos, if_neg, Option.bind_some, Nat.lt_irrefl, Nat.le_refl, true_and, and_true, false_or, or_false, true_or, or_true, not_true_eq_false, not_false_eq_true, and_self, or_self, false_and, and_false, ite_true, ite_false, reduceIte]
  refine ⟨_, H1.trans (H2.trans (H3.trans (H4.trans H5))), fun q h1 h2 => fr _ q h1 h2, fun j hj => ?_⟩
  rw [b5 j hj, ← hg0, lp_w_eq, pk_un hj]
