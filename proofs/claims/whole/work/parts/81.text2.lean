/-! ===== text: the step ===== -/
theorem lp_CN_d {g : lp_M} {r' : Nat → Int32} {m n : Nat} {S G : Nat → Nat} {A : Nat → Nat → Nat} (h : lp_DC g m n S G A) (hd : lp_D r' m n S G A) (b : lp_Bd m n S G A) (h2 : r' 2 = nI 0) (h3 : r' 3 = nI 0) : lp_Ok r' ∧ lp_CN g 225 r' ∧ lp_vN r' = n := by
  obtain ⟨o, em, en, eS, eA⟩ := lp_Ok_D hd b ⟨0, by omega, h3⟩
  have eb : lp_vB r' = 0 := by unfold lp_vB; rw [h3]; decide
  refine ⟨o, ?_, en⟩
  unfold lp_CN
  rw [en, eb]
  refine ⟨?_, ?_, ?_, ?_, ?_, ?_, ?_, ?_⟩
  · rw [h.1.1, hd.1]
  · rw [h.1.2.1, hd.2.1]
  · rw [h.2.1, h2]
  · show g 239 0 = _
    rw [h.2.2, h3]
  · intro i hi; rw [hd.2.2.1 i hi]; exact h.1.2.2.1 i hi
  · intro i hi; rw [hd.2.2.2.1 i hi]; exact h.1.2.2.2.1 i hi
  · intro i j hi hj; rw [hd.2.2.2.2.1 i j hi hj]; exact h.1.2.2.2.2 i j hi hj
  · intro k hk; omega
theorem lp_D_cg4 {r r' : Nat → Int32} {m n : Nat} {S G : Nat → Nat} {A : Nat → Nat → Nat} (hn : n ≤ 10) (h : ∀ k, k < 174 → r' k = r k) (c : lp_D r m n S G A) : lp_D r' m n S G A := by
  obtain ⟨h0, h1, h2, h3, h4, h5⟩ := c
  refine ⟨by rw [h _ (by omega)]; exact h0, by rw [h _ (by omega)]; exact h1, fun i hi => by rw [h _ (by omega)]; exact h2 i hi, fun i hi => by rw [h _ (by omega)]; exact h3 i hi, fun i j hi hj => ?_, fun i hi => by rw [h _ (by omega)]; exact h5 i hi⟩
  rw [← h4 i j hi hj]
  unfold lp_stp
  rw [h _ (by omega), h _ (by omega)]
theorem st_text {L : Nat} {xs : Nat → Int32} {Re : lp_M → (Nat → Int32) → Prop} (H : lp_ReOk Re) : lp_St (lp_Inv L xs (lp_Ka Re)) 80 281 [] := by
  intro g hI
  obtain ⟨hs, r, a, p, t, T, c4, c5, c6, c7⟩ := hI
  have hn : lp_vN r ≤ 10 := c4.2.2.2.1
  have hC : lp_CT g t T := c5.2.2.1
  have t5 : t ≤ 500 := hC.1
  have hM : ∀ s : lp_M, (∀ q, 343 ≤ q → s q = g q) → lp_RMb s t T := fun s h => ⟨t5, by rw [h _ (by omega)]; exact c7.2.2.1.1, fun i hi => ⟨(hC.2.2 i hi).1, by rw [h _ (by omega)]; exact c7.2.2.1.2 i hi⟩, fun j hj => by rw [h _ (by omega)]; exact c7.2.2.2 j hj⟩
  rcases lp_taperead (T := T) t5 with ⟨m, n, S, G, A, hb, RC, RM⟩ | ⟨bx, hbx, RC, RM⟩
  · obtain ⟨g1, E1, D1, F1⟩ := RC 31 g hC
    obtain ⟨g3, E3, f3, c3⟩ := s21 (d := 37) (o := 1) (o' := 225) (g := lp_w g1 242 0 (nI 0)) (by decide) (by decide) (by omega)
    generalize hg4 : lp_g2 (lp_w g3 18 0 (nI 0)) = g4
    have q4 : ∀ q j, ¬ lp_fl2 q j → g4 q j = lp_w g3 18 0 (nI 0) q j := fun q j h => by rw [← hg4]; exact lp_g2_q _ h
    have EC : lp_rn 40 80 [.ref 0] (lp_s0 g) = some (g4 1 1, lp_s0 g4) := by
      rw [e80_0, E1, Option.bind_some, e80_0_7, if_pos rfl, E3, Option.bind_some, e80_0_40, s136, hg4, Option.bind_some, e80_0_52]
    have k4 : ∀ q, 343 ≤ q → g4 q = g q := fun q hq => funext fun j => by
      rw [q4 q j (lp_fl_no (by omega)), lp_w_ne (by omega), f3 q (by omega), lp_w_ne (by omega), F1 q (by omega)]
    obtain ⟨g5, a2, E5, D5, z5, F5⟩ := RM 32 g4 (hM g4 k4)
    generalize hr' : lp_pre 174 (g5 345) (g5 344) = r'
    have pre : ∀ k, k < 174 → r' k = g5 345 k := fun k hk => by rw [← hr']; exact if_pos hk
    have Dr : lp_D r' m n S G A := lp_D_cg4 hb.2.1 pre D5.1
    have D1' : lp_DC (lp_w g1 242 0 (nI 0)) m n S G A := ⟨lp_C_fr hb.2.1 (fun q hq => by rw [lp_w_ne (by omega)]) D1.1, by rw [lp_w_ne (by omega)]; exact D1.2.1, by rw [lp_w_ne (by omega)]; exact D1.2.2⟩
    obtain ⟨ok', cn', en'⟩ := lp_CN_d D1' Dr hb (by rw [pre _ (by omega)]; exact D5.2.1) (by rw [pre _ (by omega)]; exact D5.2.2)
    have cn3 := c3 r' ok' cn'
    have low : ∀ q, 1 ≤ q → q < 18 → g4 q = g3 q := fun q h1 h2 => funext fun j => by
      rw [q4 q j (by unfold lp_fl2 lp_fl1; omega), lp_w_ne (by omega)]
    have cn4 : lp_CN g4 1 r' := lp_CN_fr ok'.2.2.2.1 (fun q h1 h2 => low q h1 (by omega)) cn3
    generalize hg6 : lp_w (lp_u (lp_w g5 343 30 (nI 0)) 344 r') 343 5 (nI 0) = g6
    have q6 : ∀ q, q ≠ 343 → q ≠ 344 → q ≠ 345 → g6 q = g4 q := fun q h1 h2 h3 => by rw [← hg6, lp_w_ne h1, lp_un h2, lp_w_ne h1, F5.1 q h1 h3]
    have r6 : g6 344 = r' := by rw [← hg6, lp_w_ne (by omega), lp_ue]
    have w5 : ∀ j, lp_w g5 343 30 (nI 0) 345 j = g5 345 j := fun j => by rw [lp_w_ne (by omega)]
    have EM : lp_rn 40 281 [.ref 343] (lp_s0 g4) = some (r' 1, lp_s0 g6) := by
      have e1 : lp_pre 174 (lp_w g5 343 30 (nI 0) 345) (lp_w g5 343 30 (nI 0) 344) = r' := by rw [lp_w_ne (by omega), lp_w_ne (by omega)]; exact hr'
      have z5' : lp_w g5 343 30 (nI 0) 343 36 = nI 0 := by rw [lp_w_eq, pk_un (by omega)]; exact z5
      have E6 := s166 (d := 38) (c := 345) (c' := 344) (g := lp_w g5 343 30 (nI 0)) lp_sh345 (by omega) (by decide +kernel) (by omega) (by omega)
      rw [e1] at E6
      have E5' : lp_rn 40 281 [.ref 343] (lp_s0 g4) = _ := E5
      rw [E5', e281_343_57, z5', if_pos rfl, E6, Option.bind_some, e281_343_83, hg6, e169_343, Option.bind_some, e281_343_92, r6]
    have ev : g4 1 1 = r' 1 := cn4.2.1
    rw [ev] at EC
    refine ⟨r' 1, g4, g6, EC, k4, EM, ⟨?_, ?_, ?_⟩, r', 0, p, 0, T, ok', ⟨?_, ⟨by omega, ?_, ?_⟩, ⟨by omega, ?_, fun i hi => by omega⟩, ?_⟩, ?_, ⟨r6, ⟨?_, fun k hk => by omega⟩, ⟨?_, fun i hi => by omega⟩, ?_⟩⟩
    · rw [q6 _ (by omega) (by omega) (by omega), k4 _ (by omega)]; exact hs.1
    · rw [q6 _ (by omega) (by omega) (by omega), k4 _ (by omega)]; exact hs.2.1
    · rw [q6 _ (by omega) (by omega) (by omega), k4 _ (by omega)]; exact hs.2.2
    · exact lp_CN_fr ok'.2.2.2.1 (fun q h1 h2 => q6 q (by omega) (by omega) (by omega)) cn4
    · rw [q6 _ (by omega) (by omega) (by omega), q4 _ _ (by unfold lp_fl2 lp_fl1; omega), lp_w_eq, pk_us]
    · obtain ⟨_, _, nx, n1, n2, n3⟩ := c5.2.1
      refine ⟨nx, n1, ?_, fun k hk => by omega⟩
      rw [q6 _ (by omega) (by omega) (by omega), q4 _ _ (by unfold lp_fl2 lp_fl1; omega), lp_w_eq, pk_un (by omega), f3 _ (by omega), lp_w_ne (by omega), F1 _ (by omega)]; exact n2
    · rw [q6 _ (by omega) (by omega) (by omega), q4 _ _ (by unfold lp_fl2 lp_fl1; omega), lp_w_ne (by omega), f3 _ (by omega), lp_w_eq, pk_us]
    · have four : ∀ q, 244 ≤ q → q < 343 → g6 q 4 = g q 4 := fun q h1 h2 => by
        rw [q6 _ (by omega) (by omega) (by omega), q4 _ _ (lp_fl_no (by omega)), lp_w_ne (by omega), f3 _ (by omega), lp_w_ne (by omega), F1 _ (by omega)]
      obtain ⟨d1, d2, d3, d4⟩ := c5.2.2.2
      exact ⟨by rw [four _ (by omega) (by omega)]; exact d1, by rw [four _ (by omega) (by omega)]; exact d2, by rw [four _ (by omega) (by omega)]; exact d3, by rw [four _ (by omega) (by omega)]; exact d4⟩
    · exact (lp_KaOk H).2.2 g4 g6 r' ((lp_KaOk H).2.1 g4 r' ok' (by rw [← hg4]; exact lp_g2_f _)) (fun q hq => q6 q (by omega) (by omega) (by omega))
    · rw [← hg6, lp_w_eq, pk_us]
    · rw [← hg6, lp_w_eq, pk_un (by omega), lp_un (by omega), lp_w_eq, pk_us]
    · intro j hj
      rw [q6 _ (by omega) (by omega) (by omega), k4 _ (by omega)]; exact c7.2.2.2 j hj
  · obtain ⟨g1, E1, F1⟩ := RC 31 g hC
    have EC : lp_rn 40 80 [.ref 0] (lp_s0 g) = some (-4 - nI bx, lp_s0 (lp_w g1 242 0 (nI 0))) := by
      rw [e80_0, E1, Option.bind_some, e80_0_7, if_neg (lp_nI_ne (by omega))]
    generalize hg4 : lp_w g1 242 0 (nI 0) = g4 at EC
    have q4 : ∀ q, q < 224 ∨ q = 243 ∨ 244 ≤ q → g4 q = g q := fun q hq => by rw [← hg4, lp_w_ne (by omega), F1 q (by omega)]
    have k4 : ∀ q, 343 ≤ q → g4 q = g q := fun q hq => q4 q (by omega)
    obtain ⟨g5, a2, E5, z5, z6, F5⟩ := RM 32 g4 (hM g4 k4)
    generalize hg6 : lp_w g5 343 30 (nI 0) = g6
    have q6 : ∀ q, q ≠ 343 → q ≠ 345 → g6 q = g4 q := fun q h1 h3 => by rw [← hg6, lp_w_ne h1, F5.1 q h1 h3]
    have EM : lp_rn 40 281 [.ref 343] (lp_s0 g4) = some (-4 - nI bx, lp_s0 g6) := by
      have z1 : g6 343 36 = nI 1 := by rw [← hg6, lp_w_eq, pk_un (by omega)]; exact z6
      have z2 : g6 343 34 = nI bx := by rw [← hg6, lp_w_eq, pk_un (by omega)]; exact z5
      have E5' : lp_rn 40 281 [.ref 343] (lp_s0 g4) = _ := E5
      rw [E5', hg6, e281_343_57, z1, if_neg (by decide), z2]
    have qq : ∀ q, (q < 224 ∨ q = 243 ∨ 244 ≤ q) → q ≠ 343 → q ≠ 345 → g6 q = g q := fun q h1 h2 h3 => by rw [q6 q h2 h3, q4 q h1]
    refine ⟨-4 - nI bx, g4, g6, EC, k4, EM, ⟨?_, ?_, ?_⟩, r, a, p, 0, T, c4, ⟨?_, ?_, ⟨by omega, ?_, fun i hi => by omega⟩, ?_⟩, ?_, ⟨?_, ?_, ⟨?_, fun i hi => by omega⟩, ?_⟩⟩
    · rw [qq _ (by omega) (by omega) (by omega)]; exact hs.1
    · rw [qq _ (by omega) (by omega) (by omega)]; exact hs.2.1
    · rw [qq _ (by omega) (by omega) (by omega)]; exact hs.2.2
    · exact lp_CN_fr hn (fun q h1 h2 => qq q (by omega) (by omega) (by omega)) c5.1
    · exact lp_CP_fr (fun q h1 h2 => qq q (by omega) (by omega) (by omega)) c5.2.1
    · rw [q6 _ (by omega) (by omega), ← hg4, lp_w_eq, pk_us]
    · obtain ⟨d1, d2, d3, d4⟩ := c5.2.2.2
      exact ⟨by rw [qq _ (by omega) (by omega) (by omega)]; exact d1, by rw [qq _ (by omega) (by omega) (by omega)]; exact d2, by rw [qq _ (by omega) (by omega) (by omega)]; exact d3, by rw [qq _ (by omega) (by omega) (by omega)]; exact d4⟩
    · exact lp_Ka_tp H (fun q hq => qq q (by omega) (by omega) (by omega)) c6
    · rw [qq _ (by omega) (by omega) (by omega)]; exact c7.1
    · refine lp_MP_fr ?_ (qq _ (by omega) (by omega) (by omega)) c7.2.1
      rw [← hg6, lp_w_eq, pk_un (by omega), F5.2 _ (by omega), k4 _ (by omega)]
    · rw [← hg6, lp_w_eq, pk_us]
    · intro j hj
      rw [qq _ (by omega) (by omega) (by omega)]; exact c7.2.2.2 j hj
