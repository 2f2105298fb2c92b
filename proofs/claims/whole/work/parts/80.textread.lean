/-! ===== the tape is read: the states, one statement, all ===== -/
theorem lp_statesread {t k b e : Nat} {T : Nat → Nat} {S G : Nat → Nat} {A : Nat → Nat → Nat} (t5 : t ≤ 500) (hf : lp_twf t T k b e) (hw : k = 1 ∧ lp_isw T b e 0) (a1 : Int32) :
    lp_res t T k b e 2 0 S G A (fun d g v g' => lp_rn (d + 7) 41 [.ref 224] (lp_s0 g) = some (v, lp_s0 g')) (fun d g g' => ((lp_rn (d + 6) 275 [.ref 343, .int (nI 0)] (lp_s0 g)).bind fun x => lp_fn (d + 6) 280 14 [.ref 343, .int a1, .int (nI b)] [.int x.1] x.2) = some (nI 0, lp_s0 g')) := by
  obtain ⟨k1, b1, e1, hav⟩ := lp_adv_ex (T := T) k hf.2.2.1
  obtain ⟨wf1, le1, -⟩ := lp_adv_wf hav
  have b15 : b1 ≤ 500 := by have := wf1.2.1; have := wf1.2.2.1; omega
  have k14 := wf1.1
  have e56 : nI 5 = nI 6 - nI 1 := by decide
  have MW : ∀ d g, lp_RM g t T k b e → lp_DM g 2 0 S G A → g 343 36 = nI 0 → ∃ g1, (((lp_rn (d + 6) 275 [.ref 343, .int (nI 0)] (lp_s0 g)).bind fun x => lp_fn (d + 6) 280 14 [.ref 343, .int a1, .int (nI b)] [.int x.1] x.2) = ((lp_rn (d + 6) 277 [.ref 343] (lp_s0 g1)).bind fun x => lp_fn (d + 6) 280 21 [.ref 343, .int a1, .int (nI b)] [] x.2)) ∧ lp_RM g1 t T k1 b1 e1 ∧ lp_DM g1 2 0 S G A ∧ g1 343 36 = nI 0 ∧ lp_FM g g1 := by
    intro d g hg hD h0
    obtain ⟨g1, E1, r1, f1, j1⟩ := (s275 (d := d + 1) (by omega) hg hf h0).1 hw _ _ _ hav
    refine ⟨g1, ?_, r1, lp_DM_fr (f1 _ (by omega)) hD, by rw [j1 _ (by omega)]; exact h0, lp_FM_1 f1 j1⟩
    rw [E1, Option.bind_some, e280_343_14, if_neg (show ¬ nI 1 = nI 0 by decide)]
  have CW : ∀ d g, lp_RC g t T k b e → lp_DC g 2 0 S G A → ∃ g1, lp_rn (d + 7) 41 [.ref 224] (lp_s0 g) = lp_fn (d + 6) 41 8 [.ref 224, .long 0] [.int (if k1 = 2 then nI (T b1 - 48) else -1)] (lp_s0 g1) ∧ lp_RC g1 t T k1 b1 e1 ∧ lp_DC g1 2 0 S G A ∧ lp_FC g g1 := by
    intro d g hg hD
    obtain ⟨g1, E1, r1, f1⟩ := s49 (d := d + 3) hf.1 hg hav
    refine ⟨g1, ?_, r1, lp_DC_fr (by omega) f1 hD, lp_FC_1 f1⟩
    rw [e41_224, E1, Option.bind_some, e41_224_4, s47 (d := d + 4) r1 wf1, Option.bind_some]
  by_cases y : k1 = 2 ∧ (T b1 - 48 = 2 ∨ T b1 - 48 = 3 ∨ T b1 - 48 = 5)
  case neg =>
    refine .inr ⟨b1, b15, fun d g hg hD => ?_, fun d g hg hD h0 => ?_⟩
    · obtain ⟨g1, E1, r1, D1, F1⟩ := CW d g hg hD
      refine ⟨g1, ?_, r1.2.2.1, F1⟩
      show _ = _
      rw [E1, e41_224_8]
      by_cases u : k1 = 2
      · rw [if_pos u]
        have w4 := lp_kb_2.mp (wf1.2.2.2.2 u).2
        by_cases u2 : T b1 - 48 = 4
        · rw [if_pos (by rw [u2])]
        · rw [if_neg (by rw [nI_eq (by omega) (by omega)]; exact u2), e56, (s45 (d := d + 2) r1 wf1 (by omega) (by omega)).2 (fun z => y ⟨u, by have := z.2.1; have := z.2.2; omega⟩), Option.bind_some, e41_224_20, if_pos rfl]
      · rw [if_neg u, if_neg (by decide), e56, (s45 (d := d + 2) r1 wf1 (by omega) (by omega)).2 (fun z => u z.1), Option.bind_some, e41_224_20, if_pos rfl]
    · obtain ⟨g1, E1, r1, D1, z1, F1⟩ := MW d g hg hD h0
      have w1 : lp_w g1 343 36 (nI 1) 343 36 = nI 1 := by rw [lp_w_eq, pk_us]
      refine ⟨lp_w g1 343 36 (nI 1), ?_, by rw [lp_w_eq, pk_un (by omega)]; exact r1.2.2.1, w1, lp_FM_tr F1 ⟨fun q h1 h2 => by rw [lp_w_ne h1], fun j hj => by rw [lp_w_eq, pk_un (by omega)]⟩⟩
      show _ = _
      have E2 : lp_rn (d + 6) 277 [.ref 343] (lp_s0 g1) = some (nI 0, lp_s0 (lp_w g1 343 36 (nI 1))) := by
        have X : lp_fn (d + 5) 277 41 [.ref 343] [] (lp_s0 (lp_w g1 343 36 (nI 1))) = some (nI 0, lp_s0 (lp_w g1 343 36 (nI 1))) := by
          rw [e277_343_41, w1, if_neg (by decide)]
        rw [e277_343, r1.2.1]
        by_cases u : k1 = 2
        · have w4 := lp_kb_2.mp (wf1.2.2.2.2 u).2
          have h35 := r1.2.2.2.2 u
          have v1 : ¬ T b1 - 48 = 2 := fun z => y ⟨u, .inl z⟩
          have v2 : ¬ T b1 - 48 = 3 := fun z => y ⟨u, .inr (.inl z)⟩
          have v3 : ¬ T b1 - 48 = 5 := fun z => y ⟨u, .inr (.inr z)⟩
          rw [if_pos (by rw [u]), h35, if_neg (by rw [nI_eq (by omega) (by omega)]; exact v1), if_neg (by rw [nI_eq (by omega) (by omega)]; exact v2), if_neg (by rw [nI_eq (by omega) (by omega)]; exact v3), X]
        · rw [if_neg (by rw [nI_eq (by omega) (by omega)]; exact u), X]
      rw [E1, E2, Option.bind_some, e280_343_21, s280w w1]
  obtain ⟨u, hv⟩ := y
  obtain ⟨k2, b2, e2, hav2⟩ := lp_adv_ex (T := T) k1 wf1.2.2.1
  obtain ⟨wf2, le2, -⟩ := lp_adv_wf hav2
  have w4 := lp_kb_2.mp (wf1.2.2.2.2 u).2
  have nk : lp_nok T k1 b1 2 6 := ⟨u, by omega, by omega⟩
  generalize hx : T b1 - 48 = x at *
  have CW2 : ∀ d g, lp_RC g t T k b e → lp_DC g 2 0 S G A → ∃ g1, lp_rn (d + 7) 41 [.ref 224] (lp_s0 g) = ((lp_rn (d + 6) 46 [.ref 224] (lp_s0 g1)).bind fun z => lp_fn (d + 6) 41 40 [.ref 224, .int (nI x)] [.int z.1] z.2) ∧ lp_RC g1 t T k2 b2 e2 ∧ lp_DC g1 x 0 S G A ∧ lp_FC g g1 := by
    intro d g hg hD
    obtain ⟨g1, E1, r1, D1, F1⟩ := CW d g hg hD
    obtain ⟨g2, E2, r2, f2⟩ := (s45 (d := d + 2) r1 wf1 (by omega) (by omega)).1 nk _ _ _ hav2
    rw [hx] at E2
    have D2 := lp_DC_fr (by omega) f2 D1
    refine ⟨lp_w g2 225 0 (nI x), ?_, ?_, ⟨⟨by rw [lp_w_eq, pk_us], by rw [lp_w_eq, pk_un (by omega)]; exact D2.1.2.1, fun i hi => by omega, fun i hi => by omega, fun i j hi _ => by omega⟩, by rw [lp_w_eq, pk_un (by omega)]; exact D2.2.1, by rw [lp_w_ne (by omega)]; exact D2.2.2⟩, lp_FC_tr F1 (lp_FC_tr (lp_FC_1 f2) (fun q hq => by rw [lp_w_ne (by omega)]))⟩
    · rw [E1, if_pos u, e41_224_8, if_neg (by rw [nI_eq (by omega) (by omega)]; omega), e56, E2, Option.bind_some, e41_224_20, if_neg (lp_nI_ne (by omega))]
    · unfold lp_RC lp_CT at r2 ⊢
      rw [lp_w_ne (by omega), lp_w_ne (by omega), lp_w_ne (by omega)]; exact r2
  have MW2 : ∀ d g, lp_RM g t T k b e → lp_DM g 2 0 S G A → g 343 36 = nI 0 → ∃ g1, (((lp_rn (d + 6) 275 [.ref 343, .int (nI 0)] (lp_s0 g)).bind fun x => lp_fn (d + 6) 280 14 [.ref 343, .int a1, .int (nI b)] [.int x.1] x.2) = lp_fn (d + 6) 280 60 [.ref 343, .int a1, .int (nI b)] [] (lp_s0 g1)) ∧ lp_RM g1 t T k2 b2 e2 ∧ lp_DM g1 x 0 S G A ∧ g1 343 36 = nI 0 ∧ lp_FM g g1 := by
    intro d g hg hD h0
    obtain ⟨g1, E1, r1, D1, z1, F1⟩ := MW d g hg hD h0
    have h35 := r1.2.2.2.2 u
    rw [hx] at h35
    have q36 : lp_w g1 343 36 (nI 0) 343 36 = nI 0 := by rw [lp_w_eq, pk_us]
    have q35 : lp_w g1 343 36 (nI 0) 343 35 = nI x := by rw [lp_w_eq, pk_un (by omega)]; exact h35
    have r1' : lp_RM (lp_w (lp_w g1 343 36 (nI 0)) 345 0 (nI x)) t T k1 b1 e1 := by
      unfold lp_RM lp_RMb at r1 ⊢
      rw [lp_w_ne (by omega), lp_w_eq, pk_un (by omega), pk_un (by omega), pk_un (by omega), pk_un (by omega), pk_un (by omega), lp_w_ne (by omega), lp_w_ne (by omega), lp_w_ne (by omega), lp_w_ne (by omega)]; exact r1
    obtain ⟨g2, E2, r2, f2, j2⟩ := s274 (d := d + 3) wf1.1 r1' hav2
    have F2 : lp_FM g1 g2 := lp_FM_tr ⟨fun q h1 h2 => by rw [lp_w_ne h2, lp_w_ne h1], fun j hj => by rw [lp_w_ne (by omega), lp_w_eq, pk_un (by omega)]⟩ (lp_FM_1 f2 j2)
    have q5 : g2 345 = upd (g1 345) 0 (nI x) := by rw [f2 _ (by omega), lp_w_eq, lp_w_ne (by omega)]
    refine ⟨g2, ?_, r2, ⟨⟨by rw [q5, pk_us], by rw [q5, pk_un (by omega)]; exact D1.1.2.1, fun i hi => by omega, fun i hi => by omega, fun i j hi _ => by omega, fun i hi => by omega⟩, by rw [q5, pk_un (by omega)]; exact D1.2.1, by rw [q5, pk_un (by omega)]; exact D1.2.2⟩, by rw [j2 _ (by omega), lp_w_ne (by omega)]; exact q36, lp_FM_tr F1 F2⟩
    have X : lp_rn (d + 6) 277 [.ref 343] (lp_s0 g1) = lp_fn (d + 5) 277 41 [.ref 343] [] (lp_s0 (lp_w g1 343 36 (nI 0))) := by
      rw [e277_343, r1.2.1, if_pos (by rw [u]), h35]
      by_cases v1 : x = 2
      · rw [if_pos (by rw [v1])]
      · rw [if_neg (by rw [nI_eq (by omega) (by omega)]; exact v1)]
        by_cases v2 : x = 3
        · rw [if_pos (by rw [v2])]
        · have v3 : x = 5 := by omega
          rw [if_neg (by rw [nI_eq (by omega) (by omega)]; exact v2), if_pos (by rw [v3])]
    rw [E1, X, e277_343_41, q36, if_pos rfl, q35, E2, Option.bind_some, e277_343_63, Option.bind_some, e280_343_21]
  by_cases y4 : k2 = 3
  · obtain ⟨k5, b5', e5', hav5⟩ := lp_adv_ex (T := T) k2 wf2.2.2.1
    obtain ⟨wf5, le5, lt5⟩ := lp_adv_wf hav5
    refine .inl ⟨k5, b5', e5', x, 0, S, G, A, ⟨by omega, by omega, fun i hi => by omega, fun i hi => by omega, fun i j hi _ => by omega⟩, wf5, fun w => by have := lt5 w; omega, fun d g hg hD => ?_, fun d g hg hD h0 => ?_⟩
    · obtain ⟨g1, E1, r1, D1, F1⟩ := CW2 d g hg hD
      obtain ⟨g2, E2, r2, f2⟩ := (s46 (d := d + 2) r1 wf2).1 y4 _ _ _ hav5
      refine ⟨g2, ?_, r2, lp_DC_fr (by omega) f2 D1, lp_FC_tr F1 (lp_FC_1 f2)⟩
      show _ = _
      rw [E1, E2, Option.bind_some, e41_224_40, if_pos (.inr rfl)]
    · obtain ⟨g1, E1, r1, D1, z1, F1⟩ := MW2 d g hg hD h0
      obtain ⟨g2, E2, r2, f2, j2⟩ := (s280s (d := d + 4) (a1 := a1) (a2 := nI b) r1 wf2 z1).1 y4 _ _ _ hav5
      exact ⟨g2, E1.trans E2, r2, lp_DM_fr (f2 _ (by omega)) D1, by rw [j2 _ (by omega)]; exact z1, lp_FM_tr F1 (lp_FM_1 f2 j2)⟩
  · refine .inr ⟨b2, by have := wf2.2.1; have := wf2.2.2.1; omega, fun d g hg hD => ?_, fun d g hg hD h0 => ?_⟩
    · obtain ⟨g1, E1, r1, D1, F1⟩ := CW2 d g hg hD
      refine ⟨g1, ?_, r1.2.2.1, F1⟩
      show _ = _
      rw [E1, (s46 (d := d + 2) r1 wf2).2 y4, Option.bind_some, e41_224_40, if_pos (.inl rfl)]
    · obtain ⟨g1, E1, r1, D1, z1, F1⟩ := MW2 d g hg hD h0
      have E2 := (s280s (d := d + 4) (a1 := a1) (a2 := nI b) r1 wf2 z1).2 y4
      exact ⟨_, E1.trans E2, by rw [lp_w_eq, pk_un (by omega)]; exact r1.2.2.1, by rw [lp_w_eq, pk_us], lp_FM_tr F1 ⟨fun q h1 h2 => by rw [lp_w_ne h1], fun j hj => by rw [lp_w_eq, pk_un (by omega)]⟩⟩
/-- lp_res, with other words for the runs -/
theorem lp_res_mono {t k b e m n : Nat} {T : Nat → Nat} {S G : Nat → Nat} {A : Nat → Nat → Nat} {CR CR' : Nat → lp_M → Int32 → lp_M → Prop} {MR MR' : Nat → lp_M → lp_M → Prop}
    (hC : ∀ d g v g', lp_RC g t T k b e → (v = nI 0 ∨ v = nI 1) → CR d g v g' → CR' d g v g') (hM : ∀ d g g', lp_RM g t T k b e → g 343 36 = nI 0 → MR d g g' → MR' d g g') (h : lp_res t T k b e m n S G A CR MR) : lp_res t T k b e m n S G A CR' MR' := by
  rcases h with ⟨k', b', e', m', n', S', G', A', h1, h2, h3, h4, h5⟩ | ⟨bx, h1, h4, h5⟩
  · refine .inl ⟨k', b', e', m', n', S', G', A', h1, h2, h3, fun d g hg hD => ?_, fun d g hg hD h0 => ?_⟩
    · obtain ⟨g', q⟩ := h4 d g hg hD
      exact ⟨g', hC d g _ g' hg (.inr rfl) q.1, q.2⟩
    · obtain ⟨g', q⟩ := h5 d g hg hD h0
      exact ⟨g', hM d g g' hg h0 q.1, q.2⟩
  · refine .inr ⟨bx, h1, fun d g hg hD => ?_, fun d g hg hD h0 => ?_⟩
    · obtain ⟨g', q⟩ := h4 d g hg hD
      exact ⟨g', hC d g _ g' hg (.inl rfl) q.1, q.2⟩
    · obtain ⟨g', q⟩ := h5 d g hg hD h0
      exact ⟨g', hM d g g' hg h0 q.1, q.2⟩
theorem lp_one {t k b e m n i : Nat} {T : Nat → Nat} {S G : Nat → Nat} {A : Nat → Nat → Nat} (t5 : t ≤ 500) (hf : lp_twf t T k b e) (hb : lp_Bd m n S G A) (hk : k ≠ 0) (hi : i < 500) (a1 : Int32) :
    lp_res t T k b e m n S G A (fun d g v g' => lp_fn (d + 7) 40 45 [.ref 224, .int (nI 1), .int (nI i)] [] (lp_s0 g) = lp_fn (d + 7) 40 45 [.ref 224, .int v, .int (nI (i + 1))] [] (lp_s0 g')) (fun d g g' => ((lp_rn (d + 6) 275 [.ref 343, .int (nI 1)] (lp_s0 g)).bind fun x => lp_fn (d + 6) 280 29 [.ref 343, .int a1, .int (nI b)] [.int x.1] x.2) = some (nI 0, lp_s0 g')) := by
  have k4 := hf.1
  have st : ∀ d g, lp_RC g t T k b e → lp_fn (d + 7) 40 45 [.ref 224, .int (nI 1), .int (nI i)] [] (lp_s0 g) = ((lp_rn (d + 7) 48 [.ref 224, .retAddr 1] (lp_s0 g)).bind fun x => lp_fn (d + 7) 40 69 [.ref 224, .int (nI 1), .int (nI i)] [.int x.1] x.2) := by
    intro d g hg
    rw [e40_224_45, if_neg (by rw [nI_leI (by omega) (by omega)]; omega), if_neg (by decide), if_neg (by rw [hg.2.1, nI_eq (by omega) (by omega)]; exact hk)]
  by_cases w1 : k = 1 ∧ lp_isw T b e 1
  · refine lp_res_mono (fun d g v g' hg hv E => ?_) (fun d g g' _ _ E => E) (lp_lampread t5 hf hb w1 a1)
    show _ = _
    have E' : lp_rn (d + 7) 42 [.ref 224] (lp_s0 g) = some (v, lp_s0 g') := E
    rw [st d g hg, (s48 (d := d + 2) (by omega) hg hf).1 w1, Option.bind_some, e40_224_69, if_neg (show ¬ nI 1 = nI 0 by decide), E', Option.bind_some, e40_224_76, nI_add]
  · by_cases w4 : k = 1 ∧ lp_isw T b e 4
    · refine lp_res_mono (fun d g v g' hg hv E => ?_) (fun d g g' hg h0 E => ?_) (lp_wireread t5 hf hb w4 a1)
      · show _ = _
        have E' : lp_rn (d + 7) 43 [.ref 224] (lp_s0 g) = some (v, lp_s0 g') := E
        rw [st d g hg, (s48 (d := d + 2) (by omega) hg hf).2 w1, Option.bind_some, e40_224_69, if_pos rfl, (s48 (d := d + 2) (by omega) hg hf).1 w4, Option.bind_some, e40_224_85, if_neg (show ¬ nI 1 = nI 0 by decide), E', Option.bind_some, e40_224_92, nI_add]
        rcases hv with rfl | rfl
        · rw [if_pos rfl]
        · rw [if_neg (show ¬ nI 1 = nI 0 by decide)]
      · show _ = _
        have E' : ((lp_rn (d + 6) 275 [.ref 343, .int (nI 4)] (lp_s0 g)).bind fun x => lp_fn (d + 6) 280 45 [.ref 343, .int a1, .int (nI b)] [.int x.1] x.2) = some (nI 0, lp_s0 g') := E
        rw [(s275 (d := d + 1) (by omega) hg hf h0).2 w1, Option.bind_some, e280_343_29, if_pos rfl]
        exact E'
    · refine .inr ⟨b, by have := hf.2.1; have := hf.2.2.1; omega, fun d g hg hD => ⟨g, ?_, hg.2.2.1, fun _ _ => rfl⟩, fun d g hg hD h0 => ⟨lp_w g 343 36 (nI 1), ?_, by rw [lp_w_eq, pk_un (by omega)]; exact hg.2.2.1, by rw [lp_w_eq, pk_us], ⟨fun q h1 h2 => by rw [lp_w_ne h1], fun j hj => by rw [lp_w_eq, pk_un (by omega)]⟩⟩⟩
      · show _ = _
        rw [st d g hg, (s48 (d := d + 2) (by omega) hg hf).2 w1, Option.bind_some, e40_224_69, if_pos rfl, (s48 (d := d + 2) (by omega) hg hf).2 w4, Option.bind_some, e40_224_85, if_pos rfl, nI_add]
      · show _ = _
        rw [(s275 (d := d + 1) (by omega) hg hf h0).2 w1, Option.bind_some, e280_343_29, if_pos rfl, (s275 (d := d + 1) (by omega) hg hf h0).2 w4, Option.bind_some, e280_343_45, if_pos rfl, s280w (by rw [lp_w_eq, pk_us])]
/-- all is read -/
def lp_all (t : Nat) (T : Nat → Nat) (k b e m n : Nat) (S G : Nat → Nat) (A : Nat → Nat → Nat) (i : Nat) (av : Int32 → Prop) : Prop :=
  (∃ m' n' S' G' A', lp_Bd m' n' S' G' A' ∧
    (∀ d g, lp_RC g t T k b e → lp_DC g m n S G A → ∃ g', lp_fn (d + 7) 40 45 [.ref 224, .int (nI 1), .int (nI i)] [] (lp_s0 g) = some (-1, lp_s0 g') ∧ lp_DC g' m' n' S' G' A' ∧ lp_FC g g') ∧
    (∀ d g a1, av a1 → lp_RM g t T k b e → lp_DM g m n S G A → g 343 36 = nI 0 → ∃ g' a2, lp_fn (d + 7) 281 28 [.ref 343, .int a1] [] (lp_s0 g) = lp_fn (d + 7) 281 57 [.ref 343, .int a2] [] (lp_s0 (lp_w g' 343 30 (nI 0))) ∧ lp_DM g' m' n' S' G' A' ∧ g' 343 36 = nI 0 ∧ lp_FM g g')) ∨
  (∃ bx, bx ≤ 500 ∧
    (∀ d g, lp_RC g t T k b e → lp_DC g m n S G A → ∃ g', lp_fn (d + 7) 40 45 [.ref 224, .int (nI 1), .int (nI i)] [] (lp_s0 g) = some (nI bx, lp_s0 g') ∧ lp_FC g g') ∧
    (∀ d g a1, av a1 → lp_RM g t T k b e → lp_DM g m n S G A → g 343 36 = nI 0 → ∃ g' a2, lp_fn (d + 7) 281 28 [.ref 343, .int a1] [] (lp_s0 g) = lp_fn (d + 7) 281 57 [.ref 343, .int a2] [] (lp_s0 (lp_w g' 343 30 (nI 0))) ∧ g' 343 34 = nI bx ∧ g' 343 36 = nI 1 ∧ lp_FM g g'))
theorem lp_allread {t : Nat} {T : Nat → Nat} (t5 : t ≤ 500) : ∀ (f i k b e m n : Nat) (S G : Nat → Nat) (A : Nat → Nat → Nat) (a1 : Int32), 500 - i = f → i ≤ 500 → lp_twf t T k b e → lp_Bd m n S G A → (k ≠ 0 → i + 1 ≤ e) → (a1 = nI 0 ∨ ¬ (k = 1 ∧ lp_isw T b e 0)) → lp_all t T k b e m n S G A i (fun x => x = a1) := by
  intro f
  induction f with
  | zero =>
    intro i k b e m n S G A a1 hfi hi hf hb hke ha
    have i5 : i = 500 := by omega
    have k0 : k = 0 := by
      by_cases z : k = 0
      · exact z
      · have := hke z; have := hf.2.2.1; omega
    refine .inl ⟨m, n, S, G, A, hb, fun d g hg hD => ⟨g, ?_, hD, fun _ _ => rfl⟩, fun d g x _ hg hD h0 => ⟨g, x, ?_, hD, h0, fun _ _ _ => rfl, fun _ _ => rfl⟩⟩
    · rw [e40_224_45, i5, if_pos (by decide), if_neg (by decide)]
    · rw [e281_343_28, h0, if_pos rfl, hg.2.1, k0, if_pos rfl]
  | succ f ih =>
    intro i k b e m n S G A a1 hfi hi hf hb hke ha
    have k4 := hf.1
    by_cases k0 : k = 0
    · refine .inl ⟨m, n, S, G, A, hb, fun d g hg hD => ⟨g, ?_, hD, fun _ _ => rfl⟩, fun d g x _ hg hD h0 => ⟨g, x, ?_, hD, h0, fun _ _ _ => rfl, fun _ _ => rfl⟩⟩
      · rw [e40_224_45, if_neg (by rw [nI_leI (by omega) (by omega)]; omega), if_neg (by decide), hg.2.1, k0, if_pos rfl, if_neg (by decide)]
      · rw [e281_343_28, h0, if_pos rfl, hg.2.1, k0, if_pos rfl]
    -- the model's one
    have MO : ∀ d g g', lp_RM g t T k b e → g 343 36 = nI 0 → ((lp_rn (d + 6) 275 [.ref 343, .int (nI 1)] (lp_s0 g)).bind fun x => lp_fn (d + 6) 280 29 [.ref 343, .int a1, .int (nI b)] [.int x.1] x.2) = some (nI 0, lp_s0 g') → lp_fn (d + 7) 281 28 [.ref 343, .int a1] [] (lp_s0 g) = lp_fn (d + 7) 281 28 [.ref 343, .int (nI 0)] [] (lp_s0 g') := by
      intro d g g' hg h0 E
      have E2 : lp_rn (d + 7) 280 [.ref 343, .int a1] (lp_s0 g) = some (nI 0, lp_s0 g') := by
        rw [e280_343, hg.2.2.1]
        by_cases z : a1 = nI 0
        · rw [if_pos z]; exact E
        · rw [if_neg z, (s275 (d := d + 1) (by omega) hg hf h0).2 (by rcases ha with w | w; exact absurd w z; exact w), Option.bind_some, e280_343_14, if_pos rfl]; exact E
      rw [e281_343_28, h0, if_pos rfl, hg.2.1, if_neg (by rw [nI_eq (by omega) (by omega)]; exact k0), E2, Option.bind_some, e281_343_47]
    rcases lp_one (i := i) t5 hf hb k0 (by omega) a1 with ⟨k', b', e', m', n', S', G', A', h1, h2, h3, h4, h5⟩ | ⟨bx, h1, h4, h5⟩
    · have hI := ih (i + 1) k' b' e' m' n' S' G' A' (nI 0) (by omega) (by omega) h2 h1 (fun w => by have := h3 w; have := hke k0; omega) (.inl rfl)
      rcases hI with ⟨m2, n2, S2, G2, A2, q1, q2, q3⟩ | ⟨bx, q1, q2, q3⟩
      · refine .inl ⟨m2, n2, S2, G2, A2, q1, fun d g hg hD => ?_, fun d g x hx hg hD h0 => ?_⟩
        · obtain ⟨g1, E1, r1, D1, F1⟩ := h4 d g hg hD
          obtain ⟨g2, E2, D2, F2⟩ := q2 d g1 r1 D1
          exact ⟨g2, E1.trans E2, D2, lp_FC_tr F1 F2⟩
        · obtain ⟨g1, E1, r1, D1, z1, F1⟩ := h5 d g hg hD h0
          obtain ⟨g2, a2, E2, D2, z2, F2⟩ := q3 d g1 (nI 0) rfl r1 D1 z1
          rw [hx]
          exact ⟨g2, a2, (MO d g g1 hg h0 E1).trans E2, D2, z2, lp_FM_tr F1 F2⟩
      · refine .inr ⟨bx, q1, fun d g hg hD => ?_, fun d g x hx hg hD h0 => ?_⟩
        · obtain ⟨g1, E1, r1, D1, F1⟩ := h4 d g hg hD
          obtain ⟨g2, E2, F2⟩ := q2 d g1 r1 D1
          exact ⟨g2, E1.trans E2, lp_FC_tr F1 F2⟩
        · obtain ⟨g1, E1, r1, D1, z1, F1⟩ := h5 d g hg hD h0
          obtain ⟨g2, a2, E2, D2, z2, F2⟩ := q3 d g1 (nI 0) rfl r1 D1 z1
          rw [hx]
          exact ⟨g2, a2, (MO d g g1 hg h0 E1).trans E2, D2, z2, lp_FM_tr F1 F2⟩
    · refine .inr ⟨bx, h1, fun d g hg hD => ?_, fun d g x hx hg hD h0 => ?_⟩
      · obtain ⟨g1, E1, z1, F1⟩ := h4 d g hg hD
        refine ⟨g1, Eq.trans E1 ?_, F1⟩
        rw [e40_224_45, z1]
        by_cases z : nI 500 ≤ nI (i + 1)
        · rw [if_pos z, if_pos rfl]
        · rw [if_neg z, if_pos rfl, if_pos rfl]
      · obtain ⟨g1, E1, z1, z2, F1⟩ := h5 d g hg hD h0
        rw [hx]
        refine ⟨g1, nI 0, Eq.trans (MO d g g1 hg h0 E1) ?_, z1, z2, F1⟩
        rw [e281_343_28, z2, if_neg (by decide)]
theorem s165 {d : Nat} {g : lp_M} : ∃ g1, lp_rn (d + 1) 165 [.ref 345] (lp_s0 g) = some (nI 0, lp_s0 g1) ∧ g1 345 0 = nI 2 ∧ (∀ j, 1 ≤ j → j < 174 → g1 345 j = nI 0) ∧ ∀ q, q ≠ 345 → g1 q = g q := by
  have h1 : ((lp_sh 345).1 = 20 ∧ 345 < 369) = True := by rw [lp_sh345]; simp
  have h2 : (lp_sh 345).2 = 174 := by rw [lp_sh345]
  obtain ⟨g1, E1, f1, f2⟩ := lp_itE (fun i (s : lp_M) => lp_fn d 165 2 [.ref 345, .int (nI i)] [] (lp_s0 s)) (fun i s => (∀ q, q ≠ 345 → s q = g q) ∧ ∀ j, j < i → s 345 j = nI 0) 0 174 g (by omega) ⟨fun _ _ => rfl, fun j hj => by omega⟩ (fun i s _ hi ⟨q1, q2⟩ => by
    refine ⟨lp_w s 345 i (nI 0), ?_, fun q hq => by rw [lp_w_ne hq]; exact q1 q hq, fun j hj => ?_⟩
    · show lp_fn d 165 2 _ _ _ = lp_fn d 165 2 _ _ _
      rw [e165_2]
      simp (disch := omega) only [h1, h2, nI_leI, nI_ltI, nI_eq, nI_clamp, lp_oobN, nI_add, pk_mul, pk_sub, pk_rem, pk_m1, lp_neg1lt, lp_neg1le, lp_neg1eq, lp_neg1eq2, if_true, if_false, if_pos, if_neg, Option.bind_some, Nat.lt_irrefl, Nat.le_refl, true_and, and_true, false_or, or_false, true_or, or_true, not_true_eq_false, not_false_eq_true, and_self, or_self, false_and, and_false, ite_true, ite_false, reduceIte]
    · rw [lp_w_eq]
      by_cases z : j = i
      · rw [z, pk_us]
      · rw [pk_un z]; exact q2 j (by omega))
  refine ⟨lp_w g1 345 0 (nI 2), ?_, by rw [lp_w_eq, pk_us], fun j j1 j2 => by rw [lp_w_eq, pk_un (by omega)]; exact f2 j (by omega), fun q hq => by rw [lp_w_ne hq]; exact f1 q hq⟩
  rw [e165]
  refine Eq.trans E1 ?_
  show lp_fn d 165 2 _ _ _ = _
  rw [e165_2]
  simp (disch := omega) only [h1, h2, nI_leI, nI_ltI, nI_eq, nI_clamp, lp_oobN, nI_add, pk_mul, pk_sub, pk_rem, pk_m1, lp_neg1lt, lp_neg1le, lp_neg1eq, lp_neg1eq2, if_true, if_false, if_pos, if_neg, Option.bind_some, Nat.lt_irrefl, Nat.le_refl, true_and, and_true, false_or, or_false, true_or, or_true, not_true_eq_false, not_false_eq_true, and_self, or_self, false_and, and_false, ite_true, ite_false, reduceIte]
/-- the whole tape -/
theorem lp_taperead {t : Nat} {T : Nat → Nat} (t5 : t ≤ 500) :
    (∃ m n S G A, lp_Bd m n S G A ∧
      (∀ d g, lp_CT g t T → ∃ g', lp_rn (d + 8) 40 [.ref 224] (lp_s0 g) = some (-1, lp_s0 g') ∧ lp_DC g' m n S G A ∧ lp_FC g g') ∧
      (∀ d g, lp_RMb g t T → ∃ g' a2, lp_rn (d + 8) 281 [.ref 343] (lp_s0 g) = lp_fn (d + 7) 281 57 [.ref 343, .int a2] [] (lp_s0 (lp_w g' 343 30 (nI 0))) ∧ lp_DM g' m n S G A ∧ g' 343 36 = nI 0 ∧ lp_FM g g')) ∨
    (∃ bx, bx ≤ 500 ∧
      (∀ d g, lp_CT g t T → ∃ g', lp_rn (d + 8) 40 [.ref 224] (lp_s0 g) = some (nI bx, lp_s0 g') ∧ lp_FC g g') ∧
      (∀ d g, lp_RMb g t T → ∃ g' a2, lp_rn (d + 8) 281 [.ref 343] (lp_s0 g) = lp_fn (d + 7) 281 57 [.ref 343, .int a2] [] (lp_s0 (lp_w g' 343 30 (nI 0))) ∧ g' 343 34 = nI bx ∧ g' 343 36 = nI 1 ∧ lp_FM g g')) := by
  obtain ⟨k, b, e, hav⟩ := lp_adv_ex (t := t) (T := T) 3 (e := 0) (by omega)
  obtain ⟨wf, le, lt⟩ := lp_adv_wf hav
  have k4 := wf.1
  have hb : lp_Bd 2 0 (fun _ => 0) (fun _ => 0) (fun _ _ => 0) := ⟨by omega, by omega, fun i hi => by omega, fun i hi => by omega, fun i j hi _ => by omega⟩
  have nx : ∀ x : Int32, ∃ b, x = nI b := fun x => ⟨x.toBitVec.toNat, by
    refine Int32.toBitVec_inj.mp ?_
    show x.toBitVec = BitVec.ofNat 32 x.toBitVec.toNat
    exact BitVec.eq_of_toNat_eq (by rw [BitVec.toNat_ofNat, Nat.mod_eq_of_lt x.toBitVec.isLt])⟩
  -- the class begins
  have CB : ∀ d g, lp_CT g t T → ∃ g1, lp_rn (d + 8) 40 [.ref 224] (lp_s0 g) = lp_fn (d + 7) 40 21 [.ref 224, .long 0, .long 0] [] (lp_s0 g1) ∧ lp_RC g1 t T k b e ∧ lp_DC g1 2 0 (fun _ => 0) (fun _ => 0) (fun _ _ => 0) ∧ lp_FC g g1 := by
    intro d g hT
    obtain ⟨b0, hb0⟩ := nx (g 224 3)
    have E1 : lp_rn (d + 7) 20 [.ref 225] (lp_s0 g) = some (nI 0, lp_s0 (lp_w (lp_w (lp_w (lp_w g 225 0 (nI 2)) 225 1 (nI 0)) 225 2 (nI 0)) 239 0 (nI 0))) := by
      rw [e20_225, e20_225_5, e20_225_10, e20_225_15]
    generalize hg1 : lp_w (lp_w (lp_w (lp_w g 225 0 (nI 2)) 225 1 (nI 0)) 225 2 (nI 0)) 239 0 (nI 0) = g1 at E1
    have f1 : ∀ q, q ≠ 225 → q ≠ 239 → g1 q = g q := fun q h1 h2 => by rw [← hg1, lp_w_ne h2, lp_w_ne h1, lp_w_ne h1, lp_w_ne h1]
    have D1 : lp_DC g1 2 0 (fun _ => 0) (fun _ => 0) (fun _ _ => 0) := by
      refine ⟨⟨?_, ?_, fun i hi => by omega, fun i hi => by omega, fun i j hi _ => by omega⟩, ?_, ?_⟩ <;> rw [← hg1] <;> simp (disch := omega) only [lp_w_eq, lp_w_ne, lp_ue, lp_un, pk_us, pk_un, lp_w_u, lp_u_u]
    generalize hg2 : lp_w (lp_w g1 224 4 (nI 0)) 224 2 (nI 3) = g2
    have f2 : ∀ q, q ≠ 224 → g2 q = g1 q := fun q h1 => by rw [← hg2, lp_w_ne h1, lp_w_ne h1]
    have r2 : lp_RC g2 t T 3 b0 0 := by
      refine ⟨?_, by rw [← hg2, lp_w_eq, pk_us], by rw [← hg2, lp_w_eq, pk_un (by omega), lp_w_eq, pk_un (by omega), f1 _ (by omega) (by omega)]; exact hb0, by rw [← hg2, lp_w_eq, pk_un (by omega), lp_w_eq, pk_us]⟩
      unfold lp_CT at hT ⊢
      rw [f2 _ (by omega), f2 _ (by omega), f1 _ (by omega) (by omega), f1 _ (by omega) (by omega)]; exact hT
    obtain ⟨g3, E3, r3, f3⟩ := s49 (d := d + 4) (by omega) r2 hav
    refine ⟨g3, ?_, r3, lp_DC_fr (by omega) f3 (lp_DC_fr (by omega) f2 D1), fun q hq => by rw [f3 q (by omega), f2 q (by omega), f1 q (by omega) (by omega)]⟩
    rw [e40_224, E1, Option.bind_some, e40_224_7, e40_224_12, hg2, E3, Option.bind_some]
  -- the model begins
  have MB : ∀ d g, lp_RMb g t T → ∃ g1, lp_rn (d + 8) 281 [.ref 343] (lp_s0 g) = lp_fn (d + 7) 281 28 [.ref 343, .int (nI 1)] [] (lp_s0 g1) ∧ lp_RM g1 t T k b e ∧ lp_DM g1 2 0 (fun _ => 0) (fun _ => 0) (fun _ _ => 0) ∧ g1 343 36 = nI 0 ∧ lp_FM g g1 := by
    intro d g hT
    obtain ⟨b0, hb0⟩ := nx (g 343 34)
    obtain ⟨g1, E1, z0, zj, f1⟩ := s165 (d := d + 6) (g := g)
    generalize hg2 : lp_w (lp_w (lp_w g1 343 32 (nI 0)) 343 33 (nI 3)) 343 36 (nI 0) = g2
    have f2 : ∀ q, q ≠ 343 → g2 q = g1 q := fun q h1 => by rw [← hg2, lp_w_ne h1, lp_w_ne h1, lp_w_ne h1]
    have j2 : ∀ j, j ≠ 32 → j ≠ 33 → j ≠ 36 → g2 343 j = g 343 j := fun j h1 h2 h3 => by rw [← hg2, lp_w_eq, pk_un h3, lp_w_eq, pk_un h2, lp_w_eq, pk_un h1, f1 _ (by omega)]
    have q36 : g2 343 36 = nI 0 := by rw [← hg2, lp_w_eq, pk_us]
    have r2 : lp_RM g2 t T 3 b0 0 := by
      refine ⟨?_, by rw [← hg2, lp_w_eq, pk_un (by omega), lp_w_eq, pk_us], by rw [j2 _ (by omega) (by omega) (by omega)]; exact hb0, by rw [← hg2, lp_w_eq, pk_un (by omega), lp_w_eq, pk_un (by omega), lp_w_eq, pk_us], fun z => by omega⟩
      unfold lp_RMb at hT ⊢
      rw [j2 _ (by omega) (by omega) (by omega), f2 367 (by omega), f2 368 (by omega), f1 367 (by omega), f1 368 (by omega)]; exact hT
    obtain ⟨g3, E3, r3, f3, j3⟩ := s274 (d := d + 5) (by omega) r2 hav
    have q5 : g3 345 = g1 345 := by rw [f3 _ (by omega), f2 _ (by omega)]
    refine ⟨g3, ?_, r3, ⟨⟨by rw [q5]; exact z0, by rw [q5]; exact zj 1 (by omega) (by omega), fun i hi => by omega, fun i hi => by omega, fun i j hi _ => by omega, fun i hi => by omega⟩, by rw [q5]; exact zj 2 (by omega) (by omega), by rw [q5]; exact zj 3 (by omega) (by omega)⟩, by rw [j3 _ (by omega)]; exact q36, ⟨fun q h1 h2 => by rw [f3 q h1, f2 q h1, f1 q h2], fun j hj => by rw [j3 j (by omega), j2 j (by omega) (by omega) (by omega)]⟩⟩
    rw [e281_343, E1, Option.bind_some, e281_343_7, e281_343_12, e281_343_17, hg2, E3, Option.bind_some, e281_343_26]
  by_cases w : k = 1 ∧ lp_isw T b e 0
  · have k0 : k ≠ 0 := by omega
    have MO : ∀ d g g', lp_RM g t T k b e → g 343 36 = nI 0 → ((lp_rn (d + 6) 275 [.ref 343, .int (nI 0)] (lp_s0 g)).bind fun x => lp_fn (d + 6) 280 14 [.ref 343, .int (nI 1), .int (nI b)] [.int x.1] x.2) = some (nI 0, lp_s0 g') → lp_fn (d + 7) 281 28 [.ref 343, .int (nI 1)] [] (lp_s0 g) = lp_fn (d + 7) 281 28 [.ref 343, .int (nI 0)] [] (lp_s0 g') := by
      intro d g g' hg h0 E
      have E2 : lp_rn (d + 7) 280 [.ref 343, .int (nI 1)] (lp_s0 g) = some (nI 0, lp_s0 g') := by
        rw [e280_343, hg.2.2.1, if_neg (by decide)]; exact E
      rw [e281_343_28, h0, if_pos rfl, hg.2.1, if_neg (by rw [nI_eq (by omega) (by omega)]; exact k0), E2, Option.bind_some, e281_343_47]
    have CO : ∀ d g g' v, lp_RC g t T k b e → lp_rn (d + 7) 41 [.ref 224] (lp_s0 g) = some (v, lp_s0 g') → (v = nI 0 ∨ v = nI 1) → lp_fn (d + 7) 40 21 [.ref 224, .long 0, .long 0] [] (lp_s0 g) = lp_fn (d + 7) 40 45 [.ref 224, .int v, .int (nI 0)] [] (lp_s0 g') := by
      intro d g g' v hg E hv
      rw [e40_224_21, (s48 (d := d + 2) (by omega) hg wf).1 w, Option.bind_some, e40_224_27, if_neg (show ¬ nI 1 = nI 0 by decide), E, Option.bind_some, e40_224_34]
      rcases hv with rfl | rfl
      · rw [if_pos rfl]
      · rw [if_neg (show ¬ nI 1 = nI 0 by decide)]
    rcases lp_statesread (S := fun _ => 0) (G := fun _ => 0) (A := fun _ _ => 0) t5 wf w (nI 1) with ⟨k', b', e', m', n', S', G', A', h1, h2, h3, h4, h5⟩ | ⟨bx, h1, h4, h5⟩
    · rcases lp_allread t5 500 0 k' b' e' m' n' S' G' A' (nI 0) (by omega) (by omega) h2 h1 (fun z => by have := h3 z; omega) (.inl rfl) with ⟨m2, n2, S2, G2, A2, q1, q2, q3⟩ | ⟨bx, q1, q2, q3⟩
      · refine .inl ⟨m2, n2, S2, G2, A2, q1, fun d g hg => ?_, fun d g hg => ?_⟩
        · obtain ⟨g0, E0, r0, D0, F0⟩ := CB d g hg
          obtain ⟨g1, E1, r1, D1, F1⟩ := h4 d g0 r0 D0
          obtain ⟨g2, E2, D2, F2⟩ := q2 d g1 r1 D1
          exact ⟨g2, E0.trans ((CO d g0 g1 _ r0 E1 (.inr rfl)).trans E2), D2, lp_FC_tr F0 (lp_FC_tr F1 F2)⟩
        · obtain ⟨g0, E0, r0, D0, z0, F0⟩ := MB d g hg
          obtain ⟨g1, E1, r1, D1, z1, F1⟩ := h5 d g0 r0 D0 z0
          obtain ⟨g2, a2, E2, D2, z2, F2⟩ := q3 d g1 (nI 0) rfl r1 D1 z1
          exact ⟨g2, a2, E0.trans ((MO d g0 g1 r0 z0 E1).trans E2), D2, z2, lp_FM_tr F0 (lp_FM_tr F1 F2)⟩
      · refine .inr ⟨bx, q1, fun d g hg => ?_, fun d g hg => ?_⟩
        · obtain ⟨g0, E0, r0, D0, F0⟩ := CB d g hg
          obtain ⟨g1, E1, r1, D1, F1⟩ := h4 d g0 r0 D0
          obtain ⟨g2, E2, F2⟩ := q2 d g1 r1 D1
          exact ⟨g2, E0.trans ((CO d g0 g1 _ r0 E1 (.inr rfl)).trans E2), lp_FC_tr F0 (lp_FC_tr F1 F2)⟩
        · obtain ⟨g0, E0, r0, D0, z0, F0⟩ := MB d g hg
          obtain ⟨g1, E1, r1, D1, z1, F1⟩ := h5 d g0 r0 D0 z0
          obtain ⟨g2, a2, E2, D2, z2, F2⟩ := q3 d g1 (nI 0) rfl r1 D1 z1
          exact ⟨g2, a2, E0.trans ((MO d g0 g1 r0 z0 E1).trans E2), D2, z2, lp_FM_tr F0 (lp_FM_tr F1 F2)⟩
    · refine .inr ⟨bx, h1, fun d g hg => ?_, fun d g hg => ?_⟩
      · obtain ⟨g0, E0, r0, D0, F0⟩ := CB d g hg
        obtain ⟨g1, E1, z1, F1⟩ := h4 d g0 r0 D0
        refine ⟨g1, E0.trans ((CO d g0 g1 _ r0 E1 (.inl rfl)).trans ?_), lp_FC_tr F0 F1⟩
        rw [e40_224_45, z1, if_neg (by decide), if_pos rfl, if_pos rfl]
      · obtain ⟨g0, E0, r0, D0, z0, F0⟩ := MB d g hg
        obtain ⟨g1, E1, z1, z2, F1⟩ := h5 d g0 r0 D0 z0
        refine ⟨g1, nI 0, E0.trans ((MO d g0 g1 r0 z0 E1).trans ?_), z1, z2, lp_FM_tr F0 F1⟩
        rw [e281_343_28, z2, if_neg (by decide)]
  · have CO : ∀ d g, lp_RC g t T k b e → lp_fn (d + 7) 40 21 [.ref 224, .long 0, .long 0] [] (lp_s0 g) = lp_fn (d + 7) 40 45 [.ref 224, .int (nI 1), .int (nI 0)] [] (lp_s0 g) := by
      intro d g hg
      rw [e40_224_21, (s48 (d := d + 2) (by omega) hg wf).2 w, Option.bind_some, e40_224_27, if_pos rfl]
    rcases lp_allread t5 500 0 k b e 2 0 (fun _ => 0) (fun _ => 0) (fun _ _ => 0) (nI 1) (by omega) (by omega) wf hb (fun z => by have := lt z; omega) (.inr w) with ⟨m2, n2, S2, G2, A2, q1, q2, q3⟩ | ⟨bx, q1, q2, q3⟩
    · refine .inl ⟨m2, n2, S2, G2, A2, q1, fun d g hg => ?_, fun d g hg => ?_⟩
      · obtain ⟨g0, E0, r0, D0, F0⟩ := CB d g hg
        obtain ⟨g2, E2, D2, F2⟩ := q2 d g0 r0 D0
        exact ⟨g2, E0.trans ((CO d g0 r0).trans E2), D2, lp_FC_tr F0 F2⟩
      · obtain ⟨g0, E0, r0, D0, z0, F0⟩ := MB d g hg
        obtain ⟨g2, a2, E2, D2, z2, F2⟩ := q3 d g0 (nI 1) rfl r0 D0 z0
        exact ⟨g2, a2, E0.trans E2, D2, z2, lp_FM_tr F0 F2⟩
    · refine .inr ⟨bx, q1, fun d g hg => ?_, fun d g hg => ?_⟩
      · obtain ⟨g0, E0, r0, D0, F0⟩ := CB d g hg
        obtain ⟨g2, E2, F2⟩ := q2 d g0 r0 D0
        exact ⟨g2, E0.trans ((CO d g0 r0).trans E2), lp_FC_tr F0 F2⟩
      · obtain ⟨g0, E0, r0, D0, z0, F0⟩ := MB d g hg
        obtain ⟨g2, a2, E2, D2, z2, F2⟩ := q3 d g0 (nI 1) rfl r0 D0 z0
        exact ⟨g2, a2, E0.trans E2, D2, z2, lp_FM_tr F0 F2⟩
