/-! ===== the tape is read: a lamp, to its stop ===== -/
def lp_res (t : Nat) (T : Nat → Nat) (k b e m n : Nat) (S G : Nat → Nat) (A : Nat → Nat → Nat) (CR : Nat → lp_M → Int32 → lp_M → Prop) (MR : Nat → lp_M → lp_M → Prop) : Prop :=
  (∃ k' b' e' m' n' S' G' A', lp_Bd m' n' S' G' A' ∧ lp_twf t T k' b' e' ∧ (k' ≠ 0 → e < e') ∧
    (∀ d g, lp_RC g t T k b e → lp_DC g m n S G A → ∃ g', CR d g (nI 1) g' ∧ lp_RC g' t T k' b' e' ∧ lp_DC g' m' n' S' G' A' ∧ lp_FC g g') ∧
    (∀ d g, lp_RM g t T k b e → lp_DM g m n S G A → g 343 36 = nI 0 → ∃ g', MR d g g' ∧ lp_RM g' t T k' b' e' ∧ lp_DM g' m' n' S' G' A' ∧ g' 343 36 = nI 0 ∧ lp_FM g g')) ∨
  (∃ bx, bx ≤ 500 ∧ (∀ d g, lp_RC g t T k b e → lp_DC g m n S G A → ∃ g', CR d g (nI 0) g' ∧ g' 224 3 = nI bx ∧ lp_FC g g') ∧
    (∀ d g, lp_RM g t T k b e → lp_DM g m n S G A → g 343 36 = nI 0 → ∃ g', MR d g g' ∧ g' 343 34 = nI bx ∧ g' 343 36 = nI 1 ∧ lp_FM g g'))
/-- the model's stop -/
theorem s280s {d t k b e : Nat} {T : Nat → Nat} {g : lp_M} {a1 a2 : Int32} (h : lp_RM g t T k b e) (hf : lp_twf t T k b e) (h0 : g 343 36 = nI 0) :
    (k = 3 → ∀ k' b' e', lp_adv t T k e k' b' e' → ∃ g', lp_fn (d + 2) 280 60 [.ref 343, .int a1, .int a2] [] (lp_s0 g) = some (nI 0, lp_s0 g') ∧ lp_RM g' t T k' b' e' ∧ (∀ q, q ≠ 343 → g' q = g q) ∧ ∀ j, j < 32 ∨ 35 < j → g' 343 j = g 343 j) ∧ (¬ k = 3 → lp_fn (d + 2) 280 60 [.ref 343, .int a1, .int a2] [] (lp_s0 g) = some (nI 0, lp_s0 (lp_w g 343 36 (nI 1)))) := by
  have k4 := hf.1
  rw [e280_343_60, h0, if_pos rfl, h.2.1]
  by_cases z : k = 3
  · rw [if_pos (by rw [z])]
    refine ⟨fun _ k' b' e' hav => ?_, fun y => absurd z y⟩
    obtain ⟨g', E2, r1, r2, r3⟩ := s274 (d := d) k4 h hav
    exact ⟨g', by rw [E2, Option.bind_some, e280_343_80], r1, r2, r3⟩
  · rw [if_neg (by rw [nI_eq (by omega) (by omega)]; exact z)]
    exact ⟨fun y => absurd y z, fun _ => rfl⟩
theorem s280w {D : Nat} {g : lp_M} {a1 a2 : Int32} (h0 : g 343 36 = nI 1) : lp_fn D 280 60 [.ref 343, .int a1, .int a2] [] (lp_s0 g) = some (nI 0, lp_s0 g) := by
  rw [e280_343_60, h0, if_neg (by decide)]
theorem lp_RM_u {g : lp_M} {t : Nat} {T : Nat → Nat} {k b e : Nat} {f : Nat → Int32} (h : lp_RM g t T k b e) : lp_RM (lp_u g 345 f) t T k b e := by
  unfold lp_RM lp_RMb at h ⊢
  rw [lp_un (by omega), lp_un (by omega), lp_un (by omega)]; exact h
theorem lp_lampread {t k b e m n : Nat} {T : Nat → Nat} {S G : Nat → Nat} {A : Nat → Nat → Nat} (t5 : t ≤ 500) (hf : lp_twf t T k b e) (hb : lp_Bd m n S G A) (hw : k = 1 ∧ lp_isw T b e 1) (a1 : Int32) :
    lp_res t T k b e m n S G A (fun d g v g' => lp_rn (d + 7) 42 [.ref 224] (lp_s0 g) = some (v, lp_s0 g')) (fun d g g' => ((lp_rn (d + 6) 275 [.ref 343, .int (nI 1)] (lp_s0 g)).bind fun x => lp_fn (d + 6) 280 29 [.ref 343, .int a1, .int (nI b)] [.int x.1] x.2) = some (nI 0, lp_s0 g')) := by
  have hn := hb.2.1
  have hm : m ≤ 5 ∧ 2 ≤ m := by have := hb.1; omega
  have e5 : e ≤ 500 := by have := hf.2.2.1; omega
  have b5 : b ≤ 500 := by have := hf.2.1; omega
  obtain ⟨k1, b1, e1, hav⟩ := lp_adv_ex (T := T) k hf.2.2.1
  obtain ⟨wf1, le1, -⟩ := lp_adv_wf hav
  have b15 : b1 ≤ 500 := by have := wf1.2.1; have := wf1.2.2.1; omega
  -- the model's word
  have MW : ∀ d g, lp_RM g t T k b e → lp_DM g m n S G A → g 343 36 = nI 0 → ∃ g1, (((lp_rn (d + 6) 275 [.ref 343, .int (nI 1)] (lp_s0 g)).bind fun x => lp_fn (d + 6) 280 29 [.ref 343, .int a1, .int (nI b)] [.int x.1] x.2) = ((lp_rn (d + 6) 278 [.ref 343, .int (nI b)] (lp_s0 g1)).bind fun x => lp_fn (d + 6) 280 37 [.ref 343, .int a1, .int (nI b)] [] x.2)) ∧ lp_RM g1 t T k1 b1 e1 ∧ lp_DM g1 m n S G A ∧ g1 343 36 = nI 0 ∧ lp_FM g g1 := by
    intro d g hg hD h0
    obtain ⟨g1, E1, r1, f1, j1⟩ := (s275 (d := d + 1) (by omega) hg hf h0).1 hw _ _ _ hav
    refine ⟨g1, ?_, r1, lp_DM_fr (f1 _ (by omega)) hD, by rw [j1 _ (by omega)]; exact h0, lp_FM_1 f1 j1⟩
    rw [E1, Option.bind_some, e280_343_29, if_neg (show ¬ nI 1 = nI 0 by decide)]
  by_cases n10 : n = 10
  · refine .inr ⟨b, b5, fun d g hg hD => ⟨g, ?_, hg.2.2.1, fun _ _ => rfl⟩, fun d g hg hD h0 => ?_⟩
    · show lp_rn (d + 7) 42 [.ref 224] (lp_s0 g) = some (nI 0, lp_s0 g)
      rw [e42_224, hD.1.2.1, n10, if_neg (by decide)]
    · obtain ⟨g1, E1, r1, D1, z1, F1⟩ := MW d g hg hD h0
      refine ⟨lp_w (lp_w g1 343 34 (nI b)) 343 36 (nI 1), ?_, by rw [lp_w_eq, pk_un (by omega), lp_w_eq, pk_us], by rw [lp_w_eq, pk_us], lp_FM_tr F1 ⟨fun q h1 h2 => by rw [lp_w_ne h1, lp_w_ne h1], fun j hj => by rw [lp_w_eq, pk_un (by omega), lp_w_eq, pk_un (by omega)]⟩⟩
      show _ = _
      rw [E1, e278_343, D1.1.2.1, n10, if_pos rfl, e278_343_16, Option.bind_some, e280_343_37, s280w (by rw [lp_w_eq, pk_us])]
  have n9 : n < 10 := by omega
  -- the class, to its number
  have CW : ∀ d g, lp_RC g t T k b e → lp_DC g m n S G A → ∃ g1, lp_rn (d + 7) 42 [.ref 224] (lp_s0 g) = ((lp_rn (d + 6) 45 [.ref 224, .int (nI 0), .int (nI m - nI 1)] (lp_s0 g1)).bind fun x => lp_fn (d + 6) 42 34 [.ref 224, .int (nI m - nI 1), .long 0, .long 0, .long 0] [.int x.1] x.2) ∧ lp_RC g1 t T k1 b1 e1 ∧ lp_DC g1 m n S G A ∧ lp_FC g g1 := by
    intro d g hg hD
    obtain ⟨g1, E1, r1, f1⟩ := s49 (d := d + 3) hf.1 hg hav
    have D1 := lp_DC_fr hn f1 hD
    refine ⟨g1, ?_, r1, D1, lp_FC_1 f1⟩
    have z : g1 225 0 = nI m := D1.1.1
    rw [e42_224, hD.1.2.1, if_pos (by rw [nI_ltI (by omega) (by omega)]; exact n9), E1, Option.bind_some, e42_224_18, z]
  -- the model, to its number
  have MN : ∀ d g, lp_DM g m n S G A → lp_rn (d + 6) 278 [.ref 343, .int (nI b)] (lp_s0 g) = ((lp_rn (d + 5) 276 [.ref 343, .int (nI 0), .int (nI m - nI 1)] (lp_s0 g)).bind fun x => lp_fn (d + 5) 278 46 [.ref 343, .int (nI b), .int (nI n)] [.int x.1, .ref 345] x.2) := by
    intro d g hD
    rw [e278_343, hD.1.2.1, if_neg (by rw [nI_eq (by omega) (by omega)]; exact n10), hD.1.1]
  -- the model goes on when it is wrong
  have MX : ∀ d (s : lp_M), s 343 36 = nI 1 → lp_fn (d + 5) 278 49 [.ref 343, .int (nI b), .int (nI n)] [] (lp_s0 s) = some (nI 0, lp_s0 s) := by
    intro d s h1
    rw [e278_343_49, s275w h1, Option.bind_some, e278_343_54, if_pos rfl, s275w h1, Option.bind_some, e278_343_84, if_pos rfl]
  by_cases y1 : lp_nok T k1 b1 0 m
  case neg =>
    refine .inr ⟨b1, b15, fun d g hg hD => ?_, fun d g hg hD h0 => ?_⟩
    · obtain ⟨g1, E1, r1, D1, F1⟩ := CW d g hg hD
      refine ⟨g1, ?_, r1.2.2.1, F1⟩
      show _ = _
      rw [E1, (s45 (d := d + 2) r1 wf1 (by omega) (by omega)).2 y1, Option.bind_some, e42_224_34, if_pos rfl]
    · obtain ⟨g1, E1, r1, D1, z1, F1⟩ := MW d g hg hD h0
      have E2 := (s276 (d := d + 2) r1 wf1 z1 (by omega) (by omega)).2 y1
      have D2 : lp_D (lp_w g1 343 36 (nI 1) 345) m n S G A := by rw [lp_w_ne (by omega)]; exact D1.1
      obtain ⟨f, E3, -⟩ := s173 (d := d + 3) (c := 345) (x := 0) (.inr rfl) D2 n9
      refine ⟨lp_u (lp_w g1 343 36 (nI 1)) 345 f, ?_, by rw [lp_un (by omega), lp_w_eq, pk_un (by omega)]; exact r1.2.2.1, by rw [lp_un (by omega), lp_w_eq, pk_us], lp_FM_tr F1 ⟨fun q h1 h2 => by rw [lp_un h2, lp_w_ne h1], fun j hj => by rw [lp_un (by omega), lp_w_eq, pk_un (by omega)]⟩⟩
      show _ = _
      rw [E1, MN d g1 D1, E2, Option.bind_some, e278_343_46, E3, Option.bind_some, MX d _ (by rw [lp_un (by omega), lp_w_eq, pk_us]), Option.bind_some, e280_343_37, s280w (by rw [lp_un (by omega), lp_w_eq, pk_us])]
  obtain ⟨k2, b2, e2, hav2⟩ := lp_adv_ex (T := T) k1 wf1.2.2.1
  obtain ⟨wf2, le2, -⟩ := lp_adv_wf hav2
  generalize hx : T b1 - 48 = x at *
  have xm : x < m := by rw [← hx]; exact y1.2.2
  have CW2 : ∀ d g, lp_RC g t T k b e → lp_DC g m n S G A → ∃ g1, lp_rn (d + 7) 42 [.ref 224] (lp_s0 g) = ((lp_rn (d + 6) 44 [.ref 224, .retAddr 2, .int (nI 1), .int (nI 0), .int (nI m - nI 1)] (lp_s0 g1)).bind fun z => lp_fn (d + 6) 42 53 [.ref 224, .int (nI m - nI 1), .int (nI x), .long 0, .long 0] [.int z.1] z.2) ∧ lp_RC g1 t T k2 b2 e2 ∧ lp_DC g1 m n S G A ∧ lp_FC g g1 := by
    intro d g hg hD
    obtain ⟨g1, E1, r1, D1, F1⟩ := CW d g hg hD
    obtain ⟨g2, E2, r2, f2⟩ := (s45 (d := d + 2) r1 wf1 (by omega) (by omega)).1 y1 _ _ _ hav2
    rw [hx] at E2
    refine ⟨g2, ?_, r2, lp_DC_fr hn f2 D1, lp_FC_tr F1 (lp_FC_1 f2)⟩
    rw [E1, E2, Option.bind_some, e42_224_34, if_neg (lp_nI_ne (by omega))]
  have MW2 : ∀ d g, lp_RM g t T k b e → lp_DM g m n S G A → g 343 36 = nI 0 → ∃ g1, (((lp_rn (d + 6) 275 [.ref 343, .int (nI 1)] (lp_s0 g)).bind fun x => lp_fn (d + 6) 280 29 [.ref 343, .int a1, .int (nI b)] [.int x.1] x.2) = ((lp_fn (d + 5) 278 49 [.ref 343, .int (nI b), .int (nI n)] [] (lp_s0 g1)).bind fun x => lp_fn (d + 6) 280 37 [.ref 343, .int a1, .int (nI b)] [] x.2)) ∧ lp_RM g1 t T k2 b2 e2 ∧ lp_DM g1 m (n + 1) (lp_adN n x S) (lp_adN n 0 G) (lp_adA n 1 A) ∧ g1 343 36 = nI 0 ∧ lp_FM g g1 := by
    intro d g hg hD h0
    obtain ⟨g1, E1, r1, D1, z1, F1⟩ := MW d g hg hD h0
    obtain ⟨g2, E2, r2, f2, j2⟩ := (s276 (d := d + 2) r1 wf1 z1 (by omega) (by omega)).1 y1 _ _ _ hav2
    rw [hx] at E2
    have D2 : lp_D (g2 345) m n S G A := by rw [f2 _ (by omega)]; exact D1.1
    obtain ⟨f, E3, d1, d2, d3, -⟩ := s173 (d := d + 3) (c := 345) (x := x) (.inr rfl) D2 n9
    refine ⟨lp_u g2 345 f, ?_, lp_RM_u r2, ⟨by rw [lp_ue]; exact d1, by rw [lp_ue, d2, f2 _ (by omega)]; exact D1.2.1, by rw [lp_ue, d3, f2 _ (by omega)]; exact D1.2.2⟩, by rw [lp_un (by omega), j2 _ (by omega)]; exact z1, lp_FM_tr F1 (lp_FM_tr (lp_FM_1 f2 j2) ⟨fun q h1 h2 => by rw [lp_un h2], fun j hj => by rw [lp_un (by omega)]⟩)⟩
    rw [E1, MN d g1 D1, E2, Option.bind_some, e278_343_46, E3, Option.bind_some]
  -- the own step
  rcases lp_opt (w := 2) (dv := 1) (a := 0) (u := m) (by omega) (by omega) (by omega) wf2 with ⟨y, k3, b3, e3, o1, o2, wf3, le3, oC, oM⟩ | ⟨bx, bx5, oC, oM⟩
  case inr =>
    refine .inr ⟨bx, by omega, fun d g hg hD => ?_, fun d g hg hD h0 => ?_⟩
    · obtain ⟨g1, E1, r1, D1, F1⟩ := CW2 d g hg hD
      obtain ⟨g2, E2, z2, f2⟩ := oC d g1 r1
      refine ⟨g2, ?_, z2, lp_FC_tr F1 (lp_FC_1 f2)⟩
      show _ = _
      rw [E1, E2, Option.bind_some, e42_224_53, if_pos rfl]
    · obtain ⟨g1, E1, r1, D1, z1, F1⟩ := MW2 d g hg hD h0
      obtain ⟨g2, g3, E2, q2, E3, z2, z3, f3, j3⟩ := oM d g1 r1 z1
      have zz : g2 345 0 = nI m := by rw [q2]; exact D1.1.1
      refine ⟨lp_w g3 345 (14 + n) (nI 0), ?_, by rw [lp_w_ne (by omega)]; exact z2, by rw [lp_w_ne (by omega)]; exact z3, lp_FM_tr F1 ⟨fun q h1 h2 => by rw [lp_w_ne h2]; exact f3 q h1, fun j hj => by rw [lp_w_ne (by omega)]; exact j3 j hj⟩⟩
      show _ = _
      have z3' : lp_w g3 345 (14 + n) (nI 0) 343 36 = nI 1 := by rw [lp_w_ne (by omega)]; exact z3
      rw [E1, e278_343_49, E2, Option.bind_some, e278_343_54, if_neg (show ¬ nI 1 = nI 0 by decide), zz, E3, Option.bind_some]
      simp (disch := omega) only [e278_343_78, s275w z3', e278_343_84, e280_343_37, s280w z3', nI_leI, nI_ltI, nI_eq, nI_clamp, lp_oobN, nI_add, pk_mul, pk_sub, pk_rem, pk_m1, lp_neg1lt, lp_neg1le, lp_neg1eq, lp_neg1eq2, if_true, if_false, if_pos, if_neg, Option.bind_some, Nat.lt_irrefl, Nat.le_refl, true_and, and_true, false_or, or_false, true_or, or_true, not_true_eq_false, not_false_eq_true, and_self, or_self, false_and, and_false, ite_true, ite_false, reduceIte]
  have ym : y < m := by omega
  have CW3 : ∀ d g, lp_RC g t T k b e → lp_DC g m n S G A → ∃ g1, lp_rn (d + 7) 42 [.ref 224] (lp_s0 g) = ((lp_rn (d + 6) 44 [.ref 224, .retAddr 3, .int (nI 0), .int (nI 0), .int (nI m - nI 1)] (lp_s0 g1)).bind fun z => lp_fn (d + 6) 42 72 [.ref 224, .int (nI m - nI 1), .int (nI x), .int (nI y), .long 0] [.int z.1] z.2) ∧ lp_RC g1 t T k3 b3 e3 ∧ lp_DC g1 m n S G A ∧ lp_FC g g1 := by
    intro d g hg hD
    obtain ⟨g1, E1, r1, D1, F1⟩ := CW2 d g hg hD
    obtain ⟨g2, E2, r2, f2⟩ := oC d g1 r1
    refine ⟨g2, ?_, r2, lp_DC_fr hn f2 D1, lp_FC_tr F1 (lp_FC_1 f2)⟩
    rw [E1, E2, Option.bind_some, e42_224_53, if_neg (lp_nI_ne (by omega))]
  have MW3 : ∀ d g, lp_RM g t T k b e → lp_DM g m n S G A → g 343 36 = nI 0 → ∃ g1, (((lp_rn (d + 6) 275 [.ref 343, .int (nI 1)] (lp_s0 g)).bind fun x => lp_fn (d + 6) 280 29 [.ref 343, .int a1, .int (nI b)] [.int x.1] x.2) = (((lp_rn (d + 5) 275 [.ref 343, .int (nI 3)] (lp_s0 g1)).bind fun x => lp_fn (d + 5) 278 84 [.ref 343, .int (nI b), .int (nI n)] [.int x.1] x.2).bind fun x => lp_fn (d + 6) 280 37 [.ref 343, .int a1, .int (nI b)] [] x.2)) ∧ lp_RM g1 t T k3 b3 e3 ∧ lp_DM g1 m (n + 1) (lp_adN n x S) (lp_adN n 0 G) (lp_adA n y A) ∧ g1 343 36 = nI 0 ∧ lp_FM g g1 := by
    intro d g hg hD h0
    obtain ⟨g1, E1, r1, D1, z1, F1⟩ := MW2 d g hg hD h0
    rcases oM d g1 r1 z1 with ⟨u1, u2, u3, u4, E2⟩ | ⟨g2, g3, E2, q2, E3, r3, f3, j3⟩
    · subst u1; subst u2; subst u3; subst u4
      refine ⟨g1, ?_, r1, D1, z1, F1⟩
      rw [E1, e278_343_49, E2, Option.bind_some, e278_343_54, if_pos rfl]
    · have zz : g2 345 0 = nI m := by rw [q2]; exact D1.1.1
      have r4 : lp_RM (lp_w g3 345 (14 + n) (nI y)) t T k3 b3 e3 := by
        unfold lp_RM lp_RMb at r3 ⊢
        rw [lp_w_ne (by omega), lp_w_ne (by omega), lp_w_ne (by omega)]; exact r3
      have D3 := D1
      rw [lp_DM, ← f3 345 (by omega)] at D3
      refine ⟨lp_w g3 345 (14 + n) (nI y), ?_, r4, ⟨by rw [lp_w_eq]; exact lp_D_own n9 D3.1, by rw [lp_w_eq, pk_un (by omega)]; exact D3.2.1, by rw [lp_w_eq, pk_un (by omega)]; exact D3.2.2⟩, by rw [lp_w_ne (by omega), j3 _ (by omega)]; exact z1, lp_FM_tr F1 ⟨fun q h1 h2 => by rw [lp_w_ne h2]; exact f3 q h1, fun j hj => by rw [lp_w_ne (by omega)]; exact j3 j (by omega)⟩⟩
      rw [E1, e278_343_49, E2, Option.bind_some, e278_343_54, if_neg (show ¬ nI 1 = nI 0 by decide), zz, E3, Option.bind_some]
      simp (disch := omega) only [e278_343_78, nI_leI, nI_ltI, nI_eq, nI_clamp, lp_oobN, nI_add, pk_mul, pk_sub, pk_rem, pk_m1, lp_neg1lt, lp_neg1le, lp_neg1eq, lp_neg1eq2, if_true, if_false, if_pos, if_neg, Option.bind_some, Nat.lt_irrefl, Nat.le_refl, true_and, and_true, false_or, or_false, true_or, or_true, not_true_eq_false, not_false_eq_true, and_self, or_self, false_and, and_false, ite_true, ite_false, reduceIte]
  -- the goal
  rcases lp_opt (w := 3) (dv := 0) (a := 0) (u := m) (by omega) (by omega) (by omega) wf3 with ⟨z, k4, b4, e4, o1', o2', wf4, le4, oC', oM'⟩ | ⟨bx, bx5, oC', oM'⟩
  case inr =>
    refine .inr ⟨bx, by omega, fun d g hg hD => ?_, fun d g hg hD h0 => ?_⟩
    · obtain ⟨g1, E1, r1, D1, F1⟩ := CW3 d g hg hD
      obtain ⟨g2, E2, z2, f2⟩ := oC' d g1 r1
      refine ⟨g2, ?_, z2, lp_FC_tr F1 (lp_FC_1 f2)⟩
      show _ = _
      rw [E1, E2, Option.bind_some, e42_224_72, if_pos rfl]
    · obtain ⟨g1, E1, r1, D1, z1, F1⟩ := MW3 d g hg hD h0
      obtain ⟨g2, g3, E2, q2, E3, z2, z3, f3, j3⟩ := oM' d g1 r1 z1
      have zz : g2 345 0 = nI m := by rw [q2]; exact D1.1.1
      refine ⟨lp_w g3 345 (24 + n) (nI 0), ?_, by rw [lp_w_ne (by omega)]; exact z2, by rw [lp_w_ne (by omega)]; exact z3, lp_FM_tr F1 ⟨fun q h1 h2 => by rw [lp_w_ne h2]; exact f3 q h1, fun j hj => by rw [lp_w_ne (by omega)]; exact j3 j hj⟩⟩
      show _ = _
      have z3' : lp_w g3 345 (24 + n) (nI 0) 343 36 = nI 1 := by rw [lp_w_ne (by omega)]; exact z3
      rw [E1, E2, Option.bind_some, e278_343_84, if_neg (show ¬ nI 1 = nI 0 by decide), zz, E3, Option.bind_some]
      simp (disch := omega) only [e278_343_108, e280_343_37, s280w z3', nI_leI, nI_ltI, nI_eq, nI_clamp, lp_oobN, nI_add, pk_mul, pk_sub, pk_rem, pk_m1, lp_neg1lt, lp_neg1le, lp_neg1eq, lp_neg1eq2, if_true, if_false, if_pos, if_neg, Option.bind_some, Nat.lt_irrefl, Nat.le_refl, true_and, and_true, false_or, or_false, true_or, or_true, not_true_eq_false, not_false_eq_true, and_self, or_self, false_and, and_false, ite_true, ite_false, reduceIte]
  have zm : z < m := by omega
  have CW4 : ∀ d g, lp_RC g t T k b e → lp_DC g m n S G A → ∃ g1, lp_rn (d + 7) 42 [.ref 224] (lp_s0 g) = ((lp_rn (d + 6) 46 [.ref 224] (lp_s0 g1)).bind fun w => lp_fn (d + 6) 42 84 [.ref 224, .int (nI m - nI 1), .int (nI x), .int (nI y), .int (nI z)] [.int w.1] w.2) ∧ lp_RC g1 t T k4 b4 e4 ∧ lp_DC g1 m n S G A ∧ lp_FC g g1 := by
    intro d g hg hD
    obtain ⟨g1, E1, r1, D1, F1⟩ := CW3 d g hg hD
    obtain ⟨g2, E2, r2, f2⟩ := oC' d g1 r1
    refine ⟨g2, ?_, r2, lp_DC_fr hn f2 D1, lp_FC_tr F1 (lp_FC_1 f2)⟩
    rw [E1, E2, Option.bind_some, e42_224_72, if_neg (lp_nI_ne (by omega))]
  have MW4 : ∀ d g, lp_RM g t T k b e → lp_DM g m n S G A → g 343 36 = nI 0 → ∃ g1, (((lp_rn (d + 6) 275 [.ref 343, .int (nI 1)] (lp_s0 g)).bind fun x => lp_fn (d + 6) 280 29 [.ref 343, .int a1, .int (nI b)] [.int x.1] x.2) = lp_fn (d + 6) 280 60 [.ref 343, .int a1, .int (nI b)] [] (lp_s0 g1)) ∧ lp_RM g1 t T k4 b4 e4 ∧ lp_DM g1 m (n + 1) (lp_adN n x S) (lp_adN n z G) (lp_adA n y A) ∧ g1 343 36 = nI 0 ∧ lp_FM g g1 := by
    intro d g hg hD h0
    obtain ⟨g1, E1, r1, D1, z1, F1⟩ := MW3 d g hg hD h0
    rcases oM' d g1 r1 z1 with ⟨u1, u2, u3, u4, E2⟩ | ⟨g2, g3, E2, q2, E3, r3, f3, j3⟩
    · subst u1; subst u2; subst u3; subst u4
      refine ⟨g1, ?_, r1, D1, z1, F1⟩
      rw [E1, E2, Option.bind_some, e278_343_84, if_pos rfl, Option.bind_some, e280_343_37]
    · have zz : g2 345 0 = nI m := by rw [q2]; exact D1.1.1
      have r4 : lp_RM (lp_w g3 345 (24 + n) (nI z)) t T k4 b4 e4 := by
        unfold lp_RM lp_RMb at r3 ⊢
        rw [lp_w_ne (by omega), lp_w_ne (by omega), lp_w_ne (by omega)]; exact r3
      have D3 := D1
      rw [lp_DM, ← f3 345 (by omega)] at D3
      refine ⟨lp_w g3 345 (24 + n) (nI z), ?_, r4, ⟨by rw [lp_w_eq]; exact lp_D_goal n9 D3.1, by rw [lp_w_eq, pk_un (by omega)]; exact D3.2.1, by rw [lp_w_eq, pk_un (by omega)]; exact D3.2.2⟩, by rw [lp_w_ne (by omega), j3 _ (by omega)]; exact z1, lp_FM_tr F1 ⟨fun q h1 h2 => by rw [lp_w_ne h2]; exact f3 q h1, fun j hj => by rw [lp_w_ne (by omega)]; exact j3 j (by omega)⟩⟩
      rw [E1, E2, Option.bind_some, e278_343_84, if_neg (show ¬ nI 1 = nI 0 by decide), zz, E3, Option.bind_some]
      simp (disch := omega) only [e278_343_108, e280_343_37, nI_leI, nI_ltI, nI_eq, nI_clamp, lp_oobN, nI_add, pk_mul, pk_sub, pk_rem, pk_m1, lp_neg1lt, lp_neg1le, lp_neg1eq, lp_neg1eq2, if_true, if_false, if_pos, if_neg, Option.bind_some, Nat.lt_irrefl, Nat.le_refl, true_and, and_true, false_or, or_false, true_or, or_true, not_true_eq_false, not_false_eq_true, and_self, or_self, false_and, and_false, ite_true, ite_false, reduceIte]
  -- the stop
  by_cases y4 : k4 = 3
  · obtain ⟨k5, b5', e5', hav5⟩ := lp_adv_ex (T := T) k4 wf4.2.2.1
    obtain ⟨wf5, le5, lt5⟩ := lp_adv_wf hav5
    refine .inl ⟨k5, b5', e5', m, n + 1, lp_adN n x S, lp_adN n z G, lp_adA n y A, lp_Bd_ad hb n9 xm ym zm, wf5, fun w => by have := lt5 w; omega, fun d g hg hD => ?_, fun d g hg hD h0 => ?_⟩
    · obtain ⟨g1, E1, r1, D1, F1⟩ := CW4 d g hg hD
      obtain ⟨g2, E2, r2, f2⟩ := (s46 (d := d + 2) r1 wf4).1 y4 _ _ _ hav5
      have D2 := lp_DC_fr hn f2 D1
      obtain ⟨g3, E3, f3, j3, c3⟩ := s22_225 (d := d + 4) (x := x) (y := y) (z := z) D2.1 n9
      refine ⟨g3, ?_, ⟨?_, by rw [f3 _ (by omega)]; exact r2.2.1, by rw [f3 _ (by omega)]; exact r2.2.2.1, by rw [f3 _ (by omega)]; exact r2.2.2.2⟩, ⟨c3, by rw [j3 _ (by omega)]; exact D2.2.1, by rw [f3 _ (by omega)]; exact D2.2.2⟩, lp_FC_tr F1 (lp_FC_tr (lp_FC_1 f2) (fun q hq => f3 q (by omega)))⟩
      · show _ = _
        rw [E1, E2, Option.bind_some, e42_224_84, if_neg (show ¬ nI 1 = nI 0 by decide), E3, Option.bind_some, e42_224_100]
      · have c2 := r2.1
        unfold lp_CT at c2 ⊢
        rw [f3 _ (by omega), f3 _ (by omega)]; exact c2
    · obtain ⟨g1, E1, r1, D1, z1, F1⟩ := MW4 d g hg hD h0
      obtain ⟨g2, E2, r2, f2, j2⟩ := (s280s (d := d + 4) (a1 := a1) (a2 := nI b) r1 wf4 z1).1 y4 _ _ _ hav5
      exact ⟨g2, E1.trans E2, r2, lp_DM_fr (f2 _ (by omega)) D1, by rw [j2 _ (by omega)]; exact z1, lp_FM_tr F1 (lp_FM_1 f2 j2)⟩
  · refine .inr ⟨b4, by have := wf4.2.1; have := wf4.2.2.1; omega, fun d g hg hD => ?_, fun d g hg hD h0 => ?_⟩
    · obtain ⟨g1, E1, r1, D1, F1⟩ := CW4 d g hg hD
      refine ⟨g1, ?_, r1.2.2.1, F1⟩
      show _ = _
      rw [E1, (s46 (d := d + 2) r1 wf4).2 y4, Option.bind_some, e42_224_84, if_pos rfl]
    · obtain ⟨g1, E1, r1, D1, z1, F1⟩ := MW4 d g hg hD h0
      have E2 := (s280s (d := d + 4) (a1 := a1) (a2 := nI b) r1 wf4 z1).2 y4
      exact ⟨_, E1.trans E2, by rw [lp_w_eq, pk_un (by omega)]; exact r1.2.2.1, by rw [lp_w_eq, pk_us], lp_FM_tr F1 ⟨fun q h1 h2 => by rw [lp_w_ne h1], fun j hj => by rw [lp_w_eq, pk_un (by omega)]⟩⟩
