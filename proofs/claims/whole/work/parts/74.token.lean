/-! ===== the tape is read: tokens ===== -/
/-- the kind of a byte -/
def lp_kb (x : Nat) : Nat := if 97 ≤ x ∧ x ≤ 122 then 1 else if 48 ≤ x ∧ x ≤ 57 then 2 else if x = 59 then 3 else 4
def lp_kn (t : Nat) (T : Nat → Nat) (p : Nat) : Nat := if p < t then lp_kb (T p) else 0
theorem lp_kb_1 {x : Nat} : lp_kb x = 1 ↔ 97 ≤ x ∧ x ≤ 122 := by unfold lp_kb; split <;> (try split) <;> (try split) <;> omega
theorem lp_kb_2 {x : Nat} : lp_kb x = 2 ↔ 48 ≤ x ∧ x ≤ 57 := by unfold lp_kb; split <;> (try split) <;> (try split) <;> omega
theorem lp_kb_3 {x : Nat} : lp_kb x = 3 ↔ x = 59 := by unfold lp_kb; split <;> (try split) <;> (try split) <;> omega
theorem lp_kb_b (x : Nat) : 1 ≤ lp_kb x ∧ lp_kb x ≤ 4 := by unfold lp_kb; split <;> (try split) <;> (try split) <;> omega
def lp_tgp (t : Nat) (T : Nat → Nat) (e p : Nat) : Prop := e ≤ p ∧ p ≤ t ∧ (∀ i, e ≤ i → i < p → T i = 32 ∨ T i = 10) ∧ (p < t → T p ≠ 32 ∧ T p ≠ 10)
def lp_we (t : Nat) (T : Nat → Nat) (p q : Nat) : Prop := p ≤ q ∧ q ≤ t ∧ (∀ i, p ≤ i → i < q → lp_kb (T i) = 1) ∧ (q < t → lp_kb (T q) ≠ 1)
theorem lp_tgp_ex {t : Nat} {T : Nat → Nat} : ∀ (k e : Nat), e ≤ t → t - e = k → ∃ p, lp_tgp t T e p := by
  intro k
  induction k with
  | zero => intro e h h2; exact ⟨e, Nat.le_refl _, h, fun i h1 h2 => by omega, fun h3 => by omega⟩
  | succ k ih =>
    intro e h h2
    by_cases z : T e = 32 ∨ T e = 10
    · obtain ⟨p, p1, p2, p3, p4⟩ := ih (e + 1) (by omega) (by omega)
      refine ⟨p, by omega, p2, fun i h1 h2 => ?_, p4⟩
      by_cases w : i = e
      · rw [w]; exact z
      · exact p3 i (by omega) h2
    · exact ⟨e, Nat.le_refl _, h, fun i h1 h2 => by omega, fun _ => ⟨fun w => z (.inl w), fun w => z (.inr w)⟩⟩
theorem lp_we_ex {t : Nat} {T : Nat → Nat} : ∀ (k e : Nat), e ≤ t → t - e = k → ∃ p, lp_we t T e p := by
  intro k
  induction k with
  | zero => intro e h h2; exact ⟨e, Nat.le_refl _, h, fun i h1 h2 => by omega, fun h3 => by omega⟩
  | succ k ih =>
    intro e h h2
    by_cases z : lp_kb (T e) = 1
    · obtain ⟨p, p1, p2, p3, p4⟩ := ih (e + 1) (by omega) (by omega)
      refine ⟨p, by omega, p2, fun i h1 h2 => ?_, p4⟩
      by_cases w : i = e
      · rw [w]; exact z
      · exact p3 i (by omega) h2
    · exact ⟨e, Nat.le_refl _, h, fun i h1 h2 => by omega, fun _ => z⟩
/-- the next token, behind one of kind k that ends at e -/
def lp_adv (t : Nat) (T : Nat → Nat) (k e k' b' e' : Nat) : Prop :=
  lp_tgp t T e b' ∧ ((b' = t ∧ k' = 0 ∧ e' = b') ∨ (b' < t ∧ (if lp_kb (T b') = 1 then lp_we t T (b' + 1) e' else e' = b' + 1) ∧ k' = if (k = 1 ∨ k = 2) ∧ b' = e ∧ (lp_kb (T b') = 1 ∨ lp_kb (T b') = 2) then 4 else lp_kb (T b')))
theorem lp_adv_ex {t : Nat} {T : Nat → Nat} (k : Nat) {e : Nat} (h : e ≤ t) : ∃ k' b' e', lp_adv t T k e k' b' e' := by
  obtain ⟨p, hp⟩ := lp_tgp_ex (t := t) (T := T) _ e h rfl
  by_cases z : p = t
  · exact ⟨0, p, p, hp, .inl ⟨z, rfl, rfl⟩⟩
  · have h1 : p < t := by have := hp.2.1; omega
    by_cases w : lp_kb (T p) = 1
    · obtain ⟨q, hq⟩ := lp_we_ex (t := t) (T := T) _ (p + 1) h1 rfl
      exact ⟨_, p, q, hp, .inr ⟨h1, by rw [if_pos w]; exact hq, rfl⟩⟩
    · exact ⟨_, p, p + 1, hp, .inr ⟨h1, by rw [if_neg w], rfl⟩⟩
/-- what is known of a token -/
def lp_twf (t : Nat) (T : Nat → Nat) (k b e : Nat) : Prop := k ≤ 4 ∧ b ≤ e ∧ e ≤ t ∧ (k = 1 → b < e ∧ ∀ i, b ≤ i → i < e → lp_kb (T i) = 1) ∧ (k = 2 → b < e ∧ lp_kb (T b) = 2)
theorem lp_adv_wf {t k e k' b' e' : Nat} {T : Nat → Nat} (h : lp_adv t T k e k' b' e') : lp_twf t T k' b' e' ∧ e ≤ e' ∧ (k' ≠ 0 → e < e') := by
  obtain ⟨⟨h1, h2, h3, h4⟩, h5⟩ := h
  rcases h5 with ⟨a, b, c⟩ | ⟨a, b, c⟩
  · exact ⟨⟨by omega, by omega, by omega, fun z => by omega, fun z => by omega⟩, by omega, fun z => absurd b z⟩
  · have kbb := lp_kb_b (T b')
    have k4 : k' ≤ 4 := by rw [c]; split <;> omega
    by_cases w : lp_kb (T b') = 1
    · rw [if_pos w] at b
      obtain ⟨b1, b2, b3, b4⟩ := b
      refine ⟨⟨k4, by omega, b2, fun _ => ⟨by omega, fun i h1 h2 => ?_⟩, fun z => ?_⟩, by omega, fun _ => by omega⟩
      · by_cases e : i = b'
        · rw [e]; exact w
        · exact b3 i (by omega) h2
      · rw [c] at z
        split at z <;> omega
    · rw [if_neg w] at b
      refine ⟨⟨k4, by omega, by omega, fun z => ?_, fun z => ?_⟩, by omega, fun _ => by omega⟩
      · rw [c] at z
        split at z <;> omega
      · rw [c] at z
        refine ⟨by omega, ?_⟩
        split at z <;> omega
/-- the class's reader -/
def lp_RC (g : lp_M) (t : Nat) (T : Nat → Nat) (k b e : Nat) : Prop := lp_CT g t T ∧ g 224 2 = nI k ∧ g 224 3 = nI b ∧ g 224 4 = nI e
theorem lp_byc : ∀ x, x < 256 → (lp_by x < nI 97 ↔ (x < 97 ∨ 128 ≤ x)) ∧ (nI 122 < lp_by x ↔ (122 < x ∧ x < 128)) ∧ (lp_by x < nI 48 ↔ (x < 48 ∨ 128 ≤ x)) ∧ (nI 57 < lp_by x ↔ (57 < x ∧ x < 128)) ∧ (lp_by x = nI 59 ↔ x = 59) ∧ (lp_by x = nI 32 ↔ x = 32) ∧ (lp_by x = nI 10 ↔ x = 10) ∧ (x < 128 → lp_by x = nI x) := by decide +kernel
theorem s51 {d t p : Nat} {T : Nat → Nat} {g : lp_M} (h : lp_CT g t T) (hp : p < t) : lp_rn (d + 1) 51 [.ref 224, .int (nI p)] (lp_s0 g) = some (lp_by (T p), lp_s0 g) := by
  obtain ⟨h1, h2, h3⟩ := h
  simp (disch := omega) only [e51_224, h2, (h3 p hp).2, nI_leI, nI_ltI, nI_eq, nI_clamp, lp_oobN, nI_add, pk_mul, pk_sub, pk_rem, pk_m1, lp_neg1lt, lp_neg1le, lp_neg1eq, lp_neg1eq2, if_true, if_false, if_pos, if_neg, Option.bind_some, Nat.lt_irrefl, Nat.le_refl, true_and, and_true, false_or, or_false, true_or, or_true, not_true_eq_false, not_false_eq_true, and_self, or_self, false_and, and_false, ite_true, ite_false, reduceIte]
theorem s50 {d t p : Nat} {T : Nat → Nat} {g : lp_M} (h : lp_CT g t T) (hp : p ≤ t) : lp_rn (d + 2) 50 [.ref 224, .int (nI p)] (lp_s0 g) = some (nI (lp_kn t T p), lp_s0 g) := by
  have h1 := h.1
  have h2 := h.2.1
  unfold lp_kn
  by_cases z : p < t
  · rw [if_pos z]
    obtain ⟨b1, b2, b3, b4, b5, -⟩ := lp_byc (T p) (h.2.2 p z).1
    simp (disch := omega) only [e50_224, h2, z, s51 h z, e50_224_18, b1, b2, b3, b4, b5, nI_leI, nI_ltI, nI_eq, nI_clamp, lp_oobN, nI_add, pk_mul, pk_sub, pk_rem, pk_m1, lp_neg1lt, lp_neg1le, lp_neg1eq, lp_neg1eq2, if_true, if_false, if_pos, if_neg, Option.bind_some, Nat.lt_irrefl, Nat.le_refl, true_and, and_true, false_or, or_false, true_or, or_true, not_true_eq_false, not_false_eq_true, and_self, or_self, false_and, and_false, ite_true, ite_false, reduceIte]
    unfold lp_kb
    ((repeat' split) <;> first | rfl | (exfalso; omega))
  · rw [if_neg z]
    simp (disch := omega) only [e50_224, h2, z, nI_leI, nI_ltI, nI_eq, nI_clamp, lp_oobN, nI_add, pk_mul, pk_sub, pk_rem, pk_m1, lp_neg1lt, lp_neg1le, lp_neg1eq, lp_neg1eq2, if_true, if_false, if_pos, if_neg, Option.bind_some, Nat.lt_irrefl, Nat.le_refl, true_and, and_true, false_or, or_false, true_or, or_true, not_true_eq_false, not_false_eq_true, and_self, or_self, false_and, and_false, ite_true, ite_false, reduceIte]
theorem s53 {d x : Nat} {g : lp_M} (hx : x < 256) : lp_rn (d + 1) 53 [.int (lp_by x)] (lp_s0 g) = some (if x = 32 ∨ x = 10 then nI 1 else nI 0, lp_s0 g) := by
  obtain ⟨-, -, -, -, -, b6, b7, -⟩ := lp_byc x hx
  rw [e53]
  simp only [b6, b7]
  ((repeat' split) <;> first | rfl | (exfalso; omega))
theorem s52 {d k : Nat} {g : lp_M} (hk : k ≤ 4) : lp_rn (d + 1) 52 [.int (nI k)] (lp_s0 g) = some (if k = 1 ∨ k = 2 then nI 1 else nI 0, lp_s0 g) := by
  rw [e52]
  simp (disch := omega) only [nI_leI, nI_ltI, nI_eq, nI_clamp, lp_oobN, nI_add, pk_mul, pk_sub, pk_rem, pk_m1, lp_neg1lt, lp_neg1le, lp_neg1eq, lp_neg1eq2]
  ((repeat' split) <;> first | rfl | (exfalso; omega))
theorem lp_CT_fr {g g' : lp_M} {t : Nat} {T : Nat → Nat} (h : ∀ q, q ≠ 224 → g' q = g q) (c : lp_CT g t T) : lp_CT g' t T := by
  unfold lp_CT at c ⊢
  rw [h _ (by omega), h _ (by omega)]; exact c
theorem s49 {d t k b e k' b' e' : Nat} {T : Nat → Nat} {g : lp_M} (hk : k ≤ 4) (h : lp_RC g t T k b e) (ha : lp_adv t T k e k' b' e') : ∃ g', lp_rn (d + 3) 49 [.ref 224] (lp_s0 g) = some (nI 0, lp_s0 g') ∧ lp_RC g' t T k' b' e' ∧ ∀ q, q ≠ 224 → g' q = g q := by
  obtain ⟨hT, h2, h3, h4⟩ := h
  obtain ⟨⟨p1, p2, p3, p4⟩, hc⟩ := ha
  have t5 := hT.1
  generalize ha2 : (if k = 1 ∨ k = 2 then nI 1 else nI 0) = a2
  -- the gap
  obtain ⟨g1, E1, f1, f2⟩ := lp_itE (fun i (s : lp_M) => lp_fn (d + 2) 49 13 [.ref 224, .int (nI e), .int a2] [] (lp_s0 s)) (fun i s => (∀ q, q ≠ 224 → s q = g q) ∧ s 224 4 = nI i) e b' g p1 ⟨fun _ _ => rfl, h4⟩ (fun i s i1 i2 ⟨q1, q2⟩ => by
    have cs := lp_CT_fr q1 hT
    have z := p3 i i1 i2
    have E53 := s53 (d := d + 1) (g := s) (hT.2.2 i (by omega)).1
    rw [if_pos z] at E53
    refine ⟨lp_w s 224 4 (nI (i + 1)), ?_, fun q hq => by rw [lp_w_ne hq]; exact q1 q hq, by rw [lp_w_eq, pk_us]⟩
    show lp_fn (d + 2) 49 13 _ _ _ = lp_fn (d + 2) 49 13 _ _ _
    rw [e49_224_13]
    simp (disch := omega) only [q2, cs.2.1, s51 (d := d + 1) cs (show i < t by omega), e49_224_35, E53, e49_224_38, nI_leI, nI_ltI, nI_eq, nI_clamp, lp_oobN, nI_add, pk_mul, pk_sub, pk_rem, pk_m1, lp_neg1lt, lp_neg1le, lp_neg1eq, lp_neg1eq2, if_true, if_false, if_pos, if_neg, Option.bind_some, Nat.lt_irrefl, Nat.le_refl, true_and, and_true, false_or, or_false, true_or, or_true, not_true_eq_false, not_false_eq_true, and_self, or_self, false_and, and_false, ite_true, ite_false, reduceIte])
  have c1 := lp_CT_fr f1 hT
  have E2 : lp_rn (d + 3) 49 [.ref 224] (lp_s0 g) = lp_fn (d + 2) 49 62 [.ref 224, .int (nI e), .int a2] [] (lp_s0 (lp_w g1 224 3 (nI b'))) := by
    rw [e49_224, h2, s52 hk, ha2, Option.bind_some, h4, e49_224_12]
    refine Eq.trans E1 ?_
    show lp_fn (d + 2) 49 13 _ _ _ = _
    rw [e49_224_13]
    by_cases z : b' < t
    · have E53 := s53 (d := d + 1) (g := g1) (hT.2.2 b' z).1
      rw [if_neg (by have := p4 z; omega)] at E53
      simp (disch := omega) only [f2, c1.2.1, s51 (d := d + 1) c1 z, e49_224_35, E53, e49_224_38, z, nI_leI, nI_ltI, nI_eq, nI_clamp, lp_oobN, nI_add, pk_mul, pk_sub, pk_rem, pk_m1, lp_neg1lt, lp_neg1le, lp_neg1eq, lp_neg1eq2, if_true, if_false, if_pos, if_neg, Option.bind_some, Nat.lt_irrefl, Nat.le_refl, true_and, and_true, false_or, or_false, true_or, or_true, not_true_eq_false, not_false_eq_true, and_self, or_self, false_and, and_false, ite_true, ite_false, reduceIte]
    · simp (disch := omega) only [f2, c1.2.1, nI_leI, nI_ltI, nI_eq, nI_clamp, lp_oobN, nI_add, pk_mul, pk_sub, pk_rem, pk_m1, lp_neg1lt, lp_neg1le, lp_neg1eq, lp_neg1eq2, if_true, if_false, if_pos, if_neg, Option.bind_some, Nat.lt_irrefl, Nat.le_refl, true_and, and_true, false_or, or_false, true_or, or_true, not_true_eq_false, not_false_eq_true, and_self, or_self, false_and, and_false, ite_true, ite_false, reduceIte]
  generalize hg2 : lp_w (lp_w g1 224 3 (nI b')) 224 2 (nI (lp_kn t T b')) = g2
  have fr2 : ∀ q, q ≠ 224 → g2 q = g q := fun q hq => by rw [← hg2, lp_w_ne hq, lp_w_ne hq, f1 q hq]
  have c2 := lp_CT_fr fr2 hT
  have v22 : g2 224 2 = nI (lp_kn t T b') := by rw [← hg2, lp_w_eq, pk_us]
  have v23 : g2 224 3 = nI b' := by rw [← hg2, lp_w_eq, pk_un (by omega), lp_w_eq, pk_us]
  have v24 : g2 224 4 = nI b' := by rw [← hg2, lp_w_eq, pk_un (by omega), lp_w_eq, pk_un (by omega)]; exact f2
  have E3 : lp_rn (d + 3) 49 [.ref 224] (lp_s0 g) = lp_fn (d + 2) 49 74 [.ref 224, .int (nI e), .int a2] [] (lp_s0 g2) := by
    have cc : lp_CT (lp_w g1 224 3 (nI b')) t T := lp_CT_fr (fun q hq => by rw [lp_w_ne hq, f1 q hq]) hT
    have vv : lp_w g1 224 3 (nI b') 224 3 = nI b' := by rw [lp_w_eq, pk_us]
    rw [E2, e49_224_62, vv, s50 cc p2, Option.bind_some, e49_224_71, hg2]
  -- the end: whether two stand side by side
  have FIN : ∀ (s : lp_M) (kk ee : Nat), kk ≤ 4 → kk ≠ 0 → lp_RC s t T kk b' ee → (∀ q, q ≠ 224 → s q = g q) → ∀ R, (R = (if a2 = nI 0 then some (nI 0, lp_s0 s) else (if s 224 3 = nI e then ((lp_rn (d + 2) 52 [.int (s 224 2)] (lp_s0 s)).bind fun x => lp_fn (d + 2) 49 157 [.ref 224, .int (nI e), .int a2] [.int x.1] x.2) else some (nI 0, lp_s0 s)))) → ∃ g', R = some (nI 0, lp_s0 g') ∧ lp_RC g' t T (if (k = 1 ∨ k = 2) ∧ b' = e ∧ (kk = 1 ∨ kk = 2) then 4 else kk) b' ee ∧ ∀ q, q ≠ 224 → g' q = g q := by
    intro s kk ee k1 k2 ⟨r1, r2, r3, r4⟩ fs R hR
    rw [hR, r3, r2, s52 (d := d + 1) k1]
    by_cases z1 : k = 1 ∨ k = 2
    · rw [if_pos z1] at ha2
      rw [← ha2, if_neg (by decide)]
      by_cases z2 : b' = e
      · rw [if_pos (by rw [z2]), Option.bind_some]
        by_cases z3 : kk = 1 ∨ kk = 2
        · rw [if_pos z3, e49_224_157, if_neg (show ¬ nI 1 = nI 0 by decide), if_pos ⟨z1, z2, z3⟩]
          refine ⟨_, rfl, ⟨lp_CT_fr (fun q hq => by rw [lp_w_ne hq]) r1, by rw [lp_w_eq, pk_us], by rw [lp_w_eq, pk_un (by omega)]; exact r3, by rw [lp_w_eq, pk_un (by omega)]; exact r4⟩, fun q hq => by rw [lp_w_ne hq]; exact fs q hq⟩
        · rw [if_neg z3, e49_224_157, if_pos rfl, if_neg (fun z => z3 z.2.2)]
          exact ⟨s, rfl, ⟨r1, r2, r3, r4⟩, fs⟩
      · have ne : ¬ nI b' = nI e := by rw [nI_eq (by omega) (by omega)]; exact z2
        rw [if_neg ne, if_neg (fun z => z2 z.2.1)]
        exact ⟨s, rfl, ⟨r1, r2, r3, r4⟩, fs⟩
    · rw [if_neg z1] at ha2
      rw [← ha2, if_pos rfl, if_neg (fun z => z1 z.1)]
      exact ⟨s, rfl, ⟨r1, r2, r3, r4⟩, fs⟩
  rcases hc with ⟨z1, z2, z3⟩ | ⟨z1, z2, z3⟩
  · have kn0 : lp_kn t T b' = 0 := if_neg (by omega)
    rw [kn0] at v22
    refine ⟨g2, ?_, ⟨c2, by rw [v22, z2], v23, by rw [v24, z3]⟩, fr2⟩
    rw [E3, e49_224_74, v22, if_pos rfl, e49_224_91, v22, if_neg (by decide), v23]
    by_cases y1 : a2 = nI 0
    · rw [if_pos y1]
    · rw [if_neg y1]
      by_cases y2 : nI b' = nI e
      · rw [if_pos y2, s52 (by omega), if_neg (by omega), Option.bind_some, e49_224_157, if_pos rfl]
      · rw [if_neg y2]
  · have kn1 : lp_kn t T b' = lp_kb (T b') := if_pos z1
    have kbb := lp_kb_b (T b')
    rw [kn1] at v22
    generalize hg3 : lp_w g2 224 4 (nI (b' + 1)) = g3
    have fr3 : ∀ q, q ≠ 224 → g3 q = g q := fun q hq => by rw [← hg3, lp_w_ne hq, fr2 q hq]
    have c3 := lp_CT_fr fr3 hT
    have v32 : g3 224 2 = nI (lp_kb (T b')) := by rw [← hg3, lp_w_eq, pk_un (by omega)]; exact v22
    have v33 : g3 224 3 = nI b' := by rw [← hg3, lp_w_eq, pk_un (by omega)]; exact v23
    have v34 : g3 224 4 = nI (b' + 1) := by rw [← hg3, lp_w_eq, pk_us]
    have E4 : lp_rn (d + 3) 49 [.ref 224] (lp_s0 g) = lp_fn (d + 2) 49 91 [.ref 224, .int (nI e), .int a2] [] (lp_s0 g3) := by
      rw [E3, e49_224_74, v22, if_neg (by rw [nI_eq (by omega) (by omega)]; omega), v24, nI_add, hg3]
    rw [z3, E4]
    by_cases w : lp_kb (T b') = 1
    · rw [if_pos w] at z2
      obtain ⟨q1, q2, q3, q4⟩ := z2
      obtain ⟨g4, E5, f4, f5, f6, f7⟩ := lp_itE (fun i (s : lp_M) => lp_fn (d + 2) 49 91 [.ref 224, .int (nI e), .int a2] [] (lp_s0 s)) (fun i s => (∀ q, q ≠ 224 → s q = g q) ∧ s 224 2 = nI 1 ∧ s 224 3 = nI b' ∧ s 224 4 = nI i) (b' + 1) e' g3 q1 ⟨fr3, by rw [v32, w], v33, v34⟩ (fun i s i1 i2 ⟨y1, y2, y3, y4⟩ => by
        have cs := lp_CT_fr y1 hT
        have E50 := s50 (d := d) (p := i) cs (by omega)
        have kni : lp_kn t T i = 1 := by unfold lp_kn; rw [if_pos (by omega)]; exact q3 i i1 i2
        rw [kni] at E50
        refine ⟨lp_w s 224 4 (nI (i + 1)), ?_, fun q hq => by rw [lp_w_ne hq]; exact y1 q hq, by rw [lp_w_eq, pk_un (by omega)]; exact y2, by rw [lp_w_eq, pk_un (by omega)]; exact y3, by rw [lp_w_eq, pk_us]⟩
        show lp_fn (d + 2) 49 91 _ _ _ = lp_fn (d + 2) 49 91 _ _ _
        rw [e49_224_91]
        simp (disch := omega) only [y2, y4, cs.2.1, E50, e49_224_121, nI_leI, nI_ltI, nI_eq, nI_clamp, lp_oobN, nI_add, pk_mul, pk_sub, pk_rem, pk_m1, lp_neg1lt, lp_neg1le, lp_neg1eq, lp_neg1eq2, if_true, if_false, if_pos, if_neg, Option.bind_some, Nat.lt_irrefl, Nat.le_refl, true_and, and_true, false_or, or_false, true_or, or_true, not_true_eq_false, not_false_eq_true, and_self, or_self, false_and, and_false, ite_true, ite_false, reduceIte])
      have c4 := lp_CT_fr f4 hT
      rw [w]
      refine FIN g4 1 e' (by omega) (by omega) ⟨c4, f5, f6, f7⟩ f4 _ ?_
      refine Eq.trans E5 ?_
      show lp_fn (d + 2) 49 91 _ _ _ = _
      rw [e49_224_91]
      by_cases y : e' < t
      · have E50 := s50 (d := d) (p := e') c4 q2
        have kni : lp_kn t T e' = lp_kb (T e') := if_pos y
        have := q4 y
        have kbe := lp_kb_b (T e')
        rw [kni] at E50
        simp (disch := omega) only [f5, f7, c4.2.1, E50, e49_224_121, y, nI_leI, nI_eq, if_true, if_false, if_pos, if_neg, Option.bind_some, Nat.lt_irrefl, Nat.le_refl, true_and, and_true, false_or, or_false, true_or, or_true, not_true_eq_false, not_false_eq_true, and_self, or_self, false_and, and_false, ite_true, ite_false, reduceIte]
      · simp (disch := omega) only [f5, f7, c4.2.1, nI_leI, nI_eq, if_true, if_false, if_pos, if_neg, Option.bind_some, Nat.lt_irrefl, Nat.le_refl, true_and, and_true, false_or, or_false, true_or, or_true, not_true_eq_false, not_false_eq_true, and_self, or_self, false_and, and_false, ite_true, ite_false, reduceIte]
    · rw [if_neg w] at z2
      rw [z2]
      refine FIN g3 (lp_kb (T b')) (b' + 1) (by omega) (by omega) ⟨c3, v32, v33, v34⟩ fr3 _ ?_
      rw [e49_224_91, if_neg (by rw [v32, nI_eq (by omega) (by omega)]; exact w)]
