/-! ===== what can be gone to: pure, sets as bits ===== -/
noncomputable def lp_db (p : Prop) : Bool := by
  classical
  exact decide p
theorem lp_db_iff {p : Prop} : lp_db p = true ↔ p := by
  unfold lp_db
  exact @decide_eq_true_iff p (Classical.propDecidable p)
theorem lp_db_cg {p q : Prop} (h : p ↔ q) : lp_db p = lp_db q := by rw [propext h]
def lp_RB (r : Nat → Int32) (i : Nat) : Nat → Nat → Prop
  | 0, j => j = i
  | k + 1, j => lp_RB r i k j ∨ ∃ a, a < lp_vN r ∧ lp_RB r i k a ∧ lp_wrd r a j = true
theorem lp_RB_mono {r : Nat → Int32} {i k m j : Nat} (h : k ≤ m) (hk : lp_RB r i k j) : lp_RB r i m j := by
  obtain ⟨d, rfl⟩ := Nat.exists_eq_add_of_le h
  induction d with
  | zero => exact hk
  | succ d ih => exact .inl (ih (by omega))
theorem lp_RB_tr {r : Nat → Int32} {i a k m j : Nat} (h : lp_RB r i k a) (h' : lp_RB r a m j) : lp_RB r i (k + m) j := by
  induction m generalizing j with
  | zero =>
    have : j = a := h'
    rw [this]; exact h
  | succ m ih =>
    rcases h' with z | ⟨b, b1, b2, b3⟩
    · exact .inl (ih z)
    · exact .inr ⟨b, b1, ih b2, b3⟩
theorem lp_RB_sym {r : Nat → Int32} (hr : lp_Ok r) {i k j : Nat} (hi : i < lp_vN r) (hj : j < lp_vN r) (h : lp_RB r i k j) : lp_RB r j k i := by
  induction k generalizing j with
  | zero => exact Eq.symm h
  | succ k ih =>
    rcases h with z | ⟨a, a1, a2, a3⟩
    · exact .inl (ih hj z)
    · have h1 := ih a1 a2
      have h2 : lp_RB r j 1 a := .inr ⟨j, hj, rfl, by rw [lp_wrd_sym hr hj a1]; exact a3⟩
      have := lp_RB_tr h2 h1
      rw [Nat.add_comm] at this
      exact this
theorem lp_cnt_mono {p q : Nat → Prop} [DecidablePred p] [DecidablePred q] {n : Nat} (h : ∀ i, i < n → p i → q i) : lp_cnt p n ≤ lp_cnt q n := by
  refine lp_sm_mono fun i hi => ?_
  show (if p i then 1 else 0) ≤ if q i then 1 else 0
  by_cases e : p i
  · rw [if_pos e, if_pos (h i hi e)]; omega
  · rw [if_neg e]; omega
theorem lp_cnt_strict {p q : Nat → Prop} [DecidablePred p] [DecidablePred q] {n b : Nat} (h : ∀ i, i < n → p i → q i) (hb : b < n) (hq : q b) (hp : ¬ p b) : lp_cnt p n + 1 ≤ lp_cnt q n := by
  induction n with
  | zero => omega
  | succ n ih =>
    rw [lp_cnt_s, lp_cnt_s]
    by_cases e : b = n
    · subst e
      rw [if_neg hp, if_pos hq]
      have := lp_cnt_mono (p := p) (q := q) (n := b) fun i hi => h i (by omega)
      omega
    · have h1 := ih (fun i hi => h i (by omega)) (by omega)
      by_cases e2 : p n
      · rw [if_pos e2, if_pos (h n (by omega) e2)]; omega
      · rw [if_neg e2]
        split <;> omega
/-- all that can be gone to is gone to within as many wires as there are other lamps -/
theorem lp_RB_all {r : Nat → Int32} {i k j : Nat} (hi : i < lp_vN r) (hj : j < lp_vN r) (h : lp_RB r i k j) : lp_RB r i (lp_vN r - 1) j := by
  have stab : ∀ m, (∀ b, b < lp_vN r → lp_RB r i (m + 1) b → lp_RB r i m b) → ∀ k b, b < lp_vN r → lp_RB r i k b → lp_RB r i m b := by
    intro m hm k
    induction k with
    | zero => exact fun b hb hk => lp_RB_mono (Nat.zero_le m) hk
    | succ k ih =>
      intro b hb hk
      rcases hk with z | ⟨a, a1, a2, a3⟩
      · exact ih b hb z
      · exact hm b hb (.inr ⟨a, a1, ih a a1 a2, a3⟩)
  have cl : ∀ k, (∃ m, m < k ∧ ∀ b, b < lp_vN r → lp_RB r i (m + 1) b → lp_RB r i m b) ∨ k + 1 ≤ lp_cnt (fun b => lp_db (lp_RB r i k b) = true) (lp_vN r) := by
    intro k
    induction k with
    | zero =>
      right
      have := lp_cnt_strict (p := fun _ => False) (q := fun b => lp_db (lp_RB r i 0 b) = true) (n := lp_vN r) (b := i) (fun _ _ z => z.elim) hi (lp_db_iff.mpr rfl) id
      omega
    | succ k ih =>
      rcases ih with ⟨m, m1, m2⟩ | ih
      · exact .inl ⟨m, by omega, m2⟩
      · by_cases hs : ∀ b, b < lp_vN r → lp_RB r i (k + 1) b → lp_RB r i k b
        · exact .inl ⟨k, by omega, hs⟩
        · right
          have : ∃ b, b < lp_vN r ∧ lp_RB r i (k + 1) b ∧ ¬ lp_RB r i k b := Classical.byContradiction fun z => hs fun b hb h => Classical.byContradiction fun y => z ⟨b, hb, h, y⟩
          obtain ⟨b, b1, b2, b3⟩ := this
          have := lp_cnt_strict (p := fun b => lp_db (lp_RB r i k b) = true) (q := fun b => lp_db (lp_RB r i (k + 1) b) = true) (n := lp_vN r) (b := b) (fun x _ hx => lp_db_iff.mpr (.inl (lp_db_iff.mp hx))) b1 (lp_db_iff.mpr b2) (fun z => b3 (lp_db_iff.mp z))
          omega
  rcases cl (lp_vN r) with ⟨m, m1, m2⟩ | hc
  · exact lp_RB_mono (by omega) (stab m m2 k j hj h)
  · have : lp_cnt (fun b => lp_db (lp_RB r i (lp_vN r) b) = true) (lp_vN r) ≤ lp_vN r := lp_cnt_le _ _
    omega
/-! sets as bits -/
theorem lp_bn_cg {p q : Nat → Bool} {n : Nat} (h : ∀ k, k < n → p k = q k) : lp_bn p n = lp_bn q n := lp_sm_congr fun k hk => by rw [h k hk]
theorem lp_nIor {s t : Nat} (hs : s < 2 ^ 31) (ht : t < 2 ^ 31) : nI s ||| nI t = nI (s ||| t) := by
  apply Int32.toBitVec_inj.mp
  rw [Int32.toBitVec_or]
  apply BitVec.eq_of_toNat_eq
  have h := Nat.or_lt_two_pow hs ht
  rw [BitVec.toNat_or, pk_tn (by omega), pk_tn (by omega), pk_tn (by omega)]
theorem lp_bn_tb (p : Nat → Bool) (n k : Nat) : (lp_bn p n).testBit k = (decide (k < n) && p k) := by
  rw [Nat.testBit_eq_decide_div_mod_eq, lp_bn_bit]
  by_cases h : k < n ∧ p k = true
  · rw [if_pos h, decide_eq_true h.1, h.2]; rfl
  · rw [if_neg h]
    by_cases h1 : k < n
    · have : p k = false := by
        cases e : p k with
        | false => rfl
        | true => exact absurd ⟨h1, e⟩ h
      rw [this, Bool.and_false]; rfl
    · rw [decide_eq_false h1]; rfl
theorem lp_bn_lor (p q : Nat → Bool) (n : Nat) : lp_bn p n ||| lp_bn q n = lp_bn (fun k => p k || q k) n := by
  apply Nat.eq_of_testBit_eq
  intro k
  rw [Nat.testBit_or, lp_bn_tb, lp_bn_tb, lp_bn_tb]
  cases decide (k < n) <;> simp
theorem lp_bn_orN {p q : Nat → Bool} {n : Nat} (hn : n ≤ 10) : nI (lp_bn p n) ||| nI (lp_bn q n) = nI (lp_bn (fun k => p k || q k) n) := by
  have h1 := lp_bn_lt p n
  have h2 := lp_bn_lt q n
  have h3 := lp_2p10 hn
  rw [lp_nIor (by omega) (by omega), lp_bn_lor]
theorem lp_bn_has {p : Nat → Bool} {n k : Nat} (hn : n ≤ 10) (hk : k < n) : (nI (lp_bn p n) >>> (nI k &&& nI 31)) &&& nI 1 = nI (if p k = true then 1 else 0) := by
  have h1 := lp_bn_lt p n
  have h3 := lp_2p10 hn
  rw [lp_bitN (by omega) (by omega), lp_bn_bit]
  by_cases h : p k = true
  · rw [if_pos ⟨hk, h⟩, if_pos h]
  · rw [if_neg (fun z => h z.2), if_neg h]
theorem lp_shl1 : ∀ l, l < 10 → nI 1 <<< (nI l &&& nI 31) = nI (2 ^ l) := by decide
theorem lp_bn_one {n l : Nat} (hn : n ≤ 10) (hl : l < n) : nI 1 <<< (nI l &&& nI 31) = nI (lp_bn (fun j => lp_db (j = l)) n) := by
  rw [lp_shl1 l (by omega)]
  congr 1
  unfold lp_bn
  rw [lp_sm_one (k := l) hl]
  · rw [if_pos (lp_db_iff.mpr rfl)]
  · intro i hi hne
    exact if_neg fun z => hne (lp_db_iff.mp z)
/-- the class spreads a set -/
theorem s35 {d : Nat} {p : Nat → Bool} {g : lp_M} {r : Nat → Int32} (hr : lp_Ok r) (c : lp_CN g 1 r) : lp_rn (d + 2) 35 [.ref 1, .int (nI (lp_bn p (lp_vN r)))] (lp_s0 g) = some (nI (lp_bn (fun j => lp_db (p j = true ∨ ∃ a, a < lp_vN r ∧ p a = true ∧ lp_wrd r a j = true)) (lp_vN r)), lp_s0 g) := by
  have hn : lp_vN r ≤ 10 := hr.2.2.2.1
  have g11 : g 1 1 = nI (lp_vN r) := c.2.1.trans hr.2.2.1
  have it := lp_iter (fun k => lp_fn (d + 1) 35 4 [.ref 1, .int (nI (lp_bn p (lp_vN r))), .int (nI (lp_bn (fun j => lp_db (p j = true ∨ ∃ a, a < k ∧ p a = true ∧ lp_wrd r a j = true)) (lp_vN r))), .int (nI k)] [] (lp_s0 g)) (lp_vN r) (fun k hk => by
    show lp_fn (d + 1) 35 4 _ _ _ = lp_fn (d + 1) 35 4 _ _ _
    have hh := lp_bn_has (p := p) (n := lp_vN r) (k := k) hn hk
    rw [e35_1_4]
    by_cases e : p k = true
    · have e2 : lp_bn (fun j => lp_db (p j = true ∨ ∃ a, a < k + 1 ∧ p a = true ∧ lp_wrd r a j = true)) (lp_vN r) = lp_bn (fun j => lp_db (p j = true ∨ ∃ a, a < k ∧ p a = true ∧ lp_wrd r a j = true) || lp_wrd r k j) (lp_vN r) := lp_bn_cg fun j hj => by
        apply Bool.eq_iff_iff.mpr
        rw [Bool.or_eq_true, lp_db_iff, lp_db_iff]
        constructor
        · rintro (z | ⟨a, a1, a2, a3⟩)
          · exact .inl (.inl z)
          · by_cases ea : a = k
            · exact .inr (ea ▸ a3)
            · exact .inl (.inr ⟨a, by omega, a2, a3⟩)
        · rintro ((z | ⟨a, a1, a2, a3⟩) | z)
          · exact .inl z
          · exact .inr ⟨a, by omega, a2, a3⟩
          · exact .inr ⟨k, by omega, e, z⟩
      rw [e2, ← lp_bn_orN hn]
      rw [if_pos e] at hh
      simp (disch := omega) only [g11, hh, s34 hr c hk, e35_1_27, nI_leI, nI_ltI, nI_eq, nI_clamp, lp_oobN, nI_add, pk_mul, pk_sub, pk_rem, pk_m1, lp_neg1lt, lp_neg1le, lp_neg1eq, lp_neg1eq2, if_true, if_false, if_pos, if_neg, Option.bind_some, Nat.lt_irrefl, Nat.le_refl, true_and, and_true, false_or, or_false, true_or, or_true, not_true_eq_false, not_false_eq_true, and_self, or_self, false_and, and_false, ite_true, ite_false, reduceIte]
    · have e2 : lp_bn (fun j => lp_db (p j = true ∨ ∃ a, a < k + 1 ∧ p a = true ∧ lp_wrd r a j = true)) (lp_vN r) = lp_bn (fun j => lp_db (p j = true ∨ ∃ a, a < k ∧ p a = true ∧ lp_wrd r a j = true)) (lp_vN r) := lp_bn_cg fun j hj => lp_db_cg (by
        constructor
        · rintro (z | ⟨a, a1, a2, a3⟩)
          · exact .inl z
          · exact .inr ⟨a, by have : a ≠ k := fun z => e (z ▸ a2); omega, a2, a3⟩
        · rintro (z | ⟨a, a1, a2, a3⟩)
          · exact .inl z
          · exact .inr ⟨a, by omega, a2, a3⟩)
      rw [e2]
      rw [if_neg e] at hh
      simp (disch := omega) only [g11, hh, nI_leI, nI_ltI, nI_eq, nI_clamp, lp_oobN, nI_add, pk_mul, pk_sub, pk_rem, pk_m1, lp_neg1lt, lp_neg1le, lp_neg1eq, lp_neg1eq2, if_true, if_false, if_pos, if_neg, Option.bind_some, Nat.lt_irrefl, Nat.le_refl, true_and, and_true, false_or, or_false, true_or, or_true, not_true_eq_false, not_false_eq_true, and_self, or_self, false_and, and_false, ite_true, ite_false, reduceIte])
  have e0 : lp_bn (fun j => lp_db (p j = true ∨ ∃ a, a < 0 ∧ p a = true ∧ lp_wrd r a j = true)) (lp_vN r) = lp_bn p (lp_vN r) := lp_bn_cg fun j hj => by
    apply Bool.eq_iff_iff.mpr
    rw [lp_db_iff]
    exact ⟨fun z => z.resolve_right fun ⟨a, a1, _⟩ => by omega, fun z => .inl z⟩
  rw [e35_1]
  rw [e0] at it
  refine Eq.trans it ?_
  rw [e35_1_4]
  simp (disch := omega) only [g11, nI_leI, nI_ltI, nI_eq, nI_clamp, lp_oobN, nI_add, pk_mul, pk_sub, pk_rem, pk_m1, lp_neg1lt, lp_neg1le, lp_neg1eq, lp_neg1eq2, if_true, if_false, if_pos, if_neg, Option.bind_some, Nat.lt_irrefl, Nat.le_refl, true_and, and_true, false_or, or_false, true_or, or_true, not_true_eq_false, not_false_eq_true, and_self, or_self, false_and, and_false, ite_true, ite_false, reduceIte]
theorem lp_spr_RB (r : Nat → Int32) (i k : Nat) : lp_bn (fun j => lp_db ((fun j => lp_db (lp_RB r i k j)) j = true ∨ ∃ a, a < lp_vN r ∧ (fun j => lp_db (lp_RB r i k j)) a = true ∧ lp_wrd r a j = true)) (lp_vN r) = lp_bn (fun j => lp_db (lp_RB r i (k + 1) j)) (lp_vN r) := lp_bn_cg fun j hj => lp_db_cg (by
  constructor
  · rintro (z | ⟨a, a1, a2, a3⟩)
    · exact .inl (lp_db_iff.mp z)
    · exact .inr ⟨a, a1, lp_db_iff.mp a2, a3⟩
  · rintro (z | ⟨a, a1, a2, a3⟩)
    · exact .inl (lp_db_iff.mpr z)
    · exact .inr ⟨a, a1, lp_db_iff.mpr a2, a3⟩)
theorem s35r {d i k : Nat} {g : lp_M} {r : Nat → Int32} (hr : lp_Ok r) (c : lp_CN g 1 r) : lp_rn (d + 2) 35 [.ref 1, .int (nI (lp_bn (fun j => lp_db (lp_RB r i k j)) (lp_vN r)))] (lp_s0 g) = some (nI (lp_bn (fun j => lp_db (lp_RB r i (k + 1) j)) (lp_vN r)), lp_s0 g) := by
  rw [s35 hr c, lp_spr_RB]
/-! the model's way -/
theorem s232 {d l : Nat} {g : lp_M} {r : Nat → Int32} (hr : lp_Ok r) (c : g 344 = r) (hl : l < lp_vN r) : ∃ g', ∃ F : Nat → Nat, lp_rn (d + 3) 232 [.ref 343, .int (nI l)] (lp_s0 g) = some (nI 0, lp_s0 g') ∧ (∀ q, q ≠ 361 → g' q = g q) ∧ (∀ b, b < lp_vN r → g' 361 b = nI (F b) ∧ F b ≤ 99 ∧ (F b < 99 → lp_RB r l (F b) b)) ∧ ∀ b k, b < lp_vN r → k ≤ lp_vN r → lp_RB r l k b → F b ≤ k := by
  have hn : lp_vN r ≤ 10 := hr.2.2.2.1
  have m1 := lp_m1' hr c
  -- the beginning
  obtain ⟨g1, e1, p1, p2⟩ := lp_itE (fun i (s : lp_M) => lp_fn (d + 2) 232 2 [.ref 343, .int (nI l), .int (nI i), .long 0, .long 0] [] (lp_s0 s))
    (fun i s => (∀ q, q ≠ 361 → s q = g q) ∧ ∀ b, b < i → s 361 b = nI (if b = l then 0 else 99))
    0 (lp_vN r) g (by omega) ⟨fun _ _ => rfl, fun b hb => by omega⟩
    (fun i s _ hi ⟨q1, q2⟩ => by
      have z1 : s 344 1 = nI (lp_vN r) := by rw [q1 _ (by omega)]; exact m1
      refine ⟨lp_w s 361 i (nI (if i = l then 0 else 99)), ?_, fun q hq => ?_, fun k hk => ?_⟩
      · show lp_fn (d + 2) 232 2 _ _ _ = lp_fn (d + 2) 232 2 _ _ _
        rw [e232_343_2]
        by_cases e : i = l
        · simp (disch := omega) only [e169_343, e232_343_7, z1, e, nI_leI, nI_ltI, nI_eq, nI_clamp, lp_oobN, nI_add, pk_mul, pk_sub, pk_rem, pk_m1, lp_neg1lt, lp_neg1le, lp_neg1eq, lp_neg1eq2, if_true, if_false, if_pos, if_neg, Option.bind_some, Nat.lt_irrefl, Nat.le_refl, true_and, and_true, false_or, or_false, true_or, or_true, not_true_eq_false, not_false_eq_true, and_self, or_self, false_and, and_false, ite_true, ite_false, reduceIte]
        · simp (disch := omega) only [e169_343, e232_343_7, z1, e, nI_leI, nI_ltI, nI_eq, nI_clamp, lp_oobN, nI_add, pk_mul, pk_sub, pk_rem, pk_m1, lp_neg1lt, lp_neg1le, lp_neg1eq, lp_neg1eq2, if_true, if_false, if_pos, if_neg, Option.bind_some, Nat.lt_irrefl, Nat.le_refl, true_and, and_true, false_or, or_false, true_or, or_true, not_true_eq_false, not_false_eq_true, and_self, or_self, false_and, and_false, ite_true, ite_false, reduceIte]
      · rw [lp_w_ne hq]; exact q1 q hq
      · rw [lp_w_eq]
        by_cases e : k = i
        · rw [e, pk_us]
        · rw [pk_un e]; exact q2 k (by omega))
  have z1 : g1 344 1 = nI (lp_vN r) := by rw [p1 _ (by omega)]; exact m1
  -- one pair
  have pair : ∀ (a b t : Nat) (s : lp_M) (F : Nat → Nat), a < lp_vN r → b < lp_vN r → (∀ q, q ≠ 361 → s q = g q) → (∀ b, b < lp_vN r → s 361 b = nI (F b) ∧ F b ≤ 99 ∧ (F b < 99 → lp_RB r l (F b) b)) → ∃ s', ∃ F' : Nat → Nat, lp_fn (d + 2) 232 56 [.ref 343, .int (nI l), .int (nI t), .int (nI a), .int (nI b)] [] (lp_s0 s) = lp_fn (d + 2) 232 56 [.ref 343, .int (nI l), .int (nI t), .int (nI a), .int (nI (b + 1))] [] (lp_s0 s') ∧ (∀ q, q ≠ 361 → s' q = g q) ∧ (∀ b, b < lp_vN r → s' 361 b = nI (F' b) ∧ F' b ≤ 99 ∧ (F' b < 99 → lp_RB r l (F' b) b)) ∧ (∀ x, F' x ≤ F x) ∧ (lp_wrd r a b = true → F' b ≤ F a + 1) := by
    intro a b t s F ha hb q1 q2
    have cs : s 344 = r := by rw [q1 _ (by omega)]; exact c
    have y1 := lp_m1' hr cs
    obtain ⟨w1, w2, w3⟩ := lp_wv_r hr ha hb
    have hm := (lp_prBd (lp_prM hr)).2
    have w1' : s 344 (34 + 10 * a + b) = nI (lp_wv r a b) := by rw [cs]; exact w1
    obtain ⟨f1, f2, f3⟩ := q2 a ha
    obtain ⟨h1, h2, h3⟩ := q2 b hb
    by_cases e : lp_wrd r a b = true
    · have e' : ¬ lp_wv r a b ≤ 0 := by have := lp_wrd_iff.mp e; omega
      by_cases e2 : F b ≤ F a + 1
      · refine ⟨s, F, ?_, q1, q2, fun _ => Nat.le_refl _, fun _ => e2⟩
        rw [e232_343_56]
        simp (disch := omega) only [e169_343, e232_343_62, y1, s172, e232_343_75, w1', e', f1, h1, e2, nI_leI, nI_ltI, nI_eq, nI_clamp, lp_oobN, nI_add, pk_mul, pk_sub, pk_rem, pk_m1, lp_neg1lt, lp_neg1le, lp_neg1eq, lp_neg1eq2, if_true, if_false, if_pos, if_neg, Option.bind_some, Nat.lt_irrefl, Nat.le_refl, true_and, and_true, false_or, or_false, true_or, or_true, not_true_eq_false, not_false_eq_true, and_self, or_self, false_and, and_false, ite_true, ite_false, reduceIte]
      · refine ⟨lp_w s 361 b (nI (F a + 1)), fun x => if x = b then F a + 1 else F x, ?_, fun q hq => by rw [lp_w_ne hq]; exact q1 q hq, fun x hx => ?_, fun x => ?_, fun _ => by show (if b = b then F a + 1 else F b) ≤ _; rw [if_pos rfl]; omega⟩
        · rw [e232_343_56]
          simp (disch := omega) only [e169_343, e232_343_62, y1, s172, e232_343_75, w1', e', f1, h1, e2, nI_leI, nI_ltI, nI_eq, nI_clamp, lp_oobN, nI_add, pk_mul, pk_sub, pk_rem, pk_m1, lp_neg1lt, lp_neg1le, lp_neg1eq, lp_neg1eq2, if_true, if_false, if_pos, if_neg, Option.bind_some, Nat.lt_irrefl, Nat.le_refl, true_and, and_true, false_or, or_false, true_or, or_true, not_true_eq_false, not_false_eq_true, and_self, or_self, false_and, and_false, ite_true, ite_false, reduceIte]
        · show lp_w s 361 b (nI (F a + 1)) 361 x = nI (if x = b then F a + 1 else F x) ∧ (if x = b then F a + 1 else F x) ≤ 99 ∧ ((if x = b then F a + 1 else F x) < 99 → lp_RB r l (if x = b then F a + 1 else F x) x)
          rw [lp_w_eq]
          by_cases ex : x = b
          · rw [ex, pk_us, if_pos rfl]
            exact ⟨rfl, by omega, fun _ => .inr ⟨a, ha, f3 (by omega), e⟩⟩
          · rw [pk_un ex, if_neg ex]; exact q2 x hx
        · show (if x = b then F a + 1 else F x) ≤ F x
          by_cases ex : x = b
          · rw [if_pos ex, ex]; omega
          · rw [if_neg ex]; exact Nat.le_refl _
    · have e' : lp_wv r a b ≤ 0 := by
        have : ¬ lp_wv r a b ≠ 0 := fun z => e (lp_wrd_iff.mpr z)
        omega
      refine ⟨s, F, ?_, q1, q2, fun _ => Nat.le_refl _, fun z => absurd z e⟩
      rw [e232_343_56]
      simp (disch := omega) only [e169_343, e232_343_62, y1, s172, e232_343_75, w1', e', nI_leI, nI_ltI, nI_eq, nI_clamp, lp_oobN, nI_add, pk_mul, pk_sub, pk_rem, pk_m1, lp_neg1lt, lp_neg1le, lp_neg1eq, lp_neg1eq2, if_true, if_false, if_pos, if_neg, Option.bind_some, Nat.lt_irrefl, Nat.le_refl, true_and, and_true, false_or, or_false, true_or, or_true, not_true_eq_false, not_false_eq_true, and_self, or_self, false_and, and_false, ite_true, ite_false, reduceIte]
  -- a row of pairs
  have rowp : ∀ (a t : Nat) (s : lp_M) (F : Nat → Nat) (x4 : Value), a < lp_vN r → (∀ q, q ≠ 361 → s q = g q) → (∀ b, b < lp_vN r → s 361 b = nI (F b) ∧ F b ≤ 99 ∧ (F b < 99 → lp_RB r l (F b) b)) → ∃ s', ∃ F' : Nat → Nat, lp_fn (d + 2) 232 45 [.ref 343, .int (nI l), .int (nI t), .int (nI a), x4] [] (lp_s0 s) = lp_fn (d + 2) 232 45 [.ref 343, .int (nI l), .int (nI t), .int (nI (a + 1)), .int (nI (lp_vN r))] [] (lp_s0 s') ∧ (∀ q, q ≠ 361 → s' q = g q) ∧ (∀ b, b < lp_vN r → s' 361 b = nI (F' b) ∧ F' b ≤ 99 ∧ (F' b < 99 → lp_RB r l (F' b) b)) ∧ (∀ x, F' x ≤ F x) ∧ ∀ b, b < lp_vN r → lp_wrd r a b = true → F' b ≤ F a + 1 := by
    intro a t s F x4 ha q1 q2
    have y1 : s 344 1 = nI (lp_vN r) := by rw [q1 _ (by omega)]; exact m1
    obtain ⟨⟨s2, F2⟩, e2, d1, d2, d3, d4⟩ := lp_itE (fun b (s : lp_M × (Nat → Nat)) => lp_fn (d + 2) 232 56 [.ref 343, .int (nI l), .int (nI t), .int (nI a), .int (nI b)] [] (lp_s0 s.1))
      (fun b s => (∀ q, q ≠ 361 → s.1 q = g q) ∧ (∀ b, b < lp_vN r → s.1 361 b = nI (s.2 b) ∧ s.2 b ≤ 99 ∧ (s.2 b < 99 → lp_RB r l (s.2 b) b)) ∧ (∀ x, s.2 x ≤ F x) ∧ ∀ x, x < b → lp_wrd r a x = true → s.2 x ≤ F a + 1)
      0 (lp_vN r) (s, F) (by omega) ⟨q1, q2, fun _ => Nat.le_refl _, fun x hx => by omega⟩
      (fun b s _ hb ⟨v1, v2, v3, v4⟩ => by
        obtain ⟨s, F1⟩ := s
        obtain ⟨s', F', E, u1, u2, u3, u4⟩ := pair a b t s F1 ha hb v1 v2
        refine ⟨(s', F'), E, u1, u2, fun x => Nat.le_trans (u3 x) (v3 x), fun x hx hw => ?_⟩
        by_cases e : x = b
        · have h1 := u4 (e ▸ hw)
          have h2 := v3 a
          rw [e]
          exact Nat.le_trans h1 (Nat.add_le_add_right h2 1)
        · exact Nat.le_trans (u3 x) (v4 x (by omega) hw))
    have d1 : ∀ q, q ≠ 361 → s2 q = g q := d1
    refine ⟨s2, F2, ?_, d1, d2, d3, d4⟩
    have y2 : s2 344 1 = nI (lp_vN r) := by rw [d1 _ (by omega)]; exact m1
    rw [e232_343_45]
    simp (disch := omega) only [e169_343, e232_343_50, y1, nI_leI, nI_ltI, nI_eq, nI_clamp, lp_oobN, nI_add, pk_mul, pk_sub, pk_rem, pk_m1, lp_neg1lt, lp_neg1le, lp_neg1eq, lp_neg1eq2, if_true, if_false, if_pos, if_neg, Option.bind_some, Nat.lt_irrefl, Nat.le_refl, true_and, and_true, false_or, or_false, true_or, or_true, not_true_eq_false, not_false_eq_true, and_self, or_self, false_and, and_false, ite_true, ite_false, reduceIte]
    refine Eq.trans e2 ?_
    show lp_fn (d + 2) 232 56 _ _ _ = _
    rw [e232_343_56]
    simp (disch := omega) only [e169_343, e232_343_62, y2, nI_leI, nI_ltI, nI_eq, nI_clamp, lp_oobN, nI_add, pk_mul, pk_sub, pk_rem, pk_m1, lp_neg1lt, lp_neg1le, lp_neg1eq, lp_neg1eq2, if_true, if_false, if_pos, if_neg, Option.bind_some, Nat.lt_irrefl, Nat.le_refl, true_and, and_true, false_or, or_false, true_or, or_true, not_true_eq_false, not_false_eq_true, and_self, or_self, false_and, and_false, ite_true, ite_false, reduceIte]
  -- rounds
  obtain ⟨⟨g2, F2, w3, w4⟩, e2, d1, d2, d3⟩ := lp_itE (fun t (s : lp_M × (Nat → Nat) × Value × Value) => lp_fn (d + 2) 232 35 [.ref 343, .int (nI l), .int (nI t), s.2.2.1, s.2.2.2] [] (lp_s0 s.1))
    (fun t s => (∀ q, q ≠ 361 → s.1 q = g q) ∧ (∀ b, b < lp_vN r → s.1 361 b = nI (s.2.1 b) ∧ s.2.1 b ≤ 99 ∧ (s.2.1 b < 99 → lp_RB r l (s.2.1 b) b)) ∧ ∀ b k, b < lp_vN r → k ≤ t → lp_RB r l k b → s.2.1 b ≤ k)
    0 (lp_vN r) (g1, (fun b => if b = l then 0 else 99), .long 0, .long 0) (by omega) ⟨p1, fun b hb => ⟨p2 b hb, by show (if b = l then 0 else 99) ≤ 99; split <;> omega, fun h => by
        have h : (if b = l then 0 else 99) < 99 := h
        by_cases e : b = l
        · show lp_RB r l (if b = l then 0 else 99) b
          rw [if_pos e]; exact e
        · rw [if_neg e] at h; omega⟩, fun b k hb hk h => by
        have : k = 0 := by omega
        subst this
        have h : b = l := h
        show (if b = l then 0 else 99) ≤ 0
        rw [if_pos h]; omega⟩
    (fun t s _ ht ⟨v1, v2, v3⟩ => by
      obtain ⟨s, F, x3, x4⟩ := s
      have v1 : ∀ q, q ≠ 361 → s q = g q := v1
      have v3 : ∀ b k, b < lp_vN r → k ≤ t → lp_RB r l k b → F b ≤ k := v3
      have y1 : s 344 1 = nI (lp_vN r) := by rw [v1 _ (by omega)]; exact m1
      obtain ⟨⟨s2, F2, y4⟩, e2, d1, d2, d3, d4⟩ := lp_itE (fun a (s : lp_M × (Nat → Nat) × Value) => lp_fn (d + 2) 232 45 [.ref 343, .int (nI l), .int (nI t), .int (nI a), s.2.2] [] (lp_s0 s.1))
        (fun a s => (∀ q, q ≠ 361 → s.1 q = g q) ∧ (∀ b, b < lp_vN r → s.1 361 b = nI (s.2.1 b) ∧ s.2.1 b ≤ 99 ∧ (s.2.1 b < 99 → lp_RB r l (s.2.1 b) b)) ∧ (∀ x, s.2.1 x ≤ F x) ∧ ∀ x b, x < a → b < lp_vN r → lp_RB r l t x → lp_wrd r x b = true → s.2.1 b ≤ t + 1)
        0 (lp_vN r) (s, F, x4) (by omega) ⟨v1, v2, fun _ => Nat.le_refl _, fun x b hx => by omega⟩
        (fun a s _ ha ⟨q1, q2, q3, q4⟩ => by
          obtain ⟨s, F1, x4⟩ := s
          obtain ⟨s', F', E, u1, u2, u3, u4⟩ := rowp a t s F1 x4 ha q1 q2
          refine ⟨(s', F', .int (nI (lp_vN r))), E, u1, u2, fun x => Nat.le_trans (u3 x) (q3 x), fun x b hx hb hR hw => ?_⟩
          by_cases e : x = a
          · have h1 := u4 b hb (e ▸ hw)
            have h2 := Nat.le_trans (q3 a) (v3 a t ha (Nat.le_refl t) (e ▸ hR))
            exact Nat.le_trans h1 (Nat.add_le_add_right h2 1)
          · exact Nat.le_trans (u3 b) (q4 x b (by omega) hb hR hw))
      have d1 : ∀ q, q ≠ 361 → s2 q = g q := d1
      have d3 : ∀ x, F2 x ≤ F x := d3
      have d4 : ∀ x b, x < lp_vN r → b < lp_vN r → lp_RB r l t x → lp_wrd r x b = true → F2 b ≤ t + 1 := d4
      refine ⟨(s2, F2, .int (nI (lp_vN r)), y4), ?_, d1, d2, fun b k hb hk hR => ?_⟩
      · show lp_fn (d + 2) 232 35 _ _ _ = lp_fn (d + 2) 232 35 _ _ _
        have y2 : s2 344 1 = nI (lp_vN r) := by rw [d1 _ (by omega)]; exact m1
        rw [e232_343_35]
        simp (disch := omega) only [e169_343, e232_343_40, y1, nI_leI, nI_ltI, nI_eq, nI_clamp, lp_oobN, nI_add, pk_mul, pk_sub, pk_rem, pk_m1, lp_neg1lt, lp_neg1le, lp_neg1eq, lp_neg1eq2, if_true, if_false, if_pos, if_neg, Option.bind_some, Nat.lt_irrefl, Nat.le_refl, true_and, and_true, false_or, or_false, true_or, or_true, not_true_eq_false, not_false_eq_true, and_self, or_self, false_and, and_false, ite_true, ite_false, reduceIte]
        refine Eq.trans e2 ?_
        show lp_fn (d + 2) 232 45 _ _ _ = _
        rw [e232_343_45]
        simp (disch := omega) only [e169_343, e232_343_50, y2, nI_leI, nI_ltI, nI_eq, nI_clamp, lp_oobN, nI_add, pk_mul, pk_sub, pk_rem, pk_m1, lp_neg1lt, lp_neg1le, lp_neg1eq, lp_neg1eq2, if_true, if_false, if_pos, if_neg, Option.bind_some, Nat.lt_irrefl, Nat.le_refl, true_and, and_true, false_or, or_false, true_or, or_true, not_true_eq_false, not_false_eq_true, and_self, or_self, false_and, and_false, ite_true, ite_false, reduceIte]
      · show F2 b ≤ k
        by_cases e : k ≤ t
        · exact Nat.le_trans (d3 b) (v3 b k hb e hR)
        · have ek : k = t + 1 := by omega
          subst ek
          rcases hR with z | ⟨a, a1, a2, a3⟩
          · have := Nat.le_trans (d3 b) (v3 b t hb (Nat.le_refl t) z)
            omega
          · exact d4 a b a1 hb a2 a3)
  have d1 : ∀ q, q ≠ 361 → g2 q = g q := d1
  refine ⟨g2, F2, ?_, d1, d2, d3⟩
  have y2 : g2 344 1 = nI (lp_vN r) := by rw [d1 _ (by omega)]; exact m1
  rw [e232_343]
  refine Eq.trans e1 ?_
  show lp_fn (d + 2) 232 2 _ _ _ = _
  rw [e232_343_2]
  simp (disch := omega) only [e169_343, e232_343_7, z1, nI_leI, nI_ltI, nI_eq, nI_clamp, lp_oobN, nI_add, pk_mul, pk_sub, pk_rem, pk_m1, lp_neg1lt, lp_neg1le, lp_neg1eq, lp_neg1eq2, if_true, if_false, if_pos, if_neg, Option.bind_some, Nat.lt_irrefl, Nat.le_refl, true_and, and_true, false_or, or_false, true_or, or_true, not_true_eq_false, not_false_eq_true, and_self, or_self, false_and, and_false, ite_true, ite_false, reduceIte]
  refine Eq.trans e2 ?_
  show lp_fn (d + 2) 232 35 _ _ _ = _
  rw [e232_343_35]
  simp (disch := omega) only [e169_343, e232_343_40, y2, nI_leI, nI_ltI, nI_eq, nI_clamp, lp_oobN, nI_add, pk_mul, pk_sub, pk_rem, pk_m1, lp_neg1lt, lp_neg1le, lp_neg1eq, lp_neg1eq2, if_true, if_false, if_pos, if_neg, Option.bind_some, Nat.lt_irrefl, Nat.le_refl, true_and, and_true, false_or, or_false, true_or, or_true, not_true_eq_false, not_false_eq_true, and_self, or_self, false_and, and_false, ite_true, ite_false, reduceIte]
theorem st_distance {L : Nat} {xs : Nat → Int32} {Ca : lp_M → (Nat → Int32) → Prop} (H : lp_CaOk Ca) (x y : Int32) : lp_St (lp_Inv L xs Ca) 109 234 [.int x, .int y] := by
  refine lp_ask H fun g r a p t T c4 c5 c7 => ?_
  have hn : lp_vN r ≤ 10 := c4.2.2.2.1
  have hm : lp_vM r ≤ 5 := by have := c4.2.1; omega
  have hm0 : 0 < lp_vM r := by have := c4.2.1; omega
  have hm1 : ¬ lp_vM r = 0 := by omega
  have hm2 : lp_vM r ≤ 10 := by omega
  have g10 : g 1 0 = nI (lp_vM r) := c5.1.1.trans c4.1
  have g11 : g 1 1 = nI (lp_vN r) := c5.1.2.1.trans c4.2.2.1
  have m0 : g 344 0 = nI (lp_vM r) := by rw [c7.1]; exact c4.1
  have m1 : g 344 1 = nI (lp_vN r) := by rw [c7.1]; exact c4.2.2.1
  have cA := lp_cA c4 c5.1
  have mA := lp_mA c4 c7.1
  have cS := lp_cS c4 c5.1
  have mS := lp_mS c4 c7.1
  have cG := lp_cG c4 c5.1
  have mG := lp_mG c4 c7.1
  rcases lp_ix x (n := lp_vN r) (by omega) with hx | ⟨i, hi, rfl⟩
  · refine ⟨-1, g, ?_, ?_, lp_Msc_rfl g⟩
    · simp (disch := omega) only [e109_0, s18o g11 hx, e109_0_8, if_true, if_false, if_pos, if_neg, Option.bind_some, Nat.lt_irrefl, Nat.le_refl, true_and, and_true, false_or, or_false, true_or, or_true, not_true_eq_false, not_false_eq_true, and_self, or_self, false_and, and_false, ite_true, ite_false, reduceIte]
    · simp (disch := omega) only [e234_343, s170o m1 hn hx, e234_343_5, if_true, if_false, if_pos, if_neg, Option.bind_some, Nat.lt_irrefl, Nat.le_refl, true_and, and_true, false_or, or_false, true_or, or_true, not_true_eq_false, not_false_eq_true, and_self, or_self, false_and, and_false, ite_true, ite_false, reduceIte]
  rcases lp_ix y (n := lp_vN r) (by omega) with hy | ⟨j, hj, rfl⟩
  · refine ⟨-1, g, ?_, ?_, lp_Msc_rfl g⟩
    · simp (disch := omega) only [e109_0, s18i g11 hi hn, e109_0_8, s18o g11 hy, e109_0_19, nI_leI, nI_ltI, nI_eq, nI_clamp, lp_oobN, nI_add, pk_mul, pk_sub, pk_rem, pk_m1, lp_neg1lt, lp_neg1le, lp_neg1eq, lp_neg1eq2, if_true, if_false, if_pos, if_neg, Option.bind_some, Nat.lt_irrefl, Nat.le_refl, true_and, and_true, false_or, or_false, true_or, or_true, not_true_eq_false, not_false_eq_true, and_self, or_self, false_and, and_false, ite_true, ite_false, reduceIte]
    · simp (disch := omega) only [e234_343, s170i m1 hi hn, e234_343_5, s170o m1 hn hy, e234_343_13, nI_leI, nI_ltI, nI_eq, nI_clamp, lp_oobN, nI_add, pk_mul, pk_sub, pk_rem, pk_m1, lp_neg1lt, lp_neg1le, lp_neg1eq, lp_neg1eq2, if_true, if_false, if_pos, if_neg, Option.bind_some, Nat.lt_irrefl, Nat.le_refl, true_and, and_true, false_or, or_false, true_or, or_true, not_true_eq_false, not_false_eq_true, and_self, or_self, false_and, and_false, ite_true, ite_false, reduceIte]
  obtain ⟨g2, F, E, a1, a2, a3⟩ := s232 (d := 36) c4 c7.1 hi
  obtain ⟨f1, f2, f3⟩ := a2 j hj
  have hh : ∀ k, (nI (lp_bn (fun b => lp_db (lp_RB r i k b)) (lp_vN r)) >>> (nI j &&& nI 31)) &&& nI 1 = nI (if lp_db (lp_RB r i k j) = true then 1 else 0) := fun k => lp_bn_has hn hj
  have st : ∀ k, k < lp_vN r → ¬ lp_RB r i k j → lp_fn 39 109 31 [.ref 0, .int (nI i), .int (nI j), .int (nI (lp_bn (fun b => lp_db (lp_RB r i k b)) (lp_vN r))), .int (nI k)] [] (lp_s0 g) = lp_fn 39 109 31 [.ref 0, .int (nI i), .int (nI j), .int (nI (lp_bn (fun b => lp_db (lp_RB r i (k + 1) b)) (lp_vN r))), .int (nI (k + 1))] [] (lp_s0 g) := by
    intro k hk hno
    have h1 := hh k
    rw [if_neg (fun z => hno (lp_db_iff.mp z))] at h1
    rw [e109_0_31]
    simp (disch := omega) only [g11, h1, s35r c4 c5.1, e109_0_63, nI_leI, nI_ltI, nI_eq, nI_clamp, lp_oobN, nI_add, pk_mul, pk_sub, pk_rem, pk_m1, lp_neg1lt, lp_neg1le, lp_neg1eq, lp_neg1eq2, if_true, if_false, if_pos, if_neg, Option.bind_some, Nat.lt_irrefl, Nat.le_refl, true_and, and_true, false_or, or_false, true_or, or_true, not_true_eq_false, not_false_eq_true, and_self, or_self, false_and, and_false, ite_true, ite_false, reduceIte]
  have pre : lp_rn 40 109 [.ref 0, .int (nI i), .int (nI j)] (lp_s0 g) = lp_fn 39 109 31 [.ref 0, .int (nI i), .int (nI j), .int (nI (lp_bn (fun b => lp_db (lp_RB r i 0 b)) (lp_vN r))), .int (nI 0)] [] (lp_s0 g) := by
    have e0 : nI 1 <<< (nI i &&& nI 31) = nI (lp_bn (fun b => lp_db (lp_RB r i 0 b)) (lp_vN r)) := lp_bn_one hn hi
    simp (disch := omega) only [e109_0, s18i g11 hi hn, e109_0_8, s18i g11 hj hn, e109_0_19, e0, nI_leI, nI_ltI, nI_eq, nI_clamp, lp_oobN, nI_add, pk_mul, pk_sub, pk_rem, pk_m1, lp_neg1lt, lp_neg1le, lp_neg1eq, lp_neg1eq2, if_true, if_false, if_pos, if_neg, Option.bind_some, Nat.lt_irrefl, Nat.le_refl, true_and, and_true, false_or, or_false, true_or, or_true, not_true_eq_false, not_false_eq_true, and_self, or_self, false_and, and_false, ite_true, ite_false, reduceIte]
  have pre2 : lp_rn 40 234 [.ref 343, .int (nI i), .int (nI j)] (lp_s0 g) = lp_fn 39 234 23 [.ref 343, .int (nI i), .int (nI j)] [] (lp_s0 g2) := by
    simp (disch := omega) only [e234_343, s170i m1 hi hn, e234_343_5, s170i m1 hj hn, e234_343_13, E, nI_leI, nI_ltI, nI_eq, nI_clamp, lp_oobN, nI_add, pk_mul, pk_sub, pk_rem, pk_m1, lp_neg1lt, lp_neg1le, lp_neg1eq, lp_neg1eq2, if_true, if_false, if_pos, if_neg, Option.bind_some, Nat.lt_irrefl, Nat.le_refl, true_and, and_true, false_or, or_false, true_or, or_true, not_true_eq_false, not_false_eq_true, and_self, or_self, false_and, and_false, ite_true, ite_false, reduceIte]
  have ms : lp_Msc g g2 := lp_Msc_b fun q hq => a1 q (by omega)
  by_cases hx : ∃ k, lp_RB r i k j
  · obtain ⟨k, hk, kmin⟩ := pk_least _ hx
    have hkn : k < lp_vN r := by
      have := lp_RB_all hi hj hk
      refine Classical.byContradiction fun z => kmin (lp_vN r - 1) (by omega) this
    have hF : F j = k := by
      have h1 := a3 j k hj (by omega) hk
      have h2 := f3 (by omega)
      refine Classical.byContradiction fun z => kmin (F j) (by omega) h2
    have it := lp_iter (fun k => lp_fn 39 109 31 [.ref 0, .int (nI i), .int (nI j), .int (nI (lp_bn (fun b => lp_db (lp_RB r i k b)) (lp_vN r))), .int (nI k)] [] (lp_s0 g)) k (fun q hq => st q (by omega) (kmin q hq))
    refine ⟨nI k, g2, ?_, ?_, ms⟩
    · rw [pre]
      refine Eq.trans it ?_
      have h1 := hh k
      rw [if_pos (lp_db_iff.mpr hk)] at h1
      rw [e109_0_31]
      simp (disch := omega) only [g11, h1, nI_leI, nI_ltI, nI_eq, nI_clamp, lp_oobN, nI_add, pk_mul, pk_sub, pk_rem, pk_m1, lp_neg1lt, lp_neg1le, lp_neg1eq, lp_neg1eq2, if_true, if_false, if_pos, if_neg, Option.bind_some, Nat.lt_irrefl, Nat.le_refl, true_and, and_true, false_or, or_false, true_or, or_true, not_true_eq_false, not_false_eq_true, and_self, or_self, false_and, and_false, ite_true, ite_false, reduceIte]
    · rw [pre2, e234_343_23]
      simp (disch := omega) only [f1, hF, nI_leI, nI_ltI, nI_eq, nI_clamp, lp_oobN, nI_add, pk_mul, pk_sub, pk_rem, pk_m1, lp_neg1lt, lp_neg1le, lp_neg1eq, lp_neg1eq2, if_true, if_false, if_pos, if_neg, Option.bind_some, Nat.lt_irrefl, Nat.le_refl, true_and, and_true, false_or, or_false, true_or, or_true, not_true_eq_false, not_false_eq_true, and_self, or_self, false_and, and_false, ite_true, ite_false, reduceIte]
  · have hF : F j = 99 := Classical.byContradiction fun z => hx ⟨F j, f3 (by omega)⟩
    have it := lp_iter (fun k => lp_fn 39 109 31 [.ref 0, .int (nI i), .int (nI j), .int (nI (lp_bn (fun b => lp_db (lp_RB r i k b)) (lp_vN r))), .int (nI k)] [] (lp_s0 g)) (lp_vN r) (fun q hq => st q (by omega) (fun z => hx ⟨q, z⟩))
    refine ⟨-2, g2, ?_, ?_, ms⟩
    · rw [pre]
      refine Eq.trans it ?_
      rw [e109_0_31]
      simp (disch := omega) only [g11, nI_leI, nI_ltI, nI_eq, nI_clamp, lp_oobN, nI_add, pk_mul, pk_sub, pk_rem, pk_m1, lp_neg1lt, lp_neg1le, lp_neg1eq, lp_neg1eq2, if_true, if_false, if_pos, if_neg, Option.bind_some, Nat.lt_irrefl, Nat.le_refl, true_and, and_true, false_or, or_false, true_or, or_true, not_true_eq_false, not_false_eq_true, and_self, or_self, false_and, and_false, ite_true, ite_false, reduceIte]
    · rw [pre2, e234_343_23]
      simp (disch := omega) only [f1, hF, nI_leI, nI_ltI, nI_eq, nI_clamp, lp_oobN, nI_add, pk_mul, pk_sub, pk_rem, pk_m1, lp_neg1lt, lp_neg1le, lp_neg1eq, lp_neg1eq2, if_true, if_false, if_pos, if_neg, Option.bind_some, Nat.lt_irrefl, Nat.le_refl, true_and, and_true, false_or, or_false, true_or, or_true, not_true_eq_false, not_false_eq_true, and_self, or_self, false_and, and_false, ite_true, ite_false, reduceIte]
/-- a lamp with which a part begins -/
def lp_pf (r : Nat → Int32) (i : Nat) : Prop := ¬ ∃ j k, j < i ∧ lp_RB r j k i
theorem st_parts {L : Nat} {xs : Nat → Int32} {Ca : lp_M → (Nat → Int32) → Prop} (H : lp_CaOk Ca) : lp_St (lp_Inv L xs Ca) 108 233 [] := by
  refine lp_ask H fun g r a p t T c4 c5 c7 => ?_
  have hn : lp_vN r ≤ 10 := c4.2.2.2.1
  have hm : lp_vM r ≤ 5 := by have := c4.2.1; omega
  have hm0 : 0 < lp_vM r := by have := c4.2.1; omega
  have hm1 : ¬ lp_vM r = 0 := by omega
  have hm2 : lp_vM r ≤ 10 := by omega
  have g10 : g 1 0 = nI (lp_vM r) := c5.1.1.trans c4.1
  have g11 : g 1 1 = nI (lp_vN r) := c5.1.2.1.trans c4.2.2.1
  have m0 : g 344 0 = nI (lp_vM r) := by rw [c7.1]; exact c4.1
  have m1 : g 344 1 = nI (lp_vN r) := by rw [c7.1]; exact c4.2.2.1
  have cA := lp_cA c4 c5.1
  have mA := lp_mA c4 c7.1
  have cS := lp_cS c4 c5.1
  have mS := lp_mS c4 c7.1
  have cG := lp_cG c4 c5.1
  have mG := lp_mG c4 c7.1
  -- the class
  have reach : ∀ i, i < lp_vN r → lp_rn 39 150 [.ref 0, .int (nI i)] (lp_s0 g) = some (nI (lp_bn (fun b => lp_db (lp_RB r i (lp_vN r) b)) (lp_vN r)), lp_s0 g) := by
    intro i hi
    have it := lp_iter (fun k => lp_fn 38 150 6 [.ref 0, .int (nI i), .int (nI (lp_bn (fun b => lp_db (lp_RB r i k b)) (lp_vN r))), .int (nI k)] [] (lp_s0 g)) (lp_vN r) (fun k hk => by
      show lp_fn 38 150 6 _ _ _ = lp_fn 38 150 6 _ _ _
      rw [e150_0_6]
      simp (disch := omega) only [g11, s35r c4 c5.1, e150_0_25, nI_leI, nI_ltI, nI_eq, nI_clamp, lp_oobN, nI_add, pk_mul, pk_sub, pk_rem, pk_m1, lp_neg1lt, lp_neg1le, lp_neg1eq, lp_neg1eq2, if_true, if_false, if_pos, if_neg, Option.bind_some, Nat.lt_irrefl, Nat.le_refl, true_and, and_true, false_or, or_false, true_or, or_true, not_true_eq_false, not_false_eq_true, and_self, or_self, false_and, and_false, ite_true, ite_false, reduceIte])
    have e0 : nI 1 <<< (nI i &&& nI 31) = nI (lp_bn (fun b => lp_db (lp_RB r i 0 b)) (lp_vN r)) := lp_bn_one hn hi
    rw [e150_0, e0]
    refine Eq.trans it ?_
    rw [e150_0_6]
    simp (disch := omega) only [g11, nI_leI, nI_ltI, nI_eq, nI_clamp, lp_oobN, nI_add, pk_mul, pk_sub, pk_rem, pk_m1, lp_neg1lt, lp_neg1le, lp_neg1eq, lp_neg1eq2, if_true, if_false, if_pos, if_neg, Option.bind_some, Nat.lt_irrefl, Nat.le_refl, true_and, and_true, false_or, or_false, true_or, or_true, not_true_eq_false, not_false_eq_true, and_self, or_self, false_and, and_false, ite_true, ite_false, reduceIte]
  have itc := lp_iter (fun i => lp_fn 39 108 6 [.ref 0, .int (nI (lp_bn (fun x => lp_db (∃ j k, j < i ∧ lp_RB r j k x)) (lp_vN r))), .int (nI (lp_cnt (fun i => lp_db (lp_pf r i) = true) i)), .int (nI i)] [] (lp_s0 g)) (lp_vN r) (fun i hi => by
    show lp_fn 39 108 6 _ _ _ = lp_fn 39 108 6 _ _ _
    have hh : (nI (lp_bn (fun x => lp_db (∃ j k, j < i ∧ lp_RB r j k x)) (lp_vN r)) >>> (nI i &&& nI 31)) &&& nI 1 = nI (if lp_db (∃ j k, j < i ∧ lp_RB r j k i) = true then 1 else 0) := lp_bn_has hn hi
    have le : lp_cnt (fun i => lp_db (lp_pf r i) = true) i ≤ i := lp_cnt_le _ _
    rw [e108_0_6, lp_cnt_s]
    by_cases e : ∃ j k, j < i ∧ lp_RB r j k i
    · have e2 : lp_bn (fun x => lp_db (∃ j k, j < i + 1 ∧ lp_RB r j k x)) (lp_vN r) = lp_bn (fun x => lp_db (∃ j k, j < i ∧ lp_RB r j k x)) (lp_vN r) := lp_bn_cg fun x hx => lp_db_cg (by
        constructor
        · rintro ⟨j, k, h1, h2⟩
          by_cases ej : j = i
          · obtain ⟨j', k', h3, h4⟩ := e
            exact ⟨j', k' + k, h3, lp_RB_tr h4 (ej ▸ h2)⟩
          · exact ⟨j, k, by omega, h2⟩
        · rintro ⟨j, k, h1, h2⟩
          exact ⟨j, k, by omega, h2⟩)
      rw [if_pos (lp_db_iff.mpr e)] at hh
      rw [e2, if_neg (show ¬ lp_db (lp_pf r i) = true from fun z => lp_db_iff.mp z e)]
      simp (disch := omega) only [g11, hh, Nat.add_zero, nI_leI, nI_ltI, nI_eq, nI_clamp, lp_oobN, nI_add, pk_mul, pk_sub, pk_rem, pk_m1, lp_neg1lt, lp_neg1le, lp_neg1eq, lp_neg1eq2, if_true, if_false, if_pos, if_neg, Option.bind_some, Nat.lt_irrefl, Nat.le_refl, true_and, and_true, false_or, or_false, true_or, or_true, not_true_eq_false, not_false_eq_true, and_self, or_self, false_and, and_false, ite_true, ite_false, reduceIte]
    · have e2 : lp_bn (fun x => lp_db (∃ j k, j < i + 1 ∧ lp_RB r j k x)) (lp_vN r) = lp_bn (fun x => lp_db (∃ j k, j < i ∧ lp_RB r j k x) || lp_db (lp_RB r i (lp_vN r) x)) (lp_vN r) := lp_bn_cg fun x hx => by
        apply Bool.eq_iff_iff.mpr
        rw [Bool.or_eq_true, lp_db_iff, lp_db_iff, lp_db_iff]
        constructor
        · rintro ⟨j, k, h1, h2⟩
          by_cases ej : j = i
          · exact .inr (lp_RB_mono (Nat.sub_le _ _) (lp_RB_all hi hx (ej ▸ h2)))
          · exact .inl ⟨j, k, by omega, h2⟩
        · rintro (⟨j, k, h1, h2⟩ | z)
          · exact ⟨j, k, by omega, h2⟩
          · exact ⟨i, lp_vN r, by omega, z⟩
      rw [if_neg (fun z => e (lp_db_iff.mp z))] at hh
      rw [e2, ← lp_bn_orN hn, if_pos (show lp_db (lp_pf r i) = true from lp_db_iff.mpr e)]
      simp (disch := omega) only [g11, hh, reach i hi, e108_0_34, nI_leI, nI_ltI, nI_eq, nI_clamp, lp_oobN, nI_add, pk_mul, pk_sub, pk_rem, pk_m1, lp_neg1lt, lp_neg1le, lp_neg1eq, lp_neg1eq2, if_true, if_false, if_pos, if_neg, Option.bind_some, Nat.lt_irrefl, Nat.le_refl, true_and, and_true, false_or, or_false, true_or, or_true, not_true_eq_false, not_false_eq_true, and_self, or_self, false_and, and_false, ite_true, ite_false, reduceIte])
  have e0 : lp_bn (fun x => lp_db (∃ j k, j < 0 ∧ lp_RB r j k x)) (lp_vN r) = 0 := lp_sm_zero.mpr fun x hx => if_neg fun z => by
    obtain ⟨j, k, h1, _⟩ := lp_db_iff.mp z
    omega
  -- the model
  obtain ⟨⟨g2, w3, w4⟩, e2, b1⟩ := lp_itE (fun l (s : lp_M × Value × Value) => lp_fn 39 233 4 [.ref 343, .int (nI (lp_cnt (fun i => lp_db (lp_pf r i) = true) l)), .int (nI l), s.2.1, s.2.2] [] (lp_s0 s.1))
    (fun l s => ∀ q, q ≠ 361 → s.1 q = g q)
    0 (lp_vN r) (g, .long 0, .long 0) (by omega) (fun _ _ => rfl)
    (fun l s _ hl q1 => by
      obtain ⟨s, x3, x4⟩ := s
      have q1 : ∀ q, q ≠ 361 → s q = g q := q1
      have cs : s 344 = r := by rw [q1 _ (by omega)]; exact c7.1
      have y1 := lp_m1' c4 cs
      obtain ⟨s2, F, E, a1, a2, a3⟩ := s232 (d := 36) c4 cs hl
      have far : ∀ k, k < lp_vN r → (F k = 99 ↔ ¬ ∃ m, lp_RB r k m l) := by
        intro k hk
        obtain ⟨f1, f2, f3⟩ := a2 k hk
        constructor
        · rintro h ⟨m, hm⟩
          have := a3 k (lp_vN r - 1) hk (by omega) (lp_RB_all hl hk (lp_RB_sym c4 hk hl hm))
          omega
        · intro h
          refine Classical.byContradiction fun z => h ⟨F k, lp_RB_sym c4 hl hk (f3 (by omega))⟩
      have it := lp_iter (fun k => lp_fn 39 233 22 [.ref 343, .int (nI (lp_cnt (fun i => lp_db (lp_pf r i) = true) l)), .int (nI l), .int (nI (if lp_db (¬ ∃ j m, j < k ∧ lp_RB r j m l) = true then 1 else 0)), .int (nI k)] [] (lp_s0 s2)) l (fun k hk => by
        show lp_fn 39 233 22 _ _ _ = lp_fn 39 233 22 _ _ _
        obtain ⟨f1, f2, f3⟩ := a2 k (by omega)
        rw [e233_343_22]
        by_cases e : ∃ j m, j < k ∧ lp_RB r j m l
        · have e' : ∃ j m, j < k + 1 ∧ lp_RB r j m l := by
            obtain ⟨j, m, h1, h2⟩ := e
            exact ⟨j, m, by omega, h2⟩
          rw [if_neg (show ¬ lp_db (¬ ∃ j m, j < k ∧ lp_RB r j m l) = true from fun z => lp_db_iff.mp z e), if_neg (show ¬ lp_db (¬ ∃ j m, j < k + 1 ∧ lp_RB r j m l) = true from fun z => lp_db_iff.mp z e')]
          simp (disch := omega) only [nI_leI, nI_ltI, nI_eq, nI_clamp, lp_oobN, nI_add, pk_mul, pk_sub, pk_rem, pk_m1, lp_neg1lt, lp_neg1le, lp_neg1eq, lp_neg1eq2, if_true, if_false, if_pos, if_neg, Option.bind_some, Nat.lt_irrefl, Nat.le_refl, true_and, and_true, false_or, or_false, true_or, or_true, not_true_eq_false, not_false_eq_true, and_self, or_self, false_and, and_false, ite_true, ite_false, reduceIte]
        · rw [if_pos (show lp_db (¬ ∃ j m, j < k ∧ lp_RB r j m l) = true from lp_db_iff.mpr e)]
          by_cases e3 : F k = 99
          · have e' : ¬ ∃ j m, j < k + 1 ∧ lp_RB r j m l := by
              rintro ⟨j, m, h1, h2⟩
              by_cases ej : j = k
              · exact (far k (by omega)).mp e3 ⟨m, ej ▸ h2⟩
              · exact e ⟨j, m, by omega, h2⟩
            rw [if_pos (show lp_db (¬ ∃ j m, j < k + 1 ∧ lp_RB r j m l) = true from lp_db_iff.mpr e')]
            simp (disch := omega) only [f1, e3, nI_leI, nI_ltI, nI_eq, nI_clamp, lp_oobN, nI_add, pk_mul, pk_sub, pk_rem, pk_m1, lp_neg1lt, lp_neg1le, lp_neg1eq, lp_neg1eq2, if_true, if_false, if_pos, if_neg, Option.bind_some, Nat.lt_irrefl, Nat.le_refl, true_and, and_true, false_or, or_false, true_or, or_true, not_true_eq_false, not_false_eq_true, and_self, or_self, false_and, and_false, ite_true, ite_false, reduceIte]
          · have e' : ∃ j m, j < k + 1 ∧ lp_RB r j m l := by
              have : ∃ m, lp_RB r k m l := Classical.byContradiction fun z => e3 ((far k (by omega)).mpr z)
              obtain ⟨m, hm⟩ := this
              exact ⟨k, m, by omega, hm⟩
            rw [if_neg (show ¬ lp_db (¬ ∃ j m, j < k + 1 ∧ lp_RB r j m l) = true from fun z => lp_db_iff.mp z e')]
            simp (disch := omega) only [f1, e3, nI_leI, nI_ltI, nI_eq, nI_clamp, lp_oobN, nI_add, pk_mul, pk_sub, pk_rem, pk_m1, lp_neg1lt, lp_neg1le, lp_neg1eq, lp_neg1eq2, if_true, if_false, if_pos, if_neg, Option.bind_some, Nat.lt_irrefl, Nat.le_refl, true_and, and_true, false_or, or_false, true_or, or_true, not_true_eq_false, not_false_eq_true, and_self, or_self, false_and, and_false, ite_true, ite_false, reduceIte])
      have e0 : lp_db (¬ ∃ j m, j < 0 ∧ lp_RB r j m l) = true := lp_db_iff.mpr fun ⟨j, m, h1, _⟩ => by omega
      rw [if_pos e0] at it
      have le : lp_cnt (fun i => lp_db (lp_pf r i) = true) l ≤ l := lp_cnt_le _ _
      refine ⟨(s2, .int (nI (if lp_db (¬ ∃ j m, j < l ∧ lp_RB r j m l) = true then 1 else 0)), .int (nI l)), ?_, fun q hq => by show s2 q = _; rw [a1 q hq]; exact q1 q hq⟩
      show lp_fn 39 233 4 _ _ _ = lp_fn 39 233 4 _ _ _
      rw [e233_343_4, lp_cnt_s]
      simp (disch := omega) only [e169_343, e233_343_9, y1, E, e233_343_17, nI_leI, nI_ltI, nI_eq, nI_clamp, lp_oobN, nI_add, pk_mul, pk_sub, pk_rem, pk_m1, lp_neg1lt, lp_neg1le, lp_neg1eq, lp_neg1eq2, if_true, if_false, if_pos, if_neg, Option.bind_some, Nat.lt_irrefl, Nat.le_refl, true_and, and_true, false_or, or_false, true_or, or_true, not_true_eq_false, not_false_eq_true, and_self, or_self, false_and, and_false, ite_true, ite_false, reduceIte]
      refine Eq.trans it ?_
      rw [e233_343_22]
      by_cases e : lp_db (lp_pf r l) = true
      · have e' : lp_db (¬ ∃ j m, j < l ∧ lp_RB r j m l) = true := e
        rw [if_pos e, if_pos e']
        simp (disch := omega) only [nI_leI, nI_ltI, nI_eq, nI_clamp, lp_oobN, nI_add, pk_mul, pk_sub, pk_rem, pk_m1, lp_neg1lt, lp_neg1le, lp_neg1eq, lp_neg1eq2, if_true, if_false, if_pos, if_neg, Option.bind_some, Nat.lt_irrefl, Nat.le_refl, true_and, and_true, false_or, or_false, true_or, or_true, not_true_eq_false, not_false_eq_true, and_self, or_self, false_and, and_false, ite_true, ite_false, reduceIte]
      · have e' : ¬ lp_db (¬ ∃ j m, j < l ∧ lp_RB r j m l) = true := e
        rw [if_neg e, if_neg e']
        simp (disch := omega) only [Nat.add_zero, nI_leI, nI_ltI, nI_eq, nI_clamp, lp_oobN, nI_add, pk_mul, pk_sub, pk_rem, pk_m1, lp_neg1lt, lp_neg1le, lp_neg1eq, lp_neg1eq2, if_true, if_false, if_pos, if_neg, Option.bind_some, Nat.lt_irrefl, Nat.le_refl, true_and, and_true, false_or, or_false, true_or, or_true, not_true_eq_false, not_false_eq_true, and_self, or_self, false_and, and_false, ite_true, ite_false, reduceIte])
  have b1 : ∀ q, q ≠ 361 → g2 q = g q := b1
  refine ⟨nI (lp_cnt (fun i => lp_db (lp_pf r i) = true) (lp_vN r)), g2, ?_, ?_, lp_Msc_b fun q hq => b1 q (by omega)⟩
  · rw [e108_0]
    rw [e0] at itc
    refine Eq.trans itc ?_
    rw [e108_0_6]
    simp (disch := omega) only [g11, nI_leI, nI_ltI, nI_eq, nI_clamp, lp_oobN, nI_add, pk_mul, pk_sub, pk_rem, pk_m1, lp_neg1lt, lp_neg1le, lp_neg1eq, lp_neg1eq2, if_true, if_false, if_pos, if_neg, Option.bind_some, Nat.lt_irrefl, Nat.le_refl, true_and, and_true, false_or, or_false, true_or, or_true, not_true_eq_false, not_false_eq_true, and_self, or_self, false_and, and_false, ite_true, ite_false, reduceIte]
  · rw [e233_343]
    refine Eq.trans e2 ?_
    show lp_fn 39 233 4 _ _ _ = _
    have y2 : g2 344 1 = nI (lp_vN r) := by rw [b1 _ (by omega)]; exact m1
    rw [e233_343_4]
    simp (disch := omega) only [e169_343, e233_343_9, y2, nI_leI, nI_ltI, nI_eq, nI_clamp, lp_oobN, nI_add, pk_mul, pk_sub, pk_rem, pk_m1, lp_neg1lt, lp_neg1le, lp_neg1eq, lp_neg1eq2, if_true, if_false, if_pos, if_neg, Option.bind_some, Nat.lt_irrefl, Nat.le_refl, true_and, and_true, false_or, or_false, true_or, or_true, not_true_eq_false, not_false_eq_true, and_self, or_self, false_and, and_false, ite_true, ite_false, reduceIte]
