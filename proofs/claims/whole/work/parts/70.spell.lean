/-! ===== spell ===== -/
theorem lp_ps_fr (c f e : Nat) : ∀ (ws : List Nat) (g : lp_M) (q : Nat), q ≠ c → q ≠ e → lp_ps c f e g ws q = g q := by
  intro ws
  induction ws with
  | nil => intro g q _ _; rfl
  | cons b ws ih =>
    intro g q h1 h2
    show lp_ps c f e (lp_pb c f e g b) ws q = g q
    rw [ih _ q h1 h2]
    unfold lp_pb
    rw [lp_w_ne h1, lp_w_ne h2]
theorem lp_ps_len {c f e k : Nat} {g : lp_M} {ws : List Nat} (hce : c ≠ e) (h : g c f = nI k) (hk : k + ws.length ≤ 1000) : lp_ps c f e g ws c f = nI (k + ws.length) := (lp_ps_all hce ws g k h hk).1
theorem lp_swL : lp_swd 6 = lp_mwd 0 ++ [32] ∧ lp_swd 7 = [59] ∧ lp_swd 8 = lp_mwd 1 ++ [32] ∧ lp_swd 9 = [32] ++ (lp_mwd 2 ++ [32]) ∧ lp_swd 10 = [32] ++ (lp_mwd 3 ++ [32]) ∧ lp_swd 11 = lp_mwd 4 ++ [32] ∧ lp_swd 12 = [32] ∧ lp_swd 13 = [32] ++ (lp_mwd 5 ++ [32]) ∧ lp_swd 14 = lp_mwd 8 ++ [59] ∧ lp_swd 15 = lp_mwd 9 ++ [59] ∧ lp_swd 16 = lp_mwd 6 ++ [32] ∧ lp_swd 17 = lp_mwd 7 ++ [32] := by decide +kernel
theorem lp_swN : (lp_swd 6).length = 7 ∧ (lp_swd 7).length = 1 ∧ (lp_swd 8).length = 5 ∧ (lp_swd 9).length = 5 ∧ (lp_swd 10).length = 6 ∧ (lp_swd 11).length = 5 ∧ (lp_swd 12).length = 1 ∧ (lp_swd 13).length = 4 ∧ (lp_swd 14).length = 5 ∧ (lp_swd 15).length = 5 ∧ (lp_swd 16).length = 6 ∧ (lp_swd 17).length = 5 := by decide +kernel
theorem lp_mwN : (lp_mwd 0).length = 6 ∧ (lp_mwd 1).length = 4 ∧ (lp_mwd 2).length = 3 ∧ (lp_mwd 3).length = 4 ∧ (lp_mwd 4).length = 4 ∧ (lp_mwd 5).length = 2 ∧ (lp_mwd 6).length = 5 ∧ (lp_mwd 7).length = 4 ∧ (lp_mwd 8).length = 4 ∧ (lp_mwd 9).length = 4 := by decide +kernel
def lp_owT (x : Nat) : List Nat := if x = 1 then [] else lp_swd 9 ++ lp_dig x
def lp_goT (x : Nat) : List Nat := if x = 0 then [] else lp_swd 10 ++ lp_dig x
def lp_lampT (r : Nat → Int32) (i : Nat) : List Nat := (lp_swd 8 ++ lp_dig (lp_vS r i)) ++ (lp_owT (lp_vA r i i) ++ (lp_goT (lp_vG r i) ++ lp_swd 7))
def lp_byT (x : Nat) : List Nat := if x = 1 then [] else lp_swd 13 ++ lp_dig x
def lp_wireT (r : Nat → Int32) (a b : Nat) : List Nat := if lp_vA r a b = 0 then [] else (lp_swd 11 ++ lp_dig a) ++ ((lp_swd 12 ++ lp_dig b) ++ (lp_byT (lp_vA r a b) ++ lp_swd 7))
def lp_tl (r : Nat → Int32) : Nat → List Nat
  | 0 => []
  | k + 1 => lp_tl r k ++ lp_lampT r k
def lp_tr (r : Nat → Int32) (a : Nat) : Nat → List Nat
  | 0 => []
  | k + 1 => lp_tr r a k ++ lp_wireT r a (a + 1 + k)
def lp_tww (r : Nat → Int32) : Nat → List Nat
  | 0 => []
  | a + 1 => lp_tww r a ++ lp_tr r a (lp_vN r - 1 - a)
def lp_hdT (r : Nat → Int32) : List Nat := (lp_swd 6 ++ lp_dig (lp_vM r)) ++ lp_swd 7
def lp_spT (r : Nat → Int32) : List Nat := (lp_hdT r ++ lp_tl r (lp_vN r)) ++ lp_tww r (lp_vN r)
theorem lp_owT_le {x : Nat} (h : x < 10) : (lp_owT x).length ≤ 6 := by
  unfold lp_owT
  by_cases e : x = 1
  · rw [if_pos e]; exact Nat.zero_le _
  · rw [if_neg e, List.length_append, lp_dig1 h, lp_swN.2.2.2.1]; exact Nat.le_refl _
theorem lp_goT_le {x : Nat} (h : x < 10) : (lp_goT x).length ≤ 7 := by
  unfold lp_goT
  by_cases e : x = 0
  · rw [if_pos e]; exact Nat.zero_le _
  · rw [if_neg e, List.length_append, lp_dig1 h, lp_swN.2.2.2.2.1]; exact Nat.le_refl _
theorem lp_byT_le {x : Nat} (h : x < 10) : (lp_byT x).length ≤ 5 := by
  unfold lp_byT
  by_cases e : x = 1
  · rw [if_pos e]; exact Nat.zero_le _
  · rw [if_neg e, List.length_append, lp_dig1 h, lp_swN.2.2.2.2.2.2.2.1]; exact Nat.le_refl _
theorem lp_lampT_le {r : Nat → Int32} (hr : lp_Ok r) {i : Nat} (hi : i < lp_vN r) : (lp_lampT r i).length ≤ 20 := by
  have hm : lp_vM r ≤ 5 := by have := hr.2.1; omega
  have a := hr.2.2.2.2.1 i hi
  have b := hr.2.2.2.2.2.1 i hi
  have c := hr.2.2.2.2.2.2.1 i i hi hi
  have h1 := lp_owT_le (x := lp_vA r i i) (by omega)
  have h2 := lp_goT_le (x := lp_vG r i) (by omega)
  have h3 := lp_dig1 (n := lp_vS r i) (by omega)
  have h4 := lp_swN.2.2.1
  have h5 := lp_swN.2.1
  unfold lp_lampT
  simp only [List.length_append]
  omega
theorem lp_wireT_le {r : Nat → Int32} (hr : lp_Ok r) {a b : Nat} (ha : a < lp_vN r) (hb : b < lp_vN r) : (lp_wireT r a b).length ≤ 14 := by
  have hn : lp_vN r ≤ 10 := hr.2.2.2.1
  have hm : lp_vM r ≤ 5 := by have := hr.2.1; omega
  have c := hr.2.2.2.2.2.2.1 a b ha hb
  have h1 := lp_byT_le (x := lp_vA r a b) (by omega)
  have h2 := lp_dig1 (n := a) (by omega)
  have h3 := lp_dig1 (n := b) (by omega)
  have h4 := lp_swN.2.2.2.2.2.1
  have h5 := lp_swN.2.1
  have h6 := lp_swN.2.2.2.2.2.2.1
  unfold lp_wireT
  by_cases e : lp_vA r a b = 0
  · rw [if_pos e]; exact Nat.zero_le _
  · rw [if_neg e]
    simp only [List.length_append]
    omega
theorem lp_tl_le {r : Nat → Int32} (hr : lp_Ok r) : ∀ k, k ≤ lp_vN r → (lp_tl r k).length ≤ 20 * k := by
  intro k
  induction k with
  | zero => intro _; exact Nat.le_refl 0
  | succ k ih =>
    intro h
    have h1 := lp_lampT_le hr (i := k) (by omega)
    have h2 := ih (by omega)
    unfold lp_tl
    rw [List.length_append]
    omega
theorem lp_tr_le {r : Nat → Int32} (hr : lp_Ok r) {a : Nat} (ha : a < lp_vN r) : ∀ k, k ≤ lp_vN r - 1 - a → (lp_tr r a k).length ≤ 14 * k := by
  intro k
  induction k with
  | zero => intro _; exact Nat.le_refl 0
  | succ k ih =>
    intro h
    have h1 := lp_wireT_le hr ha (b := a + 1 + k) (by omega)
    have h2 := ih (by omega)
    unfold lp_tr
    rw [List.length_append]
    omega
def lp_tri : Nat → Nat
  | 0 => 0
  | a + 1 => lp_tri a + (9 - a)
theorem lp_tri_le : ∀ a, a < 11 → lp_tri a ≤ 45 := by decide
theorem lp_tww_le {r : Nat → Int32} (hr : lp_Ok r) : ∀ a, a ≤ lp_vN r → (lp_tww r a).length ≤ 14 * lp_tri a := by
  have hn : lp_vN r ≤ 10 := hr.2.2.2.1
  intro a
  induction a with
  | zero => intro _; exact Nat.le_refl 0
  | succ a ih =>
    intro h
    have h1 := lp_tr_le hr (a := a) (by omega) (lp_vN r - 1 - a) (Nat.le_refl _)
    have h2 := ih (by omega)
    have e : lp_tri (a + 1) = lp_tri a + (9 - a) := rfl
    unfold lp_tww
    rw [List.length_append, e]
    omega
theorem lp_hdT_le {r : Nat → Int32} (hr : lp_Ok r) : (lp_hdT r).length = 9 := by
  have hm : lp_vM r ≤ 5 := by have := hr.2.1; omega
  have h1 := lp_dig1 (n := lp_vM r) (by omega)
  unfold lp_hdT
  rw [List.length_append, List.length_append, h1, lp_swN.1, lp_swN.2.1]
theorem lp_spT_le {r : Nat → Int32} (hr : lp_Ok r) : (lp_spT r).length ≤ 900 := by
  have hn : lp_vN r ≤ 10 := hr.2.2.2.1
  have h1 := lp_hdT_le hr
  have h2 := lp_tl_le hr _ (Nat.le_refl _)
  have h3 := lp_tww_le hr _ (Nat.le_refl _)
  have h4 := lp_tri_le (lp_vN r) (by omega)
  unfold lp_spT
  rw [List.length_append, List.length_append]
  omega
theorem s13L {d w k : Nat} {g : lp_M} (hw : w < 18) (hk : g 336 1 = nI k) (hle : k + (lp_swd w).length ≤ 900) : lp_rn (d + 5) 13 [.ref 336, .retAddr w] (lp_s0 g) = some (nI 0, lp_s0 (lp_ps 336 1 337 g (lp_swd w))) := s13 (.inl ⟨rfl, rfl⟩) hw hk hle
theorem s14L {d w n k : Nat} {g : lp_M} (hw : w < 18) (hn : n < 100) (hk : g 336 1 = nI k) (hle : k + (lp_swd w ++ lp_dig n).length ≤ 900) : lp_rn (d + 6) 14 [.ref 336, .retAddr w, .int (nI n)] (lp_s0 g) = some (nI 0, lp_s0 (lp_ps 336 1 337 g (lp_swd w ++ lp_dig n))) := s14 (.inl ⟨rfl, rfl⟩) hw hn hk hle
/-- the class writes a lamp -/
theorem s154g {d i k x : Nat} {s : lp_M} (hi : i < 10) (h3 : s 3 i = nI x) (hx : x < 10) (hk : s 336 1 = nI k) (hle : k + (lp_goT x ++ lp_swd 7).length ≤ 900) : lp_fn (d + 6) 154 55 [.ref 0, .int (nI i)] [] (lp_s0 s) = some (nI 0, lp_s0 (lp_ps 336 1 337 s (lp_goT x ++ lp_swd 7))) := by
  simp only [List.length_append] at hle
  rw [e154_0_55, lp_ps_app]
  unfold lp_goT at hle ⊢
  by_cases e : x = 0
  · rw [if_pos e] at hle ⊢
    rw [lp_ps_nil]
    have E := s13L (d := d + 1) (w := 7) (by omega) hk (by have : ([] : List Nat).length = 0 := rfl; (try simp only [List.length_append]); omega)
    simp (disch := omega) only [h3, e, E, e154_0_96, nI_leI, nI_ltI, nI_eq, nI_clamp, lp_oobN, nI_add, pk_mul, pk_sub, pk_rem, pk_m1, lp_neg1lt, lp_neg1le, lp_neg1eq, lp_neg1eq2, if_true, if_false, if_pos, if_neg, Option.bind_some, Nat.lt_irrefl, Nat.le_refl, true_and, and_true, false_or, or_false, true_or, or_true, not_true_eq_false, not_false_eq_true, and_self, or_self, false_and, and_false, ite_true, ite_false, reduceIte]
  · rw [if_neg e] at hle ⊢
    try simp only [List.length_append] at hle
    have E := s14L (d := d) (w := 10) (n := x) (by omega) (by omega) hk (by (try simp only [List.length_append]); omega)
    have a1 := lp_ps_len (c := 336) (f := 1) (e := 337) (ws := lp_swd 10 ++ lp_dig x) (by omega) hk (by (try simp only [List.length_append]); omega)
    have E2 := s13L (d := d + 1) (w := 7) (by omega) a1 (by (try simp only [List.length_append]); omega)
    simp (disch := omega) only [h3, e, E, e154_0_86, E2, e154_0_96, nI_leI, nI_ltI, nI_eq, nI_clamp, lp_oobN, nI_add, pk_mul, pk_sub, pk_rem, pk_m1, lp_neg1lt, lp_neg1le, lp_neg1eq, lp_neg1eq2, if_true, if_false, if_pos, if_neg, Option.bind_some, Nat.lt_irrefl, Nat.le_refl, true_and, and_true, false_or, or_false, true_or, or_true, not_true_eq_false, not_false_eq_true, and_self, or_self, false_and, and_false, ite_true, ite_false, reduceIte]
theorem s154 {d i k : Nat} {s : lp_M} {r : Nat → Int32} (hr : lp_Ok r) (c : lp_CN s 1 r) (hi : i < lp_vN r) (hk : s 336 1 = nI k) (hle : k + (lp_lampT r i).length ≤ 900) : lp_rn (d + 7) 154 [.ref 0, .int (nI i)] (lp_s0 s) = some (nI 0, lp_s0 (lp_ps 336 1 337 s (lp_lampT r i))) := by
  have hn : lp_vN r ≤ 10 := hr.2.2.2.1
  have hm : lp_vM r ≤ 5 := by have := hr.2.1; omega
  obtain ⟨zS, bS⟩ := lp_cS hr c i hi
  obtain ⟨zG, bG⟩ := lp_cG hr c i hi
  obtain ⟨zA, bA, _⟩ := lp_cA hr c i i hi hi
  unfold lp_lampT at hle ⊢
  simp only [List.length_append] at hle
  have E1 := s14L (d := d) (w := 8) (n := lp_vS r i) (by omega) (by omega) hk (by (try simp only [List.length_append]); omega)
  have a1 := lp_ps_len (c := 336) (f := 1) (e := 337) (ws := lp_swd 8 ++ lp_dig (lp_vS r i)) (by omega) hk (by (try simp only [List.length_append]); omega)
  rw [lp_ps_app]
  generalize hs1 : lp_ps 336 1 337 s (lp_swd 8 ++ lp_dig (lp_vS r i)) = s1 at E1 a1 ⊢
  have f1 : ∀ q, q ≠ 336 → q ≠ 337 → s1 q = s q := fun q h1 h2 => by rw [← hs1, lp_ps_fr _ _ _ _ _ _ h1 h2]
  have zA1 : s1 (4 + 1 + i) i = nI (lp_vA r i i) := by rw [f1 _ (by omega) (by omega)]; exact zA
  have P : lp_rn (d + 7) 154 [.ref 0, .int (nI i)] (lp_s0 s) = lp_fn (d + 6) 154 19 [.ref 0, .int (nI i)] [] (lp_s0 s1) := by
    simp (disch := omega) only [e154_0, zS, E1, nI_leI, nI_ltI, nI_eq, nI_clamp, lp_oobN, nI_add, pk_mul, pk_sub, pk_rem, pk_m1, lp_neg1lt, lp_neg1le, lp_neg1eq, lp_neg1eq2, if_true, if_false, if_pos, if_neg, Option.bind_some, Nat.lt_irrefl, Nat.le_refl, true_and, and_true, false_or, or_false, true_or, or_true, not_true_eq_false, not_false_eq_true, and_self, or_self, false_and, and_false, ite_true, ite_false, reduceIte]
  rw [P, lp_ps_app]
  unfold lp_owT at hle ⊢
  by_cases e : lp_vA r i i = 1
  · rw [if_pos e] at hle ⊢
    rw [lp_ps_nil]
    rw [← s154g (d := d) (i := i) (x := lp_vG r i) (by omega) (by rw [f1 _ (by omega) (by omega)]; exact zG) (by omega) a1 (by have : ([] : List Nat).length = 0 := rfl; (try simp only [List.length_append]); omega)]
    rw [e154_0_19, e154_0_55]
    simp (disch := omega) only [lp_rA4, lp_rB4, zA1, e, nI_leI, nI_ltI, nI_eq, nI_clamp, lp_oobN, nI_add, pk_mul, pk_sub, pk_rem, pk_m1, lp_neg1lt, lp_neg1le, lp_neg1eq, lp_neg1eq2, if_true, if_false, if_pos, if_neg, Option.bind_some, Nat.lt_irrefl, Nat.le_refl, true_and, and_true, false_or, or_false, true_or, or_true, not_true_eq_false, not_false_eq_true, and_self, or_self, false_and, and_false, ite_true, ite_false, reduceIte]
  · rw [if_neg e] at hle ⊢
    try simp only [List.length_append] at hle
    have E2 := s14L (d := d) (w := 9) (n := lp_vA r i i) (by omega) (by omega) a1 (by (try simp only [List.length_append]); omega)
    have a2 := lp_ps_len (c := 336) (f := 1) (e := 337) (ws := lp_swd 9 ++ lp_dig (lp_vA r i i)) (by omega) a1 (by (try simp only [List.length_append]); omega)
    rw [← s154g (d := d) (i := i) (x := lp_vG r i) (by omega) (by rw [lp_ps_fr _ _ _ _ _ _ (by omega) (by omega), f1 _ (by omega) (by omega)]; exact zG) (by omega) a2 (by (try simp only [List.length_append]); omega)]
    rw [e154_0_19]
    simp (disch := omega) only [lp_rA4, lp_rB4, zA1, e, E2, nI_leI, nI_ltI, nI_eq, nI_clamp, lp_oobN, nI_add, pk_mul, pk_sub, pk_rem, pk_m1, lp_neg1lt, lp_neg1le, lp_neg1eq, lp_neg1eq2, if_true, if_false, if_pos, if_neg, Option.bind_some, Nat.lt_irrefl, Nat.le_refl, true_and, and_true, false_or, or_false, true_or, or_true, not_true_eq_false, not_false_eq_true, and_self, or_self, false_and, and_false, ite_true, ite_false, reduceIte]
/-- the class writes a wire -/
theorem s155 {d a b k : Nat} {s : lp_M} {r : Nat → Int32} (hr : lp_Ok r) (c : lp_CN s 1 r) (ha : a < lp_vN r) (hb : b < lp_vN r) (he : ¬ lp_vA r a b = 0) (hk : s 336 1 = nI k) (hle : k + (lp_wireT r a b).length ≤ 900) : lp_rn (d + 7) 155 [.ref 0, .int (nI a), .int (nI b)] (lp_s0 s) = some (nI 0, lp_s0 (lp_ps 336 1 337 s (lp_wireT r a b))) := by
  have hn : lp_vN r ≤ 10 := hr.2.2.2.1
  have hm : lp_vM r ≤ 5 := by have := hr.2.1; omega
  obtain ⟨zA, bA, _⟩ := lp_cA hr c a b ha hb
  unfold lp_wireT at hle ⊢
  rw [if_neg he] at hle ⊢
  simp only [List.length_append] at hle
  have E1 := s14L (d := d) (w := 11) (n := a) (by omega) (by omega) hk (by (try simp only [List.length_append]); omega)
  have a1 := lp_ps_len (c := 336) (f := 1) (e := 337) (ws := lp_swd 11 ++ lp_dig a) (by omega) hk (by (try simp only [List.length_append]); omega)
  have E2 := s14L (d := d) (w := 12) (n := b) (by omega) (by omega) a1 (by (try simp only [List.length_append]); omega)
  have a2 := lp_ps_len (c := 336) (f := 1) (e := 337) (ws := lp_swd 12 ++ lp_dig b) (by omega) a1 (by (try simp only [List.length_append]); omega)
  rw [lp_ps_app, lp_ps_app, lp_ps_app _ _ _ _ (lp_byT _)]
  generalize hs1 : lp_ps 336 1 337 s (lp_swd 11 ++ lp_dig a) = s1 at E1 E2 a1 a2 ⊢
  generalize hs2 : lp_ps 336 1 337 s1 (lp_swd 12 ++ lp_dig b) = s2 at E2 a2 ⊢
  have f2 : ∀ q, q ≠ 336 → q ≠ 337 → s2 q = s q := fun q h1 h2 => by rw [← hs2, lp_ps_fr _ _ _ _ _ _ h1 h2, ← hs1, lp_ps_fr _ _ _ _ _ _ h1 h2]
  have zA2 : s2 (4 + 1 + a) b = nI (lp_vA r a b) := by rw [f2 _ (by omega) (by omega)]; exact zA
  unfold lp_byT at hle ⊢
  by_cases e : lp_vA r a b = 1
  · rw [if_pos e] at hle ⊢
    rw [lp_ps_nil]
    have E3 := s13L (d := d + 1) (w := 7) (by omega) a2 (by have : ([] : List Nat).length = 0 := rfl; (try simp only [List.length_append]); omega)
    simp (disch := omega) only [e155_0, E1, e155_0_11, E2, e155_0_22, lp_rA4, lp_rB4, zA2, e, E3, e155_0_68, nI_leI, nI_ltI, nI_eq, nI_clamp, lp_oobN, nI_add, pk_mul, pk_sub, pk_rem, pk_m1, lp_neg1lt, lp_neg1le, lp_neg1eq, lp_neg1eq2, if_true, if_false, if_pos, if_neg, Option.bind_some, Nat.lt_irrefl, Nat.le_refl, true_and, and_true, false_or, or_false, true_or, or_true, not_true_eq_false, not_false_eq_true, and_self, or_self, false_and, and_false, ite_true, ite_false, reduceIte]
  · rw [if_neg e] at hle ⊢
    try simp only [List.length_append] at hle
    have E3 := s14L (d := d) (w := 13) (n := lp_vA r a b) (by omega) (by omega) a2 (by (try simp only [List.length_append]); omega)
    have a3 := lp_ps_len (c := 336) (f := 1) (e := 337) (ws := lp_swd 13 ++ lp_dig (lp_vA r a b)) (by omega) a2 (by (try simp only [List.length_append]); omega)
    have E4 := s13L (d := d + 1) (w := 7) (by omega) a3 (by (try simp only [List.length_append]); omega)
    simp (disch := omega) only [e155_0, E1, e155_0_11, E2, e155_0_22, lp_rA4, lp_rB4, zA2, e, E3, e155_0_58, E4, e155_0_68, nI_leI, nI_ltI, nI_eq, nI_clamp, lp_oobN, nI_add, pk_mul, pk_sub, pk_rem, pk_m1, lp_neg1lt, lp_neg1le, lp_neg1eq, lp_neg1eq2, if_true, if_false, if_pos, if_neg, Option.bind_some, Nat.lt_irrefl, Nat.le_refl, true_and, and_true, false_or, or_false, true_or, or_true, not_true_eq_false, not_false_eq_true, and_self, or_self, false_and, and_false, ite_true, ite_false, reduceIte]
/-- the class writes the net -/
theorem s153 {d : Nat} {g : lp_M} {r : Nat → Int32} (hr : lp_Ok r) (c : lp_CN g 1 r) : ∃ g', lp_rn (d + 8) 153 [.ref 0] (lp_s0 g) = some (nI 0, lp_s0 g') ∧ g' 336 0 = nI 1 ∧ lp_lnk g' 336 1 337 (lp_spT r) ∧ ∀ q, q ≠ 336 → q ≠ 337 → g' q = g q := by
  have hn : lp_vN r ≤ 10 := hr.2.2.2.1
  have hm : lp_vM r ≤ 5 := by have := hr.2.1; omega
  generalize hg0 : lp_w (lp_w g 336 1 (nI 0)) 336 0 (nI 1) = g0
  have k0 : g0 336 1 = nI 0 := by rw [← hg0, lp_w_eq, pk_un (by omega), lp_w_eq, pk_us]
  have k00 : g0 336 0 = nI 1 := by rw [← hg0, lp_w_eq, pk_us]
  have f0 : ∀ q, q ≠ 336 → g0 q = g q := fun q h => by rw [← hg0, lp_w_ne h, lp_w_ne h]
  have E0 : lp_rn (d + 7) 12 [.ref 336] (lp_s0 g) = some (nI 0, lp_s0 g0) := by rw [← hg0, e12_336, e12_336_5]
  have lh := lp_hdT_le hr
  have ltl := lp_tl_le hr
  have ltr := fun a ha => lp_tr_le hr (a := a) ha
  have ltw := lp_tww_le hr
  have fr : ∀ ws q, q ≠ 336 → q ≠ 337 → lp_ps 336 1 337 g0 ws q = g q := fun ws q h1 h2 => by rw [lp_ps_fr _ _ _ _ _ _ h1 h2, f0 q h1]
  have cn : ∀ ws, lp_CN (lp_ps 336 1 337 g0 ws) 1 r := fun ws => lp_CN_fr hn (fun q q1 q2 => fr ws q (by omega) (by omega)) c
  have n1 : ∀ ws, lp_ps 336 1 337 g0 ws 1 1 = nI (lp_vN r) := fun ws => by rw [fr ws _ (by omega) (by omega)]; exact c.2.1.trans hr.2.2.1
  have len : ∀ ws : List Nat, ws.length ≤ 1000 → lp_ps 336 1 337 g0 ws 336 1 = nI ws.length := fun ws h => by
    have := lp_ps_len (c := 336) (f := 1) (e := 337) (ws := ws) (by omega) k0 (by omega)
    rw [Nat.zero_add] at this; exact this
  -- the head
  have H1 : lp_rn (d + 8) 153 [.ref 0] (lp_s0 g) = lp_fn (d + 7) 153 36 [.ref 0, .int (nI 0), .long 0] [] (lp_s0 (lp_ps 336 1 337 g0 (lp_hdT r ++ lp_tl r 0))) := by
    have z : g0 1 0 = nI (lp_vM r) := by rw [f0 _ (by omega)]; exact c.1.trans hr.1
    have l1 : (lp_swd 6 ++ lp_dig (lp_vM r)).length = 8 := by rw [List.length_append, lp_swN.1, lp_dig1 (by omega)]
    have E1 := s14L (d := d + 1) (w := 6) (n := lp_vM r) (by omega) (by omega) k0 (by omega)
    have E2 := s13L (d := d + 2) (w := 7) (by omega) (len (lp_swd 6 ++ lp_dig (lp_vM r)) (by omega)) (by rw [lp_swN.2.1]; omega)
    have e : lp_hdT r ++ lp_tl r 0 = (lp_swd 6 ++ lp_dig (lp_vM r)) ++ lp_swd 7 := List.append_nil _
    rw [e, lp_ps_app]
    simp (disch := omega) only [e153_0, E0, e153_0_7, z, E1, e153_0_24, E2, e153_0_34, if_true, if_false, if_pos, if_neg, Option.bind_some, Nat.lt_irrefl, Nat.le_refl, true_and, and_true, false_or, or_false, true_or, or_true, not_true_eq_false, not_false_eq_true, and_self, or_self, false_and, and_false, ite_true, ite_false, reduceIte]
  -- the lamps
  have H2 := lp_iter (fun i => lp_fn (d + 7) 153 36 [.ref 0, .int (nI i), .long 0] [] (lp_s0 (lp_ps 336 1 337 g0 (lp_hdT r ++ lp_tl r i)))) (lp_vN r) (fun i hi => by
    have l1 := ltl i (by omega)
    have l2 := lp_lampT_le hr hi
    have l3 : (lp_hdT r ++ lp_tl r i).length ≤ 209 := by rw [List.length_append]; omega
    have E := s154 (d := d) hr (cn (lp_hdT r ++ lp_tl r i)) hi (len _ (by omega)) (by omega)
    rw [← lp_ps_app, List.append_assoc] at E
    show lp_fn (d + 7) 153 36 _ _ _ = lp_fn (d + 7) 153 36 [.ref 0, .int (nI (i + 1)), .long 0] [] (lp_s0 (lp_ps 336 1 337 g0 (lp_hdT r ++ (lp_tl r i ++ lp_lampT r i))))
    rw [e153_0_36]
    simp (disch := omega) only [n1, E, e153_0_52, nI_leI, nI_ltI, nI_eq, nI_clamp, lp_oobN, nI_add, pk_mul, pk_sub, pk_rem, pk_m1, lp_neg1lt, lp_neg1le, lp_neg1eq, lp_neg1eq2, if_true, if_false, if_pos, if_neg, Option.bind_some, Nat.lt_irrefl, Nat.le_refl, true_and, and_true, false_or, or_false, true_or, or_true, not_true_eq_false, not_false_eq_true, and_self, or_self, false_and, and_false, ite_true, ite_false, reduceIte])
  have H3 : lp_fn (d + 7) 153 36 [.ref 0, .int (nI (lp_vN r)), .long 0] [] (lp_s0 (lp_ps 336 1 337 g0 (lp_hdT r ++ lp_tl r (lp_vN r)))) = lp_fn (d + 7) 153 60 [.ref 0, .int (nI 0), .long 0] [] (lp_s0 (lp_ps 336 1 337 g0 ((lp_hdT r ++ lp_tl r (lp_vN r)) ++ lp_tww r 0))) := by
    have e : (lp_hdT r ++ lp_tl r (lp_vN r)) ++ lp_tww r 0 = lp_hdT r ++ lp_tl r (lp_vN r) := List.append_nil _
    rw [e, e153_0_36]
    simp (disch := omega) only [n1, nI_leI, nI_ltI, nI_eq, nI_clamp, lp_oobN, nI_add, pk_mul, pk_sub, pk_rem, pk_m1, lp_neg1lt, lp_neg1le, lp_neg1eq, lp_neg1eq2, if_true, if_false, if_pos, if_neg, Option.bind_some, Nat.lt_irrefl, Nat.le_refl, true_and, and_true, false_or, or_false, true_or, or_true, not_true_eq_false, not_false_eq_true, and_self, or_self, false_and, and_false, ite_true, ite_false, reduceIte]
  have lA : (lp_hdT r ++ lp_tl r (lp_vN r)).length ≤ 209 := by have := ltl _ (Nat.le_refl _); rw [List.length_append]; omega
  generalize hA : lp_hdT r ++ lp_tl r (lp_vN r) = A at H2 H3 lA
  -- the wires
  obtain ⟨x, H4, -⟩ := lp_itE (fun a (x : Value) => lp_fn (d + 7) 153 60 [.ref 0, .int (nI a), x] [] (lp_s0 (lp_ps 336 1 337 g0 (A ++ lp_tww r a)))) (fun _ _ => True) 0 (lp_vN r) (.long 0) (by omega) trivial (fun a x _ ha _ => by
    have l1 := ltw a (by omega)
    have l2 := lp_tri_le (a + 1) (by omega)
    have l3 : lp_tri (a + 1) = lp_tri a + (9 - a) := rfl
    have I := lp_iter (fun k => lp_fn (d + 7) 153 75 [.ref 0, .int (nI a), .int (nI (a + 1 + k))] [] (lp_s0 (lp_ps 336 1 337 g0 (A ++ (lp_tww r a ++ lp_tr r a k))))) (lp_vN r - 1 - a) (fun k hk => by
      have l4 := ltr a ha k (by omega)
      have l5 := lp_wireT_le hr ha (b := a + 1 + k) (by omega)
      have l6 : (A ++ (lp_tww r a ++ lp_tr r a k)).length ≤ 209 + 14 * lp_tri a + 14 * k := by rw [List.length_append, List.length_append]; omega
      obtain ⟨zA, bA, -⟩ := lp_cA hr (cn (A ++ (lp_tww r a ++ lp_tr r a k))) a (a + 1 + k) ha (by omega)
      have e1 : a + 1 + (k + 1) = a + 1 + k + 1 := by omega
      show lp_fn (d + 7) 153 75 _ _ _ = lp_fn (d + 7) 153 75 [.ref 0, .int (nI a), .int (nI (a + 1 + (k + 1)))] [] (lp_s0 (lp_ps 336 1 337 g0 (A ++ (lp_tww r a ++ (lp_tr r a k ++ lp_wireT r a (a + 1 + k))))))
      rw [e153_0_75, e1]
      by_cases e : lp_vA r a (a + 1 + k) = 0
      · have e2 : lp_wireT r a (a + 1 + k) = [] := if_pos e
        rw [e2, List.append_nil]
        simp (disch := omega) only [n1, lp_rA4, lp_rB4, zA, e, nI_leI, nI_ltI, nI_eq, nI_clamp, lp_oobN, nI_add, pk_mul, pk_sub, pk_rem, pk_m1, lp_neg1lt, lp_neg1le, lp_neg1eq, lp_neg1eq2, if_true, if_false, if_pos, if_neg, Option.bind_some, Nat.lt_irrefl, Nat.le_refl, true_and, and_true, false_or, or_false, true_or, or_true, not_true_eq_false, not_false_eq_true, and_self, or_self, false_and, and_false, ite_true, ite_false, reduceIte]
      · have E := s155 (d := d) hr (cn (A ++ (lp_tww r a ++ lp_tr r a k))) ha (b := a + 1 + k) (by omega) e (len _ (by omega)) (by omega)
        rw [← lp_ps_app, List.append_assoc, List.append_assoc] at E
        simp (disch := omega) only [n1, lp_rA4, lp_rB4, zA, e, E, e153_0_106, nI_leI, nI_ltI, nI_eq, nI_clamp, lp_oobN, nI_add, pk_mul, pk_sub, pk_rem, pk_m1, lp_neg1lt, lp_neg1le, lp_neg1eq, lp_neg1eq2, if_true, if_false, if_pos, if_neg, Option.bind_some, Nat.lt_irrefl, Nat.le_refl, true_and, and_true, false_or, or_false, true_or, or_true, not_true_eq_false, not_false_eq_true, and_self, or_self, false_and, and_false, ite_true, ite_false, reduceIte])
    refine ⟨.int (nI (lp_vN r)), ?_, trivial⟩
    show lp_fn (d + 7) 153 60 _ _ _ = lp_fn (d + 7) 153 60 [.ref 0, .int (nI (a + 1)), .int (nI (lp_vN r))] [] (lp_s0 (lp_ps 336 1 337 g0 (A ++ (lp_tww r a ++ lp_tr r a (lp_vN r - 1 - a)))))
    have e3 : a + 1 + (lp_vN r - 1 - a) = lp_vN r := by omega
    rw [e153_0_60]
    simp (disch := omega) only [n1, nI_leI, nI_ltI, nI_eq, nI_clamp, lp_oobN, nI_add, pk_mul, pk_sub, pk_rem, pk_m1, lp_neg1lt, lp_neg1le, lp_neg1eq, lp_neg1eq2, if_true, if_false, if_pos, if_neg, Option.bind_some, Nat.lt_irrefl, Nat.le_refl, true_and, and_true, false_or, or_false, true_or, or_true, not_true_eq_false, not_false_eq_true, and_self, or_self, false_and, and_false, ite_true, ite_false, reduceIte]
    have I' : lp_fn (d + 7) 153 75 [.ref 0, .int (nI a), .int (nI (a + 1))] [] (lp_s0 (lp_ps 336 1 337 g0 (A ++ lp_tww r a))) = lp_fn (d + 7) 153 75 [.ref 0, .int (nI a), .int (nI (lp_vN r))] [] (lp_s0 (lp_ps 336 1 337 g0 (A ++ (lp_tww r a ++ lp_tr r a (lp_vN r - 1 - a))))) := by
      have z : lp_tww r a ++ lp_tr r a 0 = lp_tww r a := List.append_nil _
      rw [e3, z] at I
      exact I
    rw [I', e153_0_75]
    simp (disch := omega) only [n1, nI_leI, nI_ltI, nI_eq, nI_clamp, lp_oobN, nI_add, pk_mul, pk_sub, pk_rem, pk_m1, lp_neg1lt, lp_neg1le, lp_neg1eq, lp_neg1eq2, if_true, if_false, if_pos, if_neg, Option.bind_some, Nat.lt_irrefl, Nat.le_refl, true_and, and_true, false_or, or_false, true_or, or_true, not_true_eq_false, not_false_eq_true, and_self, or_self, false_and, and_false, ite_true, ite_false, reduceIte])
  have H5 : lp_fn (d + 7) 153 60 [.ref 0, .int (nI (lp_vN r)), x] [] (lp_s0 (lp_ps 336 1 337 g0 (A ++ lp_tww r (lp_vN r)))) = some (nI 0, lp_s0 (lp_ps 336 1 337 g0 (A ++ lp_tww r (lp_vN r)))) := by
    rw [e153_0_60]
    simp (disch := omega) only [n1, nI_leI, nI_ltI, nI_eq, nI_clamp, lp_oobN, nI_add, pk_mul, pk_sub, pk_rem, pk_m1, lp_neg1lt, lp_neg1le, lp_neg1eq, lp_neg1eq2, if_true, if_false, if_pos, if_neg, Option.bind_some, Nat.lt_irrefl, Nat.le_refl, true_and, and_true, false_or, or_false, true_or, or_true, not_true_eq_false, not_false_eq_true, and_self, or_self, false_and, and_false, ite_true, ite_false, reduceIte]
  have eS : lp_spT r = A ++ lp_tww r (lp_vN r) := by unfold lp_spT; rw [hA]
  have lS := lp_spT_le hr
  rw [eS] at lS ⊢
  obtain ⟨b1, b2, b3, b4, b5⟩ := lp_ps_all (c := 336) (f := 1) (e := 337) (by omega) (A ++ lp_tww r (lp_vN r)) g0 0 k0 (by omega)
  refine ⟨_, H1.trans (H2.trans (H3.trans (H4.trans H5))), by rw [b5 _ (by omega)]; exact k00, ⟨len _ (by omega), fun i hi => ?_⟩, fun q h1 h2 => fr _ q h1 h2⟩
  have := b2 i hi
  rw [Nat.zero_add] at this
  exact this
