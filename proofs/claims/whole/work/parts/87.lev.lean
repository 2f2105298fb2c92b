/-! ===== levels: what the model has laid ===== -/
/-- a way's level: the least sum of a row that reaches it -/
def lp_Lev (M n : Nat) (A : Nat → Nat → Nat) (S : Nat → Nat) (w k : Nat) : Prop := (∃ x, lp_to M n A S x = w ∧ lp_sm x n = k) ∧ ∀ x, lp_to M n A S x = w → k ≤ lp_sm x n
theorem lp_Lev_uniq {M n w k k' : Nat} {A : Nat → Nat → Nat} {S : Nat → Nat} (h : lp_Lev M n A S w k) (h' : lp_Lev M n A S w k') : k = k' := by
  obtain ⟨⟨x, x1, x2⟩, h2⟩ := h
  obtain ⟨⟨y, y1, y2⟩, h2'⟩ := h'
  have a := h2 y y1
  have b := h2' x x1
  omega
theorem lp_Bf_Q {M n q : Nat} {A : Nat → Nat → Nat} {S : Nat → Nat} {g s : lp_M} {Q lv : Nat → Nat} (hM : 0 < M) (hS : ∀ i, i < n → S i < M) (b : lp_Bf g s M n A S q 0 q Q lv) :
    (∀ i, i < q → lp_Lev M n A S (Q i) (lv (Q i))) ∧ ∀ x, ∃ j, j < q ∧ Q j = lp_to M n A S x := by
  obtain ⟨⟨fr, fj, sz, pos, q0, l0⟩, en, un, inj, mono, near, sound, dn, dn'⟩ := b
  have cl := lp_closed (A := A) (lv := lv) hM hS pos q0 l0 (fun i hi l hl => dn i hi l hl)
  refine ⟨fun i hi => ⟨sound i hi, fun x hx => ?_⟩, fun x => ?_⟩
  · obtain ⟨j, j1, j2, j3⟩ := cl _ x rfl
    have : j = i := inj j i j1 hi (by rw [j2, hx])
    rw [this] at j3; exact j3
  · obtain ⟨j, j1, j2, _⟩ := cl _ x rfl
    exact ⟨j, j1, j2⟩
theorem lp_Bf_lev {M n q w : Nat} {A : Nat → Nat → Nat} {S : Nat → Nat} {g s : lp_M} {Q lv : Nat → Nat} (hM : 0 < M) (hS : ∀ i, i < n → S i < M) (hN : M ^ n ≤ 60000) (b : lp_Bf g s M n A S q 0 q Q lv) (hw : w < M ^ n) :
    (s 363 w = -1 ∧ ∀ x, lp_to M n A S x ≠ w) ∨ ∃ k, k < 60000 ∧ s 363 w = nI k ∧ lp_Lev M n A S w k := by
  obtain ⟨c1, c2⟩ := lp_Bf_Q hM hS b
  have qN : q ≤ M ^ n := lp_pigeon (fun a ha => (b.2.1 a ha).2.1) (fun a c ha hc => b.2.2.2.1 a c ha hc)
  by_cases z : ∃ i, i < q ∧ Q i = w
  · obtain ⟨i, hi, e⟩ := z
    obtain ⟨e1, e2, e3, e4⟩ := b.2.1 i hi
    right
    refine ⟨lv (Q i), by omega, by rw [← e]; exact e3, by rw [← e]; exact c1 i hi⟩
  · left
    refine ⟨?_, fun x hx => ?_⟩
    · rcases b.2.2.1 w hw with y | y
      · exact y
      · exact absurd y z
    · obtain ⟨j, j1, j2⟩ := c2 x
      exact z ⟨j, j1, by rw [j2, hx]⟩
/-- how many ways have a level, in the queue and in all -/
theorem lp_Bf_cnt {M n q k : Nat} {A : Nat → Nat → Nat} {S : Nat → Nat} {g s : lp_M} {Q lv : Nat → Nat} (hM : 0 < M) (hS : ∀ i, i < n → S i < M) (b : lp_Bf g s M n A S q 0 q Q lv) :
    lp_cc (fun i => lv (Q i) = k) q = lp_cc (fun w => lp_Lev M n A S w k) (M ^ n) := by
  obtain ⟨c1, c2⟩ := lp_Bf_Q hM hS b
  have e := lp_cc_inj (P := fun w => lp_Lev M n A S w k) (φ := Q) (K := M ^ n) q (fun a ha => (b.2.1 a ha).2.1) (fun a c ha hc => b.2.2.2.1 a c ha hc)
  have e1 : lp_cc (fun i => lv (Q i) = k) q = lp_cc (fun i => lp_Lev M n A S (Q i) k) q := lp_cc_cg fun i hi => ⟨fun z => by rw [← z]; exact c1 i hi, fun z => lp_Lev_uniq (c1 i hi) z⟩
  rw [e1, e]
  refine lp_cc_cg fun w hw => ⟨fun z => z.1, fun z => ⟨z, ?_⟩⟩
  obtain ⟨⟨x, x1, _⟩, _⟩ := z
  obtain ⟨j, j1, j2⟩ := c2 x
  exact ⟨j, j1, by rw [j2, x1]⟩
