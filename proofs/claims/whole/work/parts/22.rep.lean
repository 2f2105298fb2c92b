/-! ===== nets as rows of 174 numbers, and how the class holds them ===== -/
def lp_vM (r : Nat → Int32) : Nat := (r 0).toNatClampNeg
def lp_vN (r : Nat → Int32) : Nat := (r 1).toNatClampNeg
def lp_vB (r : Nat → Int32) : Nat := (r 3).toNatClampNeg
def lp_vS (r : Nat → Int32) (i : Nat) : Nat := (r (4 + i)).toNatClampNeg
def lp_vG (r : Nat → Int32) (i : Nat) : Nat := (r (24 + i)).toNatClampNeg
def lp_stp (r : Nat → Int32) (i j : Nat) : Int32 := if i = j then r (14 + i) else r (34 + 10 * i + j)
def lp_vA (r : Nat → Int32) (i j : Nat) : Nat := (lp_stp r i j).toNatClampNeg
/-- a row that is a net -/
def lp_Ok (r : Nat → Int32) : Prop :=
  r 0 = nI (lp_vM r) ∧ (lp_vM r = 2 ∨ lp_vM r = 3 ∨ lp_vM r = 5) ∧ r 1 = nI (lp_vN r) ∧ lp_vN r ≤ 10 ∧
  (∀ i, i < lp_vN r → r (4 + i) = nI (lp_vS r i) ∧ lp_vS r i < lp_vM r) ∧
  (∀ i, i < lp_vN r → r (24 + i) = nI (lp_vG r i) ∧ lp_vG r i < lp_vM r) ∧
  (∀ i j, i < lp_vN r → j < lp_vN r → lp_stp r i j = nI (lp_vA r i j) ∧ lp_vA r i j < lp_vM r ∧ lp_vA r i j = lp_vA r j i) ∧
  (∀ i, i < lp_vN r → r (34 + 10 * i + i) = nI 0) ∧ r 3 = nI (lp_vB r) ∧ lp_vB r ≤ 20
theorem lp_Ok_mk {r : Nat → Int32} {m n b : Nat} {S G : Nat → Nat} {A : Nat → Nat → Nat} (h0 : r 0 = nI m) (hm : m = 2 ∨ m = 3 ∨ m = 5) (h1 : r 1 = nI n) (hn : n ≤ 10)
    (hS : ∀ i, i < n → r (4 + i) = nI (S i) ∧ S i < m) (hG : ∀ i, i < n → r (24 + i) = nI (G i) ∧ G i < m)
    (hA : ∀ i j, i < n → j < n → lp_stp r i j = nI (A i j) ∧ A i j < m ∧ A i j = A j i) (hD : ∀ i, i < n → r (34 + 10 * i + i) = nI 0) (h3 : r 3 = nI b) (hb : b ≤ 20) :
    lp_Ok r ∧ lp_vM r = m ∧ lp_vN r = n ∧ lp_vB r = b ∧ (∀ i, i < n → lp_vS r i = S i ∧ lp_vG r i = G i) ∧ ∀ i j, i < n → j < n → lp_vA r i j = A i j := by
  have em : lp_vM r = m := by unfold lp_vM; rw [h0, nI_clamp (by omega)]
  have en : lp_vN r = n := by unfold lp_vN; rw [h1, nI_clamp (by omega)]
  have eb : lp_vB r = b := by unfold lp_vB; rw [h3, nI_clamp (by omega)]
  have eS : ∀ i, i < n → lp_vS r i = S i := fun i hi => by have := hS i hi; unfold lp_vS; rw [this.1, nI_clamp (by omega)]
  have eG : ∀ i, i < n → lp_vG r i = G i := fun i hi => by have := hG i hi; unfold lp_vG; rw [this.1, nI_clamp (by omega)]
  have eA : ∀ i j, i < n → j < n → lp_vA r i j = A i j := fun i j hi hj => by have := hA i j hi hj; unfold lp_vA; rw [this.1, nI_clamp (by omega)]
  refine ⟨⟨by rw [em]; exact h0, by rw [em]; exact hm, by rw [en]; exact h1, by rw [en]; exact hn, ?_, ?_, ?_, by rw [en]; exact hD, by rw [eb]; exact h3, by rw [eb]; exact hb⟩, em, en, eb, fun i hi => ⟨eS i hi, eG i hi⟩, eA⟩
  · rw [en, em]; intro i hi; rw [eS i hi]; exact hS i hi
  · rw [en, em]; intro i hi; rw [eG i hi]; exact hG i hi
  · rw [en, em]; intro i j hi hj; rw [eA i j hi hj, eA j i hj hi]; exact hA i j hi hj
/-- the class's net at o is the row r -/
def lp_CN (g : lp_M) (o : Nat) (r : Nat → Int32) : Prop :=
  g o 0 = r 0 ∧ g o 1 = r 1 ∧ g o 2 = r 2 ∧ g (o + 14) 0 = r 3 ∧
  (∀ i, i < lp_vN r → g (o + 1) i = r (4 + i)) ∧ (∀ i, i < lp_vN r → g (o + 2) i = r (24 + i)) ∧
  (∀ i j, i < lp_vN r → j < lp_vN r → g (o + 4 + i) j = lp_stp r i j) ∧
  (∀ k, k < lp_vB r → g (o + 15) k = r (134 + 2 * (lp_vB r - 1 - k)) ∧ g (o + 16) k = r (134 + 2 * (lp_vB r - 1 - k) + 1))
theorem lp_CN_fr {g g' : lp_M} {o : Nat} {r : Nat → Int32} (hn : lp_vN r ≤ 10) (h : ∀ q, o ≤ q → q < o + 17 → g' q = g q) (c : lp_CN g o r) : lp_CN g' o r := by
  obtain ⟨c0, c1, c2, c3, c4, c5, c6, c7⟩ := c
  refine ⟨?_, ?_, ?_, ?_, ?_, ?_, ?_, ?_⟩
  · rw [h _ (by omega) (by omega)]; exact c0
  · rw [h _ (by omega) (by omega)]; exact c1
  · rw [h _ (by omega) (by omega)]; exact c2
  · rw [h _ (by omega) (by omega)]; exact c3
  · intro i hi; rw [h _ (by omega) (by omega)]; exact c4 i hi
  · intro i hi; rw [h _ (by omega) (by omega)]; exact c5 i hi
  · intro i j hi hj; rw [h _ (by omega) (by omega)]; exact c6 i j hi hj
  · intro k hk; rw [h _ (by omega) (by omega), h _ (by omega) (by omega)]; exact c7 k hk
/-- how things were, the latest first, in the class -/
def lp_CP (g : lp_M) (a : Nat) (p : Nat → Nat → Int32) : Prop :=
  a ≤ 12 ∧ g 18 0 = nI a ∧ ∃ nx, nx < 12 ∧ g 18 1 = nI nx ∧ ∀ k, k < a → lp_Ok (p k) ∧ lp_CN g (20 + 17 * ((nx + 11 - k) % 12)) (p k)
theorem lp_CP_fr {g g' : lp_M} {a : Nat} {p : Nat → Nat → Int32} (h : ∀ q, 18 ≤ q → q < 224 → g' q = g q) (c : lp_CP g a p) : lp_CP g' a p := by
  obtain ⟨c0, c1, nx, c2, c3, c4⟩ := c
  refine ⟨c0, by rw [h _ (by omega) (by omega)]; exact c1, nx, c2, by rw [h _ (by omega) (by omega)]; exact c3, fun k hk => ⟨(c4 k hk).1, ?_⟩⟩
  refine lp_CN_fr (c4 k hk).1.2.2.2.1 (fun q h1 h2 => h q (by omega) ?_) (c4 k hk).2
  have := Nat.mod_lt (nx + 11 - k) (y := 12) (by omega)
  omega
/-- how things were, in the model -/
def lp_MP (g : lp_M) (a : Nat) (p : Nat → Nat → Int32) : Prop :=
  g 343 5 = nI a ∧ ∀ k, k < a → ∀ j, j < 174 → g 347 (174 * (a - 1 - k) + j) = p k j
/-- a cell that is a net -/
def lp_nets : List Nat := [1, 20, 37, 54, 71, 88, 105, 122, 139, 156, 173, 190, 207, 225]
theorem lp_netsK {k : Nat} (h : k < 12) : 20 + 17 * k ∈ lp_nets := by
  have : ∀ k, k < 12 → 20 + 17 * k ∈ lp_nets := by decide
  exact this k h
theorem lp_netF {o : Nat} (h : o ∈ lp_nets) : (lp_sh o).1 = 3 ∧ o < 340 ∧ lp_tg o 3 = o + 1 ∧ lp_tg o 4 = o + 2 ∧ lp_tg o 5 = o + 3 ∧ lp_tg o 6 = o + 14 ∧ lp_sh (o + 1) = (20, 10) ∧ lp_sh (o + 2) = (20, 10) ∧ lp_sh (o + 3) = (23, 10) ∧ (lp_sh (o + 14)).1 = 0 ∧ lp_tg (o + 14) 1 = o + 15 ∧ lp_tg (o + 14) 2 = o + 16 ∧ lp_sh (o + 15) = (20, 20) ∧ lp_sh (o + 16) = (20, 20) ∧ ∀ i, i < 10 → lp_tg (o + 3) i = o + 4 + i ∧ lp_sh (o + 4 + i) = (20, 10) := by
  have : ∀ o ∈ lp_nets, (lp_sh o).1 = 3 ∧ o < 340 ∧ lp_tg o 3 = o + 1 ∧ lp_tg o 4 = o + 2 ∧ lp_tg o 5 = o + 3 ∧ lp_tg o 6 = o + 14 ∧ lp_sh (o + 1) = (20, 10) ∧ lp_sh (o + 2) = (20, 10) ∧ lp_sh (o + 3) = (23, 10) ∧ (lp_sh (o + 14)).1 = 0 ∧ lp_tg (o + 14) 1 = o + 15 ∧ lp_tg (o + 14) 2 = o + 16 ∧ lp_sh (o + 15) = (20, 20) ∧ lp_sh (o + 16) = (20, 20) ∧ ∀ i, i < 10 → lp_tg (o + 3) i = o + 4 + i ∧ lp_sh (o + 4 + i) = (20, 10) := by decide +kernel
  exact this o h
/-- rows of ten numbers that lie in a row -/
theorem lp_rows10 : ∀ c ∈ ([4, 228, 245, 256, 270, 282, 293, 307] : List Nat), ∀ i, i < 10 → lp_sh (c + 1 + i) = (20, 10) ∧ c + 1 + i < 343 := by decide +kernel
theorem lp_rA4 {i : Nat} (h : i < 10) : ((lp_sh (4 + 1 + i)).1 = 20 ∧ 4 + 1 + i < 369) = True := by
  have := lp_rows10 4 (by decide) i h
  rw [this.1]; exact eq_true ⟨rfl, by omega⟩
theorem lp_rB4 {i : Nat} (h : i < 10) : (lp_sh (4 + 1 + i)).2 = 10 := by rw [(lp_rows10 4 (by decide) i h).1]
theorem lp_rA228 {i : Nat} (h : i < 10) : ((lp_sh (228 + 1 + i)).1 = 20 ∧ 228 + 1 + i < 369) = True := by
  have := lp_rows10 228 (by decide) i h
  rw [this.1]; exact eq_true ⟨rfl, by omega⟩
theorem lp_rB228 {i : Nat} (h : i < 10) : (lp_sh (228 + 1 + i)).2 = 10 := by rw [(lp_rows10 228 (by decide) i h).1]
theorem lp_rA245 {i : Nat} (h : i < 10) : ((lp_sh (245 + 1 + i)).1 = 20 ∧ 245 + 1 + i < 369) = True := by
  have := lp_rows10 245 (by decide) i h
  rw [this.1]; exact eq_true ⟨rfl, by omega⟩
theorem lp_rB245 {i : Nat} (h : i < 10) : (lp_sh (245 + 1 + i)).2 = 10 := by rw [(lp_rows10 245 (by decide) i h).1]
theorem lp_rA256 {i : Nat} (h : i < 10) : ((lp_sh (256 + 1 + i)).1 = 20 ∧ 256 + 1 + i < 369) = True := by
  have := lp_rows10 256 (by decide) i h
  rw [this.1]; exact eq_true ⟨rfl, by omega⟩
theorem lp_rB256 {i : Nat} (h : i < 10) : (lp_sh (256 + 1 + i)).2 = 10 := by rw [(lp_rows10 256 (by decide) i h).1]
theorem lp_rA270 {i : Nat} (h : i < 10) : ((lp_sh (270 + 1 + i)).1 = 20 ∧ 270 + 1 + i < 369) = True := by
  have := lp_rows10 270 (by decide) i h
  rw [this.1]; exact eq_true ⟨rfl, by omega⟩
theorem lp_rB270 {i : Nat} (h : i < 10) : (lp_sh (270 + 1 + i)).2 = 10 := by rw [(lp_rows10 270 (by decide) i h).1]
theorem lp_rA282 {i : Nat} (h : i < 10) : ((lp_sh (282 + 1 + i)).1 = 20 ∧ 282 + 1 + i < 369) = True := by
  have := lp_rows10 282 (by decide) i h
  rw [this.1]; exact eq_true ⟨rfl, by omega⟩
theorem lp_rB282 {i : Nat} (h : i < 10) : (lp_sh (282 + 1 + i)).2 = 10 := by rw [(lp_rows10 282 (by decide) i h).1]
theorem lp_rA293 {i : Nat} (h : i < 10) : ((lp_sh (293 + 1 + i)).1 = 20 ∧ 293 + 1 + i < 369) = True := by
  have := lp_rows10 293 (by decide) i h
  rw [this.1]; exact eq_true ⟨rfl, by omega⟩
theorem lp_rB293 {i : Nat} (h : i < 10) : (lp_sh (293 + 1 + i)).2 = 10 := by rw [(lp_rows10 293 (by decide) i h).1]
theorem lp_rA307 {i : Nat} (h : i < 10) : ((lp_sh (307 + 1 + i)).1 = 20 ∧ 307 + 1 + i < 369) = True := by
  have := lp_rows10 307 (by decide) i h
  rw [this.1]; exact eq_true ⟨rfl, by omega⟩
theorem lp_rB307 {i : Nat} (h : i < 10) : (lp_sh (307 + 1 + i)).2 = 10 := by rw [(lp_rows10 307 (by decide) i h).1]
