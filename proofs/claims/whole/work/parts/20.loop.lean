/-! ===== the law's loop, its steps given (printed by wip/whole/gen_loop.py) ===== -/
/-- a call of the class and the same call of the model: they answer alike, and what holds between them is kept -/
def lp_St (Inv : lp_M → Prop) (cm mm : Nat) (as : List Value) : Prop := ∀ g, Inv g → ∃ (v : Int32) (g1 g2 : lp_M), lp_rn 40 cm (.ref 0 :: as) (lp_s0 g) = some (v, lp_s0 g1) ∧ (∀ q, 343 ≤ q → g1 q = g q) ∧ lp_rn 40 mm (.ref 343 :: as) (lp_s0 g1) = some (v, lp_s0 g2) ∧ Inv g2
/-- all steps -/
def lp_Steps (Inv : lp_M → Prop) : Prop := (∀ a0 a1 a2 a3 a4 : Int32, lp_St Inv 78 270 [.int a0, .int a1, .int a2, .int a3, .int a4]) ∧ (∀ a0 : Int32, lp_St Inv 79 271 [.int a0]) ∧ (lp_St Inv 80 281 []) ∧ (∀ a0 : Int32, lp_St Inv 81 174 [.int a0]) ∧ (∀ a0 : Int32, lp_St Inv 82 176 [.int a0]) ∧ (∀ a0 a1 a2 : Int32, lp_St Inv 83 180 [.int a0, .int a1, .int a2]) ∧ (∀ a0 a1 : Int32, lp_St Inv 84 182 [.int a0, .int a1]) ∧ (∀ a0 a1 : Int32, lp_St Inv 85 183 [.int a0, .int a1]) ∧ (∀ a0 a1 : Int32, lp_St Inv 86 184 [.int a0, .int a1]) ∧ (∀ a0 a1 : Int32, lp_St Inv 87 187 [.int a0, .int a1]) ∧ (lp_St Inv 88 188 []) ∧ (lp_St Inv 89 189 []) ∧ (∀ a0 a1 a2 : Int32, lp_St Inv 90 190 [.int a0, .int a1, .int a2]) ∧ (∀ a0 a1 : Int32, lp_St Inv 91 177 [.int a0, .int a1]) ∧ (∀ a0 : Int32, lp_St Inv 92 192 [.int a0]) ∧ (∀ a0 : Int32, lp_St Inv 93 194 [.int a0]) ∧ (lp_St Inv 94 178 []) ∧ (lp_St Inv 95 195 []) ∧ (∀ a0 a1 : Int32, lp_St Inv 96 210 [.int a0, .int a1]) ∧ (∀ a0 a1 : Int32, lp_St Inv 97 211 [.int a0, .int a1]) ∧ (lp_St Inv 98 213 []) ∧ (lp_St Inv 99 214 []) ∧ (∀ a0 a1 : Int32, lp_St Inv 100 215 [.int a0, .int a1]) ∧ (lp_St Inv 101 217 []) ∧ (∀ a0 : Int32, lp_St Inv 102 218 [.int a0]) ∧ (∀ a0 : Int32, lp_St Inv 103 223 [.int a0]) ∧ (∀ a0 : Int32, lp_St Inv 104 225 [.int a0]) ∧ (∀ a0 : Int32, lp_St Inv 105 227 [.int a0]) ∧ (lp_St Inv 106 228 []) ∧ (lp_St Inv 107 231 []) ∧ (lp_St Inv 108 233 []) ∧ (∀ a0 a1 : Int32, lp_St Inv 109 234 [.int a0, .int a1]) ∧ (∀ a0 a1 : Int32, lp_St Inv 110 235 [.int a0, .int a1]) ∧ (∀ a0 : Int32, lp_St Inv 111 237 [.int a0]) ∧ (∀ a0 : Int32, lp_St Inv 112 238 [.int a0]) ∧ (∀ a0 : Int32, lp_St Inv 113 224 [.int a0]) ∧ (∀ a0 : Int32, lp_St Inv 114 240 [.int a0]) ∧ (lp_St Inv 115 229 []) ∧ (∀ a0 a1 : Int32, lp_St Inv 116 241 [.int a0, .int a1]) ∧ (∀ a0 : Int32, lp_St Inv 117 242 [.int a0]) ∧ (lp_St Inv 118 243 []) ∧ (lp_St Inv 119 244 []) ∧ (∀ a0 a1 : Int32, lp_St Inv 120 245 [.int a0, .int a1]) ∧ (lp_St Inv 121 251 []) ∧ (∀ a0 : Int32, lp_St Inv 122 252 [.int a0]) ∧ (∀ a0 : Int32, lp_St Inv 123 253 [.int a0]) ∧ (∀ a0 : Int32, lp_St Inv 124 254 [.int a0]) ∧ (∀ a0 a1 : Int32, lp_St Inv 125 255 [.int a0, .int a1]) ∧ (∀ a0 a1 a2 : Int32, lp_St Inv 126 256 [.int a0, .int a1, .int a2]) ∧ (∀ a0 : Int32, lp_St Inv 127 257 [.int a0]) ∧ (lp_St Inv 128 258 []) ∧ (lp_St Inv 129 259 []) ∧ (∀ a0 : Int32, lp_St Inv 130 266 [.int a0]) ∧ (∀ a0 : Int32, lp_St Inv 131 267 [.int a0]) ∧ (∀ a0 : Int32, lp_St Inv 132 269 [.int a0])
theorem lp_oobN {j n : Nat} (hj : j < 2 ^ 31) : lp_oob (nI j) n ↔ n ≤ j := by
  constructor
  · rintro (h | h)
    · exact absurd h (nI_pos hj)
    · rwa [nI_clamp hj] at h
  · intro h
    exact Or.inr (by rwa [nI_clamp hj])
theorem lp_ad (i k : Nat) : nI i + nI k = nI (i + k) := nI_add i k
set_option maxHeartbeats 4000000 in
theorem lp_loop {Inv : lp_M → Prop} {L : Nat} {xs : Nat → Int32} (hL : L ≤ 3072) (hsc : ∀ g, Inv g → g 997 0 = 1 ∧ g 998 0 = Int32.ofNat L ∧ ∀ j, g 999 j = xs j) (S : lp_Steps Inv) : ∀ (n i : Nat) (g : lp_M), i ≤ L → L < i + 6 * n + 6 → Inv g → ∃ g', lp_fn 40 293 18 [.retAddr 300, .ref 0, .ref 343, .int (nI i)] [] (lp_s0 g) = some (1, lp_s0 g') := by
  obtain ⟨S0, S1, S2, S3, S4, S5, S6, S7, S8, S9, S10, S11, S12, S13, S14, S15, S16, S17, S18, S19, S20, S21, S22, S23, S24, S25, S26, S27, S28, S29, S30, S31, S32, S33, S34, S35, S36, S37, S38, S39, S40, S41, S42, S43, S44, S45, S46, S47, S48, S49, S50, S51, S52, S53, S54⟩ := S
  have hend : ∀ (i : Nat) (g : lp_M), i ≤ L → L < i + 6 → Inv g → ∃ g', lp_fn 40 293 18 [.retAddr 300, .ref 0, .ref 343, .int (nI i)] [] (lp_s0 g) = some (1, lp_s0 g') := by
    intro i g h1 h2 hI
    obtain ⟨s1, s2, s3⟩ := hsc g hI
    have hlt : g 998 0 - 6 < nI i := by
      rw [s2]
      show Int32.ofNat L - 6 < Int32.ofNat i
      rw [Int32.lt_iff_toInt_lt]
      have e1 : (Int32.ofNat i).toInt = (i : Int) := nI_toInt (by omega)
      have e2 : (nI L - nI 6).toInt = (L : Int) - (6 : Nat) := pk_sub_toInt (by omega) (by omega)
      have e2 : (Int32.ofNat L - 6).toInt = (L : Int) - 6 := e2
      rw [e1, e2]
      omega
    refine ⟨g, ?_⟩
    rw [eL_18, if_pos s1, if_pos hlt]
  intro n
  induction n with
  | zero => intro i g h1 h2 hI; exact hend i g h1 (by omega) hI
  | succ n ih =>
    intro i g h1 h2 hI
    by_cases hlt : L < i + 6
    · exact hend i g h1 hlt hI
    · obtain ⟨s1, s2, s3⟩ := hsc g hI
      have hge : ¬ g 998 0 - 6 < nI i := by
        rw [s2]
        show ¬ Int32.ofNat L - 6 < Int32.ofNat i
        rw [Int32.lt_iff_toInt_lt]
        have e1 : (Int32.ofNat i).toInt = (i : Int) := nI_toInt (by omega)
        have e2 : (nI L - nI 6).toInt = (L : Int) - (6 : Nat) := pk_sub_toInt (by omega) (by omega)
        have e2 : (Int32.ofNat L - 6).toInt = (L : Int) - 6 := e2
        rw [e1, e2]
        omega
      have hl : (g 998 0).toNatClampNeg = L := by rw [s2]; exact nI_clamp (n := L) (by omega)
      have o0 : ¬ lp_oob (nI i) L := by rw [lp_oobN (by omega)]; omega
      have c0 : (nI i).toNatClampNeg = i := nI_clamp (by omega)
      rw [eL_18, if_pos s1, if_neg hge, if_pos s1, hl, if_neg o0, c0, s3]
      have o1 : ¬ lp_oob (nI i + 1) L := by
        show ¬ lp_oob (nI i + nI 1) L
        rw [nI_add, lp_oobN (by omega)]; omega
      have c1 : (nI i + 1).toNatClampNeg = i + 1 := by
        show (nI i + nI 1).toNatClampNeg = i + 1
        rw [nI_add]; exact nI_clamp (by omega)
      have o2 : ¬ lp_oob (nI i + 2) L := by
        show ¬ lp_oob (nI i + nI 2) L
        rw [nI_add, lp_oobN (by omega)]; omega
      have c2 : (nI i + 2).toNatClampNeg = i + 2 := by
        show (nI i + nI 2).toNatClampNeg = i + 2
        rw [nI_add]; exact nI_clamp (by omega)
      have o3 : ¬ lp_oob (nI i + 3) L := by
        show ¬ lp_oob (nI i + nI 3) L
        rw [nI_add, lp_oobN (by omega)]; omega
      have c3 : (nI i + 3).toNatClampNeg = i + 3 := by
        show (nI i + nI 3).toNatClampNeg = i + 3
        rw [nI_add]; exact nI_clamp (by omega)
      have o4 : ¬ lp_oob (nI i + 4) L := by
        show ¬ lp_oob (nI i + nI 4) L
        rw [nI_add, lp_oobN (by omega)]; omega
      have c4 : (nI i + 4).toNatClampNeg = i + 4 := by
        show (nI i + nI 4).toNatClampNeg = i + 4
        rw [nI_add]; exact nI_clamp (by omega)
      have o5 : ¬ lp_oob (nI i + 5) L := by
        show ¬ lp_oob (nI i + nI 5) L
        rw [nI_add, lp_oobN (by omega)]; omega
      have c5 : (nI i + 5).toNatClampNeg = i + 5 := by
        show (nI i + nI 5).toNatClampNeg = i + 5
        rw [nI_add]; exact nI_clamp (by omega)
      have hnext : ∀ g2, Inv g2 → ∃ g', lp_fn 40 293 18 [.retAddr 300, .ref 0, .ref 343, .int (nI i + 6)] [] (lp_s0 g2) = some (1, lp_s0 g') := by
        intro g2 h
        have e6 : nI i + 6 = nI (i + 6) := nI_add i 6
        rw [e6]
        exact ih (i + 6) g2 (by omega) (by omega) h
      obtain ⟨j, hj, ej⟩ := pk_andE (xs i) (m := 63) 6 (by decide)
      rw [ej]
      have hc : j = 0 ∨ j = 1 ∨ j = 2 ∨ j = 3 ∨ j = 4 ∨ j = 5 ∨ j = 6 ∨ j = 7 ∨ j = 8 ∨ j = 9 ∨ j = 10 ∨ j = 11 ∨ j = 12 ∨ j = 13 ∨ j = 14 ∨ j = 15 ∨ j = 16 ∨ j = 17 ∨ j = 18 ∨ j = 19 ∨ j = 20 ∨ j = 21 ∨ j = 22 ∨ j = 23 ∨ j = 24 ∨ j = 25 ∨ j = 26 ∨ j = 27 ∨ j = 28 ∨ j = 29 ∨ j = 30 ∨ j = 31 ∨ j = 32 ∨ j = 33 ∨ j = 34 ∨ j = 35 ∨ j = 36 ∨ j = 37 ∨ j = 38 ∨ j = 39 ∨ j = 40 ∨ j = 41 ∨ j = 42 ∨ j = 43 ∨ j = 44 ∨ j = 45 ∨ j = 46 ∨ j = 47 ∨ j = 48 ∨ j = 49 ∨ j = 50 ∨ j = 51 ∨ j = 52 ∨ j = 53 ∨ j = 54 ∨ 55 ≤ j := by omega
      rcases hc with rfl | rfl | rfl | rfl | rfl | rfl | rfl | rfl | rfl | rfl | rfl | rfl | rfl | rfl | rfl | rfl | rfl | rfl | rfl | rfl | rfl | rfl | rfl | rfl | rfl | rfl | rfl | rfl | rfl | rfl | rfl | rfl | rfl | rfl | rfl | rfl | rfl | rfl | rfl | rfl | rfl | rfl | rfl | rfl | rfl | rfl | rfl | rfl | rfl | rfl | rfl | rfl | rfl | rfl | rfl | hj2
      · obtain ⟨v, g1, g2, e1, hk, e2, hI2⟩ := S0 (xs (i + 1)) (xs (i + 2)) (xs (i + 3)) (xs (i + 4)) (xs (i + 5)) g hI
        show ∃ g', lp_fn 40 293 33 [.retAddr 300, .ref 0, .ref 343, .int (nI i)] [.int 0] (lp_s0 g) = some (1, lp_s0 g')
        have t1 : g1 997 0 = 1 := by rw [hk 997 (by omega)]; exact s1
        have t2 : (g1 998 0).toNatClampNeg = L := by rw [hk 998 (by omega)]; exact hl
        have t3 : ∀ j, g1 999 j = xs j := fun j => by rw [hk 999 (by omega)]; exact s3 j
        simp only [eL_33_c0, s1, hl, s3, o1, o2, o3, o4, o5, c1, c2, c3, c4, c5, if_true, if_false, e1, Option.bind_some, eL_297, t1, t2, t3, e2, eL_326]
        exact hnext g2 hI2
      · obtain ⟨v, g1, g2, e1, hk, e2, hI2⟩ := S1 (xs (i + 1)) g hI
        show ∃ g', lp_fn 40 293 33 [.retAddr 300, .ref 0, .ref 343, .int (nI i)] [.int 1] (lp_s0 g) = some (1, lp_s0 g')
        have t1 : g1 997 0 = 1 := by rw [hk 997 (by omega)]; exact s1
        have t2 : (g1 998 0).toNatClampNeg = L := by rw [hk 998 (by omega)]; exact hl
        have t3 : ∀ j, g1 999 j = xs j := fun j => by rw [hk 999 (by omega)]; exact s3 j
        simp only [eL_33_c1, s1, hl, s3, o1, c1, if_true, if_false, e1, Option.bind_some, eL_340, t1, t2, t3, e2, eL_349]
        exact hnext g2 hI2
      · obtain ⟨v, g1, g2, e1, hk, e2, hI2⟩ := S2 g hI
        show ∃ g', lp_fn 40 293 33 [.retAddr 300, .ref 0, .ref 343, .int (nI i)] [.int 2] (lp_s0 g) = some (1, lp_s0 g')
        have t1 : g1 997 0 = 1 := by rw [hk 997 (by omega)]; exact s1
        have t2 : (g1 998 0).toNatClampNeg = L := by rw [hk 998 (by omega)]; exact hl
        have t3 : ∀ j, g1 999 j = xs j := fun j => by rw [hk 999 (by omega)]; exact s3 j
        simp only [eL_33_c2, s1, hl, s3, if_true, if_false, e1, Option.bind_some, eL_358, t1, t2, t3, e2, eL_362]
        exact hnext g2 hI2
      · obtain ⟨v, g1, g2, e1, hk, e2, hI2⟩ := S3 (xs (i + 1)) g hI
        show ∃ g', lp_fn 40 293 33 [.retAddr 300, .ref 0, .ref 343, .int (nI i)] [.int 3] (lp_s0 g) = some (1, lp_s0 g')
        have t1 : g1 997 0 = 1 := by rw [hk 997 (by omega)]; exact s1
        have t2 : (g1 998 0).toNatClampNeg = L := by rw [hk 998 (by omega)]; exact hl
        have t3 : ∀ j, g1 999 j = xs j := fun j => by rw [hk 999 (by omega)]; exact s3 j
        simp only [eL_33_c3, s1, hl, s3, o1, c1, if_true, if_false, e1, Option.bind_some, eL_376, t1, t2, t3, e2, eL_385]
        exact hnext g2 hI2
      · obtain ⟨v, g1, g2, e1, hk, e2, hI2⟩ := S4 (xs (i + 1)) g hI
        show ∃ g', lp_fn 40 293 33 [.retAddr 300, .ref 0, .ref 343, .int (nI i)] [.int 4] (lp_s0 g) = some (1, lp_s0 g')
        have t1 : g1 997 0 = 1 := by rw [hk 997 (by omega)]; exact s1
        have t2 : (g1 998 0).toNatClampNeg = L := by rw [hk 998 (by omega)]; exact hl
        have t3 : ∀ j, g1 999 j = xs j := fun j => by rw [hk 999 (by omega)]; exact s3 j
        simp only [eL_33_c4, s1, hl, s3, o1, c1, if_true, if_false, e1, Option.bind_some, eL_399, t1, t2, t3, e2, eL_408]
        exact hnext g2 hI2
      · obtain ⟨v, g1, g2, e1, hk, e2, hI2⟩ := S5 (xs (i + 1)) (xs (i + 2)) (xs (i + 3)) g hI
        show ∃ g', lp_fn 40 293 33 [.retAddr 300, .ref 0, .ref 343, .int (nI i)] [.int 5] (lp_s0 g) = some (1, lp_s0 g')
        have t1 : g1 997 0 = 1 := by rw [hk 997 (by omega)]; exact s1
        have t2 : (g1 998 0).toNatClampNeg = L := by rw [hk 998 (by omega)]; exact hl
        have t3 : ∀ j, g1 999 j = xs j := fun j => by rw [hk 999 (by omega)]; exact s3 j
        simp only [eL_33_c5, s1, hl, s3, o1, o2, o3, c1, c2, c3, if_true, if_false, e1, Option.bind_some, eL_432, t1, t2, t3, e2, eL_451]
        exact hnext g2 hI2
      · obtain ⟨v, g1, g2, e1, hk, e2, hI2⟩ := S6 (xs (i + 1)) (xs (i + 2)) g hI
        show ∃ g', lp_fn 40 293 33 [.retAddr 300, .ref 0, .ref 343, .int (nI i)] [.int 6] (lp_s0 g) = some (1, lp_s0 g')
        have t1 : g1 997 0 = 1 := by rw [hk 997 (by omega)]; exact s1
        have t2 : (g1 998 0).toNatClampNeg = L := by rw [hk 998 (by omega)]; exact hl
        have t3 : ∀ j, g1 999 j = xs j := fun j => by rw [hk 999 (by omega)]; exact s3 j
        simp only [eL_33_c6, s1, hl, s3, o1, o2, c1, c2, if_true, if_false, e1, Option.bind_some, eL_470, t1, t2, t3, e2, eL_484]
        exact hnext g2 hI2
      · obtain ⟨v, g1, g2, e1, hk, e2, hI2⟩ := S7 (xs (i + 1)) (xs (i + 2)) g hI
        show ∃ g', lp_fn 40 293 33 [.retAddr 300, .ref 0, .ref 343, .int (nI i)] [.int 7] (lp_s0 g) = some (1, lp_s0 g')
        have t1 : g1 997 0 = 1 := by rw [hk 997 (by omega)]; exact s1
        have t2 : (g1 998 0).toNatClampNeg = L := by rw [hk 998 (by omega)]; exact hl
        have t3 : ∀ j, g1 999 j = xs j := fun j => by rw [hk 999 (by omega)]; exact s3 j
        simp only [eL_33_c7, s1, hl, s3, o1, o2, c1, c2, if_true, if_false, e1, Option.bind_some, eL_503, t1, t2, t3, e2, eL_517]
        exact hnext g2 hI2
      · obtain ⟨v, g1, g2, e1, hk, e2, hI2⟩ := S8 (xs (i + 1)) (xs (i + 2)) g hI
        show ∃ g', lp_fn 40 293 33 [.retAddr 300, .ref 0, .ref 343, .int (nI i)] [.int 8] (lp_s0 g) = some (1, lp_s0 g')
        have t1 : g1 997 0 = 1 := by rw [hk 997 (by omega)]; exact s1
        have t2 : (g1 998 0).toNatClampNeg = L := by rw [hk 998 (by omega)]; exact hl
        have t3 : ∀ j, g1 999 j = xs j := fun j => by rw [hk 999 (by omega)]; exact s3 j
        simp only [eL_33_c8, s1, hl, s3, o1, o2, c1, c2, if_true, if_false, e1, Option.bind_some, eL_536, t1, t2, t3, e2, eL_550]
        exact hnext g2 hI2
      · obtain ⟨v, g1, g2, e1, hk, e2, hI2⟩ := S9 (xs (i + 1)) (xs (i + 2)) g hI
        show ∃ g', lp_fn 40 293 33 [.retAddr 300, .ref 0, .ref 343, .int (nI i)] [.int 9] (lp_s0 g) = some (1, lp_s0 g')
        have t1 : g1 997 0 = 1 := by rw [hk 997 (by omega)]; exact s1
        have t2 : (g1 998 0).toNatClampNeg = L := by rw [hk 998 (by omega)]; exact hl
        have t3 : ∀ j, g1 999 j = xs j := fun j => by rw [hk 999 (by omega)]; exact s3 j
        simp only [eL_33_c9, s1, hl, s3, o1, o2, c1, c2, if_true, if_false, e1, Option.bind_some, eL_569, t1, t2, t3, e2, eL_583]
        exact hnext g2 hI2
      · obtain ⟨v, g1, g2, e1, hk, e2, hI2⟩ := S10 g hI
        show ∃ g', lp_fn 40 293 33 [.retAddr 300, .ref 0, .ref 343, .int (nI i)] [.int 10] (lp_s0 g) = some (1, lp_s0 g')
        have t1 : g1 997 0 = 1 := by rw [hk 997 (by omega)]; exact s1
        have t2 : (g1 998 0).toNatClampNeg = L := by rw [hk 998 (by omega)]; exact hl
        have t3 : ∀ j, g1 999 j = xs j := fun j => by rw [hk 999 (by omega)]; exact s3 j
        simp only [eL_33_c10, s1, hl, s3, if_true, if_false, e1, Option.bind_some, eL_592, t1, t2, t3, e2, eL_596]
        exact hnext g2 hI2
      · obtain ⟨v, g1, g2, e1, hk, e2, hI2⟩ := S11 g hI
        show ∃ g', lp_fn 40 293 33 [.retAddr 300, .ref 0, .ref 343, .int (nI i)] [.int 11] (lp_s0 g) = some (1, lp_s0 g')
        have t1 : g1 997 0 = 1 := by rw [hk 997 (by omega)]; exact s1
        have t2 : (g1 998 0).toNatClampNeg = L := by rw [hk 998 (by omega)]; exact hl
        have t3 : ∀ j, g1 999 j = xs j := fun j => by rw [hk 999 (by omega)]; exact s3 j
        simp only [eL_33_c11, s1, hl, s3, if_true, if_false, e1, Option.bind_some, eL_605, t1, t2, t3, e2, eL_609]
        exact hnext g2 hI2
      · obtain ⟨v, g1, g2, e1, hk, e2, hI2⟩ := S12 (xs (i + 1)) (xs (i + 2)) (xs (i + 3)) g hI
        show ∃ g', lp_fn 40 293 33 [.retAddr 300, .ref 0, .ref 343, .int (nI i)] [.int 12] (lp_s0 g) = some (1, lp_s0 g')
        have t1 : g1 997 0 = 1 := by rw [hk 997 (by omega)]; exact s1
        have t2 : (g1 998 0).toNatClampNeg = L := by rw [hk 998 (by omega)]; exact hl
        have t3 : ∀ j, g1 999 j = xs j := fun j => by rw [hk 999 (by omega)]; exact s3 j
        simp only [eL_33_c12, s1, hl, s3, o1, o2, o3, c1, c2, c3, if_true, if_false, e1, Option.bind_some, eL_633, t1, t2, t3, e2, eL_652]
        exact hnext g2 hI2
      · obtain ⟨v, g1, g2, e1, hk, e2, hI2⟩ := S13 (xs (i + 1)) (xs (i + 2)) g hI
        show ∃ g', lp_fn 40 293 33 [.retAddr 300, .ref 0, .ref 343, .int (nI i)] [.int 13] (lp_s0 g) = some (1, lp_s0 g')
        have t1 : g1 997 0 = 1 := by rw [hk 997 (by omega)]; exact s1
        have t2 : (g1 998 0).toNatClampNeg = L := by rw [hk 998 (by omega)]; exact hl
        have t3 : ∀ j, g1 999 j = xs j := fun j => by rw [hk 999 (by omega)]; exact s3 j
        simp only [eL_33_c13, s1, hl, s3, o1, o2, c1, c2, if_true, if_false, e1, Option.bind_some, eL_671, t1, t2, t3, e2, eL_685]
        exact hnext g2 hI2
      · obtain ⟨v, g1, g2, e1, hk, e2, hI2⟩ := S14 (xs (i + 1)) g hI
        show ∃ g', lp_fn 40 293 33 [.retAddr 300, .ref 0, .ref 343, .int (nI i)] [.int 14] (lp_s0 g) = some (1, lp_s0 g')
        have t1 : g1 997 0 = 1 := by rw [hk 997 (by omega)]; exact s1
        have t2 : (g1 998 0).toNatClampNeg = L := by rw [hk 998 (by omega)]; exact hl
        have t3 : ∀ j, g1 999 j = xs j := fun j => by rw [hk 999 (by omega)]; exact s3 j
        simp only [eL_33_c14, s1, hl, s3, o1, c1, if_true, if_false, e1, Option.bind_some, eL_699, t1, t2, t3, e2, eL_708]
        exact hnext g2 hI2
      · obtain ⟨v, g1, g2, e1, hk, e2, hI2⟩ := S15 (xs (i + 1)) g hI
        show ∃ g', lp_fn 40 293 33 [.retAddr 300, .ref 0, .ref 343, .int (nI i)] [.int 15] (lp_s0 g) = some (1, lp_s0 g')
        have t1 : g1 997 0 = 1 := by rw [hk 997 (by omega)]; exact s1
        have t2 : (g1 998 0).toNatClampNeg = L := by rw [hk 998 (by omega)]; exact hl
        have t3 : ∀ j, g1 999 j = xs j := fun j => by rw [hk 999 (by omega)]; exact s3 j
        simp only [eL_33_c15, s1, hl, s3, o1, c1, if_true, if_false, e1, Option.bind_some, eL_722, t1, t2, t3, e2, eL_731]
        exact hnext g2 hI2
      · obtain ⟨v, g1, g2, e1, hk, e2, hI2⟩ := S16 g hI
        show ∃ g', lp_fn 40 293 33 [.retAddr 300, .ref 0, .ref 343, .int (nI i)] [.int 16] (lp_s0 g) = some (1, lp_s0 g')
        have t1 : g1 997 0 = 1 := by rw [hk 997 (by omega)]; exact s1
        have t2 : (g1 998 0).toNatClampNeg = L := by rw [hk 998 (by omega)]; exact hl
        have t3 : ∀ j, g1 999 j = xs j := fun j => by rw [hk 999 (by omega)]; exact s3 j
        simp only [eL_33_c16, s1, hl, s3, if_true, if_false, e1, Option.bind_some, eL_740, t1, t2, t3, e2, eL_744]
        exact hnext g2 hI2
      · obtain ⟨v, g1, g2, e1, hk, e2, hI2⟩ := S17 g hI
        show ∃ g', lp_fn 40 293 33 [.retAddr 300, .ref 0, .ref 343, .int (nI i)] [.int 17] (lp_s0 g) = some (1, lp_s0 g')
        have t1 : g1 997 0 = 1 := by rw [hk 997 (by omega)]; exact s1
        have t2 : (g1 998 0).toNatClampNeg = L := by rw [hk 998 (by omega)]; exact hl
        have t3 : ∀ j, g1 999 j = xs j := fun j => by rw [hk 999 (by omega)]; exact s3 j
        simp only [eL_33_c17, s1, hl, s3, if_true, if_false, e1, Option.bind_some, eL_753, t1, t2, t3, e2, eL_757]
        exact hnext g2 hI2
      · obtain ⟨v, g1, g2, e1, hk, e2, hI2⟩ := S18 (xs (i + 1)) (xs (i + 2)) g hI
        show ∃ g', lp_fn 40 293 33 [.retAddr 300, .ref 0, .ref 343, .int (nI i)] [.int 18] (lp_s0 g) = some (1, lp_s0 g')
        have t1 : g1 997 0 = 1 := by rw [hk 997 (by omega)]; exact s1
        have t2 : (g1 998 0).toNatClampNeg = L := by rw [hk 998 (by omega)]; exact hl
        have t3 : ∀ j, g1 999 j = xs j := fun j => by rw [hk 999 (by omega)]; exact s3 j
        simp only [eL_33_c18, s1, hl, s3, o1, o2, c1, c2, if_true, if_false, e1, Option.bind_some, eL_776, t1, t2, t3, e2, eL_790]
        exact hnext g2 hI2
      · obtain ⟨v, g1, g2, e1, hk, e2, hI2⟩ := S19 (xs (i + 1)) (xs (i + 2)) g hI
        show ∃ g', lp_fn 40 293 33 [.retAddr 300, .ref 0, .ref 343, .int (nI i)] [.int 19] (lp_s0 g) = some (1, lp_s0 g')
        have t1 : g1 997 0 = 1 := by rw [hk 997 (by omega)]; exact s1
        have t2 : (g1 998 0).toNatClampNeg = L := by rw [hk 998 (by omega)]; exact hl
        have t3 : ∀ j, g1 999 j = xs j := fun j => by rw [hk 999 (by omega)]; exact s3 j
        simp only [eL_33_c19, s1, hl, s3, o1, o2, c1, c2, if_true, if_false, e1, Option.bind_some, eL_809, t1, t2, t3, e2, eL_823]
        exact hnext g2 hI2
      · obtain ⟨v, g1, g2, e1, hk, e2, hI2⟩ := S20 g hI
        show ∃ g', lp_fn 40 293 33 [.retAddr 300, .ref 0, .ref 343, .int (nI i)] [.int 20] (lp_s0 g) = some (1, lp_s0 g')
        have t1 : g1 997 0 = 1 := by rw [hk 997 (by omega)]; exact s1
        have t2 : (g1 998 0).toNatClampNeg = L := by rw [hk 998 (by omega)]; exact hl
        have t3 : ∀ j, g1 999 j = xs j := fun j => by rw [hk 999 (by omega)]; exact s3 j
        simp only [eL_33_c20, s1, hl, s3, if_true, if_false, e1, Option.bind_some, eL_832, t1, t2, t3, e2, eL_836]
        exact hnext g2 hI2
      · obtain ⟨v, g1, g2, e1, hk, e2, hI2⟩ := S21 g hI
        show ∃ g', lp_fn 40 293 33 [.retAddr 300, .ref 0, .ref 343, .int (nI i)] [.int 21] (lp_s0 g) = some (1, lp_s0 g')
        have t1 : g1 997 0 = 1 := by rw [hk 997 (by omega)]; exact s1
        have t2 : (g1 998 0).toNatClampNeg = L := by rw [hk 998 (by omega)]; exact hl
        have t3 : ∀ j, g1 999 j = xs j := fun j => by rw [hk 999 (by omega)]; exact s3 j
        simp only [eL_33_c21, s1, hl, s3, if_true, if_false, e1, Option.bind_some, eL_845, t1, t2, t3, e2, eL_849]
        exact hnext g2 hI2
      · obtain ⟨v, g1, g2, e1, hk, e2, hI2⟩ := S22 (xs (i + 1)) (xs (i + 2)) g hI
        show ∃ g', lp_fn 40 293 33 [.retAddr 300, .ref 0, .ref 343, .int (nI i)] [.int 22] (lp_s0 g) = some (1, lp_s0 g')
        have t1 : g1 997 0 = 1 := by rw [hk 997 (by omega)]; exact s1
        have t2 : (g1 998 0).toNatClampNeg = L := by rw [hk 998 (by omega)]; exact hl
        have t3 : ∀ j, g1 999 j = xs j := fun j => by rw [hk 999 (by omega)]; exact s3 j
        simp only [eL_33_c22, s1, hl, s3, o1, o2, c1, c2, if_true, if_false, e1, Option.bind_some, eL_868, t1, t2, t3, e2, eL_882]
        exact hnext g2 hI2
      · obtain ⟨v, g1, g2, e1, hk, e2, hI2⟩ := S23 g hI
        show ∃ g', lp_fn 40 293 33 [.retAddr 300, .ref 0, .ref 343, .int (nI i)] [.int 23] (lp_s0 g) = some (1, lp_s0 g')
        have t1 : g1 997 0 = 1 := by rw [hk 997 (by omega)]; exact s1
        have t2 : (g1 998 0).toNatClampNeg = L := by rw [hk 998 (by omega)]; exact hl
        have t3 : ∀ j, g1 999 j = xs j := fun j => by rw [hk 999 (by omega)]; exact s3 j
        simp only [eL_33_c23, s1, hl, s3, if_true, if_false, e1, Option.bind_some, eL_891, t1, t2, t3, e2, eL_895]
        exact hnext g2 hI2
      · obtain ⟨v, g1, g2, e1, hk, e2, hI2⟩ := S24 (xs (i + 1)) g hI
        show ∃ g', lp_fn 40 293 33 [.retAddr 300, .ref 0, .ref 343, .int (nI i)] [.int 24] (lp_s0 g) = some (1, lp_s0 g')
        have t1 : g1 997 0 = 1 := by rw [hk 997 (by omega)]; exact s1
        have t2 : (g1 998 0).toNatClampNeg = L := by rw [hk 998 (by omega)]; exact hl
        have t3 : ∀ j, g1 999 j = xs j := fun j => by rw [hk 999 (by omega)]; exact s3 j
        simp only [eL_33_c24, s1, hl, s3, o1, c1, if_true, if_false, e1, Option.bind_some, eL_909, t1, t2, t3, e2, eL_918]
        exact hnext g2 hI2
      · obtain ⟨v, g1, g2, e1, hk, e2, hI2⟩ := S25 (xs (i + 1)) g hI
        show ∃ g', lp_fn 40 293 33 [.retAddr 300, .ref 0, .ref 343, .int (nI i)] [.int 25] (lp_s0 g) = some (1, lp_s0 g')
        have t1 : g1 997 0 = 1 := by rw [hk 997 (by omega)]; exact s1
        have t2 : (g1 998 0).toNatClampNeg = L := by rw [hk 998 (by omega)]; exact hl
        have t3 : ∀ j, g1 999 j = xs j := fun j => by rw [hk 999 (by omega)]; exact s3 j
        simp only [eL_33_c25, s1, hl, s3, o1, c1, if_true, if_false, e1, Option.bind_some, eL_932, t1, t2, t3, e2, eL_941]
        exact hnext g2 hI2
      · obtain ⟨v, g1, g2, e1, hk, e2, hI2⟩ := S26 (xs (i + 1)) g hI
        show ∃ g', lp_fn 40 293 33 [.retAddr 300, .ref 0, .ref 343, .int (nI i)] [.int 26] (lp_s0 g) = some (1, lp_s0 g')
        have t1 : g1 997 0 = 1 := by rw [hk 997 (by omega)]; exact s1
        have t2 : (g1 998 0).toNatClampNeg = L := by rw [hk 998 (by omega)]; exact hl
        have t3 : ∀ j, g1 999 j = xs j := fun j => by rw [hk 999 (by omega)]; exact s3 j
        simp only [eL_33_c26, s1, hl, s3, o1, c1, if_true, if_false, e1, Option.bind_some, eL_955, t1, t2, t3, e2, eL_964]
        exact hnext g2 hI2
      · obtain ⟨v, g1, g2, e1, hk, e2, hI2⟩ := S27 (xs (i + 1)) g hI
        show ∃ g', lp_fn 40 293 33 [.retAddr 300, .ref 0, .ref 343, .int (nI i)] [.int 27] (lp_s0 g) = some (1, lp_s0 g')
        have t1 : g1 997 0 = 1 := by rw [hk 997 (by omega)]; exact s1
        have t2 : (g1 998 0).toNatClampNeg = L := by rw [hk 998 (by omega)]; exact hl
        have t3 : ∀ j, g1 999 j = xs j := fun j => by rw [hk 999 (by omega)]; exact s3 j
        simp only [eL_33_c27, s1, hl, s3, o1, c1, if_true, if_false, e1, Option.bind_some, eL_978, t1, t2, t3, e2, eL_987]
        exact hnext g2 hI2
      · obtain ⟨v, g1, g2, e1, hk, e2, hI2⟩ := S28 g hI
        show ∃ g', lp_fn 40 293 33 [.retAddr 300, .ref 0, .ref 343, .int (nI i)] [.int 28] (lp_s0 g) = some (1, lp_s0 g')
        have t1 : g1 997 0 = 1 := by rw [hk 997 (by omega)]; exact s1
        have t2 : (g1 998 0).toNatClampNeg = L := by rw [hk 998 (by omega)]; exact hl
        have t3 : ∀ j, g1 999 j = xs j := fun j => by rw [hk 999 (by omega)]; exact s3 j
        simp only [eL_33_c28, s1, hl, s3, if_true, if_false, e1, Option.bind_some, eL_996, t1, t2, t3, e2, eL_1000]
        exact hnext g2 hI2
      · obtain ⟨v, g1, g2, e1, hk, e2, hI2⟩ := S29 g hI
        show ∃ g', lp_fn 40 293 33 [.retAddr 300, .ref 0, .ref 343, .int (nI i)] [.int 29] (lp_s0 g) = some (1, lp_s0 g')
        have t1 : g1 997 0 = 1 := by rw [hk 997 (by omega)]; exact s1
        have t2 : (g1 998 0).toNatClampNeg = L := by rw [hk 998 (by omega)]; exact hl
        have t3 : ∀ j, g1 999 j = xs j := fun j => by rw [hk 999 (by omega)]; exact s3 j
        simp only [eL_33_c29, s1, hl, s3, if_true, if_false, e1, Option.bind_some, eL_1009, t1, t2, t3, e2, eL_1013]
        exact hnext g2 hI2
      · obtain ⟨v, g1, g2, e1, hk, e2, hI2⟩ := S30 g hI
        show ∃ g', lp_fn 40 293 33 [.retAddr 300, .ref 0, .ref 343, .int (nI i)] [.int 30] (lp_s0 g) = some (1, lp_s0 g')
        have t1 : g1 997 0 = 1 := by rw [hk 997 (by omega)]; exact s1
        have t2 : (g1 998 0).toNatClampNeg = L := by rw [hk 998 (by omega)]; exact hl
        have t3 : ∀ j, g1 999 j = xs j := fun j => by rw [hk 999 (by omega)]; exact s3 j
        simp only [eL_33_c30, s1, hl, s3, if_true, if_false, e1, Option.bind_some, eL_1022, t1, t2, t3, e2, eL_1026]
        exact hnext g2 hI2
      · obtain ⟨v, g1, g2, e1, hk, e2, hI2⟩ := S31 (xs (i + 1)) (xs (i + 2)) g hI
        show ∃ g', lp_fn 40 293 33 [.retAddr 300, .ref 0, .ref 343, .int (nI i)] [.int 31] (lp_s0 g) = some (1, lp_s0 g')
        have t1 : g1 997 0 = 1 := by rw [hk 997 (by omega)]; exact s1
        have t2 : (g1 998 0).toNatClampNeg = L := by rw [hk 998 (by omega)]; exact hl
        have t3 : ∀ j, g1 999 j = xs j := fun j => by rw [hk 999 (by omega)]; exact s3 j
        simp only [eL_33_c31, s1, hl, s3, o1, o2, c1, c2, if_true, if_false, e1, Option.bind_some, eL_1045, t1, t2, t3, e2, eL_1059]
        exact hnext g2 hI2
      · obtain ⟨v, g1, g2, e1, hk, e2, hI2⟩ := S32 (xs (i + 1)) (xs (i + 2)) g hI
        show ∃ g', lp_fn 40 293 33 [.retAddr 300, .ref 0, .ref 343, .int (nI i)] [.int 32] (lp_s0 g) = some (1, lp_s0 g')
        have t1 : g1 997 0 = 1 := by rw [hk 997 (by omega)]; exact s1
        have t2 : (g1 998 0).toNatClampNeg = L := by rw [hk 998 (by omega)]; exact hl
        have t3 : ∀ j, g1 999 j = xs j := fun j => by rw [hk 999 (by omega)]; exact s3 j
        simp only [eL_33_c32, s1, hl, s3, o1, o2, c1, c2, if_true, if_false, e1, Option.bind_some, eL_1078, t1, t2, t3, e2, eL_1092]
        exact hnext g2 hI2
      · obtain ⟨v, g1, g2, e1, hk, e2, hI2⟩ := S33 (xs (i + 1)) g hI
        show ∃ g', lp_fn 40 293 33 [.retAddr 300, .ref 0, .ref 343, .int (nI i)] [.int 33] (lp_s0 g) = some (1, lp_s0 g')
        have t1 : g1 997 0 = 1 := by rw [hk 997 (by omega)]; exact s1
        have t2 : (g1 998 0).toNatClampNeg = L := by rw [hk 998 (by omega)]; exact hl
        have t3 : ∀ j, g1 999 j = xs j := fun j => by rw [hk 999 (by omega)]; exact s3 j
        simp only [eL_33_c33, s1, hl, s3, o1, c1, if_true, if_false, e1, Option.bind_some, eL_1106, t1, t2, t3, e2, eL_1115]
        exact hnext g2 hI2
      · obtain ⟨v, g1, g2, e1, hk, e2, hI2⟩ := S34 (xs (i + 1)) g hI
        show ∃ g', lp_fn 40 293 33 [.retAddr 300, .ref 0, .ref 343, .int (nI i)] [.int 34] (lp_s0 g) = some (1, lp_s0 g')
        have t1 : g1 997 0 = 1 := by rw [hk 997 (by omega)]; exact s1
        have t2 : (g1 998 0).toNatClampNeg = L := by rw [hk 998 (by omega)]; exact hl
        have t3 : ∀ j, g1 999 j = xs j := fun j => by rw [hk 999 (by omega)]; exact s3 j
        simp only [eL_33_c34, s1, hl, s3, o1, c1, if_true, if_false, e1, Option.bind_some, eL_1129, t1, t2, t3, e2, eL_1138]
        exact hnext g2 hI2
      · obtain ⟨v, g1, g2, e1, hk, e2, hI2⟩ := S35 (xs (i + 1)) g hI
        show ∃ g', lp_fn 40 293 33 [.retAddr 300, .ref 0, .ref 343, .int (nI i)] [.int 35] (lp_s0 g) = some (1, lp_s0 g')
        have t1 : g1 997 0 = 1 := by rw [hk 997 (by omega)]; exact s1
        have t2 : (g1 998 0).toNatClampNeg = L := by rw [hk 998 (by omega)]; exact hl
        have t3 : ∀ j, g1 999 j = xs j := fun j => by rw [hk 999 (by omega)]; exact s3 j
        simp only [eL_33_c35, s1, hl, s3, o1, c1, if_true, if_false, e1, Option.bind_some, eL_1152, t1, t2, t3, e2, eL_1161]
        exact hnext g2 hI2
      · obtain ⟨v, g1, g2, e1, hk, e2, hI2⟩ := S36 (xs (i + 1)) g hI
        show ∃ g', lp_fn 40 293 33 [.retAddr 300, .ref 0, .ref 343, .int (nI i)] [.int 36] (lp_s0 g) = some (1, lp_s0 g')
        have t1 : g1 997 0 = 1 := by rw [hk 997 (by omega)]; exact s1
        have t2 : (g1 998 0).toNatClampNeg = L := by rw [hk 998 (by omega)]; exact hl
        have t3 : ∀ j, g1 999 j = xs j := fun j => by rw [hk 999 (by omega)]; exact s3 j
        simp only [eL_33_c36, s1, hl, s3, o1, c1, if_true, if_false, e1, Option.bind_some, eL_1175, t1, t2, t3, e2, eL_1184]
        exact hnext g2 hI2
      · obtain ⟨v, g1, g2, e1, hk, e2, hI2⟩ := S37 g hI
        show ∃ g', lp_fn 40 293 33 [.retAddr 300, .ref 0, .ref 343, .int (nI i)] [.int 37] (lp_s0 g) = some (1, lp_s0 g')
        have t1 : g1 997 0 = 1 := by rw [hk 997 (by omega)]; exact s1
        have t2 : (g1 998 0).toNatClampNeg = L := by rw [hk 998 (by omega)]; exact hl
        have t3 : ∀ j, g1 999 j = xs j := fun j => by rw [hk 999 (by omega)]; exact s3 j
        simp only [eL_33_c37, s1, hl, s3, if_true, if_false, e1, Option.bind_some, eL_1193, t1, t2, t3, e2, eL_1197]
        exact hnext g2 hI2
      · obtain ⟨v, g1, g2, e1, hk, e2, hI2⟩ := S38 (xs (i + 1)) (xs (i + 2)) g hI
        show ∃ g', lp_fn 40 293 33 [.retAddr 300, .ref 0, .ref 343, .int (nI i)] [.int 38] (lp_s0 g) = some (1, lp_s0 g')
        have t1 : g1 997 0 = 1 := by rw [hk 997 (by omega)]; exact s1
        have t2 : (g1 998 0).toNatClampNeg = L := by rw [hk 998 (by omega)]; exact hl
        have t3 : ∀ j, g1 999 j = xs j := fun j => by rw [hk 999 (by omega)]; exact s3 j
        simp only [eL_33_c38, s1, hl, s3, o1, o2, c1, c2, if_true, if_false, e1, Option.bind_some, eL_1216, t1, t2, t3, e2, eL_1230]
        exact hnext g2 hI2
      · obtain ⟨v, g1, g2, e1, hk, e2, hI2⟩ := S39 (xs (i + 1)) g hI
        show ∃ g', lp_fn 40 293 33 [.retAddr 300, .ref 0, .ref 343, .int (nI i)] [.int 39] (lp_s0 g) = some (1, lp_s0 g')
        have t1 : g1 997 0 = 1 := by rw [hk 997 (by omega)]; exact s1
        have t2 : (g1 998 0).toNatClampNeg = L := by rw [hk 998 (by omega)]; exact hl
        have t3 : ∀ j, g1 999 j = xs j := fun j => by rw [hk 999 (by omega)]; exact s3 j
        simp only [eL_33_c39, s1, hl, s3, o1, c1, if_true, if_false, e1, Option.bind_some, eL_1244, t1, t2, t3, e2, eL_1253]
        exact hnext g2 hI2
      · obtain ⟨v, g1, g2, e1, hk, e2, hI2⟩ := S40 g hI
        show ∃ g', lp_fn 40 293 33 [.retAddr 300, .ref 0, .ref 343, .int (nI i)] [.int 40] (lp_s0 g) = some (1, lp_s0 g')
        have t1 : g1 997 0 = 1 := by rw [hk 997 (by omega)]; exact s1
        have t2 : (g1 998 0).toNatClampNeg = L := by rw [hk 998 (by omega)]; exact hl
        have t3 : ∀ j, g1 999 j = xs j := fun j => by rw [hk 999 (by omega)]; exact s3 j
        simp only [eL_33_c40, s1, hl, s3, if_true, if_false, e1, Option.bind_some, eL_1262, t1, t2, t3, e2, eL_1266]
        exact hnext g2 hI2
      · obtain ⟨v, g1, g2, e1, hk, e2, hI2⟩ := S41 g hI
        show ∃ g', lp_fn 40 293 33 [.retAddr 300, .ref 0, .ref 343, .int (nI i)] [.int 41] (lp_s0 g) = some (1, lp_s0 g')
        have t1 : g1 997 0 = 1 := by rw [hk 997 (by omega)]; exact s1
        have t2 : (g1 998 0).toNatClampNeg = L := by rw [hk 998 (by omega)]; exact hl
        have t3 : ∀ j, g1 999 j = xs j := fun j => by rw [hk 999 (by omega)]; exact s3 j
        simp only [eL_33_c41, s1, hl, s3, if_true, if_false, e1, Option.bind_some, eL_1275, t1, t2, t3, e2, eL_1279]
        exact hnext g2 hI2
      · obtain ⟨v, g1, g2, e1, hk, e2, hI2⟩ := S42 (xs (i + 1)) (xs (i + 2)) g hI
        show ∃ g', lp_fn 40 293 33 [.retAddr 300, .ref 0, .ref 343, .int (nI i)] [.int 42] (lp_s0 g) = some (1, lp_s0 g')
        have t1 : g1 997 0 = 1 := by rw [hk 997 (by omega)]; exact s1
        have t2 : (g1 998 0).toNatClampNeg = L := by rw [hk 998 (by omega)]; exact hl
        have t3 : ∀ j, g1 999 j = xs j := fun j => by rw [hk 999 (by omega)]; exact s3 j
        simp only [eL_33_c42, s1, hl, s3, o1, o2, c1, c2, if_true, if_false, e1, Option.bind_some, eL_1298, t1, t2, t3, e2, eL_1312]
        exact hnext g2 hI2
      · obtain ⟨v, g1, g2, e1, hk, e2, hI2⟩ := S43 g hI
        show ∃ g', lp_fn 40 293 33 [.retAddr 300, .ref 0, .ref 343, .int (nI i)] [.int 43] (lp_s0 g) = some (1, lp_s0 g')
        have t1 : g1 997 0 = 1 := by rw [hk 997 (by omega)]; exact s1
        have t2 : (g1 998 0).toNatClampNeg = L := by rw [hk 998 (by omega)]; exact hl
        have t3 : ∀ j, g1 999 j = xs j := fun j => by rw [hk 999 (by omega)]; exact s3 j
        simp only [eL_33_c43, s1, hl, s3, if_true, if_false, e1, Option.bind_some, eL_1321, t1, t2, t3, e2, eL_1325]
        exact hnext g2 hI2
      · obtain ⟨v, g1, g2, e1, hk, e2, hI2⟩ := S44 (xs (i + 1)) g hI
        show ∃ g', lp_fn 40 293 33 [.retAddr 300, .ref 0, .ref 343, .int (nI i)] [.int 44] (lp_s0 g) = some (1, lp_s0 g')
        have t1 : g1 997 0 = 1 := by rw [hk 997 (by omega)]; exact s1
        have t2 : (g1 998 0).toNatClampNeg = L := by rw [hk 998 (by omega)]; exact hl
        have t3 : ∀ j, g1 999 j = xs j := fun j => by rw [hk 999 (by omega)]; exact s3 j
        simp only [eL_33_c44, s1, hl, s3, o1, c1, if_true, if_false, e1, Option.bind_some, eL_1339, t1, t2, t3, e2, eL_1348]
        exact hnext g2 hI2
      · obtain ⟨v, g1, g2, e1, hk, e2, hI2⟩ := S45 (xs (i + 1)) g hI
        show ∃ g', lp_fn 40 293 33 [.retAddr 300, .ref 0, .ref 343, .int (nI i)] [.int 45] (lp_s0 g) = some (1, lp_s0 g')
        have t1 : g1 997 0 = 1 := by rw [hk 997 (by omega)]; exact s1
        have t2 : (g1 998 0).toNatClampNeg = L := by rw [hk 998 (by omega)]; exact hl
        have t3 : ∀ j, g1 999 j = xs j := fun j => by rw [hk 999 (by omega)]; exact s3 j
        simp only [eL_33_c45, s1, hl, s3, o1, c1, if_true, if_false, e1, Option.bind_some, eL_1362, t1, t2, t3, e2, eL_1371]
        exact hnext g2 hI2
      · obtain ⟨v, g1, g2, e1, hk, e2, hI2⟩ := S46 (xs (i + 1)) g hI
        show ∃ g', lp_fn 40 293 33 [.retAddr 300, .ref 0, .ref 343, .int (nI i)] [.int 46] (lp_s0 g) = some (1, lp_s0 g')
        have t1 : g1 997 0 = 1 := by rw [hk 997 (by omega)]; exact s1
        have t2 : (g1 998 0).toNatClampNeg = L := by rw [hk 998 (by omega)]; exact hl
        have t3 : ∀ j, g1 999 j = xs j := fun j => by rw [hk 999 (by omega)]; exact s3 j
        simp only [eL_33_c46, s1, hl, s3, o1, c1, if_true, if_false, e1, Option.bind_some, eL_1385, t1, t2, t3, e2, eL_1394]
        exact hnext g2 hI2
      · obtain ⟨v, g1, g2, e1, hk, e2, hI2⟩ := S47 (xs (i + 1)) (xs (i + 2)) g hI
        show ∃ g', lp_fn 40 293 33 [.retAddr 300, .ref 0, .ref 343, .int (nI i)] [.int 47] (lp_s0 g) = some (1, lp_s0 g')
        have t1 : g1 997 0 = 1 := by rw [hk 997 (by omega)]; exact s1
        have t2 : (g1 998 0).toNatClampNeg = L := by rw [hk 998 (by omega)]; exact hl
        have t3 : ∀ j, g1 999 j = xs j := fun j => by rw [hk 999 (by omega)]; exact s3 j
        simp only [eL_33_c47, s1, hl, s3, o1, o2, c1, c2, if_true, if_false, e1, Option.bind_some, eL_1413, t1, t2, t3, e2, eL_1427]
        exact hnext g2 hI2
      · obtain ⟨v, g1, g2, e1, hk, e2, hI2⟩ := S48 (xs (i + 1)) (xs (i + 2)) (xs (i + 3)) g hI
        show ∃ g', lp_fn 40 293 33 [.retAddr 300, .ref 0, .ref 343, .int (nI i)] [.int 48] (lp_s0 g) = some (1, lp_s0 g')
        have t1 : g1 997 0 = 1 := by rw [hk 997 (by omega)]; exact s1
        have t2 : (g1 998 0).toNatClampNeg = L := by rw [hk 998 (by omega)]; exact hl
        have t3 : ∀ j, g1 999 j = xs j := fun j => by rw [hk 999 (by omega)]; exact s3 j
        simp only [eL_33_c48, s1, hl, s3, o1, o2, o3, c1, c2, c3, if_true, if_false, e1, Option.bind_some, eL_1451, t1, t2, t3, e2, eL_1470]
        exact hnext g2 hI2
      · obtain ⟨v, g1, g2, e1, hk, e2, hI2⟩ := S49 (xs (i + 1)) g hI
        show ∃ g', lp_fn 40 293 33 [.retAddr 300, .ref 0, .ref 343, .int (nI i)] [.int 49] (lp_s0 g) = some (1, lp_s0 g')
        have t1 : g1 997 0 = 1 := by rw [hk 997 (by omega)]; exact s1
        have t2 : (g1 998 0).toNatClampNeg = L := by rw [hk 998 (by omega)]; exact hl
        have t3 : ∀ j, g1 999 j = xs j := fun j => by rw [hk 999 (by omega)]; exact s3 j
        simp only [eL_33_c49, s1, hl, s3, o1, c1, if_true, if_false, e1, Option.bind_some, eL_1484, t1, t2, t3, e2, eL_1493]
        exact hnext g2 hI2
      · obtain ⟨v, g1, g2, e1, hk, e2, hI2⟩ := S50 g hI
        show ∃ g', lp_fn 40 293 33 [.retAddr 300, .ref 0, .ref 343, .int (nI i)] [.int 50] (lp_s0 g) = some (1, lp_s0 g')
        have t1 : g1 997 0 = 1 := by rw [hk 997 (by omega)]; exact s1
        have t2 : (g1 998 0).toNatClampNeg = L := by rw [hk 998 (by omega)]; exact hl
        have t3 : ∀ j, g1 999 j = xs j := fun j => by rw [hk 999 (by omega)]; exact s3 j
        simp only [eL_33_c50, s1, hl, s3, if_true, if_false, e1, Option.bind_some, eL_1502, t1, t2, t3, e2, eL_1506]
        exact hnext g2 hI2
      · obtain ⟨v, g1, g2, e1, hk, e2, hI2⟩ := S51 g hI
        show ∃ g', lp_fn 40 293 33 [.retAddr 300, .ref 0, .ref 343, .int (nI i)] [.int 51] (lp_s0 g) = some (1, lp_s0 g')
        have t1 : g1 997 0 = 1 := by rw [hk 997 (by omega)]; exact s1
        have t2 : (g1 998 0).toNatClampNeg = L := by rw [hk 998 (by omega)]; exact hl
        have t3 : ∀ j, g1 999 j = xs j := fun j => by rw [hk 999 (by omega)]; exact s3 j
        simp only [eL_33_c51, s1, hl, s3, if_true, if_false, e1, Option.bind_some, eL_1515, t1, t2, t3, e2, eL_1519]
        exact hnext g2 hI2
      · obtain ⟨v, g1, g2, e1, hk, e2, hI2⟩ := S52 (xs (i + 1)) g hI
        show ∃ g', lp_fn 40 293 33 [.retAddr 300, .ref 0, .ref 343, .int (nI i)] [.int 52] (lp_s0 g) = some (1, lp_s0 g')
        have t1 : g1 997 0 = 1 := by rw [hk 997 (by omega)]; exact s1
        have t2 : (g1 998 0).toNatClampNeg = L := by rw [hk 998 (by omega)]; exact hl
        have t3 : ∀ j, g1 999 j = xs j := fun j => by rw [hk 999 (by omega)]; exact s3 j
        simp only [eL_33_c52, s1, hl, s3, o1, c1, if_true, if_false, e1, Option.bind_some, eL_1533, t1, t2, t3, e2, eL_1542]
        exact hnext g2 hI2
      · obtain ⟨v, g1, g2, e1, hk, e2, hI2⟩ := S53 (xs (i + 1)) g hI
        show ∃ g', lp_fn 40 293 33 [.retAddr 300, .ref 0, .ref 343, .int (nI i)] [.int 53] (lp_s0 g) = some (1, lp_s0 g')
        have t1 : g1 997 0 = 1 := by rw [hk 997 (by omega)]; exact s1
        have t2 : (g1 998 0).toNatClampNeg = L := by rw [hk 998 (by omega)]; exact hl
        have t3 : ∀ j, g1 999 j = xs j := fun j => by rw [hk 999 (by omega)]; exact s3 j
        simp only [eL_33_c53, s1, hl, s3, o1, c1, if_true, if_false, e1, Option.bind_some, eL_1556, t1, t2, t3, e2, eL_1565]
        exact hnext g2 hI2
      · obtain ⟨v, g1, g2, e1, hk, e2, hI2⟩ := S54 (xs (i + 1)) g hI
        show ∃ g', lp_fn 40 293 33 [.retAddr 300, .ref 0, .ref 343, .int (nI i)] [.int 54] (lp_s0 g) = some (1, lp_s0 g')
        have t1 : g1 997 0 = 1 := by rw [hk 997 (by omega)]; exact s1
        have t2 : (g1 998 0).toNatClampNeg = L := by rw [hk 998 (by omega)]; exact hl
        have t3 : ∀ j, g1 999 j = xs j := fun j => by rw [hk 999 (by omega)]; exact s3 j
        simp only [eL_33_c54, s1, hl, s3, o1, c1, if_true, if_false, e1, Option.bind_some, eL_1579, t1, t2, t3, e2, eL_1588]
        exact hnext g2 hI2
      · rw [eL_33_x 40 (nI i) (nI j) g (by rw [lp_oobN (by omega)]; exact hj2)]
        exact hnext g hI
