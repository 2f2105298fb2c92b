/-! ===== the String constants ===== -/
def lp_tm (k : Nat) : Term := .string (lp_cn (lp_so k).1) (lp_so k).2.1
def lp_fl : List Cond := flatC (Jvm.Cond.and given_1 narrow_1)
set_option maxRecDepth 100000 in
theorem lp_tx1 : ∀ i, i < 18 → Cond.exactly (lp_tm i) "java/lang/String" ∈ lp_fl ∧ Cond.eq (.field (lp_tm i) "java/lang/String" "coder" "B") (.int 0) ∈ lp_fl ∧ Cond.arrayOf (.field (lp_tm i) "java/lang/String" "value" "[B") .byte ∈ lp_fl ∧ Cond.eq (.length (.field (lp_tm i) "java/lang/String" "value" "[B")) (.int (Int32.ofNat (lp_len.getD i 0))) ∈ lp_fl := by decide +kernel
set_option maxRecDepth 100000 in
theorem lp_tx2 : ∀ i, i < 18 → ∀ j, j < lp_len.getD i 0 → Cond.eq (.elem (.field (lp_tm i) "java/lang/String" "value" "[B") (.int (Int32.ofNat j))) (.int ((lp_sb.getD i []).getD j 0)) ∈ lp_fl := by decide +kernel
set_option maxRecDepth 100000 in
theorem lp_tx3_0 : ∀ j, j < 18 → 0 < j → Cond.not (Cond.eq (lp_tm 0) (lp_tm j)) ∈ lp_fl := by decide +kernel
set_option maxRecDepth 100000 in
theorem lp_tx3_1 : ∀ j, j < 18 → 1 < j → Cond.not (Cond.eq (lp_tm 1) (lp_tm j)) ∈ lp_fl := by decide +kernel
set_option maxRecDepth 100000 in
theorem lp_tx3_2 : ∀ j, j < 18 → 2 < j → Cond.not (Cond.eq (lp_tm 2) (lp_tm j)) ∈ lp_fl := by decide +kernel
set_option maxRecDepth 100000 in
theorem lp_tx3_3 : ∀ j, j < 18 → 3 < j → Cond.not (Cond.eq (lp_tm 3) (lp_tm j)) ∈ lp_fl := by decide +kernel
set_option maxRecDepth 100000 in
theorem lp_tx3_4 : ∀ j, j < 18 → 4 < j → Cond.not (Cond.eq (lp_tm 4) (lp_tm j)) ∈ lp_fl := by decide +kernel
set_option maxRecDepth 100000 in
theorem lp_tx3_5 : ∀ j, j < 18 → 5 < j → Cond.not (Cond.eq (lp_tm 5) (lp_tm j)) ∈ lp_fl := by decide +kernel
set_option maxRecDepth 100000 in
theorem lp_tx3_6 : ∀ j, j < 18 → 6 < j → Cond.not (Cond.eq (lp_tm 6) (lp_tm j)) ∈ lp_fl := by decide +kernel
set_option maxRecDepth 100000 in
theorem lp_tx3_7 : ∀ j, j < 18 → 7 < j → Cond.not (Cond.eq (lp_tm 7) (lp_tm j)) ∈ lp_fl := by decide +kernel
set_option maxRecDepth 100000 in
theorem lp_tx3_8 : ∀ j, j < 18 → 8 < j → Cond.not (Cond.eq (lp_tm 8) (lp_tm j)) ∈ lp_fl := by decide +kernel
set_option maxRecDepth 100000 in
theorem lp_tx3_9 : ∀ j, j < 18 → 9 < j → Cond.not (Cond.eq (lp_tm 9) (lp_tm j)) ∈ lp_fl := by decide +kernel
set_option maxRecDepth 100000 in
theorem lp_tx3_10 : ∀ j, j < 18 → 10 < j → Cond.not (Cond.eq (lp_tm 10) (lp_tm j)) ∈ lp_fl := by decide +kernel
set_option maxRecDepth 100000 in
theorem lp_tx3_11 : ∀ j, j < 18 → 11 < j → Cond.not (Cond.eq (lp_tm 11) (lp_tm j)) ∈ lp_fl := by decide +kernel
set_option maxRecDepth 100000 in
theorem lp_tx3_12 : ∀ j, j < 18 → 12 < j → Cond.not (Cond.eq (lp_tm 12) (lp_tm j)) ∈ lp_fl := by decide +kernel
set_option maxRecDepth 100000 in
theorem lp_tx3_13 : ∀ j, j < 18 → 13 < j → Cond.not (Cond.eq (lp_tm 13) (lp_tm j)) ∈ lp_fl := by decide +kernel
set_option maxRecDepth 100000 in
theorem lp_tx3_14 : ∀ j, j < 18 → 14 < j → Cond.not (Cond.eq (lp_tm 14) (lp_tm j)) ∈ lp_fl := by decide +kernel
set_option maxRecDepth 100000 in
theorem lp_tx3_15 : ∀ j, j < 18 → 15 < j → Cond.not (Cond.eq (lp_tm 15) (lp_tm j)) ∈ lp_fl := by decide +kernel
set_option maxRecDepth 100000 in
theorem lp_tx3_16 : ∀ j, j < 18 → 16 < j → Cond.not (Cond.eq (lp_tm 16) (lp_tm j)) ∈ lp_fl := by decide +kernel
set_option maxRecDepth 100000 in
theorem lp_tx3_17 : ∀ j, j < 18 → 17 < j → Cond.not (Cond.eq (lp_tm 17) (lp_tm j)) ∈ lp_fl := by decide +kernel
theorem lp_tx3a (i j : Nat) (hi : i < 18) (hj : j < 18) (h : i < j) : Cond.not (Cond.eq (lp_tm i) (lp_tm j)) ∈ lp_fl := by
  have hc : i = 0 ∨ i = 1 ∨ i = 2 ∨ i = 3 ∨ i = 4 ∨ i = 5 ∨ i = 6 ∨ i = 7 ∨ i = 8 ∨ i = 9 ∨ i = 10 ∨ i = 11 ∨ i = 12 ∨ i = 13 ∨ i = 14 ∨ i = 15 ∨ i = 16 ∨ i = 17 := by omega
  rcases hc with rfl | rfl | rfl | rfl | rfl | rfl | rfl | rfl | rfl | rfl | rfl | rfl | rfl | rfl | rfl | rfl | rfl | rfl
  · exact lp_tx3_0 j hj h
  · exact lp_tx3_1 j hj h
  · exact lp_tx3_2 j hj h
  · exact lp_tx3_3 j hj h
  · exact lp_tx3_4 j hj h
  · exact lp_tx3_5 j hj h
  · exact lp_tx3_6 j hj h
  · exact lp_tx3_7 j hj h
  · exact lp_tx3_8 j hj h
  · exact lp_tx3_9 j hj h
  · exact lp_tx3_10 j hj h
  · exact lp_tx3_11 j hj h
  · exact lp_tx3_12 j hj h
  · exact lp_tx3_13 j hj h
  · exact lp_tx3_14 j hj h
  · exact lp_tx3_15 j hj h
  · exact lp_tx3_16 j hj h
  · exact lp_tx3_17 j hj h
theorem lp_tx3 (i : Nat) (hi : i < 18) (j : Nat) (hj : j < 18) (h : i ≠ j) : Cond.not (Cond.eq (lp_tm i) (lp_tm j)) ∈ lp_fl ∨ Cond.not (Cond.eq (lp_tm j) (lp_tm i)) ∈ lp_fl := by
  rcases Nat.lt_or_ge i j with q | q
  · exact Or.inl (lp_tx3a i j hi hj q)
  · exact Or.inr (lp_tx3a j i hj hi (by omega))
theorem lp_tx4 : ∀ i, i < 18 → lp_len.getD i 0 < 2 ^ 31 := by decide +kernel
def lp_sq : List Nat := [1149, 1218, 1223, 1228, 1237, 2006, 4039, 4054, 4060, 4061, 4062, 4067, 4068, 4069, 4082, 4083, 4084, 4085]
theorem lp_tx5 : ∀ i, i < 18 → lp_wd (lp_sq.getD i 0) = some (.stringRef (lp_cn (lp_so i).1) (lp_so i).2.1 (lp_so i).2.2) := by decide +kernel
