/-! ===== levelOf: the model ===== -/
theorem s253o {d : Nat} {g : lp_M} {r : Nat → Int32} {y : Int32} (hr : lp_Ok r) (c : g 344 = r) (h : y < nI 0 ∨ nI (lp_vM r ^ lp_vN r) ≤ y) : lp_rn (d + 6) 253 [.ref 343, .int y] (lp_s0 g) = some (-1, lp_s0 g) := by
  have hn : lp_vN r ≤ 10 := hr.2.2.2.1
  obtain ⟨hM2, hM5⟩ := lp_prBd (lp_prM hr)
  have m0 := lp_m0 hr c
  have m1 := lp_m1' hr c
  have hp := lp_pow_lt hr hn
  have hpos : 0 < lp_vM r ^ lp_vN r := Nat.pow_pos (by omega)
  rw [e253_343, e169_343, m1, Option.bind_some, e253_343_7, s202 (d := d + 3) m0 (show lp_vN r < 2 ^ 30 by omega), Option.bind_some, e253_343_10, e163]
  by_cases z : y < nI 0
  · rw [if_pos z, Option.bind_some, e253_343_15, if_pos rfl]
  · have h' : nI (lp_vM r ^ lp_vN r) ≤ y := by rcases h with w | w; exact absurd w z; exact w
    have lt : nI (lp_vM r ^ lp_vN r) - nI 1 < y := by
      rw [pk_sub (by omega)]
      have a : nI (lp_vM r ^ lp_vN r - 1) < nI (lp_vM r ^ lp_vN r) := by rw [nI_ltI (by omega) (by omega)]; omega
      rw [Int32.lt_iff_toInt_lt] at a ⊢
      rw [Int32.le_iff_toInt_le] at h'
      omega
    rw [if_neg z, if_pos lt, Option.bind_some, e253_343_15, if_pos rfl]
theorem s253i {d w : Nat} {g : lp_M} {r : Nat → Int32} (hr : lp_Ok r) (c : g 344 = r) (hw : w < lp_vM r ^ lp_vN r) : lp_rn (d + 6) 253 [.ref 343, .int (nI w)] (lp_s0 g) = if 60000 < lp_vM r ^ lp_vN r then some (-3, lp_s0 g) else ((lp_rn (d + 5) 250 [.ref 343] (lp_s0 g)).bind fun x => lp_fn (d + 5) 253 34 [.ref 343, .int (nI w)] [] x.2) := by
  have hn : lp_vN r ≤ 10 := hr.2.2.2.1
  have m0 := lp_m0 hr c
  have m1 := lp_m1' hr c
  have hp := lp_pow_lt hr hn
  rw [e253_343, e169_343, m1, Option.bind_some, e253_343_7, s202 (d := d + 3) m0 (show lp_vN r < 2 ^ 30 by omega), Option.bind_some, e253_343_10, e163, if_neg (show ¬ nI w < nI 0 by rw [nI_ltI (by omega) (by omega)]; omega), if_neg (show ¬ nI (lp_vM r ^ lp_vN r) - nI 1 < nI w by rw [pk_sub (by omega), nI_ltI (by omega) (by omega)]; omega), Option.bind_some, e253_343_15, if_neg (show ¬ nI 1 = nI 0 by decide), s246 (d := d + 1) hr c, Option.bind_some, e253_343_24]
  by_cases z : 60000 < lp_vM r ^ lp_vN r
  · rw [if_pos z, if_pos rfl, if_pos z]
  · rw [if_neg z, if_neg (show ¬ nI 1 = nI 0 by decide), if_neg z]
