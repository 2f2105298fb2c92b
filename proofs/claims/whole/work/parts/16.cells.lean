/-! ===== the cells behind the constructors; the law out of a run (printed by wip/whole/gen_start.py) ===== -/
/-- where the references of a cell lead -/
def lp_tg (k j : Nat) : Nat := bif Nat.beq (lp_sh k).1 23 then k + 1 + j else bif Nat.beq (lp_sh k).1 24 then k + 1 + 17 * j else (bif Nat.beq (lp_sh k).1 8 then k + ([0, 1] : List Nat).getD j 0 else (bif Nat.beq (lp_sh k).1 7 then k + ([0, 0, 0, 0, 0, 1, 12, 23, 24, 25, 26] : List Nat).getD j 0 else (bif Nat.beq (lp_sh k).1 6 then k + ([0, 0, 1, 2, 0] : List Nat).getD j 0 else (bif Nat.beq (lp_sh k).1 4 then k + ([0, 0, 1] : List Nat).getD j 0 else (bif Nat.beq (lp_sh k).1 3 then k + ([0, 0, 0, 1, 2, 3, 14] : List Nat).getD j 0 else (bif Nat.beq (lp_sh k).1 2 then k + ([0, 0, 1] : List Nat).getD j 0 else (bif Nat.beq (lp_sh k).1 1 then k + ([0, 0, 0, 1, 2, 3, 0, 0, 4, 5, 6] : List Nat).getD j 0 else (bif Nat.beq (lp_sh k).1 0 then k + ([0, 1, 2] : List Nat).getD j 0 else (bif Nat.beq (lp_sh k).1 10 then ([0, 344, 345, 346, 347, 0, 348, 349, 350, 351, 352, 353, 354, 355, 356, 357, 0, 358, 359, 360, 0, 361, 362, 363, 364, 0, 365, 366, 0, 367, 0, 368, 0, 0, 0, 0, 0] : List Nat).getD j 0 else (bif Nat.beq (lp_sh k).1 9 then ([1, 18, 224, 226, 244, 281, 318, 321, 324, 327, 336, 338, 340, 341, 342, 0, 0] : List Nat).getD j 0 else (bif Nat.beq (lp_sh k).1 5 then ([227, 224, 0, 0, 0] : List Nat).getD j 0 else 0)))))))))))
def lp_r0 : lp_R := fun k j => .ref (lp_tg k j)
abbrev lp_s0 (g : lp_M) : lp_S := (369, lp_r0, g)
def lp_blank : lp_S := (0, fun _ _ => .null, fun _ _ => 0)
def lp_S1 : lp_S := ((lp_run 6 200 77 [.ref 0] (lp_grow 1 lp_blank)).getD (0, lp_blank)).2
def lp_S2 : lp_S := ((lp_run 6 200 162 [.ref 343] (lp_grow 1 lp_S1)).getD (0, lp_blank)).2
set_option maxRecDepth 100000 in
theorem lp_S1_run : lp_run 6 200 77 [.ref 0] (lp_grow 1 lp_blank) = some (0, lp_S1) := by
  have h : (lp_run 6 200 77 [.ref 0] (lp_grow 1 lp_blank)).map Prod.fst = some 0 := by decide +kernel
  unfold lp_S1
  cases hq : lp_run 6 200 77 [.ref 0] (lp_grow 1 lp_blank) with
  | none => rw [hq] at h; cases h
  | some x =>
    rw [hq] at h
    obtain ⟨a, b⟩ := x
    have : a = 0 := Option.some.inj h
    subst this
    rfl
set_option maxRecDepth 100000 in
theorem lp_S2_run : lp_run 6 200 162 [.ref 343] (lp_grow 1 lp_S1) = some (0, lp_S2) := by
  have h : (lp_run 6 200 162 [.ref 343] (lp_grow 1 lp_S1)).map Prod.fst = some 0 := by decide +kernel
  unfold lp_S2
  cases hq : lp_run 6 200 162 [.ref 343] (lp_grow 1 lp_S1) with
  | none => rw [hq] at h; cases h
  | some x =>
    rw [hq] at h
    obtain ⟨a, b⟩ := x
    have : a = 0 := Option.some.inj h
    subst this
    rfl
set_option maxRecDepth 100000 in
theorem lp_S1_K : lp_S1.1 = 343 := by decide +kernel
set_option maxRecDepth 100000 in
theorem lp_S2_K : lp_S2.1 = 369 := by decide +kernel
def lp_chkR (S : lp_S) : Bool := (List.range 369).all fun k => (List.range (min 40 (lp_sh k).2)).all fun j => bif (Nat.blt (lp_sh k).1 11 && lp_isR (lp_sh k).1 j) || (Nat.beq (lp_sh k).1 23 || Nat.beq (lp_sh k).1 24) then decide (S.2.1 k j = .ref (lp_tg k j)) else true
set_option maxRecDepth 100000 in
theorem lp_S2_R : lp_chkR lp_S2 = true := by decide +kernel
