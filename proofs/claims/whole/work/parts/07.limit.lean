section
variable {ρ : Type} {nx : lp_Q ρ} {jp : Nat → lp_Q ρ} {cl : Nat → List Value → lp_S → List Value → List Value → Bool → Option ρ} {rt : Int32 → lp_S → Option ρ}
set_option maxHeartbeats 4000000 in
theorem lp_i_nat (ins : Instr) (a b : Nat) (c : Int32) (t : List Nat) (ls stk : List Value) (st : lp_S) : lp_i nx jp cl rt ins a b c t ls stk st = (lp_st ins a b c t ls stk st).bind (lp_go nx jp cl rt) := by
  unfold lp_st
  cases ins <;> simp only [lp_i] <;> first
    | rfl
    | (unfold lp_xAl; split <;> rfl)
    | (unfold lp_xIl; split <;> rfl)
    | (unfold lp_xAs; split <;> rfl)
    | (unfold lp_xIs; split <;> rfl)
    | (unfold lp_xInc; split <;> rfl)
    | (unfold lp_x1; split <;> rfl)
    | (unfold lp_x2; split <;> rfl)
    | (unfold lp_x2d; split <;> (try split) <;> rfl)
    | (unfold lp_xDup; split <;> rfl)
    | (unfold lp_xDup2; split <;> rfl)
    | (unfold lp_xPop; split <;> rfl)
    | (unfold lp_xIf; split <;> (try split) <;> (try split) <;> rfl)
    | (unfold lp_xCmp; split <;> (try split) <;> (try split) <;> rfl)
    | (unfold lp_xSw; split <;> (try split) <;> rfl)
    | (cases Nat.beq (t.getD 0 0) 0 <;> rfl)
    | (cases Nat.beq a 23 <;> simp only [cond_true, cond_false] <;> (unfold lp_xAal; split <;> (try split) <;> (try split) <;> (try rfl) <;> (unfold lp_pR; split <;> rfl)))
    | (cases Nat.beq a 300 <;> simp only [cond_true, cond_false] <;> first | (unfold lp_xScr; split <;> (try split) <;> (try split) <;> rfl) | (unfold lp_xIal; split <;> (try split) <;> (try split) <;> rfl))
    | (cases Nat.beq a 100 <;> simp only [cond_true, cond_false] <;> first | (unfold lp_xStr; split <;> (try split) <;> (try split) <;> rfl) | (cases Nat.beq a 21 <;> simp only [cond_true, cond_false] <;> (unfold lp_xIal; split <;> (try split) <;> (try split) <;> rfl)))
    | (cases Nat.beq a 21 <;> simp only [cond_true, cond_false] <;> (unfold lp_xIas; split <;> (try split) <;> (try split) <;> rfl))
    | (unfold lp_xIas; split <;> (try split) <;> (try split) <;> rfl)
    | (unfold lp_xAas; split <;> (try split) <;> (try split) <;> rfl)
    | (unfold lp_xLen; split <;> (try split) <;> (try split) <;> rfl)
    | (unfold lp_xNew; split <;> rfl)
    | (unfold lp_xNa; split <;> (try split) <;> rfl)
    | (unfold lp_xMna; split <;> (try split) <;> rfl)
    | (unfold lp_xCal; cases lp_cok stk b <;> rfl)
    | (unfold lp_xRet; split <;> (try split) <;> (try split) <;> rfl)
    | (unfold lp_xVret; split <;> rfl)
    | skip
  all_goals sorry
end
