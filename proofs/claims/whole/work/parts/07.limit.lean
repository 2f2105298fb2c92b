section
variable {ρ : Type} {nx : lp_Q ρ} {jp : Nat → lp_Q ρ} {cl : Nat → List Value → lp_S → List Value → List Value → Bool → Option ρ} {rt : Int32 → lp_S → Option ρ}
theorem lp_nGI (a b t : Nat) (ls stk : List Value) (st : lp_S) : lp_xGI a b nx ls stk st = (lp_xGI a b (fun ls stk st => some (Sum.inl (ls, stk, st)) : lp_Q lp_Out) ls stk st).bind (lp_go nx jp cl rt) := by
  unfold lp_xGI; split <;> (try split) <;> rfl
theorem lp_nGR (a b t : Nat) (ls stk : List Value) (st : lp_S) : lp_xGR a b nx ls stk st = (lp_xGR a b (fun ls stk st => some (Sum.inl (ls, stk, st)) : lp_Q lp_Out) ls stk st).bind (lp_go nx jp cl rt) := by
  unfold lp_xGR; split <;> (try split) <;> (try rfl) <;> (unfold lp_pR; split <;> rfl)
theorem lp_nGV (a b t : Nat) (ls stk : List Value) (st : lp_S) : lp_xGV nx ls stk st = (lp_xGV (fun ls stk st => some (Sum.inl (ls, stk, st)) : lp_Q lp_Out) ls stk st).bind (lp_go nx jp cl rt) := by
  unfold lp_xGV; split <;> (try split) <;> rfl
theorem lp_nGC (a b t : Nat) (ls stk : List Value) (st : lp_S) : lp_xGC nx ls stk st = (lp_xGC (fun ls stk st => some (Sum.inl (ls, stk, st)) : lp_Q lp_Out) ls stk st).bind (lp_go nx jp cl rt) := by
  unfold lp_xGC; split <;> (try split) <;> rfl
theorem lp_nPI (a b t : Nat) (ls stk : List Value) (st : lp_S) : lp_xPI a b nx ls stk st = (lp_xPI a b (fun ls stk st => some (Sum.inl (ls, stk, st)) : lp_Q lp_Out) ls stk st).bind (lp_go nx jp cl rt) := by
  unfold lp_xPI; split <;> (try split) <;> rfl
theorem lp_nPR (a b t : Nat) (ls stk : List Value) (st : lp_S) : lp_xPR a b nx ls stk st = (lp_xPR a b (fun ls stk st => some (Sum.inl (ls, stk, st)) : lp_Q lp_Out) ls stk st).bind (lp_go nx jp cl rt) := by
  unfold lp_xPR; split <;> (try split) <;> rfl
theorem lp_nPZ (a b t : Nat) (ls stk : List Value) (st : lp_S) : lp_xPZ a b nx ls stk st = (lp_xPZ a b (fun ls stk st => some (Sum.inl (ls, stk, st)) : lp_Q lp_Out) ls stk st).bind (lp_go nx jp cl rt) := by
  unfold lp_xPZ; split <;> (try split) <;> (try split) <;> rfl
theorem lp_nCpy (a b t : Nat) (ls stk : List Value) (st : lp_S) : lp_xCpy nx ls stk st = (lp_xCpy (fun ls stk st => some (Sum.inl (ls, stk, st)) : lp_Q lp_Out) ls stk st).bind (lp_go nx jp cl rt) := by
  unfold lp_xCpy; split <;> (try split) <;> (try split) <;> rfl
theorem lp_nObj (a b t : Nat) (ls stk : List Value) (st : lp_S) : lp_xObj nx ls stk st = (lp_xObj (fun ls stk st => some (Sum.inl (ls, stk, st)) : lp_Q lp_Out) ls stk st).bind (lp_go nx jp cl rt) := by
  unfold lp_xObj; split <;> rfl
theorem lp_nCal (a b t : Nat) (ls stk : List Value) (st : lp_S) : lp_xCal a b t cl ls stk st = (lp_xCal a b t (fun m as st ls rest q => some (Sum.inr (Sum.inr (Sum.inl (m, as, st, ls, rest, q)))) : Nat → List Value → lp_S → List Value → List Value → Bool → Option lp_Out) ls stk st).bind (lp_go nx jp cl rt) := by
  unfold lp_xCal; cases lp_cok stk b <;> rfl
theorem lp_nCalV (a b t : Nat) (ls stk : List Value) (st : lp_S) : lp_xCalV a b t cl ls stk st = (lp_xCalV a b t (fun m as st ls rest q => some (Sum.inr (Sum.inr (Sum.inl (m, as, st, ls, rest, q)))) : Nat → List Value → lp_S → List Value → List Value → Bool → Option lp_Out) ls stk st).bind (lp_go nx jp cl rt) := by
  unfold lp_xCalV; cases lp_cok stk b <;> simp only [cond_true, cond_false] <;> first | rfl | (split <;> (try split) <;> rfl)
theorem lp_nCalI (a b t : Nat) (ls stk : List Value) (st : lp_S) : lp_xCalI a b t cl ls stk st = (lp_xCalI a b t (fun m as st ls rest q => some (Sum.inr (Sum.inr (Sum.inl (m, as, st, ls, rest, q)))) : Nat → List Value → lp_S → List Value → List Value → Bool → Option lp_Out) ls stk st).bind (lp_go nx jp cl rt) := by
  unfold lp_xCalI; cases lp_cok stk b <;> simp only [cond_true, cond_false] <;> first | rfl | (split <;> rfl)
theorem lp_nMax (a b t : Nat) (ls stk : List Value) (st : lp_S) : lp_xMax nx ls stk st = (lp_xMax (fun ls stk st => some (Sum.inl (ls, stk, st)) : lp_Q lp_Out) ls stk st).bind (lp_go nx jp cl rt) := by
  unfold lp_xMax; cases lp_cok stk 2 <;> simp only [cond_true, cond_false] <;> first | rfl | (unfold lp_x2; split <;> rfl)
theorem lp_nMin (a b t : Nat) (ls stk : List Value) (st : lp_S) : lp_xMin nx ls stk st = (lp_xMin (fun ls stk st => some (Sum.inl (ls, stk, st)) : lp_Q lp_Out) ls stk st).bind (lp_go nx jp cl rt) := by
  unfold lp_xMin; cases lp_cok stk 2 <;> simp only [cond_true, cond_false] <;> first | rfl | (unfold lp_x2; split <;> rfl)
set_option maxHeartbeats 4000000 in
theorem lp_i_nat (ins : Instr) (a b : Nat) (c : Int32) (t : List Nat) (ls stk : List Value) (st : lp_S) : lp_i nx jp cl rt ins a b c t ls stk st = (lp_st ins a b c t ls stk st).bind (lp_go nx jp cl rt) := by
  unfold lp_st
  cases ins <;> simp only [lp_i] <;> first
    | rfl
    | (unfold lp_xAl; split <;> (try split) <;> rfl)
    | (unfold lp_xIl; split <;> rfl)
    | (unfold lp_xAs; split <;> rfl)
    | (unfold lp_xIs; split <;> rfl)
    | (unfold lp_xInc; split <;> rfl)
    | (unfold lp_x1; split <;> rfl)
    | (unfold lp_x2; split <;> rfl)
    | (unfold lp_x2d; split <;> (try split) <;> rfl)
    | (unfold lp_xDup; split <;> rfl)
    | (unfold lp_xDup2; split <;> rfl)
    | (unfold lp_xPop; split <;> rfl)
    | (unfold lp_xIf; split <;> (try split) <;> (try split) <;> rfl)
    | (unfold lp_xCmp; split <;> (try split) <;> (try split) <;> rfl)
    | (unfold lp_xSw; split <;> (try split) <;> rfl)
    | (cases Nat.beq (t.getD 0 0) 0 <;> rfl)
    | (cases Nat.beq a 23 <;> simp only [cond_true, cond_false] <;> (unfold lp_xAal; split <;> (try split) <;> (try split) <;> (try rfl) <;> (unfold lp_pR; split <;> rfl)))
    | (cases Nat.beq a 300 <;> simp only [cond_true, cond_false] <;> first | (unfold lp_xScr; split <;> (try split) <;> (try split) <;> (try split) <;> rfl) | (unfold lp_xIal; split <;> (try split) <;> (try split) <;> rfl))
    | (cases Nat.beq a 100 <;> simp only [cond_true, cond_false] <;> first | (unfold lp_xStr; split <;> (try split) <;> (try split) <;> rfl) | (cases Nat.beq a 21 <;> simp only [cond_true, cond_false] <;> (unfold lp_xIal; split <;> (try split) <;> (try split) <;> rfl)))
    | (cases Nat.beq a 21 <;> simp only [cond_true, cond_false] <;> (unfold lp_xIas; split <;> (try split) <;> (try split) <;> rfl))
    | (unfold lp_xIas; split <;> (try split) <;> (try split) <;> rfl)
    | (unfold lp_xAas; split <;> (try split) <;> (try split) <;> rfl)
    | (unfold lp_xLen; split <;> (try split) <;> (try split) <;> (try split) <;> rfl)
    | (unfold lp_xNew; split <;> rfl)
    | (unfold lp_xNa; split <;> (try split) <;> rfl)
    | (unfold lp_xMna; split <;> (try split) <;> rfl)
    | exact lp_nCalV a b (t.getD 1 0) ls stk st
    | (unfold lp_xRet; split <;> (try split) <;> (try split) <;> rfl)
    | (unfold lp_xVret; split <;> rfl)
    | skip
  all_goals generalize t.getD 0 0 = z
  all_goals rcases z with _ | _ | _ | _ | _ | _ | _ | _ | _ | _ | z
  all_goals first
    | rfl
    | exact lp_nGI a b 0 ls stk st
    | exact lp_nGR a b 0 ls stk st
    | exact lp_nGV a b 0 ls stk st
    | exact lp_nGC a b 0 ls stk st
    | exact lp_nPI a b 0 ls stk st
    | exact lp_nPR a b 0 ls stk st
    | exact lp_nPZ a b 0 ls stk st
    | exact lp_nCpy a b 0 ls stk st
    | exact lp_nObj a b 0 ls stk st
    | exact lp_nMin a b 0 ls stk st
    | exact lp_nMax a b 0 ls stk st
    | exact lp_nCal a b (t.getD 1 0) ls stk st
    | exact lp_nCalI a b (t.getD 1 0) ls stk st
end
