/-! ===== a body, a run (printed by wip/whole/mkseg.py) ===== -/
def lp_oK : lp_Out → Nat
  | .inl x => x.2.2.1
  | .inr (.inl x) => x.2.2.2.1
  | .inr (.inr (.inl x)) => x.2.2.1.1
  | .inr (.inr (.inr x)) => x.2.1
theorem lp_kC {c : Int32} {ls stk : List Value} {st : lp_S} {o : lp_Out} (h : lp_xC c (fun ls stk st => some (Sum.inl (ls, stk, st)) : lp_Q lp_Out) ls stk st = some o) : st.1 ≤ lp_oK o := by
  unfold lp_xC at h
  (repeat' split at h)
  all_goals first | (cases h; done) | (cases h; exact Nat.le_refl _) | (cases h; exact Nat.le_add_right _ _)
theorem lp_kS {a : Nat} {ls stk : List Value} {st : lp_S} {o : lp_Out} (h : lp_xS a (fun ls stk st => some (Sum.inl (ls, stk, st)) : lp_Q lp_Out) ls stk st = some o) : st.1 ≤ lp_oK o := by
  unfold lp_xS at h
  (repeat' split at h)
  all_goals first | (cases h; done) | (cases h; exact Nat.le_refl _) | (cases h; exact Nat.le_add_right _ _)
theorem lp_kIl {a : Nat} {ls stk : List Value} {st : lp_S} {o : lp_Out} (h : lp_xIl a (fun ls stk st => some (Sum.inl (ls, stk, st)) : lp_Q lp_Out) ls stk st = some o) : st.1 ≤ lp_oK o := by
  unfold lp_xIl at h
  (repeat' split at h)
  all_goals first | (cases h; done) | (cases h; exact Nat.le_refl _) | (cases h; exact Nat.le_add_right _ _)
theorem lp_kAl {a : Nat} {ls stk : List Value} {st : lp_S} {o : lp_Out} (h : lp_xAl a (fun ls stk st => some (Sum.inl (ls, stk, st)) : lp_Q lp_Out) ls stk st = some o) : st.1 ≤ lp_oK o := by
  unfold lp_xAl at h
  (repeat' split at h)
  all_goals first | (cases h; done) | (cases h; exact Nat.le_refl _) | (cases h; exact Nat.le_add_right _ _)
theorem lp_kIs {a : Nat} {ls stk : List Value} {st : lp_S} {o : lp_Out} (h : lp_xIs a (fun ls stk st => some (Sum.inl (ls, stk, st)) : lp_Q lp_Out) ls stk st = some o) : st.1 ≤ lp_oK o := by
  unfold lp_xIs at h
  (repeat' split at h)
  all_goals first | (cases h; done) | (cases h; exact Nat.le_refl _) | (cases h; exact Nat.le_add_right _ _)
theorem lp_kAs {a : Nat} {ls stk : List Value} {st : lp_S} {o : lp_Out} (h : lp_xAs a (fun ls stk st => some (Sum.inl (ls, stk, st)) : lp_Q lp_Out) ls stk st = some o) : st.1 ≤ lp_oK o := by
  unfold lp_xAs at h
  (repeat' split at h)
  all_goals first | (cases h; done) | (cases h; exact Nat.le_refl _) | (cases h; exact Nat.le_add_right _ _)
theorem lp_kInc {a : Nat} {c : Int32} {ls stk : List Value} {st : lp_S} {o : lp_Out} (h : lp_xInc a c (fun ls stk st => some (Sum.inl (ls, stk, st)) : lp_Q lp_Out) ls stk st = some o) : st.1 ≤ lp_oK o := by
  unfold lp_xInc at h
  (repeat' split at h)
  all_goals first | (cases h; done) | (cases h; exact Nat.le_refl _) | (cases h; exact Nat.le_add_right _ _)
theorem lp_k1 {f : Int32 → Int32} {ls stk : List Value} {st : lp_S} {o : lp_Out} (h : lp_x1 f (fun ls stk st => some (Sum.inl (ls, stk, st)) : lp_Q lp_Out) ls stk st = some o) : st.1 ≤ lp_oK o := by
  unfold lp_x1 at h
  (repeat' split at h)
  all_goals first | (cases h; done) | (cases h; exact Nat.le_refl _) | (cases h; exact Nat.le_add_right _ _)
theorem lp_k2 {f : Int32 → Int32 → Int32} {ls stk : List Value} {st : lp_S} {o : lp_Out} (h : lp_x2 f (fun ls stk st => some (Sum.inl (ls, stk, st)) : lp_Q lp_Out) ls stk st = some o) : st.1 ≤ lp_oK o := by
  unfold lp_x2 at h
  (repeat' split at h)
  all_goals first | (cases h; done) | (cases h; exact Nat.le_refl _) | (cases h; exact Nat.le_add_right _ _)
theorem lp_k2d {f : Int32 → Int32 → Int32} {ls stk : List Value} {st : lp_S} {o : lp_Out} (h : lp_x2d f (fun ls stk st => some (Sum.inl (ls, stk, st)) : lp_Q lp_Out) ls stk st = some o) : st.1 ≤ lp_oK o := by
  unfold lp_x2d at h
  (repeat' split at h)
  all_goals first | (cases h; done) | (cases h; exact Nat.le_refl _) | (cases h; exact Nat.le_add_right _ _)
theorem lp_kDup  {ls stk : List Value} {st : lp_S} {o : lp_Out} (h : lp_xDup (fun ls stk st => some (Sum.inl (ls, stk, st)) : lp_Q lp_Out) ls stk st = some o) : st.1 ≤ lp_oK o := by
  unfold lp_xDup at h
  (repeat' split at h)
  all_goals first | (cases h; done) | (cases h; exact Nat.le_refl _) | (cases h; exact Nat.le_add_right _ _)
theorem lp_kDup2  {ls stk : List Value} {st : lp_S} {o : lp_Out} (h : lp_xDup2 (fun ls stk st => some (Sum.inl (ls, stk, st)) : lp_Q lp_Out) ls stk st = some o) : st.1 ≤ lp_oK o := by
  unfold lp_xDup2 at h
  (repeat' split at h)
  all_goals first | (cases h; done) | (cases h; exact Nat.le_refl _) | (cases h; exact Nat.le_add_right _ _)
theorem lp_kPop  {ls stk : List Value} {st : lp_S} {o : lp_Out} (h : lp_xPop (fun ls stk st => some (Sum.inl (ls, stk, st)) : lp_Q lp_Out) ls stk st = some o) : st.1 ≤ lp_oK o := by
  unfold lp_xPop at h
  (repeat' split at h)
  all_goals first | (cases h; done) | (cases h; exact Nat.le_refl _) | (cases h; exact Nat.le_add_right _ _)
theorem lp_kIf {cd : Jvm.ClassFile.Cond} {a : Nat} {ls stk : List Value} {st : lp_S} {o : lp_Out} (h : lp_xIf cd a (fun ls stk st => some (Sum.inl (ls, stk, st)) : lp_Q lp_Out) (fun z ls stk st => some (Sum.inr (Sum.inl (z, ls, stk, st))) : Nat → lp_Q lp_Out) ls stk st = some o) : st.1 ≤ lp_oK o := by
  unfold lp_xIf at h
  (repeat' split at h)
  all_goals first | (cases h; done) | (cases h; exact Nat.le_refl _) | (cases h; exact Nat.le_add_right _ _)
theorem lp_kCmp {cd : Jvm.ClassFile.Cond} {a : Nat} {ls stk : List Value} {st : lp_S} {o : lp_Out} (h : lp_xCmp cd a (fun ls stk st => some (Sum.inl (ls, stk, st)) : lp_Q lp_Out) (fun z ls stk st => some (Sum.inr (Sum.inl (z, ls, stk, st))) : Nat → lp_Q lp_Out) ls stk st = some o) : st.1 ≤ lp_oK o := by
  unfold lp_xCmp at h
  (repeat' split at h)
  all_goals first | (cases h; done) | (cases h; exact Nat.le_refl _) | (cases h; exact Nat.le_add_right _ _)
theorem lp_kSw {a b : Nat} {t : List Nat} {ls stk : List Value} {st : lp_S} {o : lp_Out} (h : lp_xSw a b t (fun z ls stk st => some (Sum.inr (Sum.inl (z, ls, stk, st))) : Nat → lp_Q lp_Out) ls stk st = some o) : st.1 ≤ lp_oK o := by
  unfold lp_xSw at h
  (repeat' split at h)
  all_goals first | (cases h; done) | (cases h; exact Nat.le_refl _) | (cases h; exact Nat.le_add_right _ _)
theorem lp_kGI {a b : Nat} {ls stk : List Value} {st : lp_S} {o : lp_Out} (h : lp_xGI a b (fun ls stk st => some (Sum.inl (ls, stk, st)) : lp_Q lp_Out) ls stk st = some o) : st.1 ≤ lp_oK o := by
  unfold lp_xGI at h
  (repeat' split at h)
  all_goals first | (cases h; done) | (cases h; exact Nat.le_refl _) | (cases h; exact Nat.le_add_right _ _)
theorem lp_kGR {a b : Nat} {ls stk : List Value} {st : lp_S} {o : lp_Out} (h : lp_xGR a b (fun ls stk st => some (Sum.inl (ls, stk, st)) : lp_Q lp_Out) ls stk st = some o) : st.1 ≤ lp_oK o := by
  unfold lp_xGR at h
  unfold lp_pR at h
  (repeat' split at h)
  all_goals first | (cases h; done) | (cases h; exact Nat.le_refl _) | (cases h; exact Nat.le_add_right _ _)
theorem lp_kGV  {ls stk : List Value} {st : lp_S} {o : lp_Out} (h : lp_xGV (fun ls stk st => some (Sum.inl (ls, stk, st)) : lp_Q lp_Out) ls stk st = some o) : st.1 ≤ lp_oK o := by
  unfold lp_xGV at h
  (repeat' split at h)
  all_goals first | (cases h; done) | (cases h; exact Nat.le_refl _) | (cases h; exact Nat.le_add_right _ _)
theorem lp_kGC  {ls stk : List Value} {st : lp_S} {o : lp_Out} (h : lp_xGC (fun ls stk st => some (Sum.inl (ls, stk, st)) : lp_Q lp_Out) ls stk st = some o) : st.1 ≤ lp_oK o := by
  unfold lp_xGC at h
  (repeat' split at h)
  all_goals first | (cases h; done) | (cases h; exact Nat.le_refl _) | (cases h; exact Nat.le_add_right _ _)
theorem lp_kPI {a b : Nat} {ls stk : List Value} {st : lp_S} {o : lp_Out} (h : lp_xPI a b (fun ls stk st => some (Sum.inl (ls, stk, st)) : lp_Q lp_Out) ls stk st = some o) : st.1 ≤ lp_oK o := by
  unfold lp_xPI at h
  (repeat' split at h)
  all_goals first | (cases h; done) | (cases h; exact Nat.le_refl _) | (cases h; exact Nat.le_add_right _ _)
theorem lp_kPZ {a b : Nat} {ls stk : List Value} {st : lp_S} {o : lp_Out} (h : lp_xPZ a b (fun ls stk st => some (Sum.inl (ls, stk, st)) : lp_Q lp_Out) ls stk st = some o) : st.1 ≤ lp_oK o := by
  unfold lp_xPZ at h
  (repeat' split at h)
  all_goals first | (cases h; done) | (cases h; exact Nat.le_refl _) | (cases h; exact Nat.le_add_right _ _)
theorem lp_kPR {a b : Nat} {ls stk : List Value} {st : lp_S} {o : lp_Out} (h : lp_xPR a b (fun ls stk st => some (Sum.inl (ls, stk, st)) : lp_Q lp_Out) ls stk st = some o) : st.1 ≤ lp_oK o := by
  unfold lp_xPR at h
  (repeat' split at h)
  all_goals first | (cases h; done) | (cases h; exact Nat.le_refl _) | (cases h; exact Nat.le_add_right _ _)
theorem lp_kIal {a : Nat} {ls stk : List Value} {st : lp_S} {o : lp_Out} (h : lp_xIal a (fun ls stk st => some (Sum.inl (ls, stk, st)) : lp_Q lp_Out) ls stk st = some o) : st.1 ≤ lp_oK o := by
  unfold lp_xIal at h
  (repeat' split at h)
  all_goals first | (cases h; done) | (cases h; exact Nat.le_refl _) | (cases h; exact Nat.le_add_right _ _)
theorem lp_kScr  {ls stk : List Value} {st : lp_S} {o : lp_Out} (h : lp_xScr (fun ls stk st => some (Sum.inl (ls, stk, st)) : lp_Q lp_Out) ls stk st = some o) : st.1 ≤ lp_oK o := by
  unfold lp_xScr at h
  (repeat' split at h)
  all_goals first | (cases h; done) | (cases h; exact Nat.le_refl _) | (cases h; exact Nat.le_add_right _ _)
theorem lp_kStr  {ls stk : List Value} {st : lp_S} {o : lp_Out} (h : lp_xStr (fun ls stk st => some (Sum.inl (ls, stk, st)) : lp_Q lp_Out) ls stk st = some o) : st.1 ≤ lp_oK o := by
  unfold lp_xStr at h
  (repeat' split at h)
  all_goals first | (cases h; done) | (cases h; exact Nat.le_refl _) | (cases h; exact Nat.le_add_right _ _)
theorem lp_kAal {a : Nat} {ls stk : List Value} {st : lp_S} {o : lp_Out} (h : lp_xAal a (fun ls stk st => some (Sum.inl (ls, stk, st)) : lp_Q lp_Out) ls stk st = some o) : st.1 ≤ lp_oK o := by
  unfold lp_xAal at h
  unfold lp_pR at h
  (repeat' split at h)
  all_goals first | (cases h; done) | (cases h; exact Nat.le_refl _) | (cases h; exact Nat.le_add_right _ _)
theorem lp_kIas {a : Nat} {f : Int32 → Int32} {ls stk : List Value} {st : lp_S} {o : lp_Out} (h : lp_xIas a f (fun ls stk st => some (Sum.inl (ls, stk, st)) : lp_Q lp_Out) ls stk st = some o) : st.1 ≤ lp_oK o := by
  unfold lp_xIas at h
  (repeat' split at h)
  all_goals first | (cases h; done) | (cases h; exact Nat.le_refl _) | (cases h; exact Nat.le_add_right _ _)
theorem lp_kAas {a : Nat} {ls stk : List Value} {st : lp_S} {o : lp_Out} (h : lp_xAas a (fun ls stk st => some (Sum.inl (ls, stk, st)) : lp_Q lp_Out) ls stk st = some o) : st.1 ≤ lp_oK o := by
  unfold lp_xAas at h
  (repeat' split at h)
  all_goals first | (cases h; done) | (cases h; exact Nat.le_refl _) | (cases h; exact Nat.le_add_right _ _)
theorem lp_kLen {a : Nat} {ls stk : List Value} {st : lp_S} {o : lp_Out} (h : lp_xLen a (fun ls stk st => some (Sum.inl (ls, stk, st)) : lp_Q lp_Out) ls stk st = some o) : st.1 ≤ lp_oK o := by
  unfold lp_xLen at h
  (repeat' split at h)
  all_goals first | (cases h; done) | (cases h; exact Nat.le_refl _) | (cases h; exact Nat.le_add_right _ _)
theorem lp_kNew {a b : Nat} {ls stk : List Value} {st : lp_S} {o : lp_Out} (h : lp_xNew a b (fun ls stk st => some (Sum.inl (ls, stk, st)) : lp_Q lp_Out) ls stk st = some o) : st.1 ≤ lp_oK o := by
  unfold lp_xNew at h
  (repeat' split at h)
  all_goals first | (cases h; done) | (cases h; exact Nat.le_refl _) | (cases h; exact Nat.le_add_right _ _)
theorem lp_kNa {a : Nat} {ls stk : List Value} {st : lp_S} {o : lp_Out} (h : lp_xNa a (fun ls stk st => some (Sum.inl (ls, stk, st)) : lp_Q lp_Out) ls stk st = some o) : st.1 ≤ lp_oK o := by
  unfold lp_xNa at h
  (repeat' split at h)
  all_goals first | (cases h; done) | (cases h; exact Nat.le_refl _) | (cases h; exact Nat.le_add_right _ _)
theorem lp_kMna  {ls stk : List Value} {st : lp_S} {o : lp_Out} (h : lp_xMna (fun ls stk st => some (Sum.inl (ls, stk, st)) : lp_Q lp_Out) ls stk st = some o) : st.1 ≤ lp_oK o := by
  unfold lp_xMna at h
  (repeat' split at h)
  all_goals first | (cases h; done) | (cases h; exact Nat.le_refl _) | (cases h; exact Nat.le_add_right _ _)
theorem lp_kObj  {ls stk : List Value} {st : lp_S} {o : lp_Out} (h : lp_xObj (fun ls stk st => some (Sum.inl (ls, stk, st)) : lp_Q lp_Out) ls stk st = some o) : st.1 ≤ lp_oK o := by
  unfold lp_xObj at h
  (repeat' split at h)
  all_goals first | (cases h; done) | (cases h; exact Nat.le_refl _) | (cases h; exact Nat.le_add_right _ _)
theorem lp_kCpy  {ls stk : List Value} {st : lp_S} {o : lp_Out} (h : lp_xCpy (fun ls stk st => some (Sum.inl (ls, stk, st)) : lp_Q lp_Out) ls stk st = some o) : st.1 ≤ lp_oK o := by
  unfold lp_xCpy at h
  (repeat' split at h)
  all_goals first | (cases h; done) | (cases h; exact Nat.le_refl _) | (cases h; exact Nat.le_add_right _ _)
theorem lp_kRet {a : Nat} {ls stk : List Value} {st : lp_S} {o : lp_Out} (h : lp_xRet a (fun r st => some (Sum.inr (Sum.inr (Sum.inr (r, st)))) : Int32 → lp_S → Option lp_Out) ls stk st = some o) : st.1 ≤ lp_oK o := by
  unfold lp_xRet at h
  (repeat' split at h)
  all_goals first | (cases h; done) | (cases h; exact Nat.le_refl _) | (cases h; exact Nat.le_add_right _ _)
theorem lp_kVret  {ls stk : List Value} {st : lp_S} {o : lp_Out} (h : lp_xVret (fun r st => some (Sum.inr (Sum.inr (Sum.inr (r, st)))) : Int32 → lp_S → Option lp_Out) ls stk st = some o) : st.1 ≤ lp_oK o := by
  unfold lp_xVret at h
  (repeat' split at h)
  all_goals first | (cases h; done) | (cases h; exact Nat.le_refl _) | (cases h; exact Nat.le_add_right _ _)
theorem lp_kMax {ls stk : List Value} {st : lp_S} {o : lp_Out} (h : lp_xMax (fun ls stk st => some (Sum.inl (ls, stk, st)) : lp_Q lp_Out) ls stk st = some o) : st.1 ≤ lp_oK o := by
  unfold lp_xMax at h
  cases hc : lp_cok stk 2 <;> simp only [hc, cond_true, cond_false] at h
  · cases h
  · exact lp_k2 h
theorem lp_kMin {ls stk : List Value} {st : lp_S} {o : lp_Out} (h : lp_xMin (fun ls stk st => some (Sum.inl (ls, stk, st)) : lp_Q lp_Out) ls stk st = some o) : st.1 ≤ lp_oK o := by
  unfold lp_xMin at h
  cases hc : lp_cok stk 2 <;> simp only [hc, cond_true, cond_false] at h
  · cases h
  · exact lp_k2 h
theorem lp_kCal {a b t : Nat} {ls stk : List Value} {st : lp_S} {o : lp_Out} (h : lp_xCal a b t (fun m as st ls rest q => some (Sum.inr (Sum.inr (Sum.inl (m, as, st, ls, rest, q)))) : Nat → List Value → lp_S → List Value → List Value → Bool → Option lp_Out) ls stk st = some o) : st.1 ≤ lp_oK o := by
  unfold lp_xCal at h
  cases hc : lp_cok stk b <;> simp only [hc, cond_true, cond_false] at h
  · cases h
  (repeat' split at h)
  all_goals first | (cases h; done) | (cases h; exact Nat.le_refl _) | (cases h; exact Nat.le_add_right _ _)
theorem lp_kCalV {a b t : Nat} {ls stk : List Value} {st : lp_S} {o : lp_Out} (h : lp_xCalV a b t (fun m as st ls rest q => some (Sum.inr (Sum.inr (Sum.inl (m, as, st, ls, rest, q)))) : Nat → List Value → lp_S → List Value → List Value → Bool → Option lp_Out) ls stk st = some o) : st.1 ≤ lp_oK o := by
  unfold lp_xCalV at h
  cases hc : lp_cok stk b <;> simp only [hc, cond_true, cond_false] at h
  · cases h
  (repeat' split at h)
  all_goals first | (cases h; done) | (cases h; exact Nat.le_refl _) | (cases h; exact Nat.le_add_right _ _)
theorem lp_kCalI {a b t : Nat} {ls stk : List Value} {st : lp_S} {o : lp_Out} (h : lp_xCalI a b t (fun m as st ls rest q => some (Sum.inr (Sum.inr (Sum.inl (m, as, st, ls, rest, q)))) : Nat → List Value → lp_S → List Value → List Value → Bool → Option lp_Out) ls stk st = some o) : st.1 ≤ lp_oK o := by
  unfold lp_xCalI at h
  cases hc : lp_cok stk b <;> simp only [hc, cond_true, cond_false] at h
  · cases h
  (repeat' split at h)
  all_goals first | (cases h; done) | (cases h; exact Nat.le_refl _) | (cases h; exact Nat.le_add_right _ _)
set_option maxHeartbeats 4000000 in
theorem lp_st_K {ins : Instr} {a b : Nat} {c : Int32} {t : List Nat} {ls stk : List Value} {st : lp_S} {o : lp_Out} (h : lp_st ins a b c t ls stk st = some o) : st.1 ≤ lp_oK o := by
  unfold lp_st at h
  cases ins
  all_goals first
    | (exact absurd (show (none : Option lp_Out) = some o from h) (by simp))
    | exact lp_kC h
    | exact lp_kIl h
    | exact lp_kAl h
    | exact lp_kIs h
    | exact lp_kAs h
    | exact lp_kInc h
    | exact lp_k1 h
    | exact lp_k2 h
    | exact lp_k2d h
    | exact lp_kDup h
    | exact lp_kDup2 h
    | exact lp_kPop h
    | exact lp_kIf h
    | exact lp_kCmp h
    | exact lp_kSw h
    | exact lp_kIas h
    | exact lp_kAas h
    | exact lp_kLen h
    | exact lp_kNew h
    | exact lp_kNa h
    | exact lp_kMna h
    | exact lp_kCalV h
    | exact lp_kRet h
    | exact lp_kVret h
    | (cases h; exact Nat.le_refl _)
    | skip
  all_goals simp only [lp_i] at h
  all_goals first
    | exact lp_kRet h
    | exact lp_kVret h
    | (cases hz : Nat.beq a 300 <;> simp only [hz, cond_true, cond_false] at h <;> first | exact lp_kScr h | exact lp_kIal h)
    | (cases hz : Nat.beq a 100 <;> simp only [hz, cond_true, cond_false] at h <;> first | exact lp_kStr h | (cases hz2 : Nat.beq a 21 <;> simp only [hz2, cond_true, cond_false] at h <;> exact lp_kIal h))
    | (cases hz : Nat.beq a 23 <;> simp only [hz, cond_true, cond_false] at h <;> exact lp_kAal h)
    | (cases hz : Nat.beq a 21 <;> simp only [hz, cond_true, cond_false] at h <;> exact lp_kIas h)
    | (cases hz : Nat.beq (t.getD 0 0) 0 <;> simp only [hz, cond_true, cond_false] at h <;> first | exact lp_kC h | exact lp_kS h)
    | skip
  all_goals generalize t.getD 0 0 = z at h
  all_goals rcases z with _ | _ | _ | _ | _ | _ | _ | _ | _ | _ | z
  all_goals first
    | (exact absurd (show (none : Option lp_Out) = some o from h) (by simp))
    | exact lp_kGI h
    | exact lp_kGR h
    | exact lp_kGV h
    | exact lp_kGC h
    | exact lp_kPI h
    | exact lp_kPR h
    | exact lp_kPZ h
    | exact lp_kCpy h
    | exact lp_kMax h
    | exact lp_kMin h
    | exact lp_kObj h
    | exact lp_kCal h
    | exact lp_kCalI h
theorem lp_seg_K {call : Nat → List Value → lp_S → lp_O} {back : Nat → lp_K} (hc : ∀ m as st x, call m as st = some x → st.1 ≤ x.2.1) (hb : ∀ pc ls stk st x, back pc ls stk st = some x → st.1 ≤ x.2.1) (C : List (Nat × List lp_E)) : ∀ k pc ls stk st x, lp_seg call back C k pc ls stk st = some x → st.1 ≤ x.2.1
  | 0 => fun _ _ _ _ _ h => by cases h
  | k + 1 => by
    intro pc ls stk st r h
    simp only [lp_seg] at h
    cases hq : lp_f2 C pc with
    | none => rw [hq] at h; cases h
    | some x =>
      obtain ⟨_, ⟨ins, len⟩, a, b, cv, t, fl⟩ := x
      rw [hq] at h
      simp only at h
      rw [lp_i_nat] at h
      cases ho : lp_st ins a b cv t ls stk st with
      | none => rw [ho] at h; cases h
      | some o =>
        rw [ho] at h
        have h0 := lp_st_K ho
        simp only [Option.bind_some] at h
        match o, h, h0 with
        | .inl x, h, h0 =>
          simp only [lp_go] at h
          refine Nat.le_trans h0 ?_
          cases hf : Nat.beq (fl % 2) 1 <;> rw [hf] at h <;> simp only [cond_true, cond_false] at h
          · exact lp_seg_K hc hb C k _ _ _ _ _ h
          · exact hb _ _ _ _ _ h
        | .inr (.inl x), h, h0 =>
          simp only [lp_go] at h
          refine Nat.le_trans h0 ?_
          cases hf : Nat.ble 2 fl <;> rw [hf] at h <;> simp only [cond_true, cond_false] at h
          · exact lp_seg_K hc hb C k _ _ _ _ _ h
          · exact hb _ _ _ _ _ h
        | .inr (.inr (.inl x)), h, h0 =>
          simp only [lp_go] at h
          refine Nat.le_trans h0 ?_
          cases hm : call x.1 x.2.1 x.2.2.1 with
          | none => rw [hm] at h; cases h
          | some y =>
            rw [hm] at h
            exact Nat.le_trans (hc _ _ _ _ hm) (hb _ _ _ _ _ h)
        | .inr (.inr (.inr x)), h, h0 =>
          cases h
          exact h0
theorem lp_bk_K {call : Nat → List Value → lp_S → lp_O} (hc : ∀ m as st x, call m as st = some x → st.1 ≤ x.2.1) (C : List (Nat × List lp_E)) : ∀ n pc ls stk st x, lp_bk call C n pc ls stk st = some x → st.1 ≤ x.2.1
  | 0 => fun _ _ _ _ _ h => by cases h
  | n + 1 => fun pc ls stk st x h => lp_seg_K hc (lp_bk_K hc C n) C 1200 pc ls stk st x h
theorem lp_run_K : ∀ d n m as st x, lp_run d n m as st = some x → st.1 ≤ x.2.1
  | 0 => fun _ _ _ _ _ h => by cases h
  | d + 1 => fun n m as st x h => by
    simp only [lp_run] at h
    cases hc : (Nat.ble as.length (lp_mx m) && (as.all lp_good && !Nat.beq (lp_ow m) 12)) <;> simp only [hc, cond_true, cond_false] at h
    · cases h
    · exact lp_bk_K (lp_run_K d n) (lp_cd m) n _ _ _ _ _ h
