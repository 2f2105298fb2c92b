/-! ===== a body ===== -/
theorem lp_and {a b : Bool} (h : (a && b) = true) : a = true ∧ b = true := by simpa using h
section lpW
variable {p : Program} {l : Launch} {e : Env} {R : Room} {s : State} {m : MethodId} {args : Array Value} {below : List Frame} {meth : Method} {c : Code} {Q : State → Prop}
variable {base K0 mo : Nat} {D : va_G} {dA : Nat → ClassId} {sv : Nat → Value} {b0 L0 : Nat} {xs : Nat → Int32} {r : Int32 × lp_S}
set_option maxHeartbeats 8000000 in
theorem lp_segW {d : Nat} (X : lp_Cx p R s m args meth c base K0 mo D dA sv b0 L0 xs r) (hmo : mo < 294) {call : Nat → List Value → lp_S → lp_O} {back : Nat → lp_K} (hR : d + 3 ≤ R.frames ∧ 100 * d + 300 ≤ R.locals)
    (hcall : ∀ a as st x, a < 293 → call a as st = some x → lp_Met l base D dA sv b0 L0 xs d a as st x) (hcK : ∀ m as st x, call m as st = some x → st.1 ≤ x.2.1) (hbK : ∀ pc ls stk st x, back pc ls stk st = some x → st.1 ≤ x.2.1)
    (hback : ∀ pc ls stk st, back pc ls stk st = some r → lp_Wt p l e R s m args below meth c Q base K0 mo D dA sv L0 xs pc ls stk st)
    (hretI : ∀ pc ls v st ty, decode (lp_b mo) pc = .ok (.ireturn, 1) → lp_rt mo = some ty → narrow ty (.int v) = .int v → (v, st) = r → lp_Wt p l e R s m args below meth c Q base K0 mo D dA sv L0 xs pc ls [.int v] st)
    (hretV : ∀ pc ls st, decode (lp_b mo) pc = .ok (.return_, 1) → lp_rt mo = none → ((0 : Int32), st) = r → lp_Wt p l e R s m args below meth c Q base K0 mo D dA sv L0 xs pc ls [] st) :
    ∀ k pc ls stk st, lp_seg call back (lp_cd mo) k pc ls stk st = some r → lp_Wt p l e R s m args below meth c Q base K0 mo D dA sv L0 xs pc ls stk st
  | 0 => fun _ _ _ _ h => by cases h
  | k + 1 => by
    intro pc ls stk st h
    have ih := lp_segW X hmo hR hcall hcK hbK hback hretI hretV k
    have ihK := lp_seg_K hcK hbK (lp_cd mo) k
    simp only [lp_seg] at h
    cases hq : lp_f2 (lp_cd mo) pc with
    | none => rw [hq] at h; cases h
    | some x =>
      obtain ⟨z, ⟨ins, len⟩, a, b, cv, t, fl⟩ := x
      rw [hq] at h
      simp only at h
      obtain ⟨hd, hok⟩ := lp_entry hmo hq
      have hnx : ∀ ls stk st, (bif Nat.beq (fl % 2) 1 then back (pc + len) else lp_seg call back (lp_cd mo) k (pc + len)) ls stk st = some r → lp_Wt p l e R s m args below meth c Q base K0 mo D dA sv L0 xs (pc + len) ls stk st := by
        intro ls stk st h
        cases hf : Nat.beq (fl % 2) 1 <;> rw [hf] at h <;> simp only [cond_true, cond_false] at h
        · exact ih _ _ _ _ h
        · exact hback _ _ _ _ h
      have hnK : ∀ ls stk st, (bif Nat.beq (fl % 2) 1 then back (pc + len) else lp_seg call back (lp_cd mo) k (pc + len)) ls stk st = some r → st.1 ≤ r.2.1 := by
        intro ls stk st h
        cases hf : Nat.beq (fl % 2) 1 <;> rw [hf] at h <;> simp only [cond_true, cond_false] at h
        · exact ihK _ _ _ _ _ h
        · exact hbK _ _ _ _ _ h
      have hjp : ∀ z ls stk st, (fun z => bif Nat.ble 2 fl then back z else lp_seg call back (lp_cd mo) k z) z ls stk st = some r → lp_Wt p l e R s m args below meth c Q base K0 mo D dA sv L0 xs z ls stk st := by
        intro z ls stk st h
        cases hf : Nat.ble 2 fl <;> simp only [hf, cond_true, cond_false] at h
        · exact ih _ _ _ _ h
        · exact hback _ _ _ _ h
      have hcl : ∀ a, a < 293 → ∀ as st ls rest fl, (fun m as st ls rest q => (call m as st).bind fun x => back (pc + len) ls (bif q then .int x.1 :: rest else rest) x.2) a as st ls rest fl = some r → ∃ x : Int32 × lp_S, st.1 ≤ x.2.1 ∧ x.2.1 ≤ r.2.1 ∧ lp_Met l base D dA sv b0 L0 xs d a as st x ∧ lp_Wt p l e R s m args below meth c Q base K0 mo D dA sv L0 xs (pc + len) ls (bif fl then .int x.1 :: rest else rest) x.2 := by
        intro a ha as st ls rest fl h
        simp only at h
        cases hm : call a as st with
        | none => rw [hm] at h; cases h
        | some y =>
          rw [hm] at h
          exact ⟨y, hcK _ _ _ _ hm, hbK _ _ _ _ _ h, hcall _ _ _ _ ha hm, hback _ _ _ _ h⟩
      generalize (bif Nat.beq (fl % 2) 1 then back (pc + len) else lp_seg call back (lp_cd mo) k (pc + len)) = nx at h hnx hnK
      generalize (fun z => bif Nat.ble 2 fl then back z else lp_seg call back (lp_cd mo) k z) = jp at h hjp
      generalize (fun m as st ls rest q => (call m as st).bind fun x => back (pc + len) ls (bif q then .int x.1 :: rest else rest) x.2) = cl at h hcl
      clear ih ihK hq
      cases ins
      case aload i =>
        obtain ⟨e1, e2⟩ := lp_and hok
        have e1 := Nat.eq_of_beq_eq_true e1
        have e2 := Nat.eq_of_beq_eq_true e2
        subst e1
        subst e2
        exact lpW_Al X hnx (fun lm H locs ce sl rest x hx k => lv_aload X.1 X.2.1 hd hx k) h
      case aload_n i =>
        obtain ⟨e1, e2⟩ := lp_and hok
        have e1 := Nat.eq_of_beq_eq_true e1
        have e2 := Nat.eq_of_beq_eq_true e2
        subst e1
        subst e2
        exact lpW_Al X hnx (fun lm H locs ce sl rest x hx k => lv_aload_n X.1 X.2.1 hd rfl hx k) h
      case iload i =>
        obtain ⟨e1, e2⟩ := lp_and hok
        have e1 := Nat.eq_of_beq_eq_true e1
        have e2 := Nat.eq_of_beq_eq_true e2
        subst e1
        subst e2
        exact lpW_Il hnx (fun lm H locs ce sl rest x hx k => lv_iload X.1 X.2.1 hd hx k) h
      case iload_n i =>
        obtain ⟨e1, e2⟩ := lp_and hok
        have e1 := Nat.eq_of_beq_eq_true e1
        have e2 := Nat.eq_of_beq_eq_true e2
        subst e1
        subst e2
        exact lpW_Il hnx (fun lm H locs ce sl rest x hx k => lv_iload_n X.1 X.2.1 hd rfl hx k) h
      case astore i =>
        obtain ⟨e0, e3⟩ := lp_and hok
        obtain ⟨e1, e2⟩ := lp_and e0
        have e1 := Nat.eq_of_beq_eq_true e1
        have e2 := Nat.eq_of_beq_eq_true e2
        have e3 : a < lp_mx mo := Nat.le_of_ble_eq_true e3
        subst e1
        subst e2
        exact lpW_As X hnx (fun lm H locs ce sl rest x lv lv' h1 h2 k => lv_astore X.1 X.2.1 hd h1 e3 h2 k) h
      case astore_n i =>
        obtain ⟨e0, e3⟩ := lp_and hok
        obtain ⟨e1, e2⟩ := lp_and e0
        have e1 := Nat.eq_of_beq_eq_true e1
        have e2 := Nat.eq_of_beq_eq_true e2
        have e3 : a < lp_mx mo := Nat.le_of_ble_eq_true e3
        subst e1
        subst e2
        exact lpW_As X hnx (fun lm H locs ce sl rest x lv lv' h1 h2 k => lv_astore_n X.1 X.2.1 hd rfl h1 e3 h2 k) h
      case istore i =>
        obtain ⟨e0, e3⟩ := lp_and hok
        obtain ⟨e1, e2⟩ := lp_and e0
        have e1 := Nat.eq_of_beq_eq_true e1
        have e2 := Nat.eq_of_beq_eq_true e2
        have e3 : a < lp_mx mo := Nat.le_of_ble_eq_true e3
        subst e1
        subst e2
        exact lpW_Is X hnx (fun lm H locs ce sl rest x lv lv' h1 h2 k => lv_istore X.1 X.2.1 hd h1 e3 h2 k) h
      case istore_n i =>
        obtain ⟨e0, e3⟩ := lp_and hok
        obtain ⟨e1, e2⟩ := lp_and e0
        have e1 := Nat.eq_of_beq_eq_true e1
        have e2 := Nat.eq_of_beq_eq_true e2
        have e3 : a < lp_mx mo := Nat.le_of_ble_eq_true e3
        subst e1
        subst e2
        exact lpW_Is X hnx (fun lm H locs ce sl rest x lv lv' h1 h2 k => lv_istore_n X.1 X.2.1 hd rfl h1 e3 h2 k) h
      case iinc i n =>
        obtain ⟨e0, e4⟩ := lp_and hok
        obtain ⟨e0, e3⟩ := lp_and e0
        obtain ⟨e1, e2⟩ := lp_and e0
        have e1 := Nat.eq_of_beq_eq_true e1
        have e2 := of_decide_eq_true e2
        have e3 := Nat.eq_of_beq_eq_true e3
        have e4 : a < lp_mx mo := Nat.le_of_ble_eq_true e4
        subst e1
        subst e3
        exact lpW_Inc X e4 hnx (fun lm H locs ce sl rest x k lv lv' h1 h2 h3 kk => lv_iinc X.1 X.2.1 hd h1 h2 (by rw [e2]) e4 h3 kk) h
      case iconst n =>
        obtain ⟨e1, e2⟩ := lp_and hok
        have e1 := of_decide_eq_true e1
        have e2 := Nat.eq_of_beq_eq_true e2
        subst e2
        exact lpW_C hnx (fun lm H locs ce sl rest k => lv_iconst X.1 X.2.1 hd e1 k) h
      case bipush n =>
        obtain ⟨e1, e2⟩ := lp_and hok
        have e1 := of_decide_eq_true e1
        have e2 := Nat.eq_of_beq_eq_true e2
        subst e2
        exact lpW_C hnx (fun lm H locs ce sl rest k => lv_bipush X.1 X.2.1 hd e1 k) h
      case sipush n =>
        obtain ⟨e1, e2⟩ := lp_and hok
        have e1 := of_decide_eq_true e1
        have e2 := Nat.eq_of_beq_eq_true e2
        subst e2
        exact lpW_C hnx (fun lm H locs ce sl rest k => lv_sipush X.1 X.2.1 hd e1 k) h
      case ldc i =>
        obtain ⟨e1, e2⟩ := lp_and hok
        have e1 := Nat.eq_of_beq_eq_true e1
        subst e1
        simp only [lp_i] at h
        cases hz : Nat.beq (t.getD 0 0) 0 <;> simp only [hz, cond_true, cond_false] at h e2
        · obtain ⟨e2, e3⟩ := lp_and e2
          have e2 := of_decide_eq_true e2
          have e3 : a < 18 := Nat.le_of_ble_eq_true e3
          obtain ⟨adK, adV, hS, hv⟩ := X.2.2.2.2.2.1.2.2.2.1
          have h5 := (hv a e3).2.2
          have f1 : (lp_so a).1 = lp_ow mo := congrArg Prod.fst e2
          have f2 : (lp_so a).2.1 = i := congrArg (fun x => x.2.1) e2
          rw [f1, f2] at h5
          refine lpW_S hnx (fun lm H locs ce sl rest _ k => va_ldcS X.1 X.2.1 X.2.2.2.1 h5 hd ?_) h
          rw [(hv a e3).1] at k
          exact k
        · have e2 := of_decide_eq_true e2
          exact lpW_C hnx (fun lm H locs ce sl rest k => lv_ldc X.1 X.2.1 X.2.2.2.1 (X.2.2.2.2.1 _ (lp_gt_in e2 rfl)) hd k) h
      case ldc_w i =>
        obtain ⟨e1, e2⟩ := lp_and hok
        have e1 := Nat.eq_of_beq_eq_true e1
        subst e1
        simp only [lp_i] at h
        cases hz : Nat.beq (t.getD 0 0) 0 <;> simp only [hz, cond_true, cond_false] at h e2
        · obtain ⟨e2, e3⟩ := lp_and e2
          have e2 := of_decide_eq_true e2
          have e3 : a < 18 := Nat.le_of_ble_eq_true e3
          obtain ⟨adK, adV, hS, hv⟩ := X.2.2.2.2.2.1.2.2.2.1
          have h5 := (hv a e3).2.2
          have f1 : (lp_so a).1 = lp_ow mo := congrArg Prod.fst e2
          have f2 : (lp_so a).2.1 = i := congrArg (fun x => x.2.1) e2
          rw [f1, f2] at h5
          refine lpW_S hnx (fun lm H locs ce sl rest _ k => lp_ldcwS X.1 X.2.1 X.2.2.2.1 h5 hd ?_) h
          rw [(hv a e3).1] at k
          exact k
        · have e2 := of_decide_eq_true e2
          exact lpW_C hnx (fun lm H locs ce sl rest k => lv_ldcw X.1 X.2.1 X.2.2.2.1 (X.2.2.2.2.1 _ (lp_gt_in e2 rfl)) hd k) h
      case iadd =>
        have e1 := Nat.eq_of_beq_eq_true hok
        subst e1
        exact lpW_2 hnx (fun lm H locs ce sl rest x y k => lv_iadd X.1 X.2.1 hd k) h
      case isub =>
        have e1 := Nat.eq_of_beq_eq_true hok
        subst e1
        exact lpW_2 hnx (fun lm H locs ce sl rest x y k => lv_isub X.1 X.2.1 hd k) h
      case imul =>
        have e1 := Nat.eq_of_beq_eq_true hok
        subst e1
        exact lpW_2 hnx (fun lm H locs ce sl rest x y k => lv_imul X.1 X.2.1 hd k) h
      case iand =>
        have e1 := Nat.eq_of_beq_eq_true hok
        subst e1
        exact lpW_2 hnx (fun lm H locs ce sl rest x y k => lv_iand X.1 X.2.1 hd k) h
      case ior =>
        have e1 := Nat.eq_of_beq_eq_true hok
        subst e1
        exact lpW_2 hnx (fun lm H locs ce sl rest x y k => lv_ior X.1 X.2.1 hd k) h
      case ixor =>
        have e1 := Nat.eq_of_beq_eq_true hok
        subst e1
        exact lpW_2 hnx (fun lm H locs ce sl rest x y k => lv_ixor X.1 X.2.1 hd k) h
      case ishl =>
        have e1 := Nat.eq_of_beq_eq_true hok
        subst e1
        exact lpW_2 hnx (fun lm H locs ce sl rest x y k => lv_ishl X.1 X.2.1 hd k) h
      case ishr =>
        have e1 := Nat.eq_of_beq_eq_true hok
        subst e1
        exact lpW_2 hnx (fun lm H locs ce sl rest x y k => lv_ishr X.1 X.2.1 hd k) h
      case idiv =>
        have e1 := Nat.eq_of_beq_eq_true hok
        subst e1
        exact lpW_2d hnx (fun lm H locs ce sl rest x y hy k => lv_idiv X.1 X.2.1 hd hy k) h
      case irem =>
        have e1 := Nat.eq_of_beq_eq_true hok
        subst e1
        exact lpW_2d hnx (fun lm H locs ce sl rest x y hy k => lv_irem X.1 X.2.1 hd hy k) h
      case iushr =>
        have e1 := Nat.eq_of_beq_eq_true hok
        subst e1
        exact lpW_2 hnx (fun lm H locs ce sl rest x y k => lv_iushr X.1 X.2.1 hd rfl k) h
      case i2b =>
        have e1 := Nat.eq_of_beq_eq_true hok
        subst e1
        exact lpW_1 hnx (fun lm H locs ce sl rest x k => lv_i2b X.1 X.2.1 hd rfl k) h
      case i2c =>
        have e1 := Nat.eq_of_beq_eq_true hok
        subst e1
        exact lpW_1 hnx (fun lm H locs ce sl rest x k => lv_i2c X.1 X.2.1 hd rfl k) h
      case dup =>
        have e1 := Nat.eq_of_beq_eq_true hok
        subst e1
        exact lpW_Dup hnx (fun lm H locs ce sl rest v hv k => lv_dup X.1 X.2.1 hd hv k) h
      case dup2 =>
        have e1 := Nat.eq_of_beq_eq_true hok
        subst e1
        exact lpW_Dup2 hnx (fun lm H locs ce sl rest v u hv hu k => lv_dup2_11 X.1 X.2.1 hd hv hu k) h
      case pop =>
        have e1 := Nat.eq_of_beq_eq_true hok
        subst e1
        exact lpW_Pop hnx (fun lm H locs ce sl rest v hv k => lv_pop X.1 X.2.1 hd hv k) h
      case goto of =>
        obtain ⟨e1, e2⟩ := lp_and hok
        have e1 := of_decide_eq_true e1
        have e2 := Nat.eq_of_beq_eq_true e2
        subst e2
        exact lpW_Goto X hd e1 hjp h
      case ifCond cd of =>
        obtain ⟨e1, e2⟩ := lp_and hok
        have e1 := of_decide_eq_true e1
        have e2 := Nat.eq_of_beq_eq_true e2
        subst e2
        exact lpW_If X hd e1 hnx hjp h
      case if_icmp cd of =>
        obtain ⟨e1, e2⟩ := lp_and hok
        have e1 := of_decide_eq_true e1
        have e2 := Nat.eq_of_beq_eq_true e2
        subst e2
        exact lpW_Cmp X hd e1 hnx hjp h
      case tableswitch df lo hi offs =>
        obtain ⟨e0, e5⟩ := lp_and hok
        obtain ⟨e0, e4⟩ := lp_and e0
        obtain ⟨e0, e3⟩ := lp_and e0
        obtain ⟨e1, e2⟩ := lp_and e0
        exact lpW_Sw X hd (of_decide_eq_true e1) (of_decide_eq_true e2) (of_decide_eq_true e3) (of_decide_eq_true e5) hjp h
      case getfield i =>
        obtain ⟨e1, e2⟩ := lp_and hok
        have e1 := Nat.eq_of_beq_eq_true e1
        subst e1
        simp only [lp_i] at h
        generalize t.getD 0 0 = z at h e2
        rcases z with _ | _ | _ | z
        · obtain ⟨e2, e6⟩ := lp_and e2
          obtain ⟨e2, e5⟩ := lp_and e2
          obtain ⟨e3, e4⟩ := lp_and e2
          exact lpW_GI X hd (Nat.le_of_ble_eq_true e3) (Nat.le_of_ble_eq_true e4) (of_decide_eq_true e6) (by simpa using e5) hnx h
        · obtain ⟨e2, e6⟩ := lp_and e2
          obtain ⟨e2, e5⟩ := lp_and e2
          obtain ⟨e3, e4⟩ := lp_and e2
          exact lpW_GR X hd (Nat.le_of_ble_eq_true e3) (Nat.le_of_ble_eq_true e4) (of_decide_eq_true e6) e5 hnx h
        · exact lpW_GV X hd (of_decide_eq_true e2) hnx h
        · exact lpW_GC X hd (of_decide_eq_true e2) hnx h
      case putfield i =>
        obtain ⟨e0, e6⟩ := lp_and hok
        obtain ⟨e0, e5⟩ := lp_and e0
        obtain ⟨e0, e4⟩ := lp_and e0
        obtain ⟨e0, e3⟩ := lp_and e0
        obtain ⟨e1, e2⟩ := lp_and e0
        have e1 := Nat.eq_of_beq_eq_true e1
        subst e1
        have hf : (lp_T a b).2.2.2 = true → (lp_nd mo).1 = "<init>" ∧ lp_ow mo = a := by
          intro hf
          rw [hf] at e5
          obtain ⟨e7, e8⟩ := lp_and e5
          exact ⟨of_decide_eq_true e7, Nat.eq_of_beq_eq_true e8⟩
        simp only [lp_i] at h
        generalize t.getD 0 0 = z at h e6
        rcases z with _ | _ | z
        · obtain ⟨e6, e7⟩ := lp_and e6
          exact lpW_PI X hd (Nat.le_of_ble_eq_true e2) (Nat.le_of_ble_eq_true e3) (of_decide_eq_true e4) hf (by simpa using e6) (of_decide_eq_true e7) hnx h
        · exact lpW_PR X hd (Nat.le_of_ble_eq_true e2) (Nat.le_of_ble_eq_true e3) (of_decide_eq_true e4) hf e6 hnx h
        · obtain ⟨e6, e7⟩ := lp_and e6
          exact lpW_PZ X hd (Nat.le_of_ble_eq_true e2) (Nat.le_of_ble_eq_true e3) (of_decide_eq_true e4) hf (by simpa using e6) (of_decide_eq_true e7) hnx h
      case getstatic i =>
        obtain ⟨e1, e2⟩ := lp_and hok
        have e1 := Nat.eq_of_beq_eq_true e1
        subst e1
        simp only [lp_i] at h
        cases hz : Nat.beq (t.getD 0 0) 0 <;> simp only [hz, cond_true, cond_false] at h e2
        · exact lpW_S hnx (fun lm H locs ce sl rest hS k => va_gets X.1 X.2.1 X.2.2.2.2.2.1.2.2.2.2.2.1 hS X.2.2.2.1 (X.2.2.2.2.1 _ (lp_gt_in (of_decide_eq_true e2) rfl)) (fun x hx => hx) hd k) h
        · exact lpW_C1 hnx (fun lm H locs ce sl rest hS k => va_gets X.1 X.2.1 X.2.2.2.2.2.1.2.2.2.2.1 hS X.2.2.2.1 (X.2.2.2.2.1 _ (lp_gt_in (of_decide_eq_true e2) rfl)) (fun x hx => hx) hd k) h
      case iaload =>
        have e1 := Nat.eq_of_beq_eq_true hok
        subst e1
        simp only [lp_i] at h
        cases hz : Nat.beq a 300 <;> simp only [hz, cond_true, cond_false] at h
        · exact lpW_Ial20 X hd hnx h
        · exact lpW_Scr X hd hnx h
      case baload =>
        have e1 := Nat.eq_of_beq_eq_true hok
        subst e1
        simp only [lp_i] at h
        cases hz : Nat.beq a 100 <;> simp only [hz, cond_true, cond_false] at h
        · cases hz2 : Nat.beq a 21 <;> simp only [hz2, cond_true, cond_false] at h
          · exact lpW_Ial22 X hd hnx h
          · exact lpW_Ial21 X hd hnx h
        · exact lpW_Str X hd hnx h
      case aaload =>
        have e1 := Nat.eq_of_beq_eq_true hok
        subst e1
        simp only [lp_i] at h
        cases hz : Nat.beq a 23 <;> simp only [hz, cond_true, cond_false] at h
        · exact lpW_Aal24 X hd hnx h
        · exact lpW_Aal23 X hd hnx h
      case iastore =>
        have e1 := Nat.eq_of_beq_eq_true hok
        subst e1
        exact lpW_Ias20 X hd hnx h
      case bastore =>
        have e1 := Nat.eq_of_beq_eq_true hok
        subst e1
        simp only [lp_i] at h
        cases hz : Nat.beq a 21 <;> simp only [hz, cond_true, cond_false] at h
        · exact lpW_Ias22 X hd hnx h
        · exact lpW_Ias21 X hd hnx h
      case aastore =>
        have e1 := Nat.eq_of_beq_eq_true hok
        subst e1
        exact lpW_Aas24 X hd hnx h
      case arraylength =>
        obtain ⟨e1, e2⟩ := lp_and hok
        have e1 := Nat.eq_of_beq_eq_true e1
        subst e1
        exact lpW_Len X hd (Nat.le_of_ble_eq_true e2) hnx h
      case new i =>
        obtain ⟨e0, e4⟩ := lp_and hok
        obtain ⟨e0, e3⟩ := lp_and e0
        obtain ⟨e1, e2⟩ := lp_and e0
        have e1 := Nat.eq_of_beq_eq_true e1
        subst e1
        exact lpW_New X hd (Nat.le_of_ble_eq_true e2) (Nat.eq_of_beq_eq_true e3) (of_decide_eq_true e4) hnK hnx h
      case newarray y =>
        obtain ⟨e1, e2⟩ := lp_and hok
        have e1 := Nat.eq_of_beq_eq_true e1
        subst e1
        cases y <;> first | (cases e2; done) | skip
        · have e2 := Nat.eq_of_beq_eq_true e2
          subst e2
          exact lpW_Na22 X hd hnK hnx h
        · have e2 := Nat.eq_of_beq_eq_true e2
          subst e2
          exact lpW_Na21 X hd hnK hnx h
        · have e2 := Nat.eq_of_beq_eq_true e2
          subst e2
          exact lpW_Na20 X hd hnK hnx h
      case anewarray i =>
        obtain ⟨e0, e3⟩ := lp_and hok
        obtain ⟨e1, e2⟩ := lp_and e0
        have e1 := Nat.eq_of_beq_eq_true e1
        have e2 := Nat.eq_of_beq_eq_true e2
        subst e1
        subst e2
        exact lpW_Na24 X hd (of_decide_eq_true e3) hnK hnx h
      case multianewarray i n =>
        obtain ⟨e0, e3⟩ := lp_and hok
        obtain ⟨e1, e2⟩ := lp_and e0
        have e1 := Nat.eq_of_beq_eq_true e1
        have e2 := Nat.eq_of_beq_eq_true e2
        subst e1
        subst e2
        exact lpW_Mna X hd (of_decide_eq_true e3) hnK hnx h
      case invokevirtual i =>
        obtain ⟨e0, e6⟩ := lp_and hok
        obtain ⟨e0, e5⟩ := lp_and e0
        obtain ⟨e0, e4⟩ := lp_and e0
        obtain ⟨e0, e3⟩ := lp_and e0
        obtain ⟨e1, e2⟩ := lp_and e0
        have e1 := Nat.eq_of_beq_eq_true e1
        subst e1
        have e2 : a < 293 := Nat.le_of_ble_eq_true e2
        have e3 : lp_kd a = 0 ∨ lp_kd a = 4 := by
          rw [Bool.or_eq_true] at e3
          exact e3.imp Nat.eq_of_beq_eq_true Nat.eq_of_beq_eq_true
        have e5 := Nat.eq_of_beq_eq_true e5
        exact lpW_CalV X hd e2 e3 (of_decide_eq_true e4) (by rw [e5]; cases (lp_rt a).isSome <;> rfl) e6 hR (hcl a e2) h
      case invokestatic i =>
        obtain ⟨e1, e2⟩ := lp_and hok
        have e1 := Nat.eq_of_beq_eq_true e1
        subst e1
        simp only [lp_i] at h
        generalize t.getD 0 0 = z at h e2
        have fin : ∀ qq, (qq = some (Cond.methodLink (lp_cn (lp_ow mo)) i (lp_y a)) ∨ qq = some (Cond.methodLinkNest (lp_cn (lp_ow mo)) i (lp_y a) "LampPresses")) → qq = lp_wd (t.getD 2 0) → a < 293 → lp_kd a = 1 → t.getD 1 0 = (bif (lp_rt a).isSome then 1 else 0) → lp_nar a b 0 = true → lp_xCal a b (t.getD 1 0) cl ls stk st = some r → lp_Wt p l e R s m args below meth c Q base K0 mo D dA sv L0 xs pc ls stk st := by
          intro qq hw hqq h2 h3 h5 h6 h
          rw [hqq] at hw
          exact lpW_CalS X hd h2 h3 hw (by rw [h5]; cases (lp_rt a).isSome <;> rfl) h6 hR (hcl a h2) h
        by_cases z6 : z = 6
        · subst z6
          exact lpW_Cpy X hd (of_decide_eq_true e2) hnx h
        by_cases z7 : z = 7
        · subst z7
          exact lpW_Max X hd (of_decide_eq_true e2) hnK hnx h
        by_cases z8 : z = 8
        · subst z8
          exact lpW_Min X hd (of_decide_eq_true e2) hnK hnx h
        by_cases z9 : z = 9
        · subst z9
          exact absurd (show (none : lp_O) = some r from h) (by simp)
        by_cases z3 : z = 3
        · subst z3
          obtain ⟨e0, e6⟩ := lp_and e2
          obtain ⟨e0, e5⟩ := lp_and e0
          obtain ⟨e0, e4⟩ := lp_and e0
          obtain ⟨e2, e3⟩ := lp_and e0
          exact fin _ (Or.inr (of_decide_eq_true e4)) rfl (Nat.le_of_ble_eq_true e2) (Nat.eq_of_beq_eq_true e3) (Nat.eq_of_beq_eq_true e5) e6 h
        · have e2 : (Nat.blt a 293 && Nat.beq (lp_kd a) 1 && decide (lp_wd (t.getD 2 0) = some (.methodLink (lp_cn (lp_ow mo)) i (lp_y a))) && Nat.beq (t.getD 1 0) (bif (lp_rt a).isSome then 1 else 0) && lp_nar a b 0) = true := by
            revert e2
            split <;> first | (intro e; exact e) | (intro e; omega)
          have h : lp_xCal a b (t.getD 1 0) cl ls stk st = some r := by
            revert h
            split <;> first | (intro e; exact e) | (intro e; omega)
          obtain ⟨e0, e6⟩ := lp_and e2
          obtain ⟨e0, e5⟩ := lp_and e0
          obtain ⟨e0, e4⟩ := lp_and e0
          obtain ⟨e2, e3⟩ := lp_and e0
          exact fin _ (Or.inl (of_decide_eq_true e4)) rfl (Nat.le_of_ble_eq_true e2) (Nat.eq_of_beq_eq_true e3) (Nat.eq_of_beq_eq_true e5) e6 h
      case invokespecial i =>
        obtain ⟨e1, e2⟩ := lp_and hok
        have e1 := Nat.eq_of_beq_eq_true e1
        subst e1
        simp only [lp_i] at h
        generalize t.getD 0 0 = z at h e2
        have fin : ∀ qq, (qq = some (Cond.methodLink (lp_cn (lp_ow mo)) i (lp_y a)) ∨ qq = some (Cond.methodLinkNest (lp_cn (lp_ow mo)) i (lp_y a) "LampPresses")) → qq = lp_wd (t.getD 2 0) → a < 293 → lp_kd a = 2 → t.getD 1 0 = 0 → lp_nar a b 1 = true → lp_xCalI a b (t.getD 1 0) cl ls stk st = some r → lp_Wt p l e R s m args below meth c Q base K0 mo D dA sv L0 xs pc ls stk st := by
          intro qq hw hqq h2 h3 h5 h6 h
          rw [hqq] at hw
          exact lpW_CalI X hd h2 h3 hw h5 h6 hR (hcl a h2) h
        by_cases z5 : z = 5
        · subst z5
          exact lpW_Obj X hd (of_decide_eq_true e2) hnx h
        by_cases z4 : z = 4
        · subst z4
          obtain ⟨e0, e6⟩ := lp_and e2
          obtain ⟨e0, e5⟩ := lp_and e0
          obtain ⟨e0, e4⟩ := lp_and e0
          obtain ⟨e2, e3⟩ := lp_and e0
          exact fin _ (Or.inr (of_decide_eq_true e4)) rfl (Nat.le_of_ble_eq_true e2) (Nat.eq_of_beq_eq_true e3) (Nat.eq_of_beq_eq_true e5) e6 h
        · have e2 : (Nat.blt a 293 && Nat.beq (lp_kd a) 2 && decide (lp_wd (t.getD 2 0) = some (.methodLink (lp_cn (lp_ow mo)) i (lp_y a))) && Nat.beq (t.getD 1 0) 0 && lp_nar a b 1) = true := by
            revert e2
            split <;> first | (intro e; exact e) | (intro e; omega)
          have h : lp_xCalI a b (t.getD 1 0) cl ls stk st = some r := by
            revert h
            split <;> first | (intro e; exact e) | (intro e; omega)
          obtain ⟨e0, e6⟩ := lp_and e2
          obtain ⟨e0, e5⟩ := lp_and e0
          obtain ⟨e0, e4⟩ := lp_and e0
          obtain ⟨e2, e3⟩ := lp_and e0
          exact fin _ (Or.inl (of_decide_eq_true e4)) rfl (Nat.le_of_ble_eq_true e2) (Nat.eq_of_beq_eq_true e3) (Nat.eq_of_beq_eq_true e5) e6 h
      case ireturn =>
        obtain ⟨e1, e2⟩ := lp_and hok
        have e1 := Nat.eq_of_beq_eq_true e1
        subst e1
        simp only [lp_i, lp_xRet] at h
        split at h
        · next v =>
          rcases a with _ | _ | _ | _ | a
          · exact hretI pc ls v st .int hd (of_decide_eq_true e2) rfl (Option.some.inj h)
          · simp only at h
            split at h
            · next hv => exact hretI pc ls v st .boolean hd (of_decide_eq_true e2) (by rcases hv with e | e <;> rw [e] <;> rfl) (Option.some.inj h)
            · cases h
          · simp only at h
            split at h
            · next hv => exact hretI pc ls v st .char hd (of_decide_eq_true e2) (by rw [← hv]; exact sc_nar v) (Option.some.inj h)
            · cases h
          · simp only at h
            split at h
            · next hv => exact hretI pc ls v st .byte hd (of_decide_eq_true e2) (by rw [← hv]; exact pk_nb v) (Option.some.inj h)
            · cases h
          · simp only at h
            split at h
            · next hv => exact hretI pc ls v st .char hd (of_decide_eq_true e2) (by rw [← hv]; exact sc_nar v) (Option.some.inj h)
            · cases h
        · cases h
      case return_ =>
        obtain ⟨e1, e2⟩ := lp_and hok
        have e1 := Nat.eq_of_beq_eq_true e1
        subst e1
        simp only [lp_i, lp_xVret] at h
        split at h
        · exact hretV pc ls st hd (of_decide_eq_true e2) (Option.some.inj h)
        · cases h
      all_goals exact absurd (show (none : lp_O) = some r from h) (by simp)
end lpW
