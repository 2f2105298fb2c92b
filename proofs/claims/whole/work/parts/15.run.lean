/-! ===== a run of the small machine is a contract of the machine ===== -/
theorem lp_rl_cat {base : Nat} {sv : Nat → Value} (hsv : ∀ k, (sv k).category = 1) {v : Value} (h : lp_good v = true) : (lp_rl base sv v).category = 1 := by
  cases v <;> first | rfl | exact hsv _ | cases h
theorem lp_sl_len {base : Nat} {sv : Nat → Value} (hsv : ∀ k, (sv k).category = 1) : ∀ (as : List Value), as.all lp_good = true → (lg_sl (as.map (lp_rl base sv))).length = as.length
  | [], _ => rfl
  | v :: as, h => by
    rw [List.all_cons, Bool.and_eq_true] at h
    have h1 := lp_rl_cat (base := base) hsv h.1
    have h2 := lp_sl_len (base := base) hsv as h.2
    show ((if (lp_rl base sv v).category = 2 then [Slot.val _, Slot.second] else [Slot.val _]) ++ lg_sl (as.map (lp_rl base sv))).length = _
    rw [if_neg (by rw [h1]; decide), List.length_append, h2, List.length_cons]
    simp [Nat.add_comm]
theorem lp_args_mem {base : Nat} {sv : Nat → Value} (hsv : ∀ k, (sv k).category = 1) : ∀ (as : List Value) (k i : Nat), as.all lp_good = true → i < as.length → (k + i, lp_rl base sv (lp_nth as i)) ∈ lv_args k (as.map (lp_rl base sv))
  | [], _, _, _, h => by simp at h
  | v :: as, k, i, h, hi => by
    rw [List.all_cons, Bool.and_eq_true] at h
    have h1 := lp_rl_cat (base := base) hsv h.1
    show _ ∈ (k, lp_rl base sv v) :: lv_args (if (lp_rl base sv v).category = 2 then k + 2 else k + 1) (as.map (lp_rl base sv))
    rw [if_neg (by rw [h1]; decide)]
    cases i with
    | zero => exact List.mem_cons_self
    | succ i =>
      have h2 := lp_args_mem (base := base) hsv as (k + 1) i h.2 (by simpa using hi)
      rw [show k + 1 + i = k + (i + 1) by omega] at h2
      exact List.mem_cons_of_mem _ h2
theorem lp_nth_app : ∀ (as bs : List Value) (i : Nat), lp_nth (as ++ bs) i = if i < as.length then lp_nth as i else lp_nth bs (i - as.length)
  | [], bs, i => by simp
  | v :: as, bs, 0 => by simp [lp_nth]
  | v :: as, bs, i + 1 => by
    show lp_nth (as ++ bs) i = _
    rw [lp_nth_app as bs i]
    by_cases h : i < as.length
    · rw [if_pos h, if_pos (by simpa using h)]; rfl
    · rw [if_neg h, if_neg (by simpa using h)]
      simp
theorem lp_nth_rep : ∀ (n i : Nat), lp_nth (List.replicate n (.long 0)) i = .long 0
  | 0, _ => rfl
  | _ + 1, 0 => rfl
  | n + 1, i + 1 => lp_nth_rep n i
theorem lp_L_entry {base : Nat} {sv : Nat → Value} (hsv : ∀ k, (sv k).category = 1) {m : Nat} {as : List Value} (h : as.all lp_good = true) (hl : as.length ≤ lp_mx m) :
    lp_L base sv ((lg_sl (as.map (lp_rl base sv)) ++ List.replicate (lp_mx m - (lg_sl (as.map (lp_rl base sv))).length) Slot.unset).toArray) (lp_mx m) (lp_ini m as) := by
  have h1 := lv_entry (as.map (lp_rl base sv)) (n := lp_mx m) (by rw [lp_sl_len hsv as h]; exact hl)
  refine ⟨h1.1, h1.2.1, fun i hi => ?_⟩
  unfold lp_ini at hi ⊢
  rw [lp_nth_app] at hi ⊢
  by_cases hlt : i < as.length
  · rw [if_pos hlt]
    have h2 := h1.2.2 _ (lp_args_mem hsv as 0 i h hlt)
    rw [Nat.zero_add] at h2
    exact h2
  · rw [if_neg hlt, lp_nth_rep] at hi
    cases hi
theorem lp_plainC (c : Nat) (hc : c < 20) (hc2 : c ≠ 12) : plainName (lp_cn c) = true := by
  have h : c = 0 ∨ c = 1 ∨ c = 2 ∨ c = 3 ∨ c = 4 ∨ c = 5 ∨ c = 6 ∨ c = 7 ∨ c = 8 ∨ c = 9 ∨ c = 10 ∨ c = 11 ∨ c = 13 ∨ c = 14 ∨ c = 15 ∨ c = 16 ∨ c = 17 ∨ c = 18 ∨ c = 19 := by omega
  rcases h with rfl | rfl | rfl | rfl | rfl | rfl | rfl | rfl | rfl | rfl | rfl | rfl | rfl | rfl | rfl | rfl | rfl | rfl | rfl <;> decide
theorem lp_plain (m : Nat) (hm : m < 293) (h2 : lp_ow m ≠ 12) : plainName (lp_y m).cls = true := lp_plainC _ (lp_ow_lt m (by omega)) h2
theorem lp_bkW {p : Program} {l : Launch} {e : Env} {R : Room} {s : State} {m : MethodId} {args : Array Value} {below : List Frame} {meth : Method} {c : Code} {Q : State → Prop} {base K0 mo : Nat} {D : va_G} {dA : Nat → ClassId} {sv : Nat → Value} {b0 L0 : Nat} {xs : Nat → Int32} {r : Int32 × lp_S} {d : Nat}
    (X : lp_Cx p R s m args meth c base K0 mo D dA sv b0 L0 xs r) (hmo : mo < 294) {call : Nat → List Value → lp_S → lp_O} (hR : d + 3 ≤ R.frames ∧ 100 * d + 300 ≤ R.locals)
    (hcall : ∀ a as st x, a < 293 → call a as st = some x → lp_Met l base D dA sv b0 L0 xs d a as st x) (hcK : ∀ m as st x, call m as st = some x → st.1 ≤ x.2.1)
    (hretI : ∀ pc ls v st ty, decode (lp_b mo) pc = .ok (.ireturn, 1) → lp_rt mo = some ty → narrow ty (.int v) = .int v → (v, st) = r → lp_Wt p l e R s m args below meth c Q base K0 mo D dA sv L0 xs pc ls [.int v] st)
    (hretV : ∀ pc ls st, decode (lp_b mo) pc = .ok (.return_, 1) → lp_rt mo = none → ((0 : Int32), st) = r → lp_Wt p l e R s m args below meth c Q base K0 mo D dA sv L0 xs pc ls [] st) :
    ∀ n pc ls stk st, lp_bk call (lp_cd mo) n pc ls stk st = some r → lp_Wt p l e R s m args below meth c Q base K0 mo D dA sv L0 xs pc ls stk st
  | 0 => fun _ _ _ _ h => by cases h
  | n + 1 => fun pc ls stk st h => lp_segW X hmo hR hcall hcK (lp_bk_K hcK (lp_cd mo) n) (lp_bkW X hmo hR hcall hcK hretI hretV n) hretI hretV 1200 pc ls stk st h
theorem lp_runMet (l : Launch) (base : Nat) (D : va_G) (dA : Nat → ClassId) (sv : Nat → Value) (b0 L0 : Nat) (xs : Nat → Int32) : ∀ (d n m : Nat) (as : List Value) (st : lp_S) (x : Int32 × lp_S), m < 293 → lp_run (d + 1) n m as st = some x → lp_Met l base D dA sv b0 L0 xs (d + 1) m as st x := by
  have key : ∀ (d n : Nat), (∀ (m : Nat) (as : List Value) (st : lp_S) (x : Int32 × lp_S), m < 293 → lp_run d n m as st = some x → lp_Met l base D dA sv b0 L0 xs d m as st x) → ∀ (m : Nat) (as : List Value) (st : lp_S) (x : Int32 × lp_S), m < 293 → lp_run (d + 1) n m as st = some x → lp_Met l base D dA sv b0 L0 xs (d + 1) m as st x := by
    intro d n ih m as st x hm h
    have hK := lp_run_K _ _ _ _ _ _ h
    simp only [lp_run] at h
    cases hc : (Nat.ble as.length (lp_mx m) && (as.all lp_good && !Nat.beq (lp_ow m) 12)) <;> simp only [hc, cond_true, cond_false] at h
    · cases h
    · obtain ⟨hl, hg⟩ := lp_and hc
      obtain ⟨hg, hnm⟩ := lp_and hg
      have hnm : lp_ow m ≠ 12 := fun e => by rw [e] at hnm; cases hnm
      have hl : as.length ≤ lp_mx m := Nat.le_of_ble_eq_true hl
      unfold lp_Met
      refine Met.ofW (cc := lp_b m) (maxL := lp_mx m) (ret := lp_rt m) (lp_plain m hm hnm) rfl ?_
      intro p e s mi args below meth c s₁ B hml hv
      obtain ⟨hargs, hsz, hP, hE, hScr⟩ := hv
      have hts := atoms_spec (ws := lp_wsm m) B.pre
      have X : lp_Cx p (headSpec (lp_wsm m) (lp_rm (d + 1) (x.2.1 - st.1) (lp_sl x.2.1 - lp_sl st.1))).room s mi args meth c base st.1 m D dA sv b0 L0 xs x :=
        ⟨B.exec, B.bytes, hml, findClass_of_methodNamed B.named, fun w hw => hts w (List.mem_cons_of_mem _ hw), hE, fun hi => (name_of_methodNamed B.named B.method).1.trans hi, by show 200 ≤ 100 * (d + 1) + 200; omega, by show 2 ≤ d + 1 + 2; omega, Nat.le_refl _, Nat.le_refl _, hsz.symm⟩
      have hret : meth.sig.returnType = lp_rt m := B.returns
      have hbody := lp_bkW (l := l) (e := e) (below := below) (Q := MQ below (lp_Qc base D dA L0 xs (lp_rt m) x) args s (x.2.1 - st.1) (lp_sl x.2.1 - lp_sl st.1) (lp_A base)) X (by omega) (d := d) ⟨by show d + 3 ≤ d + 1 + 2; omega, by show 100 * d + 300 ≤ 100 * (d + 1) + 200; omega⟩ (fun a as st x ha h => ih a as st x ha h) (lp_run_K d n)
        (fun pc ls v st' ty hd hty hn e => by subst e; exact lpW_retI X hret B.notSynchronized hd hty hn) (fun pc ls st' hd hty e => by subst e; exact lpW_retV X hret B.notSynchronized hd hty) n 0 (lp_ini m as) [] st h
      subst hargs
      rw [lg_entry_eq]
      have hI : lp_Iv s (lp_mx m) base st.1 D dA sv L0 xs ((lg_sl (as.map (lp_rl base sv)) ++ List.replicate (lp_mx m - (lg_sl (as.map (lp_rl base sv))).length) Slot.unset).toArray) (lp_ini m as) st s.heap [] := ⟨lp_L_entry hE.2.2.1 hg hl, trivial, hP, va_S.rf, hScr, Nat.le_refl _⟩
      have h3 := hbody _ _ _ hI
      rw [Nat.sub_self, Nat.sub_self] at h3
      exact h3
  intro d n
  induction d with
  | zero => exact key 0 n (fun _ _ _ _ _ h => by cases h)
  | succ d ih => exact key (d + 1) n ih
