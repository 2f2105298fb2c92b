/-! ===== static calls, constructors, ends; then a whole body, and a run ===== -/
section lpW
variable {p : Program} {l : Launch} {e : Env} {R : Room} {s : State} {m : MethodId} {args : Array Value} {below : List Frame} {meth : Method} {c : Code} {Q : State → Prop}
variable {base K0 mo : Nat} {D : va_G} {dA : Nat → ClassId} {sv : Nat → Value} {b0 L0 : Nat} {xs : Nat → Int32} {r : Int32 × lp_S}
variable {nx : lp_K} {jp : Nat → lp_K} {pc pc' a b idx q : Nat} {ls stk : List Value} {st : lp_S} {cv : Int32}
theorem lpW_CalS {t d : Nat} {cl : Nat → List Value → lp_S → List Value → List Value → Bool → lp_O} (X : lp_Cx p R s m args meth c base K0 mo D dA sv b0 L0 xs r) (hd : decode (lp_b mo) pc = .ok (.invokestatic idx, 3)) (ha : a < 293) (hkd : lp_kd a = 1)
    (hw : lp_wd q = some (.methodLink (lp_cn (lp_ow mo)) idx (lp_y a)) ∨ lp_wd q = some (.methodLinkNest (lp_cn (lp_ow mo)) idx (lp_y a) "LampPresses")) (ht : Nat.beq t 1 = (lp_rt a).isSome) (hn : lp_nar a b 0 = true) (hR : d + 3 ≤ R.frames ∧ 100 * d + 300 ≤ R.locals)
    (hcl : ∀ as st ls rest fl, cl a as st ls rest fl = some r → ∃ x : Int32 × lp_S, st.1 ≤ x.2.1 ∧ x.2.1 ≤ r.2.1 ∧ lp_Met l base D dA sv b0 L0 xs d a as st x ∧ lp_Wt p l e R s m args below meth c Q base K0 mo D dA sv L0 xs (pc + 3) ls (bif fl then .int x.1 :: rest else rest) x.2)
    (h : lp_xCal a b t cl ls stk st = some r) : lp_Wt p l e R s m args below meth c Q base K0 mo D dA sv L0 xs pc ls stk st := by
  intro lm H locs I
  unfold lp_xCal at h
  cases hc : lp_cok stk b with
  | false => rw [hc] at h; cases h
  | true =>
    rw [hc] at h
    simp only [cond_true] at h
    obtain ⟨n, hb, hd2⟩ := lp_nar_ok hn
    rw [Nat.add_zero] at hb
    subst hb
    obtain ⟨hl, -, -⟩ := lp_cok_ok hc
    obtain ⟨hy, hmx⟩ := lp_y_ok ha
    have hstat : Cond.static (lp_y a) ∈ lp_gt := by
      have h1 := lp_mth_ok a ha
      rw [if_pos hkd] at h1
      exact lp_gt_in h1 rfl
    obtain ⟨x, hx1, hx2, hM, hW⟩ := hcl _ _ _ _ _ h
    refine lp_sized X I (fun hsz => ?_)
    have hPc := lp_Pc_at (as := (stk.take b).reverse) X I hsz
    have s2 : stk.map (lp_rl base sv) = ((stk.take b).reverse.map (lp_rl base sv)).reverse ++ (stk.drop b).map (lp_rl base sv) := by
      rw [← List.map_reverse, List.reverse_reverse, ← List.map_append, List.take_append_drop]
    have s3 : ((stk.take b).reverse.map (lp_rl base sv)).length = b := by simp; omega
    refine lpW_after (a := a) (aa := ((stk.take b).reverse.map (lp_rl base sv)).toArray) (x := x) (rest := stk.drop b) ?_ hx1 I ht hW
    rcases hw with hw | hw
    · exact va_runS (own := lp_cn (lp_ow mo)) (bytes := lp_b a) (maxL := lp_mx a) (ret := lp_rt a) (index := idx) (As := (stk.take b).reverse.map (lp_rl base sv)) (rest := (stk.drop b).map (lp_rl base sv)) ⟨X.1, X.2.1, X.2.2.1, X.2.2.2.1, X.2.2.2.2.1⟩ hM
        ⟨callB_of b X.2.2.2.2.1 (lp_GoodIn ha) rfl rfl rfl (X.2.2.2.2.1 _ (lp_ini_in (lp_ow_lt a (by omega)))) (X.2.2.2.2.1 _ (lp_gt_in hw rfl)) ⟨hy.1, hy.2, hd2⟩ ⟨by show d + 2 + 1 ≤ _; omega, by show 8 + (lp_mx a + 11) + (100 * d + 200) ≤ _; omega⟩, X.2.2.2.2.1 _ hstat⟩
        hPc rfl s3 I.1.1 s2 (lv_room (lp_rest_ok X hc)) hd (lp_fitR X I hx1 hx2)
    · exact va_runSN (own := lp_cn (lp_ow mo)) (bytes := lp_b a) (maxL := lp_mx a) (ret := lp_rt a) (index := idx) (host := "LampPresses") (As := (stk.take b).reverse.map (lp_rl base sv)) (rest := (stk.drop b).map (lp_rl base sv)) ⟨X.1, X.2.1, X.2.2.1, X.2.2.2.1, X.2.2.2.2.1⟩ hM
        ⟨va_cnB b X.2.2.2.2.1 (lp_GoodIn ha) rfl rfl rfl (X.2.2.2.2.2.1.2.2.2.2.2.2.2.1 _ _ _ _ _ hw) (X.2.2.2.2.1 _ (lp_ini_in (lp_ow_lt a (by omega)))) ⟨hy.1, hy.2, hd2⟩ ⟨by show d + 2 + 1 ≤ _; omega, by show 8 + (lp_mx a + 11) + (100 * d + 200) ≤ _; omega⟩, X.2.2.2.2.1 _ hstat, trivial⟩
        hPc rfl s3 I.1.1 s2 (lv_room (lp_rest_ok X hc)) hd (lp_fitR X I hx1 hx2)
theorem lp_kd2 : ∀ m, m < 293 → lp_kd m = 2 → (lp_nd m).1 = "<init>" ∧ lp_rt m = none := by decide +kernel
theorem lpW_CalI {t d : Nat} {cl : Nat → List Value → lp_S → List Value → List Value → Bool → lp_O} (X : lp_Cx p R s m args meth c base K0 mo D dA sv b0 L0 xs r) (hd : decode (lp_b mo) pc = .ok (.invokespecial idx, 3)) (ha : a < 293) (hkd : lp_kd a = 2)
    (hw : lp_wd q = some (.methodLink (lp_cn (lp_ow mo)) idx (lp_y a)) ∨ lp_wd q = some (.methodLinkNest (lp_cn (lp_ow mo)) idx (lp_y a) "LampPresses")) (ht : t = 0) (hn : lp_nar a b 1 = true) (hR : d + 3 ≤ R.frames ∧ 100 * d + 300 ≤ R.locals)
    (hcl : ∀ as st ls rest fl, cl a as st ls rest fl = some r → ∃ x : Int32 × lp_S, st.1 ≤ x.2.1 ∧ x.2.1 ≤ r.2.1 ∧ lp_Met l base D dA sv b0 L0 xs d a as st x ∧ lp_Wt p l e R s m args below meth c Q base K0 mo D dA sv L0 xs (pc + 3) ls (bif fl then .int x.1 :: rest else rest) x.2)
    (h : lp_xCalI a b t cl ls stk st = some r) : lp_Wt p l e R s m args below meth c Q base K0 mo D dA sv L0 xs pc ls stk st := by
  intro lm H locs I
  unfold lp_xCalI at h
  cases hc : lp_cok stk b with
  | false => rw [hc] at h; cases h
  | true =>
    rw [hc] at h
    simp only [cond_true] at h
    obtain ⟨n, hb, hd2⟩ := lp_nar_ok hn
    obtain ⟨hl, -, -⟩ := lp_cok_ok hc
    obtain ⟨hy, hmx⟩ := lp_y_ok ha
    obtain ⟨hin, hrt⟩ := lp_kd2 a ha hkd
    have hinst : Cond.instanceMethod (lp_y a) ∈ lp_gt := by
      have h1 := lp_mth_ok a ha
      rw [if_neg (by rw [hkd]; decide)] at h1
      exact lp_gt_in h1 rfl
    split at h
    · next k hk =>
      obtain ⟨x, hx1, hx2, hM, hW⟩ := hcl _ _ _ _ _ h
      obtain ⟨s1, s2, s3⟩ := lpW_split (base := base) (sv := sv) hb hl hk
      refine lp_sized X I (fun hsz => ?_)
      have hPc := lp_Pc_at (as := (stk.take b).reverse) X I hsz
      have e1 : ((stk.take b).reverse.map (lp_rl base sv)).toArray = (Value.ref (base + k) :: (stk.take n).reverse.map (lp_rl base sv)).toArray := by rw [s1]; rfl
      have hfl : Nat.beq t 1 = (lp_rt a).isSome := by rw [ht, hrt]; rfl
      refine lpW_after (a := a) (aa := (Value.ref (base + k) :: (stk.take n).reverse.map (lp_rl base sv)).toArray) (x := x) (rest := stk.drop b) ?_ hx1 I hfl hW
      have hPre : PreS s H (lp_Pc base D dA sv b0 L0 xs (stk.take b).reverse st) (.ref (base + k) :: (stk.take n).reverse.map (lp_rl base sv)) := ⟨hPc.1, fun U hU hW => by rw [← e1]; exact hPc.2 U hU hW⟩
      have hws : lp_wsm a = Cond.code (lp_y a) (lp_b a) (lp_mx a) none :: lp_gt := by unfold lp_wsm; rw [hrt]
      rcases hw with hw | hw
      · exact va_runI (own := lp_cn (lp_ow mo)) (bytes := lp_b a) (maxL := lp_mx a) (index := idx) (As := (stk.take n).reverse.map (lp_rl base sv)) (rest := (stk.drop b).map (lp_rl base sv)) ⟨X.1, X.2.1, X.2.2.1, X.2.2.2.1, X.2.2.2.2.1⟩ hM
          ⟨callB_of n X.2.2.2.2.1 (lp_GoodIn ha) hws rfl rfl (X.2.2.2.2.1 _ (lp_ini_in (lp_ow_lt a (by omega)))) (X.2.2.2.2.1 _ (lp_gt_in hw rfl)) ⟨hy.1, hy.2, hd2⟩ ⟨by show d + 2 + 1 ≤ _; omega, by show 8 + (lp_mx a + 11) + (100 * d + 200) ≤ _; omega⟩, hin, X.2.2.2.2.1 _ hinst⟩
          hPre rfl s3 I.1.1 s2 (lv_room (lp_rest_ok X hc)) hd (lp_fitR X I hx1 hx2)
      · exact va_runIN (own := lp_cn (lp_ow mo)) (bytes := lp_b a) (maxL := lp_mx a) (index := idx) (host := "LampPresses") (As := (stk.take n).reverse.map (lp_rl base sv)) (rest := (stk.drop b).map (lp_rl base sv)) ⟨X.1, X.2.1, X.2.2.1, X.2.2.2.1, X.2.2.2.2.1⟩ hM
          ⟨va_cnB n X.2.2.2.2.1 (lp_GoodIn ha) hws rfl rfl (X.2.2.2.2.2.1.2.2.2.2.2.2.2.1 _ _ _ _ _ hw) (X.2.2.2.2.1 _ (lp_ini_in (lp_ow_lt a (by omega)))) ⟨hy.1, hy.2, hd2⟩ ⟨by show d + 2 + 1 ≤ _; omega, by show 8 + (lp_mx a + 11) + (100 * d + 200) ≤ _; omega⟩, hin, X.2.2.2.2.1 _ hinst⟩
          hPre rfl s3 I.1.1 s2 (lv_room (lp_rest_ok X hc)) hd (lp_fitR X I hx1 hx2)
    · cases h
/-- ldc_w of a String constant -/
theorem lp_ldcwS {cc : ByteArray} {H : Heap} {locs : List Loc} {cells slots : Nat} {lm : Array Slot} {rest : List Value} (hexec : p.tables.exec = Jvm.exec) (hb : c.code = cc) {own tx : String} {index q : Nat} (hown : s.vm.findClass own = some m.cls) (hZ : vk_R own index tx q s) (hdg : decode cc pc = .ok (.ldc_w index, 3))
    (k : W p l e R s m args below meth c H locs cells slots Q (F0 m (pc + 3) lm (.ref q :: rest))) : W p l e R s m args below meth c H locs cells slots Q (F0 m pc lm rest) := by
  intro T hT X
  obtain ⟨t, a1, b1⟩ := k T hT X
  refine ⟨t, ?_, b1⟩
  obtain ⟨k, cf, i, a', hk, hcf, hcp, -, hr, hev'⟩ := Cond.stringRef_spec hown hZ.1
  cases hZ.2.symm.trans hev'
  obtain ⟨k', hk', he⟩ := X.warmed.alike.2.2 _ _ hk
  have hr' : k'.resolved[index]? = some (some (.string q)) := by
    rcases X.warmed.entry hk hk' index with h | ⟨h, -⟩
    · rw [h]; exact hr
    · rw [hr] at h; cases h
  subst hb
  jvm_step X.here [hexec, hdg, ldc_w.wp_string (e := e) (s := T) (f := F0 m pc lm rest) X.here.top hk' (by rw [he]; exact hcf) hcp hr']
  exact a1
/-- a method's end with a number -/
theorem lpW_retI {ty : FieldType} {v : Int32} (X : lp_Cx p R s m args meth c base K0 mo D dA sv b0 L0 xs (v, st)) (hr : meth.sig.returnType = lp_rt mo) (hlocks : meth.locks = false) (hd : decode (lp_b mo) pc = .ok (.ireturn, 1)) (hty : lp_rt mo = some ty) (hn : narrow ty (.int v) = .int v) :
    lp_Wt p l e R s m args below meth c (MQ below (lp_Qc base D dA L0 xs (lp_rt mo) (v, st)) args s (st.1 - K0) (lp_sl st.1 - lp_sl K0) (lp_A base)) base K0 mo D dA sv L0 xs pc ls [.int v] st := by
  intro lm H locs I
  refine W.zret (ty := ty) X.1 X.2.1 (hr.trans hty) hn (fun t ht hW => ?_) (fun q hq => I.2.2.2.1.2.2 q hq) hd hlocks
  rw [hty]
  exact ⟨⟨v, (), rfl, ⟨rfl, I.2.2.2.2.1⟩, by show va_P _ _ _ t.heap; rw [ht]; exact I.2.2.1⟩, I.2.2.2.1.F ht⟩
theorem lpW_retV {v : Int32} (X : lp_Cx p R s m args meth c base K0 mo D dA sv b0 L0 xs (v, st)) (hr : meth.sig.returnType = lp_rt mo) (hlocks : meth.locks = false) (hd : decode (lp_b mo) pc = .ok (.return_, 1)) (hty : lp_rt mo = none) :
    lp_Wt p l e R s m args below meth c (MQ below (lp_Qc base D dA L0 xs (lp_rt mo) (v, st)) args s (st.1 - K0) (lp_sl st.1 - lp_sl K0) (lp_A base)) base K0 mo D dA sv L0 xs pc ls [] st := by
  intro lm H locs I
  refine W.vret X.1 X.2.1 (hr.trans hty) (fun t ht hW => ?_) (fun q hq => I.2.2.2.1.2.2 q hq) hd hlocks
  rw [hty]
  exact ⟨⟨(), rfl, I.2.2.2.2.1, by show va_P _ _ _ t.heap; rw [ht]; exact I.2.2.1⟩, I.2.2.2.1.F ht⟩
end lpW
theorem lp_f1_ok : ∀ (l : List lp_E) {pc : Nat} {e : lp_E}, lp_f1 l pc = some e → e ∈ l ∧ e.1 = pc
  | [], _, _, h => by cases h
  | x :: r, pc, e, h => by
    unfold lp_f1 at h
    cases hq : Nat.beq x.1 pc with
    | true =>
      rw [hq] at h
      have h : x = e := Option.some.inj h
      subst h
      exact ⟨List.mem_cons_self, Nat.eq_of_beq_eq_true hq⟩
    | false =>
      rw [hq] at h
      obtain ⟨h1, h2⟩ := lp_f1_ok r h
      exact ⟨List.mem_cons_of_mem _ h1, h2⟩
theorem lp_f2_ok : ∀ (C : List (Nat × List lp_E)) {pc : Nat} {e : lp_E}, lp_f2 C pc = some e → (∃ q ∈ C, e ∈ q.2) ∧ e.1 = pc
  | [], _, _, h => by cases h
  | x :: r, pc, e, h => by
    unfold lp_f2 at h
    cases hq : Nat.ble x.1 pc with
    | true =>
      rw [hq] at h
      obtain ⟨⟨q, h1, h2⟩, h3⟩ := lp_f2_ok r h
      exact ⟨⟨q, List.mem_cons_of_mem _ h1, h2⟩, h3⟩
    | false =>
      rw [hq] at h
      obtain ⟨h1, h2⟩ := lp_f1_ok x.2 h
      exact ⟨⟨x, List.mem_cons_self, h1⟩, h2⟩
/-- what an entry of the code table says is the program's -/
theorem lp_entry {mo pc a b fl len : Nat} {z : Nat} {ins : Instr} {c : Int32} {t : List Nat} (hm : mo < 294) (h : lp_f2 (lp_cd mo) pc = some (z, (ins, len), a, b, c, t, fl)) : decode (lp_b mo) pc = .ok (ins, len) ∧ lp_okc (lp_ow mo) mo pc ins len a b c t = true := by
  obtain ⟨⟨q, h1, h2⟩, h3⟩ := lp_f2_ok _ h
  have h3 : z = pc := h3
  subst h3
  have h4 := List.all_eq_true.mp (List.all_eq_true.mp (lp_ok_all mo hm) q h1) _ h2
  unfold lp_okE at h4
  rw [Bool.and_eq_true] at h4
  exact ⟨of_decide_eq_true h4.1, h4.2⟩
