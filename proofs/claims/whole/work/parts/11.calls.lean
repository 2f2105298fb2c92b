/-! ===== stores of references, copies, calls, ends (printed by wip/whole/mkrows2.py) ===== -/
theorem lp_arrV_congr (cA : ClassId) {N : Nat} {f g : Nat → Value} (h : ∀ j, j < N → f j = g j) : arrV cA N f = arrV cA N g := by
  unfold arrV
  congr 1
  apply Array.ext
  · simp
  · intro i h1 h2
    simp only [Array.getElem_ofFn]
    exact h i (by simpa using h1)
theorem lp_outer (cA : ClassId) (N h0 : Nat) : ∀ i, Jvm.Free.Multi.outerC cA N h0 i = arrV cA N (fun j => if j < i then .ref (h0 + 1 + j) else .null)
  | 0 => by
    show ({ cls := cA, slots := Array.replicate N .null, vm := .none } : Cell) = _
    rw [arrV_new]
    exact lp_arrV_congr _ (fun j _ => by simp)
  | i + 1 => by
    show (Jvm.Free.Multi.outerC cA N h0 i).setSlot i (.ref (h0 + 1 + i)) = _
    rw [lp_outer cA N h0 i, arrV_store]
    refine lp_arrV_congr _ (fun j _ => ?_)
    by_cases e : j = i
    · subst e
      simp [updV]
    · by_cases h : j < i
      · simp [updV, e, h, Nat.lt_succ_of_lt h]
      · simp [updV, e, h, show ¬ j < i + 1 by omega]
section lpW
variable {p : Program} {l : Launch} {e : Env} {R : Room} {s : State} {m : MethodId} {args : Array Value} {below : List Frame} {meth : Method} {c : Code} {Q : State → Prop}
variable {base K0 mo : Nat} {D : va_G} {dA : Nat → ClassId} {sv : Nat → Value} {b0 L0 : Nat} {xs : Nat → Int32} {r : Int32 × lp_S}
variable {nx : lp_K} {jp : Nat → lp_K} {pc pc' a b idx q : Nat} {ls stk : List Value} {st : lp_S} {cv : Int32}
theorem lpW_Aas24 (X : lp_Cx p R s m args meth c base K0 mo D dA sv b0 L0 xs r) (hd : decode (lp_b mo) pc = .ok (.aastore, 1)) (hnx : ∀ ls stk st, nx ls stk st = some r → lp_Wt p l e R s m args below meth c Q base K0 mo D dA sv L0 xs (pc + 1) ls stk st)
    (h : lp_xAas 24 nx ls stk st = some r) : lp_Wt p l e R s m args below meth c Q base K0 mo D dA sv L0 xs pc ls stk st := by
  intro lm H locs I
  unfold lp_xAas at h
  split at h
  · next v i k rr =>
    split at h
    · next hk =>
      obtain ⟨hk, hv⟩ := hk
      split at h
      · cases h
      · next ho =>
        refine va_astq X.1 X.2.1 X.2.2.2.2.2.1.1 I.2.2.1 lp_ws_D I.2.2.2.1 k 4 v 3 (r := (lp_cn 3, lp_T 3, lp_nf 3)) (by rw [lp_ws_get hk.2, lp_el24 hk.1]) rfl (by rw [lp_ws_get hv.2, lp_elO hv.1 (by omega)]) (lp_hcl 3 (by omega)) ho hd (fun H1 locs1 hP1 hD1 hS1 => ?_)
        have e1 : (lp_ws base dA st).set k (base + k, .inl (dA 4, (lp_sh k).2, .inr (.inr (.inr (.inr (va_up (fun j => lp_on base (st.2.1 k j)) i.toNatClampNeg (some (base + v)))))))) = lp_ws base dA (st.1, lp_wR st.2.1 k i.toNatClampNeg (.ref v), st.2.2) := by
          have e2 : lp_el base dA (st.1, lp_wR st.2.1 k i.toNatClampNeg (.ref v), st.2.2) k = .inl (dA 4, (lp_sh k).2, .inr (.inr (.inr (.inr (va_up (fun j => lp_on base (st.2.1 k j)) i.toNatClampNeg (some (base + v))))))) := by
            rw [lp_el24 hk.1]
            refine congrArg (fun f => (Sum.inl (dA 4, (lp_sh k).2, Sum.inr (Sum.inr (Sum.inr (Sum.inr f)))) : va_E)) (funext fun j => ?_)
            show lp_on base (lp_u st.2.1 k _ k j) = _
            rw [lp_u_eq]
            unfold va_up
            by_cases e : j = i.toNatClampNeg
            · rw [if_pos e, if_pos e]; rfl
            · rw [if_neg e, if_neg e]
          rw [← e2]
          exact lp_ws_set (st' := (st.1, lp_wR st.2.1 k i.toNatClampNeg (.ref v), st.2.2)) hk.2 rfl (fun q hq => lp_el_wR hq)
        rw [e1] at hP1
        exact hnx ls rr _ h lm H1 locs1 ⟨I.1, trivial, hP1, hS1, I.2.2.2.2.1, I.2.2.2.2.2⟩
    · cases h
  · cases h
theorem lpW_Mna (X : lp_Cx p R s m args meth c base K0 mo D dA sv b0 L0 xs r) (hd : decode (lp_b mo) pc = .ok (.multianewarray idx 2, 4)) (hw : lp_wd q = some (.classLink (lp_cn (lp_ow mo)) idx "[[I")) (hK : ∀ ls stk st, nx ls stk st = some r → st.1 ≤ r.2.1) (hnx : ∀ ls stk st, nx ls stk st = some r → lp_Wt p l e R s m args below meth c Q base K0 mo D dA sv L0 xs (pc + 4) ls stk st)
    (h : lp_xMna nx ls stk st = some r) : lp_Wt p l e R s m args below meth c Q base K0 mo D dA sv L0 xs pc ls stk st := by
  intro lm H locs I
  unfold lp_xMna at h
  split at h
  · next k n rr =>
    split at h
    · next hsh =>
      obtain ⟨rfl, rfl, hs0, hsj⟩ := hsh
      have hle : st.1 + 11 ≤ r.2.1 := hK _ _ _ h
      have hslot : lp_sl (st.1 + 11) = lp_sl st.1 + 110 := by
        have e : ∀ j, j < 10 → (lp_sh (st.1 + 1 + j)).2 = 10 := fun j hj => by rw [hsj j hj]
        have e0 : (lp_sh st.1).2 = 10 := by rw [hs0]
        have h0 := e 0 (by omega); have h1 := e 1 (by omega); have h2 := e 2 (by omega); have h3 := e 3 (by omega); have h4 := e 4 (by omega)
        have h5 := e 5 (by omega); have h6 := e 6 (by omega); have h7 := e 7 (by omega); have h8 := e 8 (by omega); have h9 := e 9 (by omega)
        rw [show st.1 + 11 = st.1 + 1 + 9 + 1 from rfl, lp_sl_succ, show st.1 + 1 + 9 = st.1 + 1 + 8 + 1 from rfl, lp_sl_succ, show st.1 + 1 + 8 = st.1 + 1 + 7 + 1 from rfl, lp_sl_succ, show st.1 + 1 + 7 = st.1 + 1 + 6 + 1 from rfl, lp_sl_succ, show st.1 + 1 + 6 = st.1 + 1 + 5 + 1 from rfl, lp_sl_succ, show st.1 + 1 + 5 = st.1 + 1 + 4 + 1 from rfl, lp_sl_succ, show st.1 + 1 + 4 = st.1 + 1 + 3 + 1 from rfl, lp_sl_succ, show st.1 + 1 + 3 = st.1 + 1 + 2 + 1 from rfl, lp_sl_succ, show st.1 + 1 + 2 = st.1 + 1 + 1 + 1 from rfl, lp_sl_succ, lp_sl_succ, lp_sl_succ]
        simp only [Nat.add_assoc, Nat.reduceAdd, Nat.add_zero] at *
        omega
      have hmon := lp_sl_mono hle
      have hmon0 := lp_sl_mono I.2.2.2.2.2
      have hR := X.2.2.2.2.2.2.2.2.2.1
      have hR2 := X.2.2.2.2.2.2.2.2.2.2.1
      have hK0 := I.2.2.2.2.2
      have hlt : st.1 + 1 + 9 < 369 := lp_shN (lp_kind_lt (hsj 9 (by omega)) (Or.inr (by omega)))
      refine lp_sized X I (fun hsz => ?_)
      intro T hT Xs
      obtain ⟨vm₁, cA, comp, -, fA, fC, hO, hI, X', step⟩ := Xs.multianewarray2F (ty := .int) X.1 X.2.2.2.1 (X.2.2.2.2.1 _ (lp_gt_in hw rfl)) X.2.2.2.2.2.1.2.2.2.2.2.2.2.2.2 (X.2.2.2.2.1 _ (lp_gt_in (p := 54) (by decide +kernel) rfl)) (g := F0 m pc lm (.int 10 :: .int 10 :: rr.map (lp_rl base sv))) rfl (by rw [X.2.1]; exact hd) rfl (by decide) (by decide) (by decide) (by decide) (by decide) rfl rfl (by show st.1 - K0 + 11 ≤ R.cells; omega) (by show lp_sl st.1 - lp_sl K0 + 110 ≤ R.slots; omega)
      have ecA : cA = dA 3 := Option.some.inj (fA.symm.trans (X.2.2.2.2.2.1.1.2 3 _ rfl).2)
      have ecC : comp = dA 0 := Option.some.inj (fC.symm.trans (X.2.2.2.2.2.1.1.2 0 _ rfl).2)
      have hn10 : (10 : Int32).toNatClampNeg = 10 := by decide
      rw [hn10] at X' step
      generalize hF : Jvm.Free.Multi.fill (T.setVm vm₁) cA comp 10 10 (defaultValue .int) 10 = F at X' step
      have hTh : (T.setVm vm₁).heap = H := hT
      obtain ⟨f1, f2, -, -⟩ := Jvm.Free.Multi.fill_facts (T.setVm vm₁) cA comp 10 10 (defaultValue .int) 10
      rw [hF, hTh] at f1 f2
      have hold : ∀ x : Nat, x < H.size → F.heap[x]? = H[x]? := fun x hx => by
        have := Jvm.Free.Multi.fill_old (T.setVm vm₁) cA comp 10 10 (defaultValue .int) (a := x) (by rw [hTh]; exact hx) 10
        rw [hF, hTh] at this
        exact this
      have hrow : ∀ j : Nat, j < 10 → F.heap[H.size + 1 + j]? = some (Jvm.Free.Multi.innerC comp 10 (defaultValue .int)) := fun j hj => by
        have := Jvm.Free.Multi.fill_inner (T.setVm vm₁) cA comp 10 10 (defaultValue .int) 10 j hj
        rw [hF, hTh] at this
        exact this
      have h1 : lp_Iv s (lp_mx mo) base K0 D dA sv L0 xs lm ls ((lp_grow 11 st).1, lp_u (lp_grow 11 st).2.1 st.1 (fun j => .ref (st.1 + 1 + j)), (lp_grow 11 st).2.2) F.heap locs := by
        refine ⟨I.1, trivial, ?_, ⟨Nat.le_trans I.2.2.2.1.1 (by omega), fun x h1 h2 => (hold x (by have := I.2.2.2.1.1; omega)).trans (I.2.2.2.1.2.1 x h1 h2), I.2.2.2.1.2.2⟩, lp_Scr_R (lp_Scr_grow (n := 11) I.2.2.2.2.1 (by omega)) _, by show K0 ≤ st.1 + 11; omega⟩
        refine lp_P_grow (n := 11) I.2.2.1 hold rfl (fun k hk => ?_) (fun j hj => ?_)
        · exact (lp_el_wR (st := lp_grow 11 st) (by omega)).trans (lp_el_grow hk)
        · cases j with
          | zero =>
            rw [lp_el23 (by rw [Nat.add_zero, hs0])]
            show F.heap[base + (st.1 + 0)]? = some (vp_cell _ _)
            rw [Nat.add_zero, ← hsz, f2, vp_cell_q, hs0, lp_outer, ecA]
            refine congrArg some (lp_arrV_congr _ (fun j hj => ?_))
            show _ = va_rf (lp_on base (lp_u (lp_grow 11 st).2.1 st.1 (fun j => .ref (st.1 + 1 + j)) st.1 j))
            rw [lp_u_eq, if_pos hj]
            show Value.ref _ = Value.ref _
            rw [hsz, Nat.add_assoc, Nat.add_assoc, Nat.add_assoc]
          | succ j =>
            have e : st.1 + (j + 1) = st.1 + 1 + j := by omega
            rw [e, lp_el_wR (st := lp_grow 11 st) (by omega), lp_el20 (by rw [hsj j (by omega)])]
            show F.heap[base + (st.1 + 1 + j)]? = some (vp_cell _ _)
            rw [show base + (st.1 + 1 + j) = H.size + 1 + j by omega, hrow j (by omega), hsj j (by omega), vp_cell_i, ecC]
            show some ({ cls := dA 0, slots := Array.replicate 10 (defaultValue .int), vm := .none } : Cell) = _
            rw [arrV_new]
            refine congrArg (fun f => some (arrV (dA 0) 10 f)) (funext fun j' => ?_)
            rw [lp_growI (by omega) (by omega)]
            rfl
      have h2 := hnx _ _ _ h lm F.heap locs h1
      have e2 : ((lp_grow 11 st).1, lp_u (lp_grow 11 st).2.1 st.1 (fun j => Value.ref (st.1 + 1 + j)), (lp_grow 11 st).2.2).1 - K0 = st.1 - K0 + 1 + 10 := by show st.1 + 11 - K0 = _; omega
      have e3 : lp_sl ((lp_grow 11 st).1, lp_u (lp_grow 11 st).2.1 st.1 (fun j => Value.ref (st.1 + 1 + j)), (lp_grow 11 st).2.2).1 - lp_sl K0 = lp_sl st.1 - lp_sl K0 + 10 + 10 * 10 := by show lp_sl (st.1 + 11) - _ = _; omega
      rw [e2, e3] at h2
      obtain ⟨t, a1, b1⟩ := h2 F rfl X'
      refine ⟨t, step t ?_, b1⟩
      have e4 : T.heap.size = base + st.1 := by rw [hT]; exact hsz
      rw [e4]
      exact a1
    · cases h
  · cases h
theorem lpW_Obj (X : lp_Cx p R s m args meth c base K0 mo D dA sv b0 L0 xs r) (hd : decode (lp_b mo) pc = .ok (.invokespecial idx, 3)) (hw : lp_wd q = some (.methodLink (lp_cn (lp_ow mo)) idx Lib.objectInit)) (hnx : ∀ ls stk st, nx ls stk st = some r → lp_Wt p l e R s m args below meth c Q base K0 mo D dA sv L0 xs (pc + 3) ls stk st)
    (h : lp_xObj nx ls stk st = some r) : lp_Wt p l e R s m args below meth c Q base K0 mo D dA sv L0 xs pc ls stk st := by
  intro lm H locs I
  unfold lp_xObj at h
  split at h
  · next k =>
    exact W.objInit X.1 X.2.1 X.2.2.2.1 (X.2.2.2.2.1 _ (lp_gt_in hw rfl)) (X.2.2.2.2.1 _ (lp_gt_in (p := 26) rfl rfl)) (X.2.2.2.2.1 _ (lp_gt_in (p := 27) rfl rfl)) rfl (I.1.1.trans X.2.2.1.symm) (rest := []) rfl hd (by have := X.2.2.2.2.2.2.2.2.1; omega) (by have := X.2.2.2.2.2.2.2.1; show 2 * 0 + 0 + 12 ≤ _; omega) (hnx ls [] st h lm H locs I)
  · cases h
theorem lpW_Cpy (X : lp_Cx p R s m args meth c base K0 mo D dA sv b0 L0 xs r) (hd : decode (lp_b mo) pc = .ok (.invokestatic idx, 3)) (hw : lp_wd q = some (.methodLink (lp_cn (lp_ow mo)) idx arraycopyName)) (hnx : ∀ ls stk st, nx ls stk st = some r → lp_Wt p l e R s m args below meth c Q base K0 mo D dA sv L0 xs (pc + 3) ls stk st)
    (h : lp_xCpy nx ls stk st = some r) : lp_Wt p l e R s m args below meth c Q base K0 mo D dA sv L0 xs pc ls stk st := by
  intro lm H locs I
  unfold lp_xCpy at h
  split at h
  · next n dp d sp k =>
    split at h
    · next hk =>
      obtain ⟨hk, hdd⟩ := hk
      split at h
      · cases h
      · next ho =>
        have o1 : ¬ sp < 0 := fun q => ho (Or.inl (Or.inl q))
        have o2 : ¬ dp < 0 := fun q => ho (Or.inl (Or.inr (Or.inl q)))
        have o3 : ¬ n < 0 := fun q => ho (Or.inl (Or.inr (Or.inr q)))
        have o4 : sp.toNatClampNeg + n.toNatClampNeg ≤ (lp_sh k).2 := Nat.not_lt.mp fun q => ho (Or.inr (Or.inl q))
        have o5 : dp.toNatClampNeg + n.toNatClampNeg ≤ (lp_sh d).2 := Nat.not_lt.mp fun q => ho (Or.inr (Or.inr q))
        have h7 : nativeFrameWords "java/lang/System" "arraycopy" 5 + 11 ≤ 200 := by decide +kernel
        have h8 := X.2.2.2.2.2.2.2.1
        have h9 : (([] : List Value).map fun v => v.category).sum + (nativeFrameWords "java/lang/System" "arraycopy" 5 + 11) ≤ R.locals := by
          show 0 + (nativeFrameWords "java/lang/System" "arraycopy" 5 + 11) ≤ R.locals
          omega
        refine va_copyi X.1 X.2.1 (X.2.2.1.trans I.1.1.symm) X.2.2.2.1 (X.2.2.2.2.1 _ (lp_gt_in hw rfl)) (X.2.2.2.2.1 _ (lp_gt_in (p := 2014) rfl rfl)) (X.2.2.2.2.1 _ (lp_gt_in (p := 2013) rfl rfl)) (X.2.2.2.2.1 _ (lp_gt_in (p := 17) rfl rfl)) X.2.2.2.2.2.1.1 I.2.2.1 lp_ws_D I.2.2.2.1 k d 0 0 (ty := .int) (by rw [lp_ws_get hk.2, lp_el20 hk.1]) (by rw [lp_ws_get hdd.2, lp_el20 hdd.1]) rfl rfl rfl o1 o2 o3 o4 o5 (fun i _ => rfl) (by have := X.2.2.2.2.2.2.2.2.1; omega) (rest := []) h9 hd (fun H1 locs1 hP1 hD1 hS1 => ?_)
        have e1 : (lp_ws base dA st).set d (base + d, .inl (dA 0, (lp_sh d).2, .inl (va_cpy (st.2.2 k) (st.2.2 d) sp.toNatClampNeg dp.toNatClampNeg n.toNatClampNeg))) = lp_ws base dA (st.1, st.2.1, lp_u st.2.2 d (va_cpy (st.2.2 k) (st.2.2 d) sp.toNatClampNeg dp.toNatClampNeg n.toNatClampNeg)) := by
          have e2 : lp_el base dA (st.1, st.2.1, lp_u st.2.2 d (va_cpy (st.2.2 k) (st.2.2 d) sp.toNatClampNeg dp.toNatClampNeg n.toNatClampNeg)) d = .inl (dA 0, (lp_sh d).2, .inl (va_cpy (st.2.2 k) (st.2.2 d) sp.toNatClampNeg dp.toNatClampNeg n.toNatClampNeg)) := by
            rw [lp_el20 hdd.1]
            exact congrArg (fun f => (Sum.inl (dA 0, (lp_sh d).2, Sum.inl f) : va_E)) (lp_u_eq _ _ _)
          rw [← e2]
          exact lp_ws_set (st' := (st.1, st.2.1, lp_u st.2.2 d (va_cpy (st.2.2 k) (st.2.2 d) sp.toNatClampNeg dp.toNatClampNeg n.toNatClampNeg))) hdd.2 rfl (fun q hq => lp_el_w hq)
        rw [e1] at hP1
        exact hnx ls [] _ h lm H1 locs1 ⟨I.1, trivial, hP1, hS1, lp_Scr_w I.2.2.2.2.1 hdd.2 _, I.2.2.2.2.2⟩
    · cases h
  · cases h
theorem lp_shK : ∀ k, k < 369 → (lp_sh k).1 < 11 ∨ 20 ≤ (lp_sh k).1 := by decide +kernel
/-- behind a call -/
theorem lpW_after {H : Heap} {locs : List Loc} {lm : Array Slot} {rest st0 : List Value} {aa : Array Value} {x : Int32 × lp_S} {fl : Bool}
    (hrun : va_Run p l e R s m args below meth c H locs (st.1 - K0) (lp_sl st.1 - lp_sl K0) (x.2.1 - st.1) (lp_sl x.2.1 - lp_sl st.1) (F0 m pc lm st0) (rest.map (lp_rl base sv)) (lp_Qc base D dA L0 xs (lp_rt a) x aa) (lp_A base))
    (hx : st.1 ≤ x.2.1) (I : lp_Iv s (lp_mx mo) base K0 D dA sv L0 xs lm ls st H locs) (hq : fl = (lp_rt a).isSome)
    (hb : lp_Wt p l e R s m args below meth c Q base K0 mo D dA sv L0 xs (pc + 3) ls (bif fl then .int x.1 :: rest else rest) x.2) : W p l e R s m args below meth c H locs (st.1 - K0) (lp_sl st.1 - lp_sl K0) Q (F0 m pc lm st0) := by
  have hK0 := I.2.2.2.2.2
  have hm0 := lp_sl_mono hK0
  have hm1 := lp_sl_mono hx
  have e2 : st.1 - K0 + (x.2.1 - st.1) = x.2.1 - K0 := by omega
  have e3 : lp_sl st.1 - lp_sl K0 + (lp_sl x.2.1 - lp_sl st.1) = lp_sl x.2.1 - lp_sl K0 := by omega
  cases hrt : lp_rt a with
  | none =>
    rw [hrt] at hrun hq
    subst hq
    refine va_callv (a := aa) hrun I.2.2.2.1 (fun _ _ h => h) (fun _ h => h) (fun u t H1 locs1 ht hvm hw hB hz hk hS1 => ?_)
    have h2 := hb lm H1 locs1 ⟨I.1, trivial, by rw [← ht]; exact hB, hS1, hw, by omega⟩
    rw [e2, e3]
    exact h2
  | some ty =>
    rw [hrt] at hrun hq
    subst hq
    refine va_calli (a := aa) hrun I.2.2.2.1 (fun _ _ h => h) (fun _ h => h) (fun y u t H1 locs1 ht hvm hw hB hz hk hS1 => ?_)
    have h2 := hb lm H1 locs1 ⟨I.1, trivial, by rw [← ht]; exact hB, hS1, hw.2, by omega⟩
    rw [e2, e3, hw.1]
    exact h2
theorem lp_cat {stk : List Value} (hsv : ∀ k, (sv k).category = 1) (h : stk.all lp_good = true) : ((stk.map (lp_rl base sv)).map fun v => v.category).sum = stk.length := by
  induction stk with
  | nil => rfl
  | cons v stk ih =>
    rw [List.all_cons, Bool.and_eq_true] at h
    rw [List.map_cons, List.map_cons, List.sum_cons, ih h.2, List.length_cons]
    have : (lp_rl base sv v).category = 1 := by
      cases v <;> first | rfl | exact hsv _ | (cases h.1)
    omega
theorem lp_all_drop {stk : List Value} (h : stk.all lp_good = true) (b : Nat) : (stk.drop b).all lp_good = true := by
  rw [List.all_eq_true] at h ⊢
  exact fun x hx => h x (List.mem_of_mem_drop hx)
theorem lp_nth_take {stk : List Value} {b : Nat} {v : Value} (hb : 1 ≤ b) (hl : b ≤ stk.length) (h : lp_nth stk (b - 1) = v) : stk.take b = stk.take (b - 1) ++ [v] := by
  induction stk generalizing b with
  | nil => simp at hl; omega
  | cons u stk ih =>
    cases b with
    | zero => omega
    | succ b =>
      cases b with
      | zero =>
        simp only [Nat.zero_add, Nat.sub_self] at h
        have h : u = v := h
        simp [h]
      | succ b =>
        have h : lp_nth stk b = v := h
        have hl' : b + 1 ≤ stk.length := by simp at hl; omega
        have h1 := ih (b := b + 1) (by omega) hl' h
        show u :: stk.take (b + 1) = u :: (stk.take (b + 1 - 1)) ++ [v]
        rw [h1]
        rfl
/-- a method's start, where it is called -/
theorem lp_Pc_at {as : List Value} {H : Heap} {locs : List Loc} {lm : Array Slot} (X : lp_Cx p R s m args meth c base K0 mo D dA sv b0 L0 xs r) (I : lp_Iv s (lp_mx mo) base K0 D dA sv L0 xs lm ls st H locs) (hsz : H.size = base + st.1) :
    FrameBlind (lp_Pc base D dA sv b0 L0 xs as st) ∧ ∀ U : State, U.heap = H → s.WarmedH U.vm → lp_Pc base D dA sv b0 L0 xs as st (as.map (lp_rl base sv)).toArray U := by
  refine ⟨fun a U g mk h => ?_, fun U hU hW => ?_⟩
  · obtain ⟨h1, h2, h3, h4, h5⟩ := h
    exact ⟨h1, h2, h3, h4.blind, h5⟩
  · exact ⟨rfl, by rw [hU]; exact hsz, by rw [hU]; exact I.2.2.1, X.2.2.2.2.2.1.call I.2.2.2.1 hU hW, I.2.2.2.2.1⟩
theorem lp_y_ok {a : Nat} (ha : a < 293) : ((lp_y a).cls ≠ "java/lang/invoke/MethodHandle" ∧ (lp_y a).cls ≠ "java/lang/invoke/VarHandle") ∧ lp_mx a < 40 := by
  have h := List.all_eq_true.mp lp_okA_ok a (List.mem_range.mpr ha)
  rw [Bool.and_eq_true] at h
  exact ⟨of_decide_eq_true h.1, Nat.le_of_ble_eq_true h.2⟩
theorem lp_nar_ok {a b o : Nat} (h : lp_nar a b o = true) : ∃ n, b = n + o ∧ (parseMethodDescriptor (lp_y a).desc).map (fun d => d.parameters.length) = some n := by
  have h := of_decide_eq_true h
  cases hq : parseMethodDescriptor (lp_nd a).2 with
  | none => rw [hq] at h; cases h
  | some s =>
    rw [hq] at h
    refine ⟨s.parameters.length, (Option.some.inj h).symm, ?_⟩
    show (parseMethodDescriptor (lp_nd a).2).map _ = _
    rw [hq]
    rfl
theorem lp_ow_lt : ∀ m, m < 294 → lp_ow m < 20 := by decide +kernel
theorem lp_cok_ok {stk : List Value} {b : Nat} (h : lp_cok stk b = true) : b ≤ stk.length ∧ stk.length - b ≤ 8 ∧ stk.all lp_good = true := by
  unfold lp_cok at h
  rw [Bool.and_eq_true, Bool.and_eq_true] at h
  exact ⟨Nat.le_of_ble_eq_true h.1, Nat.le_of_ble_eq_true h.2.1, h.2.2⟩
theorem lp_rest_ok {stk : List Value} {b : Nat} (X : lp_Cx p R s m args meth c base K0 mo D dA sv b0 L0 xs r) (h : lp_cok stk b = true) : (((stk.drop b).map (lp_rl base sv)).map fun v => v.category).sum ≤ 8 := by
  obtain ⟨h1, h2, h3⟩ := lp_cok_ok h
  rw [lp_cat X.2.2.2.2.2.1.2.2.1 (lp_all_drop h3 b), List.length_drop]
  exact h2
theorem lp_fitR {x : Int32 × lp_S} {H : Heap} {locs : List Loc} {lm : Array Slot} (X : lp_Cx p R s m args meth c base K0 mo D dA sv b0 L0 xs r) (I : lp_Iv s (lp_mx mo) base K0 D dA sv L0 xs lm ls st H locs) (h1 : st.1 ≤ x.2.1) (h2 : x.2.1 ≤ r.2.1) : st.1 - K0 + (x.2.1 - st.1) ≤ R.cells ∧ lp_sl st.1 - lp_sl K0 + (lp_sl x.2.1 - lp_sl st.1) ≤ R.slots := by
  have hK0 := I.2.2.2.2.2
  have hm0 := lp_sl_mono hK0
  have hm1 := lp_sl_mono h1
  have hm2 := lp_sl_mono h2
  have hR := X.2.2.2.2.2.2.2.2.2.1
  have hR2 := X.2.2.2.2.2.2.2.2.2.2.1
  omega
/-- a call, its receiver and arguments off the stack -/
theorem lpW_split {b n : Nat} {v : Value} (hb : b = n + 1) (hc : b ≤ stk.length) (hv : lp_nth stk (b - 1) = v) :
    (stk.take b).reverse = v :: (stk.take n).reverse ∧ stk.map (lp_rl base sv) = (((stk.take n).reverse.map (lp_rl base sv)).reverse ++ lp_rl base sv v :: (stk.drop b).map (lp_rl base sv)) ∧ ((stk.take n).reverse.map (lp_rl base sv)).length = n := by
  have h1 := lp_nth_take (by omega) hc hv
  have hb1 : b - 1 = n := by omega
  rw [hb1] at h1
  refine ⟨by rw [h1, List.reverse_append]; rfl, ?_, by simp; omega⟩
  have h2 : stk = stk.take b ++ stk.drop b := (List.take_append_drop b stk).symm
  rw [h1] at h2
  calc stk.map (lp_rl base sv) = ((stk.take n ++ [v]) ++ stk.drop b).map (lp_rl base sv) := by rw [← h2]
    _ = _ := by simp
theorem lpW_CalV {t d : Nat} {cl : Nat → List Value → lp_S → List Value → List Value → Bool → lp_O} (X : lp_Cx p R s m args meth c base K0 mo D dA sv b0 L0 xs r) (hd : decode (lp_b mo) pc = .ok (.invokevirtual idx, 3)) (ha : a < 293) (hkd : lp_kd a = 0 ∨ lp_kd a = 4)
    (hw : lp_wd q = some (.methodLink (lp_cn (lp_ow mo)) idx (lp_y a))) (ht : Nat.beq t 1 = (lp_rt a).isSome) (hn : lp_nar a b 1 = true) (hR : d + 3 ≤ R.frames ∧ 100 * d + 300 ≤ R.locals)
    (hcl : ∀ as st ls rest fl, cl a as st ls rest fl = some r → ∃ x : Int32 × lp_S, st.1 ≤ x.2.1 ∧ x.2.1 ≤ r.2.1 ∧ lp_Met l base D dA sv b0 L0 xs d a as st x ∧ lp_Wt p l e R s m args below meth c Q base K0 mo D dA sv L0 xs (pc + 3) ls (bif fl then .int x.1 :: rest else rest) x.2)
    (h : lp_xCalV a b t cl ls stk st = some r) : lp_Wt p l e R s m args below meth c Q base K0 mo D dA sv L0 xs pc ls stk st := by
  intro lm H locs I
  unfold lp_xCalV at h
  cases hc : lp_cok stk b with
  | false => rw [hc] at h; cases h
  | true =>
    rw [hc] at h
    simp only [cond_true] at h
    obtain ⟨n, hb, hd2⟩ := lp_nar_ok hn
    obtain ⟨hl, -, -⟩ := lp_cok_ok hc
    obtain ⟨hy, hmx⟩ := lp_y_ok ha
    have hinst : Cond.instanceMethod (lp_y a) ∈ lp_gt := by
      have h1 := lp_mth_ok a ha
      rw [if_neg (by rcases hkd with e | e <;> rw [e] <;> decide)] at h1
      exact lp_gt_in h1 rfl
    have core : ∀ (v : Value) (bb : Nat), lp_nth stk (b - 1) = v → lp_rl base sv v = .ref bb → (∃ cell : Cell, H[bb]? = some cell ∧ cell.vm.isStatics = false ∧ s.vm.findClass (lp_y a).cls = some cell.cls) → cl a (stk.take b).reverse st ls (stk.drop b) (Nat.beq t 1) = some r →
        W p l e R s m args below meth c H locs (st.1 - K0) (lp_sl st.1 - lp_sl K0) Q (F0 m pc lm (stk.map (lp_rl base sv))) := by
      intro v bb hv hrl hrecv h
      obtain ⟨x, hx1, hx2, hM, hW⟩ := hcl _ _ _ _ _ h
      obtain ⟨s1, s2, s3⟩ := lpW_split (base := base) (sv := sv) hb hl hv
      rw [hrl] at s2
      refine lp_sized X I (fun hsz => ?_)
      have hPc := lp_Pc_at (as := (stk.take b).reverse) X I hsz
      have e1 : ((stk.take b).reverse.map (lp_rl base sv)).toArray = (Value.ref bb :: (stk.take n).reverse.map (lp_rl base sv)).toArray := by rw [s1, List.map_cons, hrl]
      refine lpW_after (a := a) (aa := (Value.ref bb :: (stk.take n).reverse.map (lp_rl base sv)).toArray) (x := x) (rest := stk.drop b) ?_ hx1 I ht hW
      have hPre : PreV s H (lp_y a).cls bb (lp_Pc base D dA sv b0 L0 xs (stk.take b).reverse st) ((stk.take n).reverse.map (lp_rl base sv)) := ⟨hPc.1, hrecv, fun U hU hW => by rw [← e1]; exact hPc.2 U hU hW⟩
      exact va_runV (own := lp_cn (lp_ow mo)) (bytes := lp_b a) (maxL := lp_mx a) (ret := lp_rt a) (index := idx) (As := (stk.take n).reverse.map (lp_rl base sv)) (rest := (stk.drop b).map (lp_rl base sv)) ⟨X.1, X.2.1, X.2.2.1, X.2.2.2.1, X.2.2.2.2.1⟩ hM
        ⟨callB_of n X.2.2.2.2.1 (lp_GoodIn ha) rfl rfl rfl (X.2.2.2.2.1 _ (lp_ini_in (lp_ow_lt a (by omega)))) (X.2.2.2.2.1 _ (lp_gt_in hw rfl)) ⟨hy.1, hy.2, hd2⟩ ⟨by show d + 2 + 1 ≤ _; omega, by show 8 + (lp_mx a + 11) + (100 * d + 200) ≤ _; omega⟩, X.2.2.2.2.1 _ hinst, X.2.2.2.2.1 _ (lp_sel_in ha hkd)⟩
        hPre rfl s3 I.1.1 s2 (lv_room (lp_rest_ok X hc)) hd (lp_fitR X I hx1 hx2)
    split at h
    · next k hk =>
      split at h
      · next hsh =>
        refine core (.ref k) (base + k) hk rfl ?_ h
        have hlt : lp_ow a < 11 := by
          have h1 := lp_sh24 k (Nat.lt_of_lt_of_le hsh.2 I.2.2.2.2.1.1)
          have h2 := lp_ow_lt a (by omega)
          rcases Nat.lt_or_ge (lp_ow a) 11 with z | z
          · exact z
          · exfalso
            have h3 := lp_shK k (Nat.lt_of_lt_of_le hsh.2 I.2.2.2.2.1.1)
            omega
        exact va_recv (q0 := k) X.2.2.2.2.2.1.1 I.2.2.1 (lp_hcl (lp_ow a) hlt) (by rw [lp_ws_get hsh.2, lp_elO hsh.1 hlt])
      · cases h
    · next k hk =>
      split at h
      · next hsh =>
        obtain ⟨adK, adV, hS, hv⟩ := X.2.2.2.2.2.1.2.2.2.1
        refine core (.retAddr k) (adK k) hk (hv k hsh.2).1 ?_ h
        obtain ⟨cell, c1, c2, c3⟩ := vk_recv hS hsh.2 I.2.2.2.1
        refine ⟨cell, c1, c2, ?_⟩
        show s.vm.findClass (lp_cn (lp_ow a)) = _
        rw [hsh.1]
        exact c3
      · cases h
    · cases h
theorem lpW_Max (X : lp_Cx p R s m args meth c base K0 mo D dA sv b0 L0 xs r) (hd : decode (lp_b mo) pc = .ok (.invokestatic idx, 3)) (hw : lp_wd q = some (.methodLink (lp_cn (lp_ow mo)) idx Lib.Math.max.name)) (hK : ∀ ls stk st, nx ls stk st = some r → st.1 ≤ r.2.1) (hnx : ∀ ls stk st, nx ls stk st = some r → lp_Wt p l e R s m args below meth c Q base K0 mo D dA sv L0 xs (pc + 3) ls stk st)
    (h : lp_xMax nx ls stk st = some r) : lp_Wt p l e R s m args below meth c Q base K0 mo D dA sv L0 xs pc ls stk st := by
  intro lm H locs I
  unfold lp_xMax at h
  cases hc : lp_cok stk 2 <;> simp only [hc, cond_true, cond_false] at h
  · cases h
  · unfold lp_x2 at h
    split at h
    · next y x rr =>
      have h8 := X.2.2.2.2.2.2.2.1
      have hrest := lp_rest_ok X hc
      have hrest : ((rr.map (lp_rl base sv)).map fun v => v.category).sum ≤ 8 := hrest
      have hle := hK _ _ _ h
      have hm1 := lp_sl_mono hle
      have hm0 := lp_sl_mono I.2.2.2.2.2
      have hR1 := X.2.2.2.2.2.2.2.2.2.1
      have hR2 := X.2.2.2.2.2.2.2.2.2.2.1
      have hK0 := I.2.2.2.2.2
      exact va_mmax X.1 X.2.1 (X.2.2.1.trans I.1.1.symm) X.2.2.2.1 (X.2.2.2.2.1 _ (lp_gt_in hw rfl)) (X.2.2.2.2.1 _ (lp_gt_in (p := 1042) rfl rfl)) (X.2.2.2.2.1 _ (lp_gt_in (p := 11) rfl rfl)) (X.2.2.2.2.1 _ (lp_gt_in (p := 1043) rfl rfl)) (by have := X.2.2.2.2.2.2.2.2.1; omega) (by omega) (by omega) (by omega) hd (hnx ls _ st h lm H locs I)
    · cases h
theorem lpW_Min (X : lp_Cx p R s m args meth c base K0 mo D dA sv b0 L0 xs r) (hd : decode (lp_b mo) pc = .ok (.invokestatic idx, 3)) (hw : lp_wd q = some (.methodLink (lp_cn (lp_ow mo)) idx Lib.Math.min.name)) (hK : ∀ ls stk st, nx ls stk st = some r → st.1 ≤ r.2.1) (hnx : ∀ ls stk st, nx ls stk st = some r → lp_Wt p l e R s m args below meth c Q base K0 mo D dA sv L0 xs (pc + 3) ls stk st)
    (h : lp_xMin nx ls stk st = some r) : lp_Wt p l e R s m args below meth c Q base K0 mo D dA sv L0 xs pc ls stk st := by
  intro lm H locs I
  unfold lp_xMin at h
  cases hc : lp_cok stk 2 <;> simp only [hc, cond_true, cond_false] at h
  · cases h
  · unfold lp_x2 at h
    split at h
    · next y x rr =>
      have h8 := X.2.2.2.2.2.2.2.1
      have hrest := lp_rest_ok X hc
      have hrest : ((rr.map (lp_rl base sv)).map fun v => v.category).sum ≤ 8 := hrest
      have hle := hK _ _ _ h
      have hm1 := lp_sl_mono hle
      have hm0 := lp_sl_mono I.2.2.2.2.2
      have hR1 := X.2.2.2.2.2.2.2.2.2.1
      have hR2 := X.2.2.2.2.2.2.2.2.2.2.1
      have hK0 := I.2.2.2.2.2
      exact va_mmin X.1 X.2.1 (X.2.2.1.trans I.1.1.symm) X.2.2.2.1 (X.2.2.2.2.1 _ (lp_gt_in hw rfl)) (X.2.2.2.2.1 _ (lp_gt_in (p := 2046) rfl rfl)) (X.2.2.2.2.1 _ (lp_gt_in (p := 11) rfl rfl)) (X.2.2.2.2.1 _ (lp_gt_in (p := 2047) rfl rfl)) (by have := X.2.2.2.2.2.2.2.2.1; omega) (by omega) (by omega) (by omega) hd (hnx ls _ st h lm H locs I)
    · cases h
end lpW
