/-! THE CLAIM OUT OF ONE WALK OF THE LAW'S BODY. Your part is whole_start (and what it stands on); all else here is the same for every law, but numbers. -/
def R_law : String := "LampPressesLaw"
def lw_P (b : Addr) (xs : List Int32) (args : Array Value) (s : State) : Prop := args = #[.ref b] ∧ s.IntsAt b xs ∧ xs.length ≤ 3072 ∧ (Jvm.Cond.and given_1 narrow_1).before args s = true
def lw_Q (_ : Array Value) (s : State) (o : Outcome) (t : State) : Prop := o = .returned (some (.int 1)) ∧ Framed s o t [] 600000 7302250
def lw_Z (below : List Frame) (a : Array Value) (s : State) : State → Prop := fun t => ∃ o, t.status = .running ∧ Ended t below o ∧ lw_Q a s o t
/-- the law's own end, with 1 on the stack, nothing written that was there before, its room as the claim has it -/
theorem lw_ret {p : Program} {l : Launch} {e : Env} {s : State} {m : MethodId} {below : List Frame} {meth : Method} {c : Code} {b : Nat} (hx : p.tables.exec = Jvm.exec) (hb : c.code = code) (hr : meth.sig.returnType = ret) (hlocks : meth.locks = false) {pc : Nat} {H : Heap} {ls : Array Slot} (hdg : decode code pc = .ok (.ireturn, 1)) : W p l e room_1 s m #[Value.ref b] below meth c H [] 600000 7302250 (lw_Z below #[Value.ref b] s) (F0 m pc ls [.int 1]) := by
  intro T hT X
  obtain ⟨fs, hret, hrun, hended, hW, hframe⟩ := X.leave (v := some (.int 1)) (hlocks := hlocks) (fun h => by rw [hr] at h; cases h)
  have hmeth' : T.vm.method? m = some meth := X.method'
  refine ⟨T.setFrames fs, ?_, .returned (some (.int 1)), hrun, hended, rfl, ⟨_, rfl⟩, hW, hframe⟩
  jvm_step X.here [X.here.top, hx, hb, hdg, hmeth', hr, ret, narrow_b1]
  (try refine ⟨rfl, ?_⟩); (try refine ⟨rfl, ?_⟩)
  first | (intro acts; rw [hret _ acts rfl rfl rfl]) | rw [hret _ _ rfl rfl rfl]
  exact Steps.refl _
/-- what holds at the law's entry: the machine, the code, the tables' words (any of lw_tbl by 'hts w (by decide +kernel)'), the script of L ints xs at the cell b, what the Statement gives of the start (any of its parts by flat_of_before) -/
def lw_At (p : Program) (s : State) (m : MethodId) (meth : Method) (c : Code) (b L : Nat) (xs : Nat → Int32) : Prop :=
  p.tables.exec = Jvm.exec ∧ c.code = code ∧ meth.sig.returnType = ret ∧ c.maxLocals = 4 ∧ s.vm.findClass R_law = some m.cls ∧ (∀ w ∈ lw_tbl, w.before #[Value.ref b] s = true) ∧ va_X b L xs s s.heap ∧ b < s.heap.size ∧ meth.locks = false ∧ (Jvm.Cond.and given_1 narrow_1).before #[Value.ref b] s = true
/-! ===== the law's walk out of a run of the small machine ===== -/
/-- the memory at the law's loop -/
noncomputable def lp_g0 (L : Nat) (xs : Nat → Int32) : lp_M := fun k j => if k = 997 then 1 else if k = 998 then Int32.ofNat L else if k = 999 then xs j else lp_S2.2.2 k j
theorem lp_S2_ref {k j : Nat} (hk : k < 369) (hj : j < (lp_sh k).2) (hj2 : j < 40) (h : ((lp_sh k).1 < 11 ∧ lp_isR (lp_sh k).1 j = true) ∨ (lp_sh k).1 = 23 ∨ (lp_sh k).1 = 24) : lp_S2.2.1 k j = .ref (lp_tg k j) := by
  have h1 := List.all_eq_true.mp (List.all_eq_true.mp lp_S2_R k (List.mem_range.mpr hk)) j (List.mem_range.mpr (by omega))
  have h2 : ((Nat.blt (lp_sh k).1 11 && lp_isR (lp_sh k).1 j) || (Nat.beq (lp_sh k).1 23 || Nat.beq (lp_sh k).1 24)) = true := by
    rcases h with ⟨a, b⟩ | a | a
    · have : Nat.blt (lp_sh k).1 11 = true := Nat.ble_eq.mpr a
      rw [this, b]; rfl
    · rw [a]; simp
    · rw [a]; simp
  rw [h2] at h1
  exact of_decide_eq_true h1
theorem lp_nf40 : ∀ c, c < 11 → lp_nf c < 40 := by decide +kernel
theorem lp_shnf : ∀ k, k < 369 → (lp_sh k).1 < 11 → (lp_sh k).2 = lp_nf (lp_sh k).1 := by decide +kernel
theorem lp_sh2324 : ∀ k, k < 369 → (lp_sh k).1 = 23 ∨ (lp_sh k).1 = 24 → (lp_sh k).2 < 40 := by decide +kernel
/-- the cells as the constructors left them are the cells of the loop's memory -/
theorem lp_world0 {base : Nat} {D : va_G} {dA : Nat → ClassId} {H : Heap} {L : Nat} {xs : Nat → Int32} (hP : va_P D lp_cl (lp_ws base dA lp_S2) H) : va_P D lp_cl (lp_ws base dA (lp_s0 (lp_g0 L xs))) H := by
  intro k q hq
  obtain ⟨hk, rfl⟩ := lp_ws_some hq
  have hk : k < 369 := hk
  have h1 := hP k _ (lp_ws_get (by rw [lp_S2_K]; exact hk))
  have hg : (lp_s0 (lp_g0 L xs)).2.2 k = lp_S2.2.2 k := by
    funext j
    show lp_g0 L xs k j = _
    unfold lp_g0
    rw [if_neg (by omega), if_neg (by omega), if_neg (by omega)]
  have h24 := lp_sh24 k hk
  have hK := lp_shK k hk
  by_cases c20 : (lp_sh k).1 = 20
  · rw [lp_el20 c20] at h1 ⊢
    rw [hg]
    exact h1
  by_cases c21 : (lp_sh k).1 = 21
  · rw [lp_el21 c21] at h1 ⊢
    rw [hg]
    exact h1
  by_cases c22 : (lp_sh k).1 = 22
  · rw [lp_el22 c22] at h1 ⊢
    rw [hg]
    exact h1
  have arr : ∀ (cA : ClassId), ((lp_sh k).1 = 23 ∨ (lp_sh k).1 = 24) → H[base + k]? = some (vp_cell cA ((lp_sh k).2, .inr (.inr (.inr (.inr (fun j => lp_on base (lp_S2.2.1 k j))))))) → H[base + k]? = some (vp_cell cA ((lp_sh k).2, .inr (.inr (.inr (.inr (fun j => lp_on base ((lp_s0 (lp_g0 L xs)).2.1 k j))))))) := by
    intro cA hc h
    rw [h, vp_cell_q, vp_cell_q]
    refine congrArg some (lp_arrV_congr _ (fun j hj => ?_))
    have h40 := lp_sh2324 k hk hc
    rw [lp_S2_ref hk hj (by omega) (Or.inr hc)]
    rfl
  by_cases c23 : (lp_sh k).1 = 23
  · rw [lp_el23 c23] at h1 ⊢
    exact arr _ (Or.inl c23) h1
  by_cases c24 : (lp_sh k).1 = 24
  · rw [lp_el24 c24] at h1 ⊢
    exact arr _ (Or.inr c24) h1
  have hc : (lp_sh k).1 < 11 := by omega
  rw [lp_elO rfl hc] at h1 ⊢
  have e : lp_fs base (lp_sh k).1 (lp_s0 (lp_g0 L xs)) k = lp_fs base (lp_sh k).1 lp_S2 k := by
    unfold lp_fs
    refine List.map_congr_left (fun j hj => ?_)
    have hj := List.mem_range.mp hj
    rw [hg]
    by_cases hr : lp_isR (lp_sh k).1 j = true
    · rw [if_pos hr, if_pos hr, lp_S2_ref hk (by rw [lp_shnf k hk hc]; exact hj) (Nat.lt_trans hj (lp_nf40 _ hc)) (Or.inl ⟨hc, hr⟩)]
      rfl
    · rw [if_neg hr, if_neg hr]
  rw [e]
  exact h1
theorem lp_slots : lp_sl 369 ≤ 7302250 := by decide +kernel
/-- what stands outside the cells, at the law's entry -/
theorem lp_Env0 {s : State} {b L : Nat} {xs : Nat → Int32} (hL : L ≤ 3072) (hts : ∀ w ∈ lw_tbl, w.before #[Value.ref b] s = true) (hX : va_X b L xs s s.heap) (hbl : b < s.heap.size) (hgv : (Jvm.Cond.and given_1 narrow_1).before #[Value.ref b] s = true) :
    ∃ (D : va_G) (dA : Nat → ClassId) (sv : Nat → Value), lp_Env s.heap.size D dA sv b L xs s := by
  have hA : ∀ a : Nat, a < s.heap.size → ¬ lp_A s.heap.size a := fun a ha h => Nat.not_le.mpr ha h
  have hfl : ∀ w ∈ lp_fl, w.before #[Value.ref b] s = true := flat_of_before _ hgv
  have hw : ∀ {p : Nat} {w : Cond}, lp_wd p = some w → w.before #[Value.ref b] s = true := fun h => hts _ (lp_wd_tbl h)
  have h1 : ∀ c, ∃ q : ClassId × (Nat → Nat), c < 11 → u_Kn s (lp_cn c) (lp_T c) (lp_nf c) q.1 q.2 := by
    intro c
    by_cases hc : c < 11
    · obtain ⟨cC, iS, h⟩ := u_known (C := lp_cn c) (T := lp_T c) (N := lp_nf c) (n := lp_nf c) hts (lp_hin c hc) (hw (lp_new_ok c hc))
      exact ⟨(cC, iS), fun _ => h⟩
    · exact ⟨(0, fun _ => 0), fun h => absurd h hc⟩
  obtain ⟨f, hf⟩ := Classical.axiomOfChoice h1
  obtain ⟨c0, k0, m0, a0, b0, d0⟩ := Cond.arrayClass_spec (hw (p := 54) (w := .arrayClass .int) (by decide +kernel))
  obtain ⟨c1, k1, m1, a1, b1, d1⟩ := Cond.arrayClass_spec (hw (p := 137) (w := .arrayClass .byte) (by decide +kernel))
  obtain ⟨c2, k2, m2, a2, b2, d2⟩ := Cond.arrayClass_spec (hw (p := 4216) (w := .arrayClass .boolean) (by decide +kernel))
  have hAA : lp_AOA s := hw (p := 35) (w := .arrayOver (.array .int)) (by decide +kernel)
  obtain ⟨m3, c3, k3, -, -, b3, d3, a3⟩ := lp_AOA.spec hAA
  have hAN : va_AO "LampPresses$Net" s := va_AO.of (A := #[Value.ref b]) (hw (p := 100) (w := .arrayOver (.object "LampPresses$Net")) (by decide +kernel))
  obtain ⟨m4, c4, k4, e4, -, b4, d4, a4⟩ := Cond.arrayOver_spec hAN
  obtain ⟨adK, adV, hS, hev⟩ := vk_Sof (tm := lp_tm) (N := 18) (len := lp_len) (byt := lp_sb) (A := lp_A s.heap.size) lp_tx4 (fun i hi => hfl _ (lp_tx1 i hi).1) (fun i hi => hfl _ (lp_tx1 i hi).2.1) (fun i hi => hfl _ (lp_tx1 i hi).2.2.1) (fun i hi => hfl _ (lp_tx1 i hi).2.2.2) (fun i hi j hj => hfl _ (lp_tx2 i hi j hj)) (fun i j hi hj hn => (lp_tx3 i hi j hj hn).imp (hfl _) (hfl _)) hA
  have hZ := va_Zof (A := lp_A s.heap.size) (hw (p := 1163) (w := .laysStatic "java/lang/String" "COMPACT_STRINGS" "Z") (by decide +kernel)) (hw (p := 13) (w := .initialized "java/lang/String") (by decide +kernel)) (va_eqt (hfl (Cond.eq (.static "java/lang/String" "COMPACT_STRINGS" "Z") (.int 1)) (by decide +kernel))) hA
  have hF := va_Zqof (A := lp_A s.heap.size) (hw (p := 1179) (w := .laysStatic "jdk/internal/util/Preconditions" "SIOOBE_FORMATTER" "Ljava/util/function/BiFunction;") (by decide +kernel)) (hw (p := 15) (w := .initialized "jdk/internal/util/Preconditions") (by decide +kernel)) (hfl (Cond.isRef (.static "jdk/internal/util/Preconditions" "SIOOBE_FORMATTER" "Ljava/util/function/BiFunction;")) (by decide +kernel)) hA
  have hF2 : ∃ v : Value, v.category = 1 ∧ va_Z "jdk/internal/util/Preconditions" "SIOOBE_FORMATTER" "Ljava/util/function/BiFunction;" v (lp_A s.heap.size) s s.heap := by
    rcases hF with h | ⟨t, h⟩
    · exact ⟨_, rfl, h⟩
    · exact ⟨_, rfl, h⟩
  obtain ⟨fv, hfc, hfz⟩ := hF2
  refine ⟨(fun c => (f c).1, fun c => (f c).2), fun i => if i = 0 then c0 else if i = 1 then c1 else if i = 2 then c2 else if i = 3 then c3 else c4, fun k => if k < 18 then .ref (adK k) else if 100 ≤ k ∧ k < 118 then .ref (adV (k - 100)) else if k = 200 then fv else .ref b, ?_⟩
  refine ⟨⟨fun c q hq => ?_, fun k q hq => ?_⟩, Nat.le_refl _, fun k => ?_, ⟨adK, adV, hS, fun k hk => ⟨if_pos hk, ?_, ?_⟩⟩, hZ, hfz, ⟨rfl, hbl, by omega, hX⟩, fun p own i x h hw2 => va_Nw.of rfl (hw hw2), hAN, hAA⟩
  · have hc : c < 11 := (List.getElem?_eq_some_iff.mp hq).1
    rw [lp_hcl c hc] at hq
    cases hq
    exact hf c hc
  · have hk : k < 5 := (List.getElem?_eq_some_iff.mp hq).1
    have h5 : k = 0 ∨ k = 1 ∨ k = 2 ∨ k = 3 ∨ k = 4 := by omega
    rcases h5 with rfl | rfl | rfl | rfl | rfl <;> cases hq
    · exact ⟨fun N z => ⟨(fun k h => by cases h), k0, b0, m0, d0⟩, a0⟩
    · exact ⟨fun N z => ⟨(fun k h => by cases h), k1, b1, m1, d1⟩, a1⟩
    · exact ⟨fun N z => ⟨(fun k h => by cases h), k2, b2, m2, d2⟩, a2⟩
    · exact ⟨fun N z => ⟨(fun k h => by cases h), k3, b3, m3, d3⟩, a3⟩
    · exact ⟨fun N z => ⟨(fun k h => by cases h), k4, b4, m4, d4⟩, k4, m4, b4, d4, e4, a4⟩
  · show (if k < 18 then Value.ref (adK k) else if 100 ≤ k ∧ k < 118 then .ref (adV (k - 100)) else if k = 200 then fv else .ref b).category = 1
    split
    · rfl
    · split
      · rfl
      · split
        · exact hfc
        · rfl
  · show (if 100 + k < 18 then Value.ref (adK (100 + k)) else if 100 ≤ 100 + k ∧ 100 + k < 118 then .ref (adV (100 + k - 100)) else if 100 + k = 200 then fv else .ref b) = _
    rw [if_neg (by omega), if_pos (by omega), Nat.add_sub_cancel_left]
  · exact vk_R.of (A := #[Value.ref b]) (hw (lp_tx5 k hk)) (hev k hk)
/-- the law's walk, if the small machine comes to 1 -/
theorem lp_whole (pure : ∀ (L : Nat) (xs : Nat → Int32), L ≤ 3072 → ∃ g : lp_M, lp_fn 40 293 18 [.retAddr 300, .ref 0, .ref 343, .int 0] [] (lp_s0 (lp_g0 L xs)) = some (1, lp_s0 g)) {p : Program} {e : Env} {s : State} {m : MethodId} {below : List Frame} {meth : Method} {c : Code} (l : Launch) {b L : Nat} {xs : Nat → Int32} (hL : L ≤ 3072) (C0 : lw_At p s m meth c b L xs) :
    W p l e room_1 s m #[Value.ref b] below meth c s.heap [] 0 0 (lw_Z below #[Value.ref b] s) (entryFrame m ([Value.ref b] : List Value).toArray 4) := by
  obtain ⟨hx, hb, hr, hml, hown, hts, hX, hbl, hlocks, hgv⟩ := id C0
  obtain ⟨D, dA, sv, hE⟩ := lp_Env0 hL hts hX hbl hgv
  obtain ⟨g', hrun⟩ := pure L xs hL
  have hgt : ∀ w ∈ lp_gt, w.before #[Value.ref b] s = true := fun w hw => hts w (List.mem_filter.mp hw).1
  have X : lp_Cx p room_1 s m #[Value.ref b] meth c s.heap.size 0 293 D dA sv b L xs (1, lp_s0 g') :=
    ⟨hx, hb, hml, hown, hgt, hE, fun h => absurd h (by decide), Nat.le_of_ble_eq_true rfl, Nat.le_of_ble_eq_true rfl, Nat.le_of_ble_eq_true rfl, Nat.le_trans (Nat.sub_le _ _) lp_slots, rfl⟩
  have hretI : ∀ pc ls v st ty, decode (lp_b 293) pc = .ok (.ireturn, 1) → lp_rt 293 = some ty → narrow ty (.int v) = .int v → (v, st) = ((1 : Int32), lp_s0 g') → lp_Wt p l e room_1 s m #[Value.ref b] below meth c (lw_Z below #[Value.ref b] s) s.heap.size 0 293 D dA sv L xs pc ls [.int v] st := by
    intro pc ls v st ty hd _ _ e
    cases e
    intro lm H locs I
    refine va_forget (fun q hq => I.2.2.2.1.2.2 q hq) ?_
    refine W.widen (k := 600000) (n := 7302250) (Nat.le_of_ble_eq_true rfl) (Nat.le_trans (Nat.sub_le _ _) lp_slots) ?_
    exact lw_ret hx hb hr hlocks hd
  have hretV : ∀ pc ls st, decode (lp_b 293) pc = .ok (.return_, 1) → lp_rt 293 = none → ((0 : Int32), st) = ((1 : Int32), lp_s0 g') → lp_Wt p l e room_1 s m #[Value.ref b] below meth c (lw_Z below #[Value.ref b] s) s.heap.size 0 293 D dA sv L xs pc ls [] st := by
    intro pc ls st _ h
    cases h
  -- the loop
  obtain ⟨n, hn⟩ := lp_fn_iff.mp hrun
  have loop : lp_Wt p l e room_1 s m #[Value.ref b] below meth c (lw_Z below #[Value.ref b] s) s.heap.size 0 293 D dA sv L xs 18 [.retAddr 300, .ref 0, .ref 343, .int 0] [] (lp_s0 (lp_g0 L xs)) :=
    lp_bkW X (Nat.le_of_ble_eq_true rfl) (d := 40) ⟨Nat.le_of_ble_eq_true rfl, Nat.le_of_ble_eq_true rfl⟩ (fun a as st x ha h => lp_runMet l s.heap.size D dA sv b L xs 39 n a as st x ha h) (lp_run_K 40 n) hretI hretV n 18 _ [] _ hn
  -- up to it, back from its end
  have hcall : ∀ a as st x, a < 293 → lp_run 6 200 a as st = some x → lp_Met l s.heap.size D dA sv b L xs 6 a as st x := fun a as st x ha h => lp_runMet l s.heap.size D dA sv b L xs 5 200 a as st x ha h
  have seg : ∀ (pc : Nat) (ls stk : List Value) (st : lp_S) (pc' : Nat) (ls' stk' : List Value) (st' : lp_S), st'.1 ≤ 369 → lp_Wt p l e room_1 s m #[Value.ref b] below meth c (lw_Z below #[Value.ref b] s) s.heap.size 0 293 D dA sv L xs pc' ls' stk' st' →
      (∀ back : Nat → lp_K, back pc' ls' stk' st' = some (1, lp_s0 g') → lp_seg (lp_run 6 200) back (lp_cd 293) 1200 pc ls stk st = some (1, lp_s0 g')) → lp_Wt p l e room_1 s m #[Value.ref b] below meth c (lw_Z below #[Value.ref b] s) s.heap.size 0 293 D dA sv L xs pc ls stk st := by
    classical
    intro pc ls stk st pc' ls' stk' st' hle hW hs
    have hs := hs (fun a b c d => if a = pc' ∧ b = ls' ∧ c = stk' ∧ d = st' then some (1, lp_s0 g') else none) (if_pos ⟨rfl, rfl, rfl, rfl⟩)
    refine lp_segW X (Nat.le_of_ble_eq_true rfl) (d := 6) ⟨Nat.le_of_ble_eq_true rfl, Nat.le_of_ble_eq_true rfl⟩ hcall (lp_run_K 6 200) ?_ ?_ hretI hretV 1200 pc ls stk st hs
    · intro a b c d x h
      split at h
      · next hq =>
        cases h
        rw [hq.2.2.2]
        exact hle
      · cases h
    · intro a b c d h
      split at h
      · next hq =>
        obtain ⟨rfl, rfl, rfl, rfl⟩ := hq
        exact hW
      · cases h
  have s18 : lp_Wt p l e room_1 s m #[Value.ref b] below meth c (lw_Z below #[Value.ref b] s) s.heap.size 0 293 D dA sv L xs 18 [.retAddr 300, .ref 0, .ref 343, .int 0] [] lp_S2 := by
    intro lm H locs I
    have h := loop lm H locs ⟨I.1, trivial, lp_world0 I.2.2.1, I.2.2.2.1, ⟨Nat.le_refl _, fun _ => ⟨rfl, fun j _ => rfl⟩⟩, Nat.zero_le _⟩
    rw [lp_S2_K]
    exact h
  have s15 : lp_Wt p l e room_1 s m #[Value.ref b] below meth c (lw_Z below #[Value.ref b] s) s.heap.size 0 293 D dA sv L xs 15 [.retAddr 300, .ref 0, .long 0, .long 0] [.ref 343] lp_S2 :=
    seg _ _ _ _ _ _ _ _ (by rw [lp_S2_K]; exact Nat.le_refl _) s18 (fun back h => h)
  have s7 : lp_Wt p l e room_1 s m #[Value.ref b] below meth c (lw_Z below #[Value.ref b] s) s.heap.size 0 293 D dA sv L xs 7 [.retAddr 300, .long 0, .long 0, .long 0] [.ref 0] lp_S1 := by
    refine seg _ _ _ _ _ _ _ _ (by rw [lp_S2_K]; exact Nat.le_refl _) s15 (fun back h => ?_)
    have e1 : ∀ call : Nat → List Value → lp_S → lp_O, lp_seg call back (lp_cd 293) 1200 7 [.retAddr 300, .long 0, .long 0, .long 0] [.ref 0] lp_S1 = if lp_sh lp_S1.1 = (10, 37) then (call 162 [.ref lp_S1.1] (lp_grow 1 lp_S1)).bind (fun x => back 15 [.retAddr 300, .ref 0, .long 0, .long 0] [.ref lp_S1.1] x.2) else none := fun _ => rfl
    rw [e1, lp_S1_K, if_pos (show lp_sh 343 = (10, 37) from rfl), lp_S2_run]
    exact h
  have s0 : lp_Wt p l e room_1 s m #[Value.ref b] below meth c (lw_Z below #[Value.ref b] s) s.heap.size 0 293 D dA sv L xs 0 [.retAddr 300, .long 0, .long 0, .long 0] [] lp_blank := by
    refine seg _ _ _ _ _ _ _ _ (by rw [lp_S1_K]; exact Nat.le_of_ble_eq_true rfl) s7 (fun back h => ?_)
    have e1 : ∀ call : Nat → List Value → lp_S → lp_O, lp_seg call back (lp_cd 293) 1200 0 [.retAddr 300, .long 0, .long 0, .long 0] [] lp_blank = (call 77 [.ref 0] (lp_grow 1 lp_blank)).bind (fun x => back 7 [.retAddr 300, .long 0, .long 0, .long 0] [.ref 0] x.2) := fun _ => rfl
    rw [e1, lp_S1_run]
    exact h
  have hL0 := lp_L_entry (base := s.heap.size) (sv := sv) hE.2.2.1 (m := 293) (as := [.retAddr 300]) rfl (Nat.le_of_ble_eq_true rfl)
  have e300 : [Value.retAddr 300].map (lp_rl s.heap.size sv) = [Value.ref b] := by
    show [sv 300] = _
    rw [hE.2.2.2.2.2.2.1.1]
  rw [e300] at hL0
  rw [lg_entry_eq]
  have h := s0 _ s.heap [] ⟨hL0, trivial, fun k q hq => (by have := (lp_ws_some hq).1; exact absurd this (Nat.not_lt_zero _)), va_S.rf, ⟨Nat.zero_le _, fun h => absurd h (by decide)⟩, Nat.zero_le _⟩
  exact h
