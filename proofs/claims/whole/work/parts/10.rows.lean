/-! ===== instruction by instruction (printed by wip/whole/mkrows.py) ===== -/
/-- what holds all through a method's body -/
def lp_Cx (p : Program) (R : Room) (s : State) (m : MethodId) (args : Array Value) (meth : Method) (c : Code) (base K0 mo : Nat) (D : va_G) (dA : Nat → ClassId) (sv : Nat → Value) (b0 L0 : Nat) (xs : Nat → Int32) (r : Int32 × lp_S) : Prop :=
  p.tables.exec = Jvm.exec ∧ c.code = lp_b mo ∧ c.maxLocals = lp_mx mo ∧ s.vm.findClass (lp_cn (lp_ow mo)) = some m.cls ∧ (∀ w ∈ lp_gt, w.before args s = true) ∧ lp_Env base D dA sv b0 L0 xs s ∧ ((lp_nd mo).1 = "<init>" → meth.name = "<init>") ∧ 200 ≤ R.locals ∧ 2 ≤ R.frames ∧ r.2.1 - K0 ≤ R.cells ∧ lp_sl r.2.1 - lp_sl K0 ≤ R.slots ∧ base + K0 = s.heap.size
def lp_Iv (s : State) (nL base K0 : Nat) (D : va_G) (dA : Nat → ClassId) (sv : Nat → Value) (L0 : Nat) (xs : Nat → Int32) (lm : Array Slot) (ls : List Value) (st : lp_S) (H : Heap) (locs : List Loc) : Prop :=
  lp_L base sv lm nL ls ∧ True ∧ va_P D lp_cl (lp_ws base dA st) H ∧ va_S (lp_A base) s.heap H locs ∧ lp_Scr L0 xs st ∧ K0 ≤ st.1
def lp_Wt (p : Program) (l : Launch) (e : Env) (R : Room) (s : State) (m : MethodId) (args : Array Value) (below : List Frame) (meth : Method) (c : Code) (Q : State → Prop) (base K0 mo : Nat) (D : va_G) (dA : Nat → ClassId) (sv : Nat → Value) (L0 : Nat) (xs : Nat → Int32) (pc : Nat) (ls stk : List Value) (st : lp_S) : Prop :=
  ∀ (lm : Array Slot) (H : Heap) (locs : List Loc), lp_Iv s (lp_mx mo) base K0 D dA sv L0 xs lm ls st H locs → W p l e R s m args below meth c H locs (st.1 - K0) (lp_sl st.1 - lp_sl K0) Q (F0 m pc lm (stk.map (lp_rl base sv)))
theorem lp_Scr_w {L : Nat} {xs : Nat → Int32} {st : lp_S} {k : Nat} {f : Nat → Int32} (h : lp_Scr L xs st) (hk : k < st.1) (g : lp_R) : lp_Scr L xs (st.1, g, lp_u st.2.2 k f) := by
  have h1 := h.1
  refine ⟨h1, fun hf => ?_⟩
  have e : ∀ q, 369 ≤ q → lp_u st.2.2 k f q = st.2.2 q := fun q hq => lp_u_ne _ _ (by omega)
  have hf : lp_u st.2.2 k f 997 0 = 1 := hf
  rw [e 997 (by omega)] at hf
  refine ⟨?_, fun j hj => ?_⟩
  · show lp_u st.2.2 k f 998 0 = _
    rw [e 998 (by omega)]
    exact (h.2 hf).1
  · show lp_u st.2.2 k f 999 j = _
    rw [e 999 (by omega)]
    exact (h.2 hf).2 j hj
theorem lp_Scr_R {L : Nat} {xs : Nat → Int32} {st : lp_S} (h : lp_Scr L xs st) (g : lp_R) : lp_Scr L xs (st.1, g, st.2.2) := h
/-- new cells behind those there are -/
theorem lp_P_grow {base n : Nat} {D : va_G} {dA : Nat → ClassId} {st st' : lp_S} {H H1 : Heap} (hP : va_P D lp_cl (lp_ws base dA st) H) (hold : ∀ q : Nat, q < H.size → H1[q]? = H[q]?) (h1 : st'.1 = st.1 + n) (hel : ∀ k, k < st.1 → lp_el base dA st' k = lp_el base dA st k)
    (hnew : ∀ j, j < n → va_at D lp_cl (base + (st.1 + j), lp_el base dA st' (st.1 + j)) H1) : va_P D lp_cl (lp_ws base dA st') H1 := by
  intro k q hq
  obtain ⟨hk, rfl⟩ := lp_ws_some hq
  by_cases hl : k < st.1
  · have h2 := hP k _ (lp_ws_get hl)
    rw [hel k hl]
    exact h2.kept (hold _ h2.lt)
  · obtain ⟨j, rfl⟩ : ∃ j, k = st.1 + j := ⟨k - st.1, by omega⟩
    exact hnew j (by omega)
theorem lp_kind_lt {k a n : Nat} (h : lp_sh k = (a, n)) (ha : a < 11 ∨ a < 25) : (lp_sh k).1 < 25 := by rw [h]; show a < 25; omega
/-- what has a kind is one of the cells -/
theorem lp_shN {k : Nat} (h : (lp_sh k).1 < 25) : k < 369 := by
  rcases Nat.lt_or_ge k 369 with q | q
  · exact q
  · exfalso
    have e : ∀ n, Nat.ble n 369 = true → Nat.ble n k = true := fun n hn => Nat.ble_eq.mpr (Nat.le_trans (Nat.le_of_ble_eq_true hn) q)
    have h99 : (lp_sh k).1 = 99 := by
      unfold lp_sh
      simp only [e 188 rfl, e 307 rfl, e 340 rfl, e 352 rfl, e 365 rfl, e 367 rfl, e 368 rfl, e 369 rfl, cond_true]
    omega
theorem lp_shL : ∀ k, k < 369 → (lp_sh k).2 ≤ 60000 := by decide +kernel
theorem lp_growI {n : Nat} {st : lp_S} {k : Nat} (h1 : st.1 ≤ k) (h2 : k < st.1 + n) : (lp_grow n st).2.2 k = fun _ => 0 := if_pos ⟨h1, h2⟩
theorem lp_growR {n : Nat} {st : lp_S} {k : Nat} (h1 : st.1 ≤ k) (h2 : k < st.1 + n) : (lp_grow n st).2.1 k = fun _ => .null := if_pos ⟨h1, h2⟩
theorem lp_el_grow {base n : Nat} {dA : Nat → ClassId} {st : lp_S} {k : Nat} (h : k < st.1) : lp_el base dA (lp_grow n st) k = lp_el base dA st k := lp_el_ne (if_neg (by omega)) (if_neg (by omega))
theorem lp_Scr_grow {L n : Nat} {xs : Nat → Int32} {st : lp_S} (h : lp_Scr L xs st) (hn : st.1 + n ≤ 369) : lp_Scr L xs (lp_grow n st) := by
  have e : ∀ q, 369 ≤ q → (lp_grow n st).2.2 q = st.2.2 q := fun q hq => if_neg (by omega)
  refine ⟨hn, fun hf => ?_⟩
  rw [e 997 (by omega)] at hf
  rw [e 998 (by omega), e 999 (by omega)]
  exact h.2 hf
section lpW
variable {p : Program} {l : Launch} {e : Env} {R : Room} {s : State} {m : MethodId} {args : Array Value} {below : List Frame} {meth : Method} {c : Code} {Q : State → Prop}
variable {base K0 mo : Nat} {D : va_G} {dA : Nat → ClassId} {sv : Nat → Value} {b0 L0 : Nat} {xs : Nat → Int32} {r : Int32 × lp_S}
variable {nx : lp_K} {jp : Nat → lp_K} {pc pc' a b idx q : Nat} {ls stk : List Value} {st : lp_S} {cv : Int32}
/-- the heap's size, as the machine counts it -/
theorem lp_sized {H : Heap} {locs : List Loc} {lm : Array Slot} {sl : Nat} {g : JFrame} (X : lp_Cx p R s m args meth c base K0 mo D dA sv b0 L0 xs r) (I : lp_Iv s (lp_mx mo) base K0 D dA sv L0 xs lm ls st H locs)
    (kk : H.size = base + st.1 → W p l e R s m args below meth c H locs (st.1 - K0) sl Q g) : W p l e R s m args below meth c H locs (st.1 - K0) sl Q g := by
  intro T hT Y
  refine kk ?_ T hT Y
  have h1 := Y.heapSize
  rw [hT] at h1
  have h2 := I.2.2.2.1.1
  have h3 := X.2.2.2.2.2.2.2.2.2.2.2
  have h4 := I.2.2.2.2.2
  by_cases h0 : st.1 = 0
  · omega
  · have h5 := (I.2.2.1 (st.1 - 1) _ (lp_ws_get (by omega))).lt
    simp only at h5
    omega
theorem lpW_C (hnx : ∀ ls stk st, nx ls stk st = some r → lp_Wt p l e R s m args below meth c Q base K0 mo D dA sv L0 xs pc' ls stk st) (row : ∀ (lm : Array Slot) (H : Heap) (locs : List Loc) (ce sl : Nat) (rest : List Value), W p l e R s m args below meth c H locs ce sl Q (F0 m pc' lm (.int cv :: rest)) → W p l e R s m args below meth c H locs ce sl Q (F0 m pc lm rest))
    (h : lp_xC cv nx ls stk st = some r) : lp_Wt p l e R s m args below meth c Q base K0 mo D dA sv L0 xs pc ls stk st := by
  exact fun lm H locs I => row lm H locs _ _ _ (hnx ls (.int cv :: stk) st h lm H locs I)
theorem lpW_C1 (hnx : ∀ ls stk st, nx ls stk st = some r → lp_Wt p l e R s m args below meth c Q base K0 mo D dA sv L0 xs pc' ls stk st) (row : ∀ (lm : Array Slot) (H : Heap) (locs : List Loc) (ce sl : Nat) (rest : List Value), va_S (lp_A base) s.heap H locs → W p l e R s m args below meth c H locs ce sl Q (F0 m pc' lm (.int cv :: rest)) → W p l e R s m args below meth c H locs ce sl Q (F0 m pc lm rest))
    (h : lp_xC cv nx ls stk st = some r) : lp_Wt p l e R s m args below meth c Q base K0 mo D dA sv L0 xs pc ls stk st := by
  exact fun lm H locs I => row lm H locs _ _ _ I.2.2.2.1 (hnx ls (.int cv :: stk) st h lm H locs I)
theorem lpW_S (hnx : ∀ ls stk st, nx ls stk st = some r → lp_Wt p l e R s m args below meth c Q base K0 mo D dA sv L0 xs pc' ls stk st) (row : ∀ (lm : Array Slot) (H : Heap) (locs : List Loc) (ce sl : Nat) (rest : List Value), va_S (lp_A base) s.heap H locs → W p l e R s m args below meth c H locs ce sl Q (F0 m pc' lm (sv a :: rest)) → W p l e R s m args below meth c H locs ce sl Q (F0 m pc lm rest))
    (h : lp_xS a nx ls stk st = some r) : lp_Wt p l e R s m args below meth c Q base K0 mo D dA sv L0 xs pc ls stk st := by
  exact fun lm H locs I => row lm H locs _ _ _ I.2.2.2.1 (hnx ls (.retAddr a :: stk) st h lm H locs I)
theorem lpW_Il (hnx : ∀ ls stk st, nx ls stk st = some r → lp_Wt p l e R s m args below meth c Q base K0 mo D dA sv L0 xs pc' ls stk st) (row : ∀ (lm : Array Slot) (H : Heap) (locs : List Loc) (ce sl : Nat) (rest : List Value) (x : Int32), lm[a]? = some (.val (.int x)) → W p l e R s m args below meth c H locs ce sl Q (F0 m pc' lm (.int x :: rest)) → W p l e R s m args below meth c H locs ce sl Q (F0 m pc lm rest))
    (h : lp_xIl a nx ls stk st = some r) : lp_Wt p l e R s m args below meth c Q base K0 mo D dA sv L0 xs pc ls stk st := by
  intro lm H locs I
  unfold lp_xIl at h
  split at h
  · next v hv =>
    have h1 := I.1.2.2 a (by rw [hv]; rfl)
    rw [hv] at h1
    exact row lm H locs _ _ _ v h1 (hnx _ _ _ h lm H locs I)
  · cases h
theorem lpW_Al (X : lp_Cx p R s m args meth c base K0 mo D dA sv b0 L0 xs r) (hnx : ∀ ls stk st, nx ls stk st = some r → lp_Wt p l e R s m args below meth c Q base K0 mo D dA sv L0 xs pc' ls stk st) (row : ∀ (lm : Array Slot) (H : Heap) (locs : List Loc) (ce sl : Nat) (rest : List Value) (x : Nat), lm[a]? = some (.val (.ref x)) → W p l e R s m args below meth c H locs ce sl Q (F0 m pc' lm (.ref x :: rest)) → W p l e R s m args below meth c H locs ce sl Q (F0 m pc lm rest))
    (h : lp_xAl a nx ls stk st = some r) : lp_Wt p l e R s m args below meth c Q base K0 mo D dA sv L0 xs pc ls stk st := by
  intro lm H locs I
  unfold lp_xAl at h
  split at h
  · next v hv =>
    have h1 := I.1.2.2 a (by rw [hv]; rfl)
    rw [hv] at h1
    exact row lm H locs _ _ _ (base + v) h1 (hnx _ _ _ h lm H locs I)
  · next v hv =>
    split at h
    · next hk =>
      have h1 := I.1.2.2 a (by rw [hv]; rfl)
      rw [hv] at h1
      obtain ⟨x, hx⟩ := X.2.2.2.2.2.1.ref hk
      have h1 : lm[a]? = some (.val (sv v)) := h1
      rw [hx] at h1
      have h2 := hnx _ _ _ h lm H locs I
      have e : (Value.retAddr v :: stk).map (lp_rl base sv) = .ref x :: stk.map (lp_rl base sv) := by
        show sv v :: _ = _
        rw [hx]
      rw [e] at h2
      exact row lm H locs _ _ _ x h1 h2
    · cases h
  · cases h
theorem lpW_Is (X : lp_Cx p R s m args meth c base K0 mo D dA sv b0 L0 xs r) (hnx : ∀ ls stk st, nx ls stk st = some r → lp_Wt p l e R s m args below meth c Q base K0 mo D dA sv L0 xs pc' ls stk st) (row : ∀ (lm : Array Slot) (H : Heap) (locs : List Loc) (ce sl : Nat) (rest : List Value) (x : Int32) (lv lv' : List (Nat × Value)), lv_has lm (lp_mx mo) lv → (a, Value.int x) :: lv.filter (fun q => !(q.1 == a) && !(q.1 + 1 == a && q.2.category == 2)) = lv' → (∀ lm' : Array Slot, lv_has lm' (lp_mx mo) lv' → W p l e R s m args below meth c H locs ce sl Q (F0 m pc' lm' rest)) → W p l e R s m args below meth c H locs ce sl Q (F0 m pc lm (.int x :: rest)))
    (h : lp_xIs a nx ls stk st = some r) : lp_Wt p l e R s m args below meth c Q base K0 mo D dA sv L0 xs pc ls stk st := by
  intro lm H locs I
  unfold lp_xIs at h
  split at h
  · next v rr =>
    refine row lm H locs _ _ (rr.map (lp_rl base sv)) v _ _ I.1.has rfl (fun lm' h' => ?_)
    exact hnx _ _ _ h lm' H locs ⟨I.1.set (v := .int v) X.2.2.2.2.2.1.2.2.1 h', I.2⟩
  · cases h
theorem lpW_As (X : lp_Cx p R s m args meth c base K0 mo D dA sv b0 L0 xs r) (hnx : ∀ ls stk st, nx ls stk st = some r → lp_Wt p l e R s m args below meth c Q base K0 mo D dA sv L0 xs pc' ls stk st) (row : ∀ (lm : Array Slot) (H : Heap) (locs : List Loc) (ce sl : Nat) (rest : List Value) (x : Nat) (lv lv' : List (Nat × Value)), lv_has lm (lp_mx mo) lv → (a, Value.ref x) :: lv.filter (fun q => !(q.1 == a) && !(q.1 + 1 == a && q.2.category == 2)) = lv' → (∀ lm' : Array Slot, lv_has lm' (lp_mx mo) lv' → W p l e R s m args below meth c H locs ce sl Q (F0 m pc' lm' rest)) → W p l e R s m args below meth c H locs ce sl Q (F0 m pc lm (.ref x :: rest)))
    (h : lp_xAs a nx ls stk st = some r) : lp_Wt p l e R s m args below meth c Q base K0 mo D dA sv L0 xs pc ls stk st := by
  intro lm H locs I
  unfold lp_xAs at h
  split at h
  · next v rr =>
    refine row lm H locs _ _ (rr.map (lp_rl base sv)) (base + v) _ _ I.1.has rfl (fun lm' h' => ?_)
    exact hnx _ _ _ h lm' H locs ⟨I.1.set (v := .ref v) X.2.2.2.2.2.1.2.2.1 h', I.2⟩
  · cases h
theorem lpW_Inc (X : lp_Cx p R s m args meth c base K0 mo D dA sv b0 L0 xs r) (ha : a < lp_mx mo) (hnx : ∀ ls stk st, nx ls stk st = some r → lp_Wt p l e R s m args below meth c Q base K0 mo D dA sv L0 xs pc' ls stk st) (row : ∀ (lm : Array Slot) (H : Heap) (locs : List Loc) (ce sl : Nat) (rest : List Value) (x : Int32) (k : Nat) (lv lv' : List (Nat × Value)), lv_has lm (lp_mx mo) lv → lv[k]? = some (a, .int x) → (a, Value.int (x + cv)) :: lv.filter (fun q => !(q.1 == a) && !(q.1 + 1 == a && q.2.category == 2)) = lv' → (∀ lm' : Array Slot, lv_has lm' (lp_mx mo) lv' → W p l e R s m args below meth c H locs ce sl Q (F0 m pc' lm' rest)) → W p l e R s m args below meth c H locs ce sl Q (F0 m pc lm rest))
    (h : lp_xInc a cv nx ls stk st = some r) : lp_Wt p l e R s m args below meth c Q base K0 mo D dA sv L0 xs pc ls stk st := by
  intro lm H locs I
  unfold lp_xInc at h
  split at h
  · next v hv =>
    have hm : (a, Value.int v) ∈ lp_lv base sv (lp_mx mo) ls := lp_lv_mem.mpr ⟨ha, by show lp_good (lp_nth ls a) = true; rw [hv]; rfl, by show _ = lp_rl base sv (lp_nth ls a); rw [hv]; rfl⟩
    obtain ⟨k, hk⟩ := List.getElem?_of_mem hm
    refine row lm H locs _ _ (stk.map (lp_rl base sv)) v k _ _ I.1.has hk rfl (fun lm' h' => ?_)
    exact hnx _ _ _ h lm' H locs ⟨I.1.set (v := .int (v + cv)) X.2.2.2.2.2.1.2.2.1 h', I.2⟩
  · cases h
theorem lpW_1 {f : Int32 → Int32} (hnx : ∀ ls stk st, nx ls stk st = some r → lp_Wt p l e R s m args below meth c Q base K0 mo D dA sv L0 xs pc' ls stk st) (row : ∀ (lm : Array Slot) (H : Heap) (locs : List Loc) (ce sl : Nat) (rest : List Value) (x : Int32), W p l e R s m args below meth c H locs ce sl Q (F0 m pc' lm (.int (f x) :: rest)) → W p l e R s m args below meth c H locs ce sl Q (F0 m pc lm (.int x :: rest)))
    (h : lp_x1 f nx ls stk st = some r) : lp_Wt p l e R s m args below meth c Q base K0 mo D dA sv L0 xs pc ls stk st := by
  intro lm H locs I
  unfold lp_x1 at h
  split at h
  · next x rr => exact row lm H locs _ _ (rr.map (lp_rl base sv)) x (hnx _ _ _ h lm H locs I)
  · cases h
theorem lpW_2 {f : Int32 → Int32 → Int32} (hnx : ∀ ls stk st, nx ls stk st = some r → lp_Wt p l e R s m args below meth c Q base K0 mo D dA sv L0 xs pc' ls stk st) (row : ∀ (lm : Array Slot) (H : Heap) (locs : List Loc) (ce sl : Nat) (rest : List Value) (x y : Int32), W p l e R s m args below meth c H locs ce sl Q (F0 m pc' lm (.int (f x y) :: rest)) → W p l e R s m args below meth c H locs ce sl Q (F0 m pc lm (.int y :: .int x :: rest)))
    (h : lp_x2 f nx ls stk st = some r) : lp_Wt p l e R s m args below meth c Q base K0 mo D dA sv L0 xs pc ls stk st := by
  intro lm H locs I
  unfold lp_x2 at h
  split at h
  · next y x rr => exact row lm H locs _ _ (rr.map (lp_rl base sv)) x y (hnx _ _ _ h lm H locs I)
  · cases h
theorem lpW_2d {f : Int32 → Int32 → Int32} (hnx : ∀ ls stk st, nx ls stk st = some r → lp_Wt p l e R s m args below meth c Q base K0 mo D dA sv L0 xs pc' ls stk st) (row : ∀ (lm : Array Slot) (H : Heap) (locs : List Loc) (ce sl : Nat) (rest : List Value) (x y : Int32), ¬ y = 0 → W p l e R s m args below meth c H locs ce sl Q (F0 m pc' lm (.int (f x y) :: rest)) → W p l e R s m args below meth c H locs ce sl Q (F0 m pc lm (.int y :: .int x :: rest)))
    (h : lp_x2d f nx ls stk st = some r) : lp_Wt p l e R s m args below meth c Q base K0 mo D dA sv L0 xs pc ls stk st := by
  intro lm H locs I
  unfold lp_x2d at h
  split at h
  · next y x rr =>
    split at h
    · cases h
    · next hy => exact row lm H locs _ _ (rr.map (lp_rl base sv)) x y hy (hnx _ _ _ h lm H locs I)
  · cases h
theorem lpW_Dup (hnx : ∀ ls stk st, nx ls stk st = some r → lp_Wt p l e R s m args below meth c Q base K0 mo D dA sv L0 xs pc' ls stk st) (row : ∀ (lm : Array Slot) (H : Heap) (locs : List Loc) (ce sl : Nat) (rest : List Value) (v : Value), v.category = 1 → W p l e R s m args below meth c H locs ce sl Q (F0 m pc' lm (v :: v :: rest)) → W p l e R s m args below meth c H locs ce sl Q (F0 m pc lm (v :: rest)))
    (h : lp_xDup nx ls stk st = some r) : lp_Wt p l e R s m args below meth c Q base K0 mo D dA sv L0 xs pc ls stk st := by
  intro lm H locs I
  unfold lp_xDup at h
  split at h
  · next x rr => exact row lm H locs _ _ (rr.map (lp_rl base sv)) (.int x) rfl (hnx _ _ _ h lm H locs I)
  · next x rr => exact row lm H locs _ _ (rr.map (lp_rl base sv)) (.ref (base + x)) rfl (hnx _ _ _ h lm H locs I)
  · cases h
theorem lpW_Dup2 (hnx : ∀ ls stk st, nx ls stk st = some r → lp_Wt p l e R s m args below meth c Q base K0 mo D dA sv L0 xs pc' ls stk st) (row : ∀ (lm : Array Slot) (H : Heap) (locs : List Loc) (ce sl : Nat) (rest : List Value) (v u : Value), v.category = 1 → u.category = 1 → W p l e R s m args below meth c H locs ce sl Q (F0 m pc' lm (v :: u :: v :: u :: rest)) → W p l e R s m args below meth c H locs ce sl Q (F0 m pc lm (v :: u :: rest)))
    (h : lp_xDup2 nx ls stk st = some r) : lp_Wt p l e R s m args below meth c Q base K0 mo D dA sv L0 xs pc ls stk st := by
  intro lm H locs I
  unfold lp_xDup2 at h
  split at h
  · next x y rr => exact row lm H locs _ _ (rr.map (lp_rl base sv)) (.int x) (.ref (base + y)) rfl rfl (hnx _ _ _ h lm H locs I)
  · cases h
theorem lpW_Pop (hnx : ∀ ls stk st, nx ls stk st = some r → lp_Wt p l e R s m args below meth c Q base K0 mo D dA sv L0 xs pc' ls stk st) (row : ∀ (lm : Array Slot) (H : Heap) (locs : List Loc) (ce sl : Nat) (rest : List Value) (v : Value), v.category = 1 → W p l e R s m args below meth c H locs ce sl Q (F0 m pc' lm rest) → W p l e R s m args below meth c H locs ce sl Q (F0 m pc lm (v :: rest)))
    (h : lp_xPop nx ls stk st = some r) : lp_Wt p l e R s m args below meth c Q base K0 mo D dA sv L0 xs pc ls stk st := by
  intro lm H locs I
  unfold lp_xPop at h
  split at h
  · next x rr => exact row lm H locs _ _ (rr.map (lp_rl base sv)) (.int x) rfl (hnx _ _ _ h lm H locs I)
  · cases h
theorem lpW_Goto (X : lp_Cx p R s m args meth c base K0 mo D dA sv b0 L0 xs r) {off : Int} (hd : decode (lp_b mo) pc = .ok (.goto off, 3)) (ht : (pc : Int) + off = (a : Int)) (hjp : ∀ z ls stk st, jp z ls stk st = some r → lp_Wt p l e R s m args below meth c Q base K0 mo D dA sv L0 xs z ls stk st)
    (h : jp a ls stk st = some r) : lp_Wt p l e R s m args below meth c Q base K0 mo D dA sv L0 xs pc ls stk st := by
  exact fun lm H locs I => lv_goto X.1 X.2.1 hd ht (hjp _ _ _ _ h lm H locs I)
theorem lpW_If (X : lp_Cx p R s m args meth c base K0 mo D dA sv b0 L0 xs r) {off : Int} {cd : Jvm.ClassFile.Cond} (hd : decode (lp_b mo) pc = .ok (.ifCond cd off, 3)) (ht : (pc : Int) + off = (a : Int)) (hnx : ∀ ls stk st, nx ls stk st = some r → lp_Wt p l e R s m args below meth c Q base K0 mo D dA sv L0 xs (pc + 3) ls stk st) (hjp : ∀ z ls stk st, jp z ls stk st = some r → lp_Wt p l e R s m args below meth c Q base K0 mo D dA sv L0 xs z ls stk st)
    (h : lp_xIf cd a nx jp ls stk st = some r) : lp_Wt p l e R s m args below meth c Q base K0 mo D dA sv L0 xs pc ls stk st := by
  intro lm H locs I
  unfold lp_xIf at h
  split at h
  · next x rr =>
    cases cd <;> simp only at h
    · exact lv_if_eq X.1 X.2.1 hd ht (fun q => by rw [if_pos q] at h; exact hjp _ _ _ _ h lm H locs I) (fun q => by rw [if_neg q] at h; exact hnx _ _ _ h lm H locs I)
    · exact lv_if_ne X.1 X.2.1 hd ht (fun q => by rw [if_neg q] at h; exact hjp _ _ _ _ h lm H locs I) (fun q => by rw [if_pos q] at h; exact hnx _ _ _ h lm H locs I)
    · exact lv_if_lt X.1 X.2.1 hd ht (fun q => by rw [if_pos q] at h; exact hjp _ _ _ _ h lm H locs I) (fun q => by rw [if_neg q] at h; exact hnx _ _ _ h lm H locs I)
    · exact lv_if_ge X.1 X.2.1 hd ht (fun q => by rw [if_pos q] at h; exact hjp _ _ _ _ h lm H locs I) (fun q => by rw [if_neg q] at h; exact hnx _ _ _ h lm H locs I)
    · exact lv_if_gt X.1 X.2.1 hd ht (fun q => by rw [if_pos q] at h; exact hjp _ _ _ _ h lm H locs I) (fun q => by rw [if_neg q] at h; exact hnx _ _ _ h lm H locs I)
    · exact lv_if_le X.1 X.2.1 hd ht (fun q => by rw [if_pos q] at h; exact hjp _ _ _ _ h lm H locs I) (fun q => by rw [if_neg q] at h; exact hnx _ _ _ h lm H locs I)
  · cases h
theorem lpW_Cmp (X : lp_Cx p R s m args meth c base K0 mo D dA sv b0 L0 xs r) {off : Int} {cd : Jvm.ClassFile.Cond} (hd : decode (lp_b mo) pc = .ok (.if_icmp cd off, 3)) (ht : (pc : Int) + off = (a : Int)) (hnx : ∀ ls stk st, nx ls stk st = some r → lp_Wt p l e R s m args below meth c Q base K0 mo D dA sv L0 xs (pc + 3) ls stk st) (hjp : ∀ z ls stk st, jp z ls stk st = some r → lp_Wt p l e R s m args below meth c Q base K0 mo D dA sv L0 xs z ls stk st)
    (h : lp_xCmp cd a nx jp ls stk st = some r) : lp_Wt p l e R s m args below meth c Q base K0 mo D dA sv L0 xs pc ls stk st := by
  intro lm H locs I
  unfold lp_xCmp at h
  split at h
  · next y x rr =>
    cases cd <;> simp only at h
    · exact lv_icmp_eq X.1 X.2.1 hd ht (fun q => by rw [if_pos q] at h; exact hjp _ _ _ _ h lm H locs I) (fun q => by rw [if_neg q] at h; exact hnx _ _ _ h lm H locs I)
    · exact lv_icmp_ne X.1 X.2.1 hd ht (fun q => by rw [if_neg q] at h; exact hjp _ _ _ _ h lm H locs I) (fun q => by rw [if_pos q] at h; exact hnx _ _ _ h lm H locs I)
    · exact lv_icmp_lt X.1 X.2.1 hd ht (fun q => by rw [if_pos q] at h; exact hjp _ _ _ _ h lm H locs I) (fun q => by rw [if_neg q] at h; exact hnx _ _ _ h lm H locs I)
    · exact lv_icmp_ge X.1 X.2.1 hd ht (fun q => by rw [if_pos q] at h; exact hjp _ _ _ _ h lm H locs I) (fun q => by rw [if_neg q] at h; exact hnx _ _ _ h lm H locs I)
    · exact lv_icmp_gt X.1 X.2.1 hd ht (fun q => by rw [if_pos q] at h; exact hjp _ _ _ _ h lm H locs I) (fun q => by rw [if_neg q] at h; exact hnx _ _ _ h lm H locs I)
    · exact lv_icmp_le X.1 X.2.1 hd ht (fun q => by rw [if_pos q] at h; exact hjp _ _ _ _ h lm H locs I) (fun q => by rw [if_neg q] at h; exact hnx _ _ _ h lm H locs I)
  · cases h
theorem lpW_Sw (X : lp_Cx p R s m args meth c base K0 mo D dA sv b0 L0 xs r) {df lo hi : Int} {offs : Array Int} {len : Nat} {t : List Nat} (hd : decode (lp_b mo) pc = .ok (.tableswitch df lo hi offs, len)) (h1 : (pc : Int) + df = (a : Int)) (h2 : lo = 0) (h3 : hi + 1 = (b : Int)) (h4 : ∀ j, j < b → (offs[j]?).map (fun o => (pc : Int) + o) = some ((t.getD j 0 : Nat) : Int)) (hjp : ∀ z ls stk st, jp z ls stk st = some r → lp_Wt p l e R s m args below meth c Q base K0 mo D dA sv L0 xs z ls stk st)
    (h : lp_xSw a b t jp ls stk st = some r) : lp_Wt p l e R s m args below meth c Q base K0 mo D dA sv L0 xs pc ls stk st := by
  intro lm H locs I
  unfold lp_xSw at h
  split at h
  · next x rr =>
    have hx : ¬ x < 0 → x.toInt = (x.toNatClampNeg : Int) := by
      intro hz
      have hz0 : (0 : Int) ≤ x.toInt := by
        have := Int32.not_lt.mp hz
        simpa using Int32.le_iff_toInt_le.mp this
      show x.toInt = ((x.toInt.toNat : Nat) : Int)
      omega
    split at h
    · next ho =>
      refine lv_tableOut X.1 X.2.1 hd ?_ h1 (hjp _ _ _ _ h lm H locs I)
      rcases ho with ho | ho
      · left
        rw [h2]
        simpa using Int32.lt_iff_toInt_lt.mp ho
      · by_cases hz : x < 0
        · left
          rw [h2]
          simpa using Int32.lt_iff_toInt_lt.mp hz
        · right
          have := hx hz
          omega
    · next ho =>
      have ho1 : ¬ x < 0 := fun q => ho (Or.inl q)
      have ho2 : x.toNatClampNeg < b := Nat.not_le.mp fun q => ho (Or.inr q)
      have e := hx ho1
      have h5 := h4 _ ho2
      cases hq : offs[x.toNatClampNeg]? with
      | none => rw [hq] at h5; cases h5
      | some off =>
        rw [hq] at h5
        refine lv_tableIn X.1 X.2.1 hd (by omega) (by omega) (off := off) ?_ (Option.some.inj h5) (hjp _ _ _ _ h lm H locs I)
        rw [h2, Int.sub_zero, e]
        exact hq
  · cases h
theorem lpW_GI (X : lp_Cx p R s m args meth c base K0 mo D dA sv b0 L0 xs r) (hd : decode (lp_b mo) pc = .ok (.getfield idx, 3)) (ha : a < 11) (hb : b < lp_nf a) (hw : lp_wd q = some (.fieldLink (lp_cn (lp_ow mo)) idx (lp_cn a) (lp_T a b).2.1 (lp_T a b).2.2.1)) (hr : lp_isR a b = false) (hnx : ∀ ls stk st, nx ls stk st = some r → lp_Wt p l e R s m args below meth c Q base K0 mo D dA sv L0 xs (pc + 3) ls stk st)
    (h : lp_xGI a b nx ls stk st = some r) : lp_Wt p l e R s m args below meth c Q base K0 mo D dA sv L0 xs pc ls stk st := by
  intro lm H locs I
  unfold lp_xGI at h
  split at h
  · next k rr =>
    split at h
    · next hk =>
      refine va_get X.1 X.2.1 X.2.2.2.2.1 (lp_hing a ha) X.2.2.2.1 X.2.2.2.2.2.1.1 I.2.2.1 k (fs := lp_fs base a st k) (by rw [lp_ws_get hk.2, lp_elO hk.1 ha]) (lp_hcl a ha) b hb (X.2.2.2.2.1 _ (lp_gt_in hw rfl)) (fun x hx => by rw [lp_hdc a ha b hb] at hx; exact hx) (v := .int (st.2.2 k b)) (by rw [lp_fs_get hb, hr]; rfl) hd ?_
      exact hnx ls (.int (st.2.2 k b) :: rr) st h lm H locs I
    · cases h
  · cases h
theorem lpW_GR (X : lp_Cx p R s m args meth c base K0 mo D dA sv b0 L0 xs r) (hd : decode (lp_b mo) pc = .ok (.getfield idx, 3)) (ha : a < 11) (hb : b < lp_nf a) (hw : lp_wd q = some (.fieldLink (lp_cn (lp_ow mo)) idx (lp_cn a) (lp_T a b).2.1 (lp_T a b).2.2.1)) (hr : lp_isR a b = true) (hnx : ∀ ls stk st, nx ls stk st = some r → lp_Wt p l e R s m args below meth c Q base K0 mo D dA sv L0 xs (pc + 3) ls stk st)
    (h : lp_xGR a b nx ls stk st = some r) : lp_Wt p l e R s m args below meth c Q base K0 mo D dA sv L0 xs pc ls stk st := by
  intro lm H locs I
  unfold lp_xGR at h
  split at h
  · next k rr =>
    split at h
    · next hk =>
      unfold lp_pR at h
      split at h
      · next n hv =>
        refine va_get X.1 X.2.1 X.2.2.2.2.1 (lp_hing a ha) X.2.2.2.1 X.2.2.2.2.2.1.1 I.2.2.1 k (fs := lp_fs base a st k) (by rw [lp_ws_get hk.2, lp_elO hk.1 ha]) (lp_hcl a ha) b hb (X.2.2.2.2.1 _ (lp_gt_in hw rfl)) (fun x hx => by rw [lp_hdc a ha b hb] at hx; exact hx) (v := .ref (base + n)) (by rw [lp_fs_get hb, hr, hv]; rfl) hd ?_
        exact hnx ls (.ref n :: rr) st h lm H locs I
      · cases h
    · cases h
  · cases h
theorem lpW_GV (X : lp_Cx p R s m args meth c base K0 mo D dA sv b0 L0 xs r) (hd : decode (lp_b mo) pc = .ok (.getfield idx, 3)) (hw : lp_wd q = some (.fieldLink (lp_cn (lp_ow mo)) idx "java/lang/String" "value" "[B")) (hnx : ∀ ls stk st, nx ls stk st = some r → lp_Wt p l e R s m args below meth c Q base K0 mo D dA sv L0 xs (pc + 3) ls stk st)
    (h : lp_xGV nx ls stk st = some r) : lp_Wt p l e R s m args below meth c Q base K0 mo D dA sv L0 xs pc ls stk st := by
  intro lm H locs I
  unfold lp_xGV at h
  split at h
  · next k rr =>
    split at h
    · next hk =>
      obtain ⟨adK, adV, hS, hv⟩ := X.2.2.2.2.2.1.2.2.2.1
      have h2 := hnx _ _ _ h lm H locs I
      have e1 : (Value.retAddr k :: rr).map (lp_rl base sv) = .ref (adK k) :: rr.map (lp_rl base sv) := by
        show sv k :: _ = _
        rw [(hv k hk).1]
      have e2 : (Value.retAddr (100 + k) :: rr).map (lp_rl base sv) = .ref (adV k) :: rr.map (lp_rl base sv) := by
        show sv (100 + k) :: _ = _
        rw [(hv k hk).2.1]
      rw [e2] at h2
      rw [e1]
      exact vk_getf X.1 X.2.1 (hS.1 k hk).2.2.1 I.2.2.2.1 X.2.2.2.1 (X.2.2.2.2.1 _ (lp_gt_in hw rfl)) (fun x hx => hx) hd h2
    · cases h
  · cases h
theorem lpW_GC (X : lp_Cx p R s m args meth c base K0 mo D dA sv b0 L0 xs r) (hd : decode (lp_b mo) pc = .ok (.getfield idx, 3)) (hw : lp_wd q = some (.fieldLink (lp_cn (lp_ow mo)) idx "java/lang/String" "coder" "B")) (hnx : ∀ ls stk st, nx ls stk st = some r → lp_Wt p l e R s m args below meth c Q base K0 mo D dA sv L0 xs (pc + 3) ls stk st)
    (h : lp_xGC nx ls stk st = some r) : lp_Wt p l e R s m args below meth c Q base K0 mo D dA sv L0 xs pc ls stk st := by
  intro lm H locs I
  unfold lp_xGC at h
  split at h
  · next k rr =>
    split at h
    · next hk =>
      obtain ⟨adK, adV, hS, hv⟩ := X.2.2.2.2.2.1.2.2.2.1
      have h2 := hnx _ _ _ h lm H locs I
      have e1 : (Value.retAddr k :: rr).map (lp_rl base sv) = .ref (adK k) :: rr.map (lp_rl base sv) := by
        show sv k :: _ = _
        rw [(hv k hk).1]
      rw [e1]
      exact vk_getf X.1 X.2.1 (hS.1 k hk).2.1 I.2.2.2.1 X.2.2.2.1 (X.2.2.2.2.1 _ (lp_gt_in hw rfl)) (fun x hx => hx) hd h2
    · cases h
  · cases h
theorem lpW_PI (X : lp_Cx p R s m args meth c base K0 mo D dA sv b0 L0 xs r) (hd : decode (lp_b mo) pc = .ok (.putfield idx, 3)) (ha : a < 11) (hb : b < lp_nf a) (hw : lp_wd q = some (.fieldLink (lp_cn (lp_ow mo)) idx (lp_cn a) (lp_T a b).2.1 (lp_T a b).2.2.1)) (hf : (lp_T a b).2.2.2 = true → (lp_nd mo).1 = "<init>" ∧ lp_ow mo = a) (hr : lp_isR a b = false) (ht : lp_ty a b = .int) (hnx : ∀ ls stk st, nx ls stk st = some r → lp_Wt p l e R s m args below meth c Q base K0 mo D dA sv L0 xs (pc + 3) ls stk st)
    (h : lp_xPI a b nx ls stk st = some r) : lp_Wt p l e R s m args below meth c Q base K0 mo D dA sv L0 xs pc ls stk st := by
  intro lm H locs I
  unfold lp_xPI at h
  split at h
  · next v k rr =>
    split at h
    · next hk =>
      skip
      have kk : ∀ (H1 : Heap) (locs1 : List Loc), va_P D lp_cl ((lp_ws base dA st).set k (base + k, .inr (a, (lp_fs base a st k).set b (.int v)))) H1 → va_D (lp_A base) ((lp_ws base dA st).set k (base + k, .inr (a, (lp_fs base a st k).set b (.int v)))) → va_S (lp_A base) s.heap H1 locs1 → W p l e R s m args below meth c H1 locs1 (st.1 - K0) (lp_sl st.1 - lp_sl K0) Q (F0 m (pc + 3) lm (rr.map (lp_rl base sv))) := by
        intro H1 locs1 hP1 hD1 hS1
        have e1 : (lp_ws base dA st).set k (base + k, .inr (a, (lp_fs base a st k).set b (.int v))) = lp_ws base dA (st.1, st.2.1, lp_w st.2.2 k b v) := by
          rw [lp_fs_setI hb hr, ← lp_elO (base := base) (dA := dA) (st := (st.1, st.2.1, lp_w st.2.2 k b v)) hk.1 ha]
          exact lp_ws_set (st' := (st.1, st.2.1, lp_w st.2.2 k b v)) hk.2 rfl (fun q hq => lp_el_w hq)
        rw [e1] at hP1
        exact hnx ls rr (st.1, st.2.1, lp_w st.2.2 k b v) h lm H1 locs1 ⟨I.1, trivial, hP1, hS1, lp_Scr_w I.2.2.2.2.1 hk.2 _, I.2.2.2.2.2⟩
      by_cases hfin : (lp_T a b).2.2.2 = true
      · exact va_putF X.1 X.2.1 X.2.2.2.2.1 (lp_hing a ha) (lp_ty a) (lp_hty a ha) (lp_hnm a ha) X.2.2.2.1 X.2.2.2.2.2.1.1 I.2.2.1 lp_ws_D I.2.2.2.1 k (fs := lp_fs base a st k) (by rw [lp_ws_get hk.2, lp_elO hk.1 ha]) (lp_hcl a ha) b hb (X.2.2.2.2.1 _ (lp_gt_in hw rfl)) (fun x hx => by rw [lp_hdc a ha b hb] at hx; exact hx) hfin (X.2.2.2.2.2.2.1 (hf hfin).1) ((lp_hdc a ha b hb).trans (by rw [(hf hfin).2])) (lp_hty a ha b hb) (by rw [ht]; rfl) (by rw [ht]; rfl) (by rw [lp_fs_len]; exact hb) hd kk
      · exact va_put X.1 X.2.1 X.2.2.2.2.1 (lp_hing a ha) (lp_ty a) (lp_hty a ha) (lp_hnm a ha) X.2.2.2.1 X.2.2.2.2.2.1.1 I.2.2.1 lp_ws_D I.2.2.2.1 k (fs := lp_fs base a st k) (by rw [lp_ws_get hk.2, lp_elO hk.1 ha]) (lp_hcl a ha) b hb (X.2.2.2.2.1 _ (lp_gt_in hw rfl)) (fun x hx => by rw [lp_hdc a ha b hb] at hx; exact hx) (by simpa using hfin) (lp_hty a ha b hb) (by rw [ht]; rfl) (by rw [ht]; rfl) (by rw [lp_fs_len]; exact hb) hd kk
    · cases h
  · cases h
theorem lpW_PR (X : lp_Cx p R s m args meth c base K0 mo D dA sv b0 L0 xs r) (hd : decode (lp_b mo) pc = .ok (.putfield idx, 3)) (ha : a < 11) (hb : b < lp_nf a) (hw : lp_wd q = some (.fieldLink (lp_cn (lp_ow mo)) idx (lp_cn a) (lp_T a b).2.1 (lp_T a b).2.2.1)) (hf : (lp_T a b).2.2.2 = true → (lp_nd mo).1 = "<init>" ∧ lp_ow mo = a) (hr : lp_isR a b = true) (hnx : ∀ ls stk st, nx ls stk st = some r → lp_Wt p l e R s m args below meth c Q base K0 mo D dA sv L0 xs (pc + 3) ls stk st)
    (h : lp_xPR a b nx ls stk st = some r) : lp_Wt p l e R s m args below meth c Q base K0 mo D dA sv L0 xs pc ls stk st := by
  intro lm H locs I
  unfold lp_xPR at h
  split at h
  · next v k rr =>
    split at h
    · next hk =>
      skip
      have kk : ∀ (H1 : Heap) (locs1 : List Loc), va_P D lp_cl ((lp_ws base dA st).set k (base + k, .inr (a, (lp_fs base a st k).set b (.ref (base + v))))) H1 → va_D (lp_A base) ((lp_ws base dA st).set k (base + k, .inr (a, (lp_fs base a st k).set b (.ref (base + v))))) → va_S (lp_A base) s.heap H1 locs1 → W p l e R s m args below meth c H1 locs1 (st.1 - K0) (lp_sl st.1 - lp_sl K0) Q (F0 m (pc + 3) lm (rr.map (lp_rl base sv))) := by
        intro H1 locs1 hP1 hD1 hS1
        have e1 : (lp_ws base dA st).set k (base + k, .inr (a, (lp_fs base a st k).set b (.ref (base + v)))) = lp_ws base dA (st.1, lp_wR st.2.1 k b (.ref v), st.2.2) := by
          rw [lp_fs_setR hb hr, ← lp_elO (base := base) (dA := dA) (st := (st.1, lp_wR st.2.1 k b (.ref v), st.2.2)) hk.1 ha]
          exact lp_ws_set (st' := (st.1, lp_wR st.2.1 k b (.ref v), st.2.2)) hk.2 rfl (fun q hq => lp_el_wR hq)
        rw [e1] at hP1
        exact hnx ls rr (st.1, lp_wR st.2.1 k b (.ref v), st.2.2) h lm H1 locs1 ⟨I.1, trivial, hP1, hS1, I.2.2.2.2.1, I.2.2.2.2.2⟩
      by_cases hfin : (lp_T a b).2.2.2 = true
      · exact va_putF X.1 X.2.1 X.2.2.2.2.1 (lp_hing a ha) (lp_ty a) (lp_hty a ha) (lp_hnm a ha) X.2.2.2.1 X.2.2.2.2.2.1.1 I.2.2.1 lp_ws_D I.2.2.2.1 k (fs := lp_fs base a st k) (by rw [lp_ws_get hk.2, lp_elO hk.1 ha]) (lp_hcl a ha) b hb (X.2.2.2.2.1 _ (lp_gt_in hw rfl)) (fun x hx => by rw [lp_hdc a ha b hb] at hx; exact hx) hfin (X.2.2.2.2.2.2.1 (hf hfin).1) ((lp_hdc a ha b hb).trans (by rw [(hf hfin).2])) (lp_hty a ha b hb) (lp_refty a ha b hb hr _).1 (lp_refty a ha b hb hr _).2 (by rw [lp_fs_len]; exact hb) hd kk
      · exact va_put X.1 X.2.1 X.2.2.2.2.1 (lp_hing a ha) (lp_ty a) (lp_hty a ha) (lp_hnm a ha) X.2.2.2.1 X.2.2.2.2.2.1.1 I.2.2.1 lp_ws_D I.2.2.2.1 k (fs := lp_fs base a st k) (by rw [lp_ws_get hk.2, lp_elO hk.1 ha]) (lp_hcl a ha) b hb (X.2.2.2.2.1 _ (lp_gt_in hw rfl)) (fun x hx => by rw [lp_hdc a ha b hb] at hx; exact hx) (by simpa using hfin) (lp_hty a ha b hb) (lp_refty a ha b hb hr _).1 (lp_refty a ha b hb hr _).2 (by rw [lp_fs_len]; exact hb) hd kk
    · cases h
  · cases h
theorem lpW_PZ0 (X : lp_Cx p R s m args meth c base K0 mo D dA sv b0 L0 xs r) (hd : decode (lp_b mo) pc = .ok (.putfield idx, 3)) (ha : a < 11) (hb : b < lp_nf a) (hw : lp_wd q = some (.fieldLink (lp_cn (lp_ow mo)) idx (lp_cn a) (lp_T a b).2.1 (lp_T a b).2.2.1)) (hf : (lp_T a b).2.2.2 = true → (lp_nd mo).1 = "<init>" ∧ lp_ow mo = a) (hr : lp_isR a b = false) (ht : lp_ty a b = .boolean) (hv : ∀ v k rr, stk = .int v :: .ref k :: rr → v = 0 ∨ v = 1) (hnx : ∀ ls stk st, nx ls stk st = some r → lp_Wt p l e R s m args below meth c Q base K0 mo D dA sv L0 xs (pc + 3) ls stk st)
    (h : lp_xPI a b nx ls stk st = some r) : lp_Wt p l e R s m args below meth c Q base K0 mo D dA sv L0 xs pc ls stk st := by
  intro lm H locs I
  unfold lp_xPI at h
  split at h
  · next v k rr =>
    split at h
    · next hk =>
      have hv1 := hv _ _ _ rfl
      have kk : ∀ (H1 : Heap) (locs1 : List Loc), va_P D lp_cl ((lp_ws base dA st).set k (base + k, .inr (a, (lp_fs base a st k).set b (.int v)))) H1 → va_D (lp_A base) ((lp_ws base dA st).set k (base + k, .inr (a, (lp_fs base a st k).set b (.int v)))) → va_S (lp_A base) s.heap H1 locs1 → W p l e R s m args below meth c H1 locs1 (st.1 - K0) (lp_sl st.1 - lp_sl K0) Q (F0 m (pc + 3) lm (rr.map (lp_rl base sv))) := by
        intro H1 locs1 hP1 hD1 hS1
        have e1 : (lp_ws base dA st).set k (base + k, .inr (a, (lp_fs base a st k).set b (.int v))) = lp_ws base dA (st.1, st.2.1, lp_w st.2.2 k b v) := by
          rw [lp_fs_setI hb hr, ← lp_elO (base := base) (dA := dA) (st := (st.1, st.2.1, lp_w st.2.2 k b v)) hk.1 ha]
          exact lp_ws_set (st' := (st.1, st.2.1, lp_w st.2.2 k b v)) hk.2 rfl (fun q hq => lp_el_w hq)
        rw [e1] at hP1
        exact hnx ls rr (st.1, st.2.1, lp_w st.2.2 k b v) h lm H1 locs1 ⟨I.1, trivial, hP1, hS1, lp_Scr_w I.2.2.2.2.1 hk.2 _, I.2.2.2.2.2⟩
      by_cases hfin : (lp_T a b).2.2.2 = true
      · exact va_putF X.1 X.2.1 X.2.2.2.2.1 (lp_hing a ha) (lp_ty a) (lp_hty a ha) (lp_hnm a ha) X.2.2.2.1 X.2.2.2.2.2.1.1 I.2.2.1 lp_ws_D I.2.2.2.1 k (fs := lp_fs base a st k) (by rw [lp_ws_get hk.2, lp_elO hk.1 ha]) (lp_hcl a ha) b hb (X.2.2.2.2.1 _ (lp_gt_in hw rfl)) (fun x hx => by rw [lp_hdc a ha b hb] at hx; exact hx) hfin (X.2.2.2.2.2.2.1 (hf hfin).1) ((lp_hdc a ha b hb).trans (by rw [(hf hfin).2])) (lp_hty a ha b hb) (by rw [ht]; rcases hv1 with e | e <;> rw [e] <;> rfl) (by rw [ht]; rcases hv1 with e | e <;> rw [e] <;> rfl) (by rw [lp_fs_len]; exact hb) hd kk
      · exact va_put X.1 X.2.1 X.2.2.2.2.1 (lp_hing a ha) (lp_ty a) (lp_hty a ha) (lp_hnm a ha) X.2.2.2.1 X.2.2.2.2.2.1.1 I.2.2.1 lp_ws_D I.2.2.2.1 k (fs := lp_fs base a st k) (by rw [lp_ws_get hk.2, lp_elO hk.1 ha]) (lp_hcl a ha) b hb (X.2.2.2.2.1 _ (lp_gt_in hw rfl)) (fun x hx => by rw [lp_hdc a ha b hb] at hx; exact hx) (by simpa using hfin) (lp_hty a ha b hb) (by rw [ht]; rcases hv1 with e | e <;> rw [e] <;> rfl) (by rw [ht]; rcases hv1 with e | e <;> rw [e] <;> rfl) (by rw [lp_fs_len]; exact hb) hd kk
    · cases h
  · cases h
theorem lpW_PZ (X : lp_Cx p R s m args meth c base K0 mo D dA sv b0 L0 xs r) (hd : decode (lp_b mo) pc = .ok (.putfield idx, 3)) (ha : a < 11) (hb : b < lp_nf a) (hw : lp_wd q = some (.fieldLink (lp_cn (lp_ow mo)) idx (lp_cn a) (lp_T a b).2.1 (lp_T a b).2.2.1)) (hf : (lp_T a b).2.2.2 = true → (lp_nd mo).1 = "<init>" ∧ lp_ow mo = a) (hr : lp_isR a b = false) (ht : lp_ty a b = .boolean) (hnx : ∀ ls stk st, nx ls stk st = some r → lp_Wt p l e R s m args below meth c Q base K0 mo D dA sv L0 xs (pc + 3) ls stk st)
    (h : lp_xPZ a b nx ls stk st = some r) : lp_Wt p l e R s m args below meth c Q base K0 mo D dA sv L0 xs pc ls stk st := by
  unfold lp_xPZ at h
  split at h
  · next v k rr =>
    split at h
    · next hk =>
      split at h
      · next hv =>
        refine lpW_PZ0 X hd ha hb hw hf hr ht ?_ hnx (stk := .int v :: .ref k :: rr) ?_
        · intro v' k' rr' e
          cases e
          exact hv
        · show (if (lp_sh k).1 = a ∧ k < st.1 then nx ls rr (st.1, st.2.1, lp_w st.2.2 k b v) else none) = some r
          rw [if_pos hk]
          exact h
      · cases h
    · cases h
  · cases h
theorem lpW_Ial20 (X : lp_Cx p R s m args meth c base K0 mo D dA sv b0 L0 xs r) (hd : decode (lp_b mo) pc = .ok (.iaload, 1)) (hnx : ∀ ls stk st, nx ls stk st = some r → lp_Wt p l e R s m args below meth c Q base K0 mo D dA sv L0 xs (pc + 1) ls stk st)
    (h : lp_xIal 20 nx ls stk st = some r) : lp_Wt p l e R s m args below meth c Q base K0 mo D dA sv L0 xs pc ls stk st := by
  intro lm H locs I
  unfold lp_xIal at h
  split at h
  · next i k rr =>
    split at h
    · next hk =>
      split at h
      · cases h
      · next ho =>
        exact va_iald X.1 X.2.1 X.2.2.2.2.2.1.1 I.2.2.1 k 0 (by rw [lp_ws_get hk.2, lp_el20 hk.1]) rfl ho hd (hnx _ _ _ h lm H locs I)
    · cases h
  · cases h
theorem lpW_Ial21 (X : lp_Cx p R s m args meth c base K0 mo D dA sv b0 L0 xs r) (hd : decode (lp_b mo) pc = .ok (.baload, 1)) (hnx : ∀ ls stk st, nx ls stk st = some r → lp_Wt p l e R s m args below meth c Q base K0 mo D dA sv L0 xs (pc + 1) ls stk st)
    (h : lp_xIal 21 nx ls stk st = some r) : lp_Wt p l e R s m args below meth c Q base K0 mo D dA sv L0 xs pc ls stk st := by
  intro lm H locs I
  unfold lp_xIal at h
  split at h
  · next i k rr =>
    split at h
    · next hk =>
      split at h
      · cases h
      · next ho =>
        exact va_bald X.1 X.2.1 X.2.2.2.2.2.1.1 I.2.2.1 k 1 (by rw [lp_ws_get hk.2, lp_el21 hk.1]) rfl ho hd (hnx _ _ _ h lm H locs I)
    · cases h
  · cases h
theorem lpW_Ial22 (X : lp_Cx p R s m args meth c base K0 mo D dA sv b0 L0 xs r) (hd : decode (lp_b mo) pc = .ok (.baload, 1)) (hnx : ∀ ls stk st, nx ls stk st = some r → lp_Wt p l e R s m args below meth c Q base K0 mo D dA sv L0 xs (pc + 1) ls stk st)
    (h : lp_xIal 22 nx ls stk st = some r) : lp_Wt p l e R s m args below meth c Q base K0 mo D dA sv L0 xs pc ls stk st := by
  intro lm H locs I
  unfold lp_xIal at h
  split at h
  · next i k rr =>
    split at h
    · next hk =>
      split at h
      · cases h
      · next ho =>
        exact va_zald X.1 X.2.1 X.2.2.2.2.2.1.1 I.2.2.1 k 2 (by rw [lp_ws_get hk.2, lp_el22 hk.1]) rfl ho hd (hnx _ _ _ h lm H locs I)
    · cases h
  · cases h
theorem lpW_Ias20 (X : lp_Cx p R s m args meth c base K0 mo D dA sv b0 L0 xs r) (hd : decode (lp_b mo) pc = .ok (.iastore, 1)) (hnx : ∀ ls stk st, nx ls stk st = some r → lp_Wt p l e R s m args below meth c Q base K0 mo D dA sv L0 xs (pc + 1) ls stk st)
    (h : lp_xIas 20 (fun x => x) nx ls stk st = some r) : lp_Wt p l e R s m args below meth c Q base K0 mo D dA sv L0 xs pc ls stk st := by
  intro lm H locs I
  unfold lp_xIas at h
  split at h
  · next x i k rr =>
    split at h
    · next hk =>
      split at h
      · cases h
      · next ho =>
        refine va_iast X.1 X.2.1 X.2.2.2.2.2.1.1 I.2.2.1 lp_ws_D I.2.2.2.1 k 0 (by rw [lp_ws_get hk.2, lp_el20 hk.1]) rfl ho hd (fun H1 locs1 hP1 hD1 hS1 => ?_)
        have e1 : (lp_ws base dA st).set k (base + k, .inl (dA 0, (lp_sh k).2, .inl (upd (st.2.2 k) i.toNatClampNeg x))) = lp_ws base dA (st.1, st.2.1, lp_w st.2.2 k i.toNatClampNeg ((fun x => x) x)) := by
          have e2 : lp_el base dA (st.1, st.2.1, lp_w st.2.2 k i.toNatClampNeg ((fun x => x) x)) k = .inl (dA 0, (lp_sh k).2, .inl (upd (st.2.2 k) i.toNatClampNeg x)) := by
            rw [lp_el20 hk.1]
            exact congrArg (fun f => (Sum.inl (dA 0, (lp_sh k).2, Sum.inl f) : va_E)) (lp_u_eq _ _ _)
          rw [← e2]
          exact lp_ws_set (st' := (st.1, st.2.1, lp_w st.2.2 k i.toNatClampNeg ((fun x => x) x))) hk.2 rfl (fun q hq => lp_el_w hq)
        rw [e1] at hP1
        exact hnx ls rr _ h lm H1 locs1 ⟨I.1, trivial, hP1, hS1, lp_Scr_w I.2.2.2.2.1 hk.2 _, I.2.2.2.2.2⟩
    · cases h
  · cases h
theorem lpW_Ias21 (X : lp_Cx p R s m args meth c base K0 mo D dA sv b0 L0 xs r) (hd : decode (lp_b mo) pc = .ok (.bastore, 1)) (hnx : ∀ ls stk st, nx ls stk st = some r → lp_Wt p l e R s m args below meth c Q base K0 mo D dA sv L0 xs (pc + 1) ls stk st)
    (h : lp_xIas 21 (vp_nar .byte) nx ls stk st = some r) : lp_Wt p l e R s m args below meth c Q base K0 mo D dA sv L0 xs pc ls stk st := by
  intro lm H locs I
  unfold lp_xIas at h
  split at h
  · next x i k rr =>
    split at h
    · next hk =>
      split at h
      · cases h
      · next ho =>
        refine va_bast X.1 X.2.1 X.2.2.2.2.2.1.1 I.2.2.1 lp_ws_D I.2.2.2.1 k 1 (by rw [lp_ws_get hk.2, lp_el21 hk.1]) rfl ho hd (fun H1 locs1 hP1 hD1 hS1 => ?_)
        have e1 : (lp_ws base dA st).set k (base + k, .inl (dA 1, (lp_sh k).2, .inl (upd (st.2.2 k) i.toNatClampNeg ((vp_nar .byte) x)))) = lp_ws base dA (st.1, st.2.1, lp_w st.2.2 k i.toNatClampNeg ((vp_nar .byte) x)) := by
          have e2 : lp_el base dA (st.1, st.2.1, lp_w st.2.2 k i.toNatClampNeg ((vp_nar .byte) x)) k = .inl (dA 1, (lp_sh k).2, .inl (upd (st.2.2 k) i.toNatClampNeg ((vp_nar .byte) x))) := by
            rw [lp_el21 hk.1]
            exact congrArg (fun f => (Sum.inl (dA 1, (lp_sh k).2, Sum.inl f) : va_E)) (lp_u_eq _ _ _)
          rw [← e2]
          exact lp_ws_set (st' := (st.1, st.2.1, lp_w st.2.2 k i.toNatClampNeg ((vp_nar .byte) x))) hk.2 rfl (fun q hq => lp_el_w hq)
        rw [e1] at hP1
        exact hnx ls rr _ h lm H1 locs1 ⟨I.1, trivial, hP1, hS1, lp_Scr_w I.2.2.2.2.1 hk.2 _, I.2.2.2.2.2⟩
    · cases h
  · cases h
theorem lpW_Ias22 (X : lp_Cx p R s m args meth c base K0 mo D dA sv b0 L0 xs r) (hd : decode (lp_b mo) pc = .ok (.bastore, 1)) (hnx : ∀ ls stk st, nx ls stk st = some r → lp_Wt p l e R s m args below meth c Q base K0 mo D dA sv L0 xs (pc + 1) ls stk st)
    (h : lp_xIas 22 (vp_nar .boolean) nx ls stk st = some r) : lp_Wt p l e R s m args below meth c Q base K0 mo D dA sv L0 xs pc ls stk st := by
  intro lm H locs I
  unfold lp_xIas at h
  split at h
  · next x i k rr =>
    split at h
    · next hk =>
      split at h
      · cases h
      · next ho =>
        refine va_zast X.1 X.2.1 X.2.2.2.2.2.1.1 I.2.2.1 lp_ws_D I.2.2.2.1 k 2 (by rw [lp_ws_get hk.2, lp_el22 hk.1]) rfl ho hd (fun H1 locs1 hP1 hD1 hS1 => ?_)
        have e1 : (lp_ws base dA st).set k (base + k, .inl (dA 2, (lp_sh k).2, .inl (upd (st.2.2 k) i.toNatClampNeg ((vp_nar .boolean) x)))) = lp_ws base dA (st.1, st.2.1, lp_w st.2.2 k i.toNatClampNeg ((vp_nar .boolean) x)) := by
          have e2 : lp_el base dA (st.1, st.2.1, lp_w st.2.2 k i.toNatClampNeg ((vp_nar .boolean) x)) k = .inl (dA 2, (lp_sh k).2, .inl (upd (st.2.2 k) i.toNatClampNeg ((vp_nar .boolean) x))) := by
            rw [lp_el22 hk.1]
            exact congrArg (fun f => (Sum.inl (dA 2, (lp_sh k).2, Sum.inl f) : va_E)) (lp_u_eq _ _ _)
          rw [← e2]
          exact lp_ws_set (st' := (st.1, st.2.1, lp_w st.2.2 k i.toNatClampNeg ((vp_nar .boolean) x))) hk.2 rfl (fun q hq => lp_el_w hq)
        rw [e1] at hP1
        exact hnx ls rr _ h lm H1 locs1 ⟨I.1, trivial, hP1, hS1, lp_Scr_w I.2.2.2.2.1 hk.2 _, I.2.2.2.2.2⟩
    · cases h
  · cases h
theorem lpW_Aal23 (X : lp_Cx p R s m args meth c base K0 mo D dA sv b0 L0 xs r) (hd : decode (lp_b mo) pc = .ok (.aaload, 1)) (hnx : ∀ ls stk st, nx ls stk st = some r → lp_Wt p l e R s m args below meth c Q base K0 mo D dA sv L0 xs (pc + 1) ls stk st)
    (h : lp_xAal 23 nx ls stk st = some r) : lp_Wt p l e R s m args below meth c Q base K0 mo D dA sv L0 xs pc ls stk st := by
  intro lm H locs I
  unfold lp_xAal at h
  split at h
  · next i k rr =>
    split at h
    · next hk =>
      split at h
      · cases h
      · next ho =>
        unfold lp_pR at h
        split at h
        · next n hv =>
          have hlt : i.toNatClampNeg < (lp_sh k).2 := Nat.not_le.mp fun q => ho (Or.inr q)
          have hat := I.2.2.1 k _ (lp_ws_get hk.2)
          rw [lp_el23 hk.1] at hat
          have hat : H[base + k]? = some (vp_cell (dA 3) ((lp_sh k).2, .inr (.inr (.inr (.inr (fun j => lp_on base (st.2.1 k j))))))) := hat
          rw [vp_cell_q] at hat
          refine W.aald (v := .ref (base + n)) (ty := .array .int) X.1 X.2.1 hat ((X.2.2.2.2.2.1.1.2 3 _ rfl).1 _ _) rfl (fun q => by cases q) (by rw [arrV_size]; exact ho) (by rw [arrV_read _ _ hlt, hv]; rfl) rfl rfl hd ?_
          exact hnx ls (.ref n :: rr) st h lm H locs I
        · cases h
    · cases h
  · cases h
theorem lpW_Aal24 (X : lp_Cx p R s m args meth c base K0 mo D dA sv b0 L0 xs r) (hd : decode (lp_b mo) pc = .ok (.aaload, 1)) (hnx : ∀ ls stk st, nx ls stk st = some r → lp_Wt p l e R s m args below meth c Q base K0 mo D dA sv L0 xs (pc + 1) ls stk st)
    (h : lp_xAal 24 nx ls stk st = some r) : lp_Wt p l e R s m args below meth c Q base K0 mo D dA sv L0 xs pc ls stk st := by
  intro lm H locs I
  unfold lp_xAal at h
  split at h
  · next i k rr =>
    split at h
    · next hk =>
      split at h
      · cases h
      · next ho =>
        unfold lp_pR at h
        split at h
        · next n hv =>
          refine va_aldq X.1 X.2.1 X.2.2.2.2.2.1.1 I.2.2.1 k 4 (by rw [lp_ws_get hk.2, lp_el24 hk.1]) rfl ho hd ?_
          rw [hv]
          exact hnx ls (.ref n :: rr) st h lm H locs I
        · cases h
    · cases h
  · cases h
theorem lpW_Scr (X : lp_Cx p R s m args meth c base K0 mo D dA sv b0 L0 xs r) (hd : decode (lp_b mo) pc = .ok (.iaload, 1)) (hnx : ∀ ls stk st, nx ls stk st = some r → lp_Wt p l e R s m args below meth c Q base K0 mo D dA sv L0 xs (pc + 1) ls stk st)
    (h : lp_xScr nx ls stk st = some r) : lp_Wt p l e R s m args below meth c Q base K0 mo D dA sv L0 xs pc ls stk st := by
  intro lm H locs I
  unfold lp_xScr at h
  split at h
  · next i k rr =>
    split at h
    · next hk =>
      subst hk
      split at h
      · next hfl =>
       split at h
       · cases h
       · next ho =>
        obtain ⟨h8, h9, h10, h11⟩ := X.2.2.2.2.2.1.2.2.2.2.2.2.1
        have hb : b0 < s.heap.size := by
          obtain ⟨scr, hs, -⟩ := h11
          exact (Array.getElem?_eq_some_iff.mp hs).1
        have hL : (st.2.2 998 0).toNatClampNeg = L0 := by rw [(I.2.2.2.2.1.2 hfl).1]; exact Int32.toNatClampNeg_ofNat_of_lt h10
        rw [hL] at ho
        have hlt : i.toNatClampNeg < L0 := Nat.not_le.mp fun q => ho (Or.inr q)
        have h2 := hnx _ _ _ h lm H locs I
        rw [(I.2.2.2.2.1.2 hfl).2 _ hlt] at h2
        have e1 : (Value.int i :: Value.retAddr 300 :: rr).map (lp_rl base sv) = .int i :: .ref b0 :: rr.map (lp_rl base sv) := by
          show Value.int i :: sv 300 :: _ = _
          rw [h8]
        rw [e1]
        exact va_sld X.1 X.2.1 h11 hb (Nat.not_le.mpr h9) I.2.2.2.1 ho hd h2
      · cases h
    · cases h
  · cases h
theorem lpW_Str (X : lp_Cx p R s m args meth c base K0 mo D dA sv b0 L0 xs r) (hd : decode (lp_b mo) pc = .ok (.baload, 1)) (hnx : ∀ ls stk st, nx ls stk st = some r → lp_Wt p l e R s m args below meth c Q base K0 mo D dA sv L0 xs (pc + 1) ls stk st)
    (h : lp_xStr nx ls stk st = some r) : lp_Wt p l e R s m args below meth c Q base K0 mo D dA sv L0 xs pc ls stk st := by
  intro lm H locs I
  unfold lp_xStr at h
  split at h
  · next i k rr =>
    split at h
    · next hk =>
      split at h
      · cases h
      · next ho =>
        obtain ⟨adK, adV, hS, hv⟩ := X.2.2.2.2.2.1.2.2.2.1
        have hk2 : k - 100 < 18 := by omega
        have h2 := hnx _ _ _ h lm H locs I
        have e1 : (Value.int i :: Value.retAddr k :: rr).map (lp_rl base sv) = .int i :: .ref (adV (k - 100)) :: rr.map (lp_rl base sv) := by
          show Value.int i :: sv k :: _ = _
          rw [← (hv (k - 100) hk2).2.1, show 100 + (k - 100) = k by omega]
        rw [e1]
        refine va_tb X.1 X.2.1 (hS.1 (k - 100) hk2).2.2.2 I.2.2.2.1 ?_ rfl hd h2
        have e2 : lp_len.getD (k - 100) 0 = (lp_sb.getD (k - 100) []).length := by
          unfold lp_len
          rw [List.getD_eq_getElem?_getD, List.getD_eq_getElem?_getD, List.getElem?_map]
          cases lp_sb[k - 100]? <;> rfl
        rw [e2]
        exact ho
    · cases h
  · cases h
theorem lpW_Len (X : lp_Cx p R s m args meth c base K0 mo D dA sv b0 L0 xs r) (hd : decode (lp_b mo) pc = .ok (.arraylength, 1)) (ha : 19 < a) (hnx : ∀ ls stk st, nx ls stk st = some r → lp_Wt p l e R s m args below meth c Q base K0 mo D dA sv L0 xs (pc + 1) ls stk st)
    (h : lp_xLen a nx ls stk st = some r) : lp_Wt p l e R s m args below meth c Q base K0 mo D dA sv L0 xs pc ls stk st := by
  intro lm H locs I
  unfold lp_xLen at h
  split at h
  · next k rr =>
    split at h
    · next hk =>
      have h2 := hnx _ _ _ h lm H locs I
      obtain ⟨cA, x, ty, t0, e1, e2, e3⟩ := lp_elA (base := base) (dA := dA) (st := st) (k := k) (by rw [hk.1]; exact ha) (Nat.lt_of_lt_of_le hk.2 I.2.2.2.2.1.1)
      exact va_alen X.1 X.2.1 X.2.2.2.2.2.1.1 I.2.2.1 k t0 (by rw [lp_ws_get hk.2, e1]) e2 (by rw [e3]) hd h2
    · cases h
  · next k rr =>
    split at h
    · split at h
      · next hk =>
       split at h
       · next hfl =>
        subst hk
        obtain ⟨h8, h9, h10, h11⟩ := X.2.2.2.2.2.1.2.2.2.2.2.2.1
        have hb : b0 < s.heap.size := by
          obtain ⟨scr, hs, -⟩ := h11
          exact (Array.getElem?_eq_some_iff.mp hs).1
        have h2 := hnx _ _ _ h lm H locs I
        rw [(I.2.2.2.2.1.2 hfl).1] at h2
        have e1 : (Value.retAddr 300 :: rr).map (lp_rl base sv) = .ref b0 :: rr.map (lp_rl base sv) := by
          show sv 300 :: _ = _
          rw [h8]
        rw [e1]
        exact va_slen X.1 X.2.1 h11 hb (Nat.not_le.mpr h9) I.2.2.2.1 hd h2
       · cases h
      · cases h
    · split at h
      · next hk =>
        obtain ⟨adK, adV, hS, hv⟩ := X.2.2.2.2.2.1.2.2.2.1
        have hk2 : k - 100 < 18 := by omega
        have h2 := hnx _ _ _ h lm H locs I
        have e1 : (Value.retAddr k :: rr).map (lp_rl base sv) = .ref (adV (k - 100)) :: rr.map (lp_rl base sv) := by
          show sv k :: _ = _
          rw [← (hv (k - 100) hk2).2.1, show 100 + (k - 100) = k by omega]
        rw [e1]
        refine va_tlen X.1 X.2.1 (hS.1 (k - 100) hk2).2.2.2 I.2.2.2.1 ?_ hd h2
        have e2 : lp_len.getD (k - 100) 0 = (lp_sb.getD (k - 100) []).length := by
          unfold lp_len
          rw [List.getD_eq_getElem?_getD, List.getD_eq_getElem?_getD, List.getElem?_map]
          cases lp_sb[k - 100]? <;> rfl
        rw [e2]
      · cases h
  · cases h
theorem lpW_New (X : lp_Cx p R s m args meth c base K0 mo D dA sv b0 L0 xs r) (hd : decode (lp_b mo) pc = .ok (.new idx, 3)) (ha : a < 11) (hb : b = lp_nf a) (hw : lp_wd q = some (.classLink (lp_cn (lp_ow mo)) idx (lp_cn a))) (hK : ∀ ls stk st, nx ls stk st = some r → st.1 ≤ r.2.1) (hnx : ∀ ls stk st, nx ls stk st = some r → lp_Wt p l e R s m args below meth c Q base K0 mo D dA sv L0 xs (pc + 3) ls stk st)
    (h : lp_xNew a b nx ls stk st = some r) : lp_Wt p l e R s m args below meth c Q base K0 mo D dA sv L0 xs pc ls stk st := by
  intro lm H locs I
  unfold lp_xNew at h
  split at h
  · next hsh =>
    have hle : st.1 + 1 ≤ r.2.1 := hK _ _ _ h
    have hsl : lp_sl (st.1 + 1) = lp_sl st.1 + lp_nf a := by rw [lp_sl_succ, hsh, hb]
    have hmon := lp_sl_mono hle
    have hmon0 := lp_sl_mono I.2.2.2.2.2
    have hR := X.2.2.2.2.2.2.2.2.2.1
    have hR2 := X.2.2.2.2.2.2.2.2.2.2.1
    have hK0 := I.2.2.2.2.2
    refine lp_sized X I (fun hsz => ?_)
    have hKn := X.2.2.2.2.2.1.1.1 a _ (lp_hcl a ha)
    refine W.newcK X.1 X.2.1 X.2.2.2.1 (X.2.2.2.2.1 _ (lp_gt_in hw rfl)) (X.2.2.2.2.1 _ (lp_gt_in (lp_new_ok a ha) rfl)) (X.2.2.2.2.1 _ (lp_ini_in (by omega))) rfl hd (by omega) (by omega) hKn.2.1 hsz fun H1 kC hkC e1 z1 o1 => ?_
    have h1 : lp_Iv s (lp_mx mo) base K0 D dA sv L0 xs lm ls (lp_grow 1 st) H1 locs := by
      refine ⟨I.1, trivial, ?_, ⟨Nat.le_trans I.2.2.2.1.1 (by omega), fun x h1 h2 => (o1 x (by have := I.2.2.2.1.1; omega)).trans (I.2.2.2.1.2.1 x h1 h2), I.2.2.2.1.2.2⟩, lp_Scr_grow I.2.2.2.2.1 (by have := lp_shN (lp_kind_lt hsh (Or.inl ha)); omega), by show K0 ≤ st.1 + 1; omega⟩
      refine lp_P_grow (n := 1) I.2.2.1 (fun q hq => o1 q (by omega)) rfl (fun k hk => lp_el_grow hk) (fun j hj => ?_)
      obtain rfl : j = 0 := by omega
      rw [lp_elO (c := a) (by rw [Nat.add_zero, hsh]) ha]
      refine ⟨_, lp_hcl a ha, ?_⟩
      have h2 := u_born (lp_ty a) X.2.2.2.2.1 (lp_hing a ha) hKn hkC e1 (lp_hty a ha)
      refine h2.to (fun j hj => ?_)
      rw [lp_dflt a ha j hj]
      show _ = (lp_fs base a (lp_grow 1 st) (st.1 + 0)).getD j .null
      rw [List.getD_eq_getElem?_getD, lp_fs_get hj]
      show _ = if lp_isR a j = true then va_rf (lp_on base ((lp_grow 1 st).2.1 st.1 j)) else .int ((lp_grow 1 st).2.2 st.1 j)
      rw [lp_growR (Nat.le_refl _) (by omega), lp_growI (Nat.le_refl _) (by omega)]
      rfl
    have h2 := hnx _ _ _ h lm H1 locs h1
    have e2 : (lp_grow 1 st).1 - K0 = st.1 - K0 + 1 := by show st.1 + 1 - K0 = _; omega
    have e3 : lp_sl (lp_grow 1 st).1 - lp_sl K0 = lp_sl st.1 - lp_sl K0 + lp_nf a := by show lp_sl (st.1 + 1) - _ = _; omega
    rw [e2, e3] at h2
    exact h2
  · cases h
theorem lpW_Na20 (X : lp_Cx p R s m args meth c base K0 mo D dA sv b0 L0 xs r) (hd : decode (lp_b mo) pc = .ok (.newarray .int, 2)) (hK : ∀ ls stk st, nx ls stk st = some r → st.1 ≤ r.2.1) (hnx : ∀ ls stk st, nx ls stk st = some r → lp_Wt p l e R s m args below meth c Q base K0 mo D dA sv L0 xs (pc + 2) ls stk st)
    (h : lp_xNa 20 nx ls stk st = some r) : lp_Wt p l e R s m args below meth c Q base K0 mo D dA sv L0 xs pc ls stk st := by
  intro lm H locs I
  unfold lp_xNa at h
  split at h
  · next n rr =>
    split at h
    · next hsh =>
      have hle : st.1 + 1 ≤ r.2.1 := hK _ _ _ h
      have hsl : lp_sl (st.1 + 1) = lp_sl st.1 + n.toNatClampNeg := by rw [lp_sl_succ, hsh.1]
      have hmon := lp_sl_mono hle
      have hmon0 := lp_sl_mono I.2.2.2.2.2
      have hR := X.2.2.2.2.2.2.2.2.2.1
      have hR2 := X.2.2.2.2.2.2.2.2.2.2.1
      have hK0 := I.2.2.2.2.2
      have hlt : st.1 < 369 := lp_shN (lp_kind_lt hsh.1 (Or.inr (by omega)))
      have hsm : n.toNatClampNeg ≤ 60000 := by
        have := lp_shL st.1 hlt
        rw [hsh.1] at this
        exact this
      refine lp_sized X I (fun hsz => ?_)
      refine va_newaK (atype := .int) X.1 X.2.1 (X.2.2.2.2.1 _ (lp_gt_in (p := 54) (by decide +kernel) rfl)) rfl hd rfl hsh.2 rfl (by show n.toNatClampNeg * 4 ≤ _; omega) (by omega) (by omega) hsz fun H1 cA e1 z1 o1 hAr hNm => ?_
      have ecA : cA = dA 0 := by
        have h3 := (X.2.2.2.2.2.1.1.2 0 _ rfl).2
        exact Option.some.inj (hNm.symm.trans h3)
      have h1 : lp_Iv s (lp_mx mo) base K0 D dA sv L0 xs lm ls (lp_grow 1 st) H1 locs := by
        refine ⟨I.1, trivial, ?_, ⟨Nat.le_trans I.2.2.2.1.1 (by omega), fun x h1 h2 => (o1 x (by have := I.2.2.2.1.1; omega)).trans (I.2.2.2.1.2.1 x h1 h2), I.2.2.2.1.2.2⟩, lp_Scr_grow I.2.2.2.2.1 (by omega), by show K0 ≤ st.1 + 1; omega⟩
        refine lp_P_grow (n := 1) I.2.2.1 (fun q hq => o1 q (by omega)) rfl (fun k hk => lp_el_grow hk) (fun j hj => ?_)
        obtain rfl : j = 0 := by omega
        rw [lp_el20 (by rw [Nat.add_zero, hsh.1])]
        show H1[base + (st.1 + 0)]? = some (vp_cell _ _)
        rw [Nat.add_zero, e1, ecA, vp_cell_i, hsh.1]
        congr 2
        funext x
        rw [lp_growI (Nat.le_refl _) (by omega)]
        rfl
      have h2 := hnx _ _ _ h lm H1 locs h1
      have e2 : (lp_grow 1 st).1 - K0 = st.1 - K0 + 1 := by show st.1 + 1 - K0 = _; omega
      have e3 : lp_sl (lp_grow 1 st).1 - lp_sl K0 = lp_sl st.1 - lp_sl K0 + n.toNatClampNeg := by show lp_sl (st.1 + 1) - _ = _; omega
      rw [e2, e3] at h2
      exact h2
    · cases h
  · cases h
theorem lpW_Na21 (X : lp_Cx p R s m args meth c base K0 mo D dA sv b0 L0 xs r) (hd : decode (lp_b mo) pc = .ok (.newarray .byte, 2)) (hK : ∀ ls stk st, nx ls stk st = some r → st.1 ≤ r.2.1) (hnx : ∀ ls stk st, nx ls stk st = some r → lp_Wt p l e R s m args below meth c Q base K0 mo D dA sv L0 xs (pc + 2) ls stk st)
    (h : lp_xNa 21 nx ls stk st = some r) : lp_Wt p l e R s m args below meth c Q base K0 mo D dA sv L0 xs pc ls stk st := by
  intro lm H locs I
  unfold lp_xNa at h
  split at h
  · next n rr =>
    split at h
    · next hsh =>
      have hle : st.1 + 1 ≤ r.2.1 := hK _ _ _ h
      have hsl : lp_sl (st.1 + 1) = lp_sl st.1 + n.toNatClampNeg := by rw [lp_sl_succ, hsh.1]
      have hmon := lp_sl_mono hle
      have hmon0 := lp_sl_mono I.2.2.2.2.2
      have hR := X.2.2.2.2.2.2.2.2.2.1
      have hR2 := X.2.2.2.2.2.2.2.2.2.2.1
      have hK0 := I.2.2.2.2.2
      have hlt : st.1 < 369 := lp_shN (lp_kind_lt hsh.1 (Or.inr (by omega)))
      have hsm : n.toNatClampNeg ≤ 60000 := by
        have := lp_shL st.1 hlt
        rw [hsh.1] at this
        exact this
      refine lp_sized X I (fun hsz => ?_)
      refine va_newaK (atype := .byte) X.1 X.2.1 (X.2.2.2.2.1 _ (lp_gt_in (p := 137) (by decide +kernel) rfl)) rfl hd rfl hsh.2 rfl (by show n.toNatClampNeg * 1 ≤ _; omega) (by omega) (by omega) hsz fun H1 cA e1 z1 o1 hAr hNm => ?_
      have ecA : cA = dA 1 := by
        have h3 := (X.2.2.2.2.2.1.1.2 1 _ rfl).2
        exact Option.some.inj (hNm.symm.trans h3)
      have h1 : lp_Iv s (lp_mx mo) base K0 D dA sv L0 xs lm ls (lp_grow 1 st) H1 locs := by
        refine ⟨I.1, trivial, ?_, ⟨Nat.le_trans I.2.2.2.1.1 (by omega), fun x h1 h2 => (o1 x (by have := I.2.2.2.1.1; omega)).trans (I.2.2.2.1.2.1 x h1 h2), I.2.2.2.1.2.2⟩, lp_Scr_grow I.2.2.2.2.1 (by omega), by show K0 ≤ st.1 + 1; omega⟩
        refine lp_P_grow (n := 1) I.2.2.1 (fun q hq => o1 q (by omega)) rfl (fun k hk => lp_el_grow hk) (fun j hj => ?_)
        obtain rfl : j = 0 := by omega
        rw [lp_el21 (by rw [Nat.add_zero, hsh.1])]
        show H1[base + (st.1 + 0)]? = some (vp_cell _ _)
        rw [Nat.add_zero, e1, ecA, vp_cell_i, hsh.1]
        congr 2
        funext x
        rw [lp_growI (Nat.le_refl _) (by omega)]
        rfl
      have h2 := hnx _ _ _ h lm H1 locs h1
      have e2 : (lp_grow 1 st).1 - K0 = st.1 - K0 + 1 := by show st.1 + 1 - K0 = _; omega
      have e3 : lp_sl (lp_grow 1 st).1 - lp_sl K0 = lp_sl st.1 - lp_sl K0 + n.toNatClampNeg := by show lp_sl (st.1 + 1) - _ = _; omega
      rw [e2, e3] at h2
      exact h2
    · cases h
  · cases h
theorem lpW_Na22 (X : lp_Cx p R s m args meth c base K0 mo D dA sv b0 L0 xs r) (hd : decode (lp_b mo) pc = .ok (.newarray .boolean, 2)) (hK : ∀ ls stk st, nx ls stk st = some r → st.1 ≤ r.2.1) (hnx : ∀ ls stk st, nx ls stk st = some r → lp_Wt p l e R s m args below meth c Q base K0 mo D dA sv L0 xs (pc + 2) ls stk st)
    (h : lp_xNa 22 nx ls stk st = some r) : lp_Wt p l e R s m args below meth c Q base K0 mo D dA sv L0 xs pc ls stk st := by
  intro lm H locs I
  unfold lp_xNa at h
  split at h
  · next n rr =>
    split at h
    · next hsh =>
      have hle : st.1 + 1 ≤ r.2.1 := hK _ _ _ h
      have hsl : lp_sl (st.1 + 1) = lp_sl st.1 + n.toNatClampNeg := by rw [lp_sl_succ, hsh.1]
      have hmon := lp_sl_mono hle
      have hmon0 := lp_sl_mono I.2.2.2.2.2
      have hR := X.2.2.2.2.2.2.2.2.2.1
      have hR2 := X.2.2.2.2.2.2.2.2.2.2.1
      have hK0 := I.2.2.2.2.2
      have hlt : st.1 < 369 := lp_shN (lp_kind_lt hsh.1 (Or.inr (by omega)))
      have hsm : n.toNatClampNeg ≤ 60000 := by
        have := lp_shL st.1 hlt
        rw [hsh.1] at this
        exact this
      refine lp_sized X I (fun hsz => ?_)
      refine va_newaK (atype := .boolean) X.1 X.2.1 (X.2.2.2.2.1 _ (lp_gt_in (p := 4216) (by decide +kernel) rfl)) rfl hd rfl hsh.2 rfl (by show n.toNatClampNeg * 1 ≤ _; omega) (by omega) (by omega) hsz fun H1 cA e1 z1 o1 hAr hNm => ?_
      have ecA : cA = dA 2 := by
        have h3 := (X.2.2.2.2.2.1.1.2 2 _ rfl).2
        exact Option.some.inj (hNm.symm.trans h3)
      have h1 : lp_Iv s (lp_mx mo) base K0 D dA sv L0 xs lm ls (lp_grow 1 st) H1 locs := by
        refine ⟨I.1, trivial, ?_, ⟨Nat.le_trans I.2.2.2.1.1 (by omega), fun x h1 h2 => (o1 x (by have := I.2.2.2.1.1; omega)).trans (I.2.2.2.1.2.1 x h1 h2), I.2.2.2.1.2.2⟩, lp_Scr_grow I.2.2.2.2.1 (by omega), by show K0 ≤ st.1 + 1; omega⟩
        refine lp_P_grow (n := 1) I.2.2.1 (fun q hq => o1 q (by omega)) rfl (fun k hk => lp_el_grow hk) (fun j hj => ?_)
        obtain rfl : j = 0 := by omega
        rw [lp_el22 (by rw [Nat.add_zero, hsh.1])]
        show H1[base + (st.1 + 0)]? = some (vp_cell _ _)
        rw [Nat.add_zero, e1, ecA, vp_cell_i, hsh.1]
        congr 2
        funext x
        rw [lp_growI (Nat.le_refl _) (by omega)]
        rfl
      have h2 := hnx _ _ _ h lm H1 locs h1
      have e2 : (lp_grow 1 st).1 - K0 = st.1 - K0 + 1 := by show st.1 + 1 - K0 = _; omega
      have e3 : lp_sl (lp_grow 1 st).1 - lp_sl K0 = lp_sl st.1 - lp_sl K0 + n.toNatClampNeg := by show lp_sl (st.1 + 1) - _ = _; omega
      rw [e2, e3] at h2
      exact h2
    · cases h
  · cases h
theorem lpW_Na24 (X : lp_Cx p R s m args meth c base K0 mo D dA sv b0 L0 xs r) (hd : decode (lp_b mo) pc = .ok (.anewarray idx, 3)) (hw : lp_wd q = some (.classLink (lp_cn (lp_ow mo)) idx "LampPresses$Net")) (hK : ∀ ls stk st, nx ls stk st = some r → st.1 ≤ r.2.1) (hnx : ∀ ls stk st, nx ls stk st = some r → lp_Wt p l e R s m args below meth c Q base K0 mo D dA sv L0 xs (pc + 3) ls stk st)
    (h : lp_xNa 24 nx ls stk st = some r) : lp_Wt p l e R s m args below meth c Q base K0 mo D dA sv L0 xs pc ls stk st := by
  intro lm H locs I
  unfold lp_xNa at h
  split at h
  · next n rr =>
    split at h
    · next hsh =>
      have hle : st.1 + 1 ≤ r.2.1 := hK _ _ _ h
      have hsl : lp_sl (st.1 + 1) = lp_sl st.1 + n.toNatClampNeg := by rw [lp_sl_succ, hsh.1]
      have hmon := lp_sl_mono hle
      have hmon0 := lp_sl_mono I.2.2.2.2.2
      have hR := X.2.2.2.2.2.2.2.2.2.1
      have hR2 := X.2.2.2.2.2.2.2.2.2.2.1
      have hK0 := I.2.2.2.2.2
      have hlt : st.1 < 369 := lp_shN (lp_kind_lt hsh.1 (Or.inr (by omega)))
      have hsm : n.toNatClampNeg ≤ 60000 := by
        have := lp_shL st.1 hlt
        rw [hsh.1] at this
        exact this
      refine lp_sized X I (fun hsz => ?_)
      refine W.anew X.1 X.2.1 X.2.2.2.1 (X.2.2.2.2.1 _ (lp_gt_in hw rfl)) (va_AO.use X.2.2.2.2.2.1.2.2.2.2.2.2.2.2.1) rfl hd rfl hsh.2 (by omega) (by omega) (by omega) fun cA kA comp f1 f2 f3 f4 => ?_
      have ecA : cA = dA 4 := by
        obtain ⟨kA', comp', -, -, -, h3⟩ := (X.2.2.2.2.2.1.1.2 4 _ rfl).2
        exact Option.some.inj (f1.symm.trans h3)
      generalize hH1 : H.push ({ cls := cA, slots := Array.replicate n.toNatClampNeg .null, vm := .none } : Cell) = H1
      have z1 : H1.size = H.size + 1 := by rw [← hH1, Array.size_push]
      have e1 : H1[H.size]? = some (arrV cA n.toNatClampNeg (fun _ => .null)) := by rw [← hH1, Array.getElem?_push_size, ← arrV_new]
      have o1 : ∀ q : Nat, q < H.size → H1[q]? = H[q]? := fun q hq => by rw [← hH1, Array.getElem?_push, if_neg (Nat.ne_of_lt hq)]
      have h1 : lp_Iv s (lp_mx mo) base K0 D dA sv L0 xs lm ls (lp_grow 1 st) H1 locs := by
        refine ⟨I.1, trivial, ?_, ⟨Nat.le_trans I.2.2.2.1.1 (by omega), fun x h1 h2 => (o1 x (by have := I.2.2.2.1.1; omega)).trans (I.2.2.2.1.2.1 x h1 h2), I.2.2.2.1.2.2⟩, lp_Scr_grow I.2.2.2.2.1 (by omega), by show K0 ≤ st.1 + 1; omega⟩
        refine lp_P_grow (n := 1) I.2.2.1 (fun q hq => o1 q (by omega)) rfl (fun k hk => lp_el_grow hk) (fun j hj => ?_)
        obtain rfl : j = 0 := by omega
        rw [lp_el24 (by rw [Nat.add_zero, hsh.1])]
        show H1[base + (st.1 + 0)]? = some (vp_cell _ _)
        rw [Nat.add_zero, ← hsz, e1, ecA, vp_cell_q, hsh.1]
        congr 2
        funext x
        rw [lp_growR (Nat.le_refl _) (by omega)]
        rfl
      have h2 := hnx _ _ _ h lm H1 locs h1
      have e2 : (lp_grow 1 st).1 - K0 = st.1 - K0 + 1 := by show st.1 + 1 - K0 = _; omega
      have e3 : lp_sl (lp_grow 1 st).1 - lp_sl K0 = lp_sl st.1 - lp_sl K0 + n.toNatClampNeg := by show lp_sl (st.1 + 1) - _ = _; omega
      rw [e2, e3] at h2
      have e4 : (Value.ref st.1 :: rr).map (lp_rl base sv) = .ref H.size :: rr.map (lp_rl base sv) := by
        show Value.ref (base + st.1) :: _ = _
        rw [hsz]
      rw [e4] at h2
      exact h2
    · cases h
  · cases h
end lpW
