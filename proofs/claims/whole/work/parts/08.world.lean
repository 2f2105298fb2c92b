/-! ===== the machine's heap holds the small machine's cells ===== -/
def lp_on (base : Nat) : Value → Option Nat
  | .ref n => some (base + n)
  | _ => none
def lp_fs (base ci : Nat) (st : lp_S) (k : Nat) : List Value := (List.range (lp_nf ci)).map fun j => if lp_isR ci j = true then va_rf (lp_on base (st.2.1 k j)) else .int (st.2.2 k j)
def lp_el (base : Nat) (dA : Nat → ClassId) (st : lp_S) (k : Nat) : va_E :=
  if (lp_sh k).1 = 20 then .inl (dA 0, (lp_sh k).2, .inl (st.2.2 k))
  else if (lp_sh k).1 = 21 then .inl (dA 1, (lp_sh k).2, .inl (st.2.2 k))
  else if (lp_sh k).1 = 22 then .inl (dA 2, (lp_sh k).2, .inl (st.2.2 k))
  else if (lp_sh k).1 = 23 then .inl (dA 3, (lp_sh k).2, .inr (.inr (.inr (.inr (fun j => lp_on base (st.2.1 k j))))))
  else if (lp_sh k).1 = 24 then .inl (dA 4, (lp_sh k).2, .inr (.inr (.inr (.inr (fun j => lp_on base (st.2.1 k j))))))
  else .inr ((lp_sh k).1, lp_fs base (lp_sh k).1 st k)
def lp_ws (base : Nat) (dA : Nat → ClassId) (st : lp_S) : va_W := (List.range st.1).map fun k => (base + k, lp_el base dA st k)
def lp_A (base : Nat) : Nat → Prop := fun q => base ≤ q
def lp_tys (dA : Nat → ClassId) : List (ClassId × FieldType) := [(dA 0, .int), (dA 1, .byte), (dA 2, .boolean), (dA 3, .array .int), (dA 4, .object "LampPresses$Net")]
theorem lp_ws_get {base : Nat} {dA : Nat → ClassId} {st : lp_S} {k : Nat} (h : k < st.1) : (lp_ws base dA st)[k]? = some (base + k, lp_el base dA st k) := by
  unfold lp_ws
  rw [List.getElem?_map, List.getElem?_range h]
  rfl
theorem lp_ws_len {base : Nat} {dA : Nat → ClassId} {st : lp_S} : (lp_ws base dA st).length = st.1 := by
  unfold lp_ws
  rw [List.length_map, List.length_range]
theorem lp_ws_some {base : Nat} {dA : Nat → ClassId} {st : lp_S} {k : Nat} {q : Nat × va_E} (h : (lp_ws base dA st)[k]? = some q) : k < st.1 ∧ q = (base + k, lp_el base dA st k) := by
  have hk : k < st.1 := by
    have := (List.getElem?_eq_some_iff.mp h).1
    rwa [lp_ws_len] at this
  exact ⟨hk, Option.some.inj (h.symm.trans (lp_ws_get hk))⟩
theorem lp_ws_D {base : Nat} {dA : Nat → ClassId} {st : lp_S} : va_D (lp_A base) (lp_ws base dA st) := by
  refine ⟨fun i j p q hi hj hpq => ?_, fun k q hk => ?_⟩
  · obtain ⟨_, rfl⟩ := lp_ws_some hi
    obtain ⟨_, rfl⟩ := lp_ws_some hj
    simp only at hpq
    omega
  · obtain ⟨_, rfl⟩ := lp_ws_some hk
    exact Nat.le_add_right _ _
/-- one cell is written -/
theorem lp_ws_set {base : Nat} {dA : Nat → ClassId} {st st' : lp_S} {k : Nat} (hk : k < st.1) (h1 : st'.1 = st.1) (h : ∀ q, q ≠ k → lp_el base dA st' q = lp_el base dA st q) : (lp_ws base dA st).set k (base + k, lp_el base dA st' k) = lp_ws base dA st' := by
  apply List.ext_getElem?
  intro i
  by_cases e : i = k
  · subst e
    rw [List.getElem?_set_self (by rw [lp_ws_len]; exact hk), lp_ws_get (by rw [h1]; exact hk)]
  · rw [List.getElem?_set_ne (Ne.symm e)]
    by_cases hi : i < st.1
    · rw [lp_ws_get hi, lp_ws_get (by rw [h1]; exact hi), h i e]
    · rw [List.getElem?_eq_none (by rw [lp_ws_len]; omega), List.getElem?_eq_none (by rw [lp_ws_len]; omega)]
theorem lp_el_ne {base : Nat} {dA : Nat → ClassId} {st st' : lp_S} {q : Nat} (h1 : st'.2.1 q = st.2.1 q) (h2 : st'.2.2 q = st.2.2 q) : lp_el base dA st' q = lp_el base dA st q := by
  unfold lp_el lp_fs
  rw [h1, h2]
theorem lp_u_eq {α : Type} (g : Nat → Nat → α) (k : Nat) (f : Nat → α) : lp_u g k f k = f := if_pos rfl
theorem lp_u_ne {α : Type} (g : Nat → Nat → α) {k q : Nat} (f : Nat → α) (h : q ≠ k) : lp_u g k f q = g q := if_neg h
theorem lp_el_w {base : Nat} {dA : Nat → ClassId} {st : lp_S} {k q : Nat} {f : Nat → Int32} (h : q ≠ k) : lp_el base dA (st.1, st.2.1, lp_u st.2.2 k f) q = lp_el base dA st q := lp_el_ne rfl (lp_u_ne _ _ h)
theorem lp_el_wR {base : Nat} {dA : Nat → ClassId} {st : lp_S} {k q : Nat} {f : Nat → Value} (h : q ≠ k) : lp_el base dA (st.1, lp_u st.2.1 k f, st.2.2) q = lp_el base dA st q := lp_el_ne (lp_u_ne _ _ h) rfl
-- the element of a cell by its kind
theorem lp_el20 {base : Nat} {dA : Nat → ClassId} {st : lp_S} {k : Nat} (h : (lp_sh k).1 = 20) : lp_el base dA st k = .inl (dA 0, (lp_sh k).2, .inl (st.2.2 k)) := by
  unfold lp_el; rw [if_pos h]
theorem lp_el21 {base : Nat} {dA : Nat → ClassId} {st : lp_S} {k : Nat} (h : (lp_sh k).1 = 21) : lp_el base dA st k = .inl (dA 1, (lp_sh k).2, .inl (st.2.2 k)) := by
  unfold lp_el; rw [if_neg (by rw [h]; decide), if_pos h]
theorem lp_el22 {base : Nat} {dA : Nat → ClassId} {st : lp_S} {k : Nat} (h : (lp_sh k).1 = 22) : lp_el base dA st k = .inl (dA 2, (lp_sh k).2, .inl (st.2.2 k)) := by
  unfold lp_el; rw [if_neg (by rw [h]; decide), if_neg (by rw [h]; decide), if_pos h]
theorem lp_el23 {base : Nat} {dA : Nat → ClassId} {st : lp_S} {k : Nat} (h : (lp_sh k).1 = 23) : lp_el base dA st k = .inl (dA 3, (lp_sh k).2, .inr (.inr (.inr (.inr (fun j => lp_on base (st.2.1 k j)))))) := by
  unfold lp_el; rw [if_neg (by rw [h]; decide), if_neg (by rw [h]; decide), if_neg (by rw [h]; decide), if_pos h]
theorem lp_el24 {base : Nat} {dA : Nat → ClassId} {st : lp_S} {k : Nat} (h : (lp_sh k).1 = 24) : lp_el base dA st k = .inl (dA 4, (lp_sh k).2, .inr (.inr (.inr (.inr (fun j => lp_on base (st.2.1 k j)))))) := by
  unfold lp_el; rw [if_neg (by rw [h]; decide), if_neg (by rw [h]; decide), if_neg (by rw [h]; decide), if_neg (by rw [h]; decide), if_pos h]
theorem lp_elO {base : Nat} {dA : Nat → ClassId} {st : lp_S} {k c : Nat} (h : (lp_sh k).1 = c) (hc : c < 11) : lp_el base dA st k = .inr (c, lp_fs base c st k) := by
  unfold lp_el; rw [if_neg (by rw [h]; omega), if_neg (by rw [h]; omega), if_neg (by rw [h]; omega), if_neg (by rw [h]; omega), if_neg (by rw [h]; omega), h]
/-- an array of any kind -/
theorem lp_sh24 : ∀ k, k < 369 → (lp_sh k).1 ≤ 24 := by decide +kernel
theorem lp_elA {base : Nat} {dA : Nat → ClassId} {st : lp_S} {k : Nat} (h : 19 < (lp_sh k).1) (hk : k < 369) : ∃ (cA : ClassId) (x : vp_A) (ty : FieldType) (t0 : Nat), lp_el base dA st k = .inl (cA, x) ∧ (lp_tys dA)[t0]? = some (cA, ty) ∧ x.1 = (lp_sh k).2 := by
  have h1 := lp_sh24 k hk
  have h2 : (lp_sh k).1 = 20 ∨ (lp_sh k).1 = 21 ∨ (lp_sh k).1 = 22 ∨ (lp_sh k).1 = 23 ∨ (lp_sh k).1 = 24 := by omega
  rcases h2 with h2 | h2 | h2 | h2 | h2
  · exact ⟨_, _, _, 0, lp_el20 h2, rfl, rfl⟩
  · exact ⟨_, _, _, 1, lp_el21 h2, rfl, rfl⟩
  · exact ⟨_, _, _, 2, lp_el22 h2, rfl, rfl⟩
  · exact ⟨_, _, _, 3, lp_el23 h2, rfl, rfl⟩
  · exact ⟨_, _, _, 4, lp_el24 h2, rfl, rfl⟩
theorem lp_fs_get {base ci : Nat} {st : lp_S} {k j : Nat} (h : j < lp_nf ci) : (lp_fs base ci st k)[j]? = some (if lp_isR ci j = true then va_rf (lp_on base (st.2.1 k j)) else .int (st.2.2 k j)) := by
  unfold lp_fs
  rw [List.getElem?_map, List.getElem?_range h]
  rfl
theorem lp_fs_len {base ci : Nat} {st : lp_S} {k : Nat} : (lp_fs base ci st k).length = lp_nf ci := by
  unfold lp_fs
  rw [List.length_map, List.length_range]
theorem lp_fs_setI {base ci : Nat} {st : lp_S} {k j : Nat} {v : Int32} (h : j < lp_nf ci) (hr : lp_isR ci j = false) : (lp_fs base ci st k).set j (.int v) = lp_fs base ci (st.1, st.2.1, lp_w st.2.2 k j v) k := by
  apply List.ext_getElem?
  intro i
  by_cases e : i = j
  · subst e
    rw [List.getElem?_set_self (by rw [lp_fs_len]; exact h), lp_fs_get h]
    simp [hr, lp_w, lp_u, upd]
  · rw [List.getElem?_set_ne (Ne.symm e)]
    by_cases hi : i < lp_nf ci
    · rw [lp_fs_get hi, lp_fs_get hi]
      simp [lp_w, lp_u, upd, e]
    · rw [List.getElem?_eq_none (by rw [lp_fs_len]; omega), List.getElem?_eq_none (by rw [lp_fs_len]; omega)]
theorem lp_fs_setR {base ci : Nat} {st : lp_S} {k j n : Nat} (h : j < lp_nf ci) (hr : lp_isR ci j = true) : (lp_fs base ci st k).set j (.ref (base + n)) = lp_fs base ci (st.1, lp_wR st.2.1 k j (.ref n), st.2.2) k := by
  apply List.ext_getElem?
  intro i
  by_cases e : i = j
  · subst e
    rw [List.getElem?_set_self (by rw [lp_fs_len]; exact h), lp_fs_get h]
    simp [hr, lp_wR, lp_u, lp_on, va_rf]
  · rw [List.getElem?_set_ne (Ne.symm e)]
    by_cases hi : i < lp_nf ci
    · rw [lp_fs_get hi, lp_fs_get hi]
      simp [lp_wR, lp_u, e]
    · rw [List.getElem?_eq_none (by rw [lp_fs_len]; omega), List.getElem?_eq_none (by rw [lp_fs_len]; omega)]
/-- the values as the machine has them: cells from base on; String constants and the like by a table -/
def lp_rl (base : Nat) (sv : Nat → Value) : Value → Value
  | .ref n => .ref (base + n)
  | .retAddr k => sv k
  | v => v
/-- the locals that are good are the machine's -/
def lp_L (base : Nat) (sv : Nat → Value) (lm : Array Slot) (nL : Nat) (ls : List Value) : Prop := lm.size = nL ∧ lv_wf lm ∧ ∀ i, lp_good (lp_nth ls i) = true → lm[i]? = some (.val (lp_rl base sv (lp_nth ls i)))
def lp_lv (base : Nat) (sv : Nat → Value) (nL : Nat) (ls : List Value) : List (Nat × Value) := (List.range nL).filterMap fun i => if lp_good (lp_nth ls i) = true then some (i, lp_rl base sv (lp_nth ls i)) else none
theorem lp_lv_mem {base : Nat} {sv : Nat → Value} {nL : Nat} {ls : List Value} {q : Nat × Value} : q ∈ lp_lv base sv nL ls ↔ q.1 < nL ∧ lp_good (lp_nth ls q.1) = true ∧ q.2 = lp_rl base sv (lp_nth ls q.1) := by
  unfold lp_lv
  rw [List.mem_filterMap]
  constructor
  · rintro ⟨i, hi, h⟩
    split at h
    · next hg =>
      cases h
      exact ⟨List.mem_range.mp hi, hg, rfl⟩
    · cases h
  · rintro ⟨h1, h2, h3⟩
    refine ⟨q.1, List.mem_range.mpr h1, ?_⟩
    rw [if_pos h2, ← h3]
theorem lp_L.has {base : Nat} {sv : Nat → Value} {lm : Array Slot} {nL : Nat} {ls : List Value} (h : lp_L base sv lm nL ls) : lv_has lm nL (lp_lv base sv nL ls) := by
  refine ⟨h.1, h.2.1, fun q hq => ?_⟩
  obtain ⟨h1, h2, h3⟩ := lp_lv_mem.mp hq
  rw [h3]
  exact h.2.2 _ h2
theorem lp_nth_set_ne : ∀ (ls : List Value) {i j : Nat} (v : Value), j ≠ i → lp_nth (lp_set ls i v) j = lp_nth ls j
  | [], _, _, _, _ => rfl
  | _ :: _, 0, 0, _, h => absurd rfl h
  | _ :: _, 0, _ + 1, _, _ => rfl
  | _ :: _, _ + 1, 0, _, _ => rfl
  | _ :: r, i + 1, j + 1, v, h => by
    show lp_nth (lp_set r i v) j = lp_nth r j
    exact lp_nth_set_ne r v (fun e => h (by rw [e]))
theorem lp_nth_set_eq : ∀ (ls : List Value) (i : Nat) (v : Value), lp_nth (lp_set ls i v) i = v ∨ lp_nth (lp_set ls i v) i = .long 0
  | [], _, _ => Or.inr rfl
  | _ :: _, 0, _ => Or.inl rfl
  | _ :: r, i + 1, v => lp_nth_set_eq r i v
/-- a local is written -/
theorem lp_L.set {base : Nat} {sv : Nat → Value} {lm lm' : Array Slot} {nL i : Nat} {ls : List Value} {v : Value} (hsv : ∀ k, (sv k).category = 1) (h : lp_L base sv lm nL ls) (h' : lv_has lm' nL ((i, lp_rl base sv v) :: (lp_lv base sv nL ls).filter (fun q => !(q.1 == i) && !(q.1 + 1 == i && q.2.category == 2)))) : lp_L base sv lm' nL (lp_set ls i v) := by
  refine ⟨h'.1, h'.2.1, fun j hj => ?_⟩
  by_cases e : j = i
  · subst e
    rcases lp_nth_set_eq ls j v with e | e
    · rw [e]
      exact h'.2.2 (j, lp_rl base sv v) List.mem_cons_self
    · rw [e] at hj
      cases hj
  · rw [lp_nth_set_ne ls v e] at hj ⊢
    have hlt : j < nL := by
      have := h.2.2 j hj
      have := (Array.getElem?_eq_some_iff.mp this).1
      rw [h.1] at this
      exact this
    refine h'.2.2 (j, lp_rl base sv (lp_nth ls j)) (List.mem_cons_of_mem _ (List.mem_filter.mpr ⟨lp_lv_mem.mpr ⟨hlt, hj, rfl⟩, ?_⟩))
    have hcat : (lp_rl base sv (lp_nth ls j)).category = 1 := by
      cases hv : lp_nth ls j <;> rw [hv] at hj <;> first | rfl | exact hsv _ | cases hj
    simp [e, hcat]
