/-! ===== what the small machine does, the machine does ===== -/
def lp_sl (K : Nat) : Nat := ((List.range K).map fun k => (lp_sh k).2).sum
theorem lp_sl_succ (K : Nat) : lp_sl (K + 1) = lp_sl K + (lp_sh K).2 := by
  unfold lp_sl
  rw [List.range_succ, List.map_append, List.sum_append]
  simp
theorem lp_sl_mono {a b : Nat} (h : a ≤ b) : lp_sl a ≤ lp_sl b := by
  induction h with
  | refl => exact Nat.le_refl _
  | step _ ih => rw [lp_sl_succ]; omega
def lp_len : List Nat := lp_sb.map List.length
/-- the script lies in the small machine's memory behind all cells -/
def lp_Scr (L : Nat) (xs : Nat → Int32) (st : lp_S) : Prop := st.1 ≤ 369 ∧ (st.2.2 997 0 = 1 → st.2.2 998 0 = Int32.ofNat L ∧ ∀ j, j < L → st.2.2 999 j = xs j)
/-- words of the tables that hold wherever their classes stand as they do -/
def lp_gt : List Cond := lw_tbl.filter goodWord
theorem lp_gt_in {p : Nat} {w : Cond} (h : lp_wd p = some w) (hg : goodWord w = true) : w ∈ lp_gt := List.mem_filter.mpr ⟨lp_wd_tbl h, hg⟩
def lp_AOA (U : State) : Prop := (Cond.arrayOver (.array .int)).before #[] U = true
theorem lp_AOA.spec {A : Array Value} {s : State} (h : (Cond.arrayOver (.array .int)).before A s = true) : ∃ comp c k, s.vm.findClass (FieldType.array .int).toString = some comp ∧ (s.vm.classes.findIdx? fun (x : Class) => match x.kind with | .array component _ => component == comp | _ => false) = some c ∧ s.vm.classes[c]? = some k ∧ k.kind = .array comp (.array .int) ∧ s.vm.findClass ("[" ++ (FieldType.array .int).toString) = some c := by
  simp only [Cond.before, Cond.holds, Cond.value, beq_iff_eq] at h
  cases hc : s.vm.findClass (FieldType.array .int).toString with
  | none => simp [hc] at h
  | some comp =>
    simp only [hc, Option.bind_some, Option.bind_eq_some_iff, Option.map_eq_some_iff] at h
    obtain ⟨c, hi, k, hk, hb⟩ := h
    obtain ⟨hlt, hp, -⟩ := Array.findIdx?_eq_some_iff_getElem.mp hi
    have hkk : s.vm.classes[c] = k := (Array.getElem?_eq_some_iff.mp hk).2
    rw [hkk] at hp
    cases hkind : k.kind with
    | array component ty =>
      rw [hkind] at hb hp
      simp at hb hp
      exact ⟨comp, c, k, rfl, hi, hk, by rw [hkind, hp, hb.1], hb.2⟩
    | _ => rw [hkind] at hb; simp at hb
theorem lp_AOA.moved {u U : State} (hvm : u.vm.Alike U.vm) (h : lp_AOA u) : lp_AOA U := by
  obtain ⟨comp, c, k, h1, h2, h3, h4, h5⟩ := lp_AOA.spec h
  obtain ⟨k', hk', he⟩ := hvm.2.2 _ _ h3
  have hi : (U.vm.classes.findIdx? fun (x : Class) => match x.kind with | .array component _ => component == comp | _ => false) = some c := by
    have e1 := va_idx_bare U.vm comp
    have e2 := va_idx_bare u.vm comp
    have e3 : U.vm.bare = u.vm.bare := by first | exact hvm.bare_eq | exact hvm.bare_eq.symm
    rw [e3] at e1
    exact (e1.symm.trans e2).trans h2
  have hkind : k'.kind = .array comp (.array .int) := by rw [he]; exact h4
  have f1 : U.vm.findClass (FieldType.array .int).toString = some comp := by rw [hvm.findClass]; exact h1
  have f2 : U.vm.findClass ("[" ++ (FieldType.array .int).toString) = some c := by rw [hvm.findClass]; exact h5
  unfold lp_AOA Cond.before Cond.holds
  simp only [Cond.value]
  rw [f1, Option.bind_some]
  refine (congrArg (fun o : Option Nat => (o.bind (fun c => (U.vm.classes[c]?).map fun (k : Class) => match k.kind with | .array _ ty => decide (ty = FieldType.array .int) && decide (U.vm.findClass ("[" ++ (FieldType.array .int).toString) = some c) | _ => false) == some true)) hi).trans ?_
  simp [hk', hkind, f2]
/-- what stands outside the cells: classes, String constants, statics, the script -/
def lp_Env (base : Nat) (D : va_G) (dA : Nat → ClassId) (sv : Nat → Value) (b L : Nat) (xs : Nat → Int32) (U : State) : Prop :=
  va_K D lp_cl (lp_tys dA) U ∧ base ≤ U.heap.size ∧ (∀ k, (sv k).category = 1) ∧
  (∃ adK adV : Nat → Nat, vk_S 18 lp_len lp_sb adK adV (lp_A base) U U.heap ∧ ∀ k, k < 18 → sv k = .ref (adK k) ∧ sv (100 + k) = .ref (adV k) ∧ vk_R (lp_cn (lp_so k).1) (lp_so k).2.1 (lp_so k).2.2 (adK k) U) ∧
  va_Z "java/lang/String" "COMPACT_STRINGS" "Z" (.int 1) (lp_A base) U U.heap ∧
  va_Z "jdk/internal/util/Preconditions" "SIOOBE_FORMATTER" "Ljava/util/function/BiFunction;" (sv 200) (lp_A base) U U.heap ∧
  (sv 300 = .ref b ∧ b < base ∧ L < 2 ^ 31 ∧ va_X b L xs U U.heap) ∧ (∀ p own i x h, lp_wd p = some (.methodLinkNest own i x h) → va_Nw (.methodLinkNest own i x h) U) ∧ va_AO "LampPresses$Net" U ∧ lp_AOA U
theorem lp_Env.to {base : Nat} {D : va_G} {dA : Nat → ClassId} {sv : Nat → Value} {b L : Nat} {xs : Nat → Int32} {s U : State} (h : lp_Env base D dA sv b L xs s) (hvm : s.vm.Alike U.vm) (hsz : s.heap.size ≤ U.heap.size) (hq : ∀ q : Nat, q < s.heap.size → ¬ lp_A base q → U.heap[q]? = s.heap[q]?)
    (hR : ∀ own k tx a, vk_R own k tx a s → vk_R own k tx a U) (hN : ∀ own i x h, va_Nw (.methodLinkNest own i x h) s → va_Nw (.methodLinkNest own i x h) U) : lp_Env base D dA sv b L xs U := by
  obtain ⟨h1, h2, h3, ⟨adK, adV, h4, h5⟩, h6, h7, ⟨h8, h9, h10, h11⟩, h12, h13, h14⟩ := h
  have hb : b < s.heap.size := by
    obtain ⟨scr, hs, -⟩ := h11
    exact (Array.getElem?_eq_some_iff.mp hs).1
  exact ⟨h1.moved hvm, Nat.le_trans h2 hsz, h3, ⟨adK, adV, (h4.moved hvm).kept hq, fun k hk => ⟨(h5 k hk).1, (h5 k hk).2.1, hR _ _ _ _ (h5 k hk).2.2⟩⟩, (h6.moved hvm).kept hq, (h7.moved hvm).kept hq, ⟨h8, h9, h10,
    (h11.moved hvm).kept (hq b hb (Nat.not_le.mpr h9))⟩, fun p own i x h hw => hN _ _ _ _ (h12 p own i x h hw), h13.moved hvm, h14.moved hvm⟩
theorem lp_Env.call {base : Nat} {D : va_G} {dA : Nat → ClassId} {sv : Nat → Value} {b L : Nat} {xs : Nat → Int32} {s U : State} {H : Heap} {locs : List Loc} (h : lp_Env base D dA sv b L xs s) (hS : va_S (lp_A base) s.heap H locs) (hU : U.heap = H) (hW : s.WarmedH U.vm) : lp_Env base D dA sv b L xs U :=
  h.to hW.alike (by rw [hU]; exact hS.1) (fun q h1 h2 => by rw [hU]; exact hS.2.1 q h1 h2) (fun _ _ _ _ h => h.warm hW) (fun _ _ _ _ h => h.warmM hW)
theorem lp_Env.blind {base : Nat} {D : va_G} {dA : Nat → ClassId} {sv : Nat → Value} {b L : Nat} {xs : Nat → Int32} {U : State} {g : JFrame} {mk : MethodId} {a : Array Value} (h : lp_Env base D dA sv b L xs U) : lp_Env base D dA sv b L xs (U.calling g mk a) :=
  h.to (Vm.Alike.refl U.vm) (Nat.le_refl _) (fun _ _ _ => rfl) (fun _ _ _ _ h => h.same rfl) (fun _ _ _ _ h => va_Nw.same rfl rfl h)
/-- a method's start: its arguments, the cells, what stands outside -/
def lp_Pc (base : Nat) (D : va_G) (dA : Nat → ClassId) (sv : Nat → Value) (b L : Nat) (xs : Nat → Int32) (as : List Value) (st : lp_S) : Array Value → State → Prop :=
  va_Pc (as.map (lp_rl base sv)) fun U => U.heap.size = base + st.1 ∧ va_P D lp_cl (lp_ws base dA st) U.heap ∧ lp_Env base D dA sv b L xs U ∧ lp_Scr L xs st
/-- the cells behind it -/
def lp_B (base : Nat) (D : va_G) (dA : Nat → ClassId) (st : lp_S) : Unit → State → Prop := fun _ t => va_P D lp_cl (lp_ws base dA st) t.heap
/-- a method's end: its answer (if it has one), the cells -/
def lp_Qc (base : Nat) (D : va_G) (dA : Nat → ClassId) (L : Nat) (xs : Nat → Int32) (rt : Option FieldType) (r : Int32 × lp_S) : Array Value → State → Outcome → State → Prop :=
  match rt with
  | none => va_Qv (fun _ : Unit => lp_Scr L xs r.2) (lp_B base D dA r.2) (lp_A base)
  | some _ => va_Qi (fun x (_ : Unit) => x = r.1 ∧ lp_Scr L xs r.2) (lp_B base D dA r.2) (lp_A base)
def lp_wsm (m : Nat) : List Cond := .code (lp_y m) (lp_b m) (lp_mx m) (lp_rt m) :: lp_gt
def lp_rm (d mc ms : Nat) : Room := { frames := d + 2, cells := mc, slots := ms, locals := 100 * d + 200 }
/-- the contract of a run -/
def lp_Met (l : Launch) (base : Nat) (D : va_G) (dA : Nat → ClassId) (sv : Nat → Value) (b L : Nat) (xs : Nat → Int32) (d m : Nat) (as : List Value) (st : lp_S) (r : Int32 × lp_S) : Prop :=
  Met l (lp_y m) (lp_wsm m) (lp_rm d (r.2.1 - st.1) (lp_sl r.2.1 - lp_sl st.1)) (lp_Pc base D dA sv b L xs as st) (lp_Qc base D dA L xs (lp_rt m) r) (r.2.1 - st.1) (lp_sl r.2.1 - lp_sl st.1) (lp_A base)
theorem lp_code_in {m : Nat} (h : m < 293) : Cond.code (lp_y m) (lp_b m) (lp_mx m) (lp_rt m) ∈ lp_gt := lp_gt_in (lp_code_all m h) rfl
theorem lp_GoodIn {m : Nat} (h : m < 293) : GoodIn lp_gt (lp_wsm m) := by
  have hall : ∀ w ∈ lp_gt, (w.onTables && w.keeps) = true ∨ ∃ ty, w = .arrayClass ty := fun w hw => good_of_word (List.mem_filter.mp hw).2
  intro w hw
  rcases List.mem_cons.mp hw with e | e
  · rw [e]
    exact ⟨lp_code_in h, hall _ (lp_code_in h)⟩
  · exact ⟨e, hall w e⟩
theorem lp_ini_in {c : Nat} (h : c < 20) : Cond.initialized (lp_cn c) ∈ lp_gt := lp_gt_in (lp_ini_ok c h) rfl
theorem lp_hing (c : Nat) (hc : c < 11) : ∀ w ∈ u_ws (lp_cn c) (lp_T c) (lp_nf c), w ∈ lp_gt := fun w hw => by
  obtain ⟨k, hk, rfl⟩ := List.mem_map.mp hw
  refine lp_gt_in (lp_lay_ok c hc k (List.mem_range.mp hk)) ?_
  unfold u_lay
  split <;> rfl
/-- 'selects' of a virtual method -/
theorem lp_sel_in {m : Nat} (h : m < 293) (hk : lp_kd m = 0 ∨ lp_kd m = 4) : Cond.selects (lp_y m).cls (lp_y m) (lp_y m) ∈ lp_gt := by
  rcases hk with hk | hk
  · exact lp_gt_in (lp_sel_ok m h hk) rfl
  · have h1 := lp_prv_ok m h hk
    cases hq : lw_privs[lp_sp m]? with
    | none => rw [hq] at h1; cases h1
    | some x =>
      rw [hq] at h1
      have e : x.1 = lp_y m := Option.some.inj h1
      refine List.mem_filter.mpr ⟨List.mem_append_left _ (List.mem_map.mpr ⟨x, List.mem_of_getElem? hq, ?_⟩), rfl⟩
      rw [e]
theorem lp_Env.ref {base : Nat} {D : va_G} {dA : Nat → ClassId} {sv : Nat → Value} {b L : Nat} {xs : Nat → Int32} {U : State} (h : lp_Env base D dA sv b L xs U) {v : Nat} (hv : v < 18 ∨ (100 ≤ v ∧ v < 118) ∨ v = 300) : ∃ x, sv v = .ref x := by
  obtain ⟨-, -, -, ⟨adK, adV, -, h5⟩, -, -, ⟨h8, -⟩, -⟩ := h
  rcases hv with hv | hv | hv
  · exact ⟨_, (h5 v hv).1⟩
  · have e : v = 100 + (v - 100) := by omega
    rw [e]
    exact ⟨_, (h5 (v - 100) (by omega)).2.1⟩
  · exact ⟨_, by rw [hv]; exact h8⟩
theorem lp_dflt : ∀ c, c < 11 → ∀ k, k < lp_nf c → defaultValue (lp_ty c k) = (if lp_isR c k = true then .null else .int 0) := by decide +kernel
theorem lp_refty : ∀ c, c < 11 → ∀ k, k < lp_nf c → lp_isR c k = true → ∀ a : Nat, narrow (lp_ty c k) (.ref a) = .ref a ∧ fits (lp_ty c k) (.ref a) = true := by
  have h : ∀ c, c < 11 → ∀ k, k < lp_nf c → lp_isR c k = true → (match lp_ty c k with | .object _ => true | .array _ => true | _ => false) = true := by decide +kernel
  intro c hc k hk hr a
  have h1 := h c hc k hk hr
  cases hq : lp_ty c k <;> rw [hq] at h1 <;> first | exact ⟨rfl, rfl⟩ | cases h1
