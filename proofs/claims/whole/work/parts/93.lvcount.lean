/-! ===== levels: rows as numbers, counted ===== -/
/-- lamps of a kind among the first n, listed -/
def lp_Lm (n K : Nat) (lam : Nat → Nat) (P : Nat → Prop) : Prop := (∀ k, k < K → lam k < n ∧ P (lam k)) ∧ (∀ a b, a < K → b < K → lam a = lam b → a = b) ∧ ∀ j, j < n → P j → ∃ k, k < K ∧ lam k = j
theorem lp_Lm_y {n K : Nat} {lam : Nat → Nat} {P : Nat → Prop} (h : lp_Lm n K lam P) (hp : P n) : lp_Lm (n + 1) (K + 1) (fun k => if k = K then n else lam k) P := by
  obtain ⟨h1, h2, h3⟩ := h
  refine ⟨fun k hk => ?_, fun a b ha hb e => ?_, fun j hj hpj => ?_⟩
  · by_cases e : k = K
    · show (if k = K then n else lam k) < n + 1 ∧ P (if k = K then n else lam k)
      rw [if_pos e]; exact ⟨by omega, hp⟩
    · show (if k = K then n else lam k) < n + 1 ∧ P (if k = K then n else lam k)
      rw [if_neg e]
      have := h1 k (by omega)
      exact ⟨by omega, this.2⟩
  · have e' : (if a = K then n else lam a) = (if b = K then n else lam b) := e
    by_cases ea : a = K
    · by_cases eb : b = K
      · omega
      · rw [if_pos ea, if_neg eb] at e'
        have := (h1 b (by omega)).1
        omega
    · by_cases eb : b = K
      · rw [if_neg ea, if_pos eb] at e'
        have := (h1 a (by omega)).1
        omega
      · rw [if_neg ea, if_neg eb] at e'
        exact h2 a b (by omega) (by omega) e'
  · by_cases e : j = n
    · exact ⟨K, by omega, by show (if K = K then n else lam K) = j; rw [if_pos rfl, e]⟩
    · obtain ⟨k, k1, k2⟩ := h3 j (by omega) hpj
      exact ⟨k, by omega, by show (if k = K then n else lam k) = j; rw [if_neg (by omega)]; exact k2⟩
theorem lp_Lm_n {n K : Nat} {lam : Nat → Nat} {P : Nat → Prop} (h : lp_Lm n K lam P) (hp : ¬ P n) : lp_Lm (n + 1) K lam P := by
  obtain ⟨h1, h2, h3⟩ := h
  refine ⟨fun k hk => ⟨by have := (h1 k hk).1; omega, (h1 k hk).2⟩, h2, fun j hj hpj => ?_⟩
  by_cases e : j = n
  · rw [e] at hpj; exact absurd hpj hp
  · exact h3 j (by omega) hpj
/-- a row that presses the listed lamps as the digits of u say -/
def lp_kw (M : Nat) (lam : Nat → Nat) (K u j : Nat) : Nat := lp_sm (fun k => if lam k = j then lp_dgt M K u k else 0) K
theorem lp_dgt_s {M K u k : Nat} (hk : k < K) : lp_dgt M (K + 1) u k = lp_dgt M K (u / M) k := by
  unfold lp_dgt
  have z : K + 1 - 1 - k = (K - 1 - k) + 1 := by omega
  rw [z, Nat.pow_succ, Nat.mul_comm (M ^ (K - 1 - k)) M, ← Nat.div_div_eq_div_mul]
theorem lp_dgt_e {M K u : Nat} : lp_dgt M (K + 1) u K = u % M := by
  unfold lp_dgt
  have z : K + 1 - 1 - K = 0 := by omega
  rw [z, Nat.pow_zero, Nat.div_one]
theorem lp_kw_s (M : Nat) (lam : Nat → Nat) (K u j : Nat) : lp_kw M lam (K + 1) u j = lp_kw M lam K (u / M) j + (if lam K = j then u % M else 0) := by
  unfold lp_kw
  rw [lp_sm_s, lp_dgt_e, lp_sm_congr (f := fun k => if lam k = j then lp_dgt M (K + 1) u k else 0) (f' := fun k => if lam k = j then lp_dgt M K (u / M) k else 0) fun k hk => by rw [lp_dgt_s hk]]
theorem lp_kw_at {M K u k : Nat} {lam : Nat → Nat} (hi : ∀ a b, a < K → b < K → lam a = lam b → a = b) (hk : k < K) : lp_kw M lam K u (lam k) = lp_dgt M K u k := by
  unfold lp_kw
  rw [lp_sm_one (f := fun i => if lam i = lam k then lp_dgt M K u i else 0) hk (fun i hi' hne => if_neg fun z => hne (hi i k hi' hk z))]
  exact if_pos rfl
theorem lp_kw_0 {M K u j : Nat} {lam : Nat → Nat} (h : ∀ k, k < K → lam k ≠ j) : lp_kw M lam K u j = 0 := lp_sm_zero.mpr fun k hk => if_neg (h k hk)
theorem lp_kw_lt {M K u j : Nat} {lam : Nat → Nat} (hM : 0 < M) (hi : ∀ a b, a < K → b < K → lam a = lam b → a = b) : lp_kw M lam K u j < M := by
  by_cases e : ∃ k, k < K ∧ lam k = j
  · obtain ⟨k, k1, k2⟩ := e
    rw [← k2, lp_kw_at hi k1]
    exact lp_dgt_lt hM
  · rw [lp_kw_0 fun k hk z => e ⟨k, hk, z⟩]; exact hM
theorem lp_kw_cg {M K u j : Nat} {lam lam' : Nat → Nat} (h : ∀ k, k < K → lam k = lam' k) : lp_kw M lam K u j = lp_kw M lam' K u j := lp_sm_congr fun k hk => by rw [h k hk]
/-- each row does what a listed one does -/
theorem lp_kw_rep {M n rk K : Nat} {A L D : Nat → Nat → Nat} {ro lam : Nat → Nat} (hM : lp_pr M) (hn : n ≤ 10) (h : lp_RF M n (lp_LT A) rk ro L D) (hl : lp_Lm n K lam (fun j => ro j < 10)) (x : Nat → Nat) : ∃ u, u < M ^ K ∧ lp_Eq9 M n A x (lp_kw M lam K u) := by
  have hM2 := (lp_prBd hM).1
  have ft : lp_fit M n rk D (lp_eff (lp_LT A) n x) := (lp_RF_fit hn h).mpr ⟨x, fun j hj => by omega, fun _ _ => rfl⟩
  have so := lp_RF_sol hn h ft
  have lt : ∀ j, lp_fr M n ro D (lp_eff (lp_LT A) n x) j < M := fun j => by
    unfold lp_fr
    split
    · exact Nat.mod_lt _ (by omega)
    · omega
  refine ⟨lp_hv M (fun k => lp_fr M n ro D (lp_eff (lp_LT A) n x) (lam k)) K, lp_hv_lt K fun k _ => lt _, ?_⟩
  refine lp_Eq9_tr (lp_Eq9_sy so) (lp_Eq9_cg fun j hj => ?_)
  by_cases hp : ro j < 10
  · obtain ⟨k, k1, k2⟩ := hl.2.2 j hj hp
    rw [← k2, lp_kw_at hl.2.1 k1, lp_dgt_hv (by omega) K (f := fun k => lp_fr M n ro D (lp_eff (lp_LT A) n x) (lam k)) (fun k _ => lt _) k k1]
  · have z0 : lp_kw M lam K (lp_hv M (fun k => lp_fr M n ro D (lp_eff (lp_LT A) n x) (lam k)) K) j = 0 := lp_kw_0 fun k hk z => hp (z ▸ (hl.1 k hk).2)
    rw [z0]
    exact if_neg hp
theorem lp_kw_inj {M n rk K u v : Nat} {A L D : Nat → Nat → Nat} {ro lam : Nat → Nat} (hM : lp_pr M) (h : lp_RF M n (lp_LT A) rk ro L D) (hl : lp_Lm n K lam (fun j => ro j < 10)) (hu : u < M ^ K) (hv : v < M ^ K) (e : lp_Eq9 M n A (lp_kw M lam K u) (lp_kw M lam K v)) : u = v := by
  have hM2 := (lp_prBd hM).1
  have z : ∀ w j, ¬ ro j < 10 → lp_kw M lam K w j = 0 := fun w j hp => lp_kw_0 fun k hk z => hp (z ▸ (hl.1 k hk).2)
  have un := lp_RF_uniq hM h (fun j hj hp => by rw [z u j hp, z v j hp]) e
  refine lp_way_ext (M := M) (n := K) (by omega) hu hv fun k hk => ?_
  have a := un (lam k) (hl.1 k hk).1
  rw [lp_kw_at hl.2.1 hk, lp_kw_at hl.2.1 hk, Nat.mod_eq_of_lt (lp_dgt_lt (by omega)), Nat.mod_eq_of_lt (lp_dgt_lt (by omega))] at a
  exact a
/-- ways of a level are counted by the listed rows -/
theorem lp_lv_cnt {M n rk K : Nat} {A L D : Nat → Nat → Nat} {ro lam : Nat → Nat} (hM : lp_pr M) (hn : n ≤ 10) (h : lp_RF M n (lp_LT A) rk ro L D) (hl : lp_Lm n K lam (fun j => ro j < 10)) (S : Nat → Nat) (k : Nat) : lp_cc (fun w => lp_Lev M n A S w k) (M ^ n) = lp_cc (fun u => lp_lf M n A (lp_kw M lam K u) = k) (M ^ K) := by
  have hM2 := (lp_prBd hM).1
  have e := lp_cc_inj (P := fun w => lp_Lev M n A S w k) (φ := fun u => lp_to M n A S (lp_kw M lam K u)) (K := M ^ n) (M ^ K) (fun a _ => lp_to_lt (by omega)) (fun a b ha hb hab => lp_kw_inj hM h hl ha hb ((lp_to_E hM).mp hab))
  have e1 : lp_cc (fun u => lp_lf M n A (lp_kw M lam K u) = k) (M ^ K) = lp_cc (fun u => lp_Lev M n A S (lp_to M n A S (lp_kw M lam K u)) k) (M ^ K) := lp_cc_cg fun u _ => (lp_Lev_lf hM).symm
  rw [e1]
  refine Eq.trans (lp_cc_cg fun w hw => ⟨fun z => ⟨z, ?_⟩, fun z => z.1⟩) e.symm
  obtain ⟨⟨x, x1, _⟩, _⟩ := z
  obtain ⟨u, u1, u2⟩ := lp_kw_rep hM hn h hl x
  exact ⟨u, u1, by rw [← x1]; exact (lp_to_E hM).mpr (lp_Eq9_sy u2)⟩
/-! counting in blocks -/
noncomputable def lp_b1 (p : Prop) : Nat := @ite Nat p (Classical.propDecidable p) 1 0
theorem lp_cc_sm (p : Nat → Prop) (n : Nat) : lp_cc p n = lp_sm (fun i => lp_b1 (p i)) n := rfl
theorem lp_sm_app (f : Nat → Nat) (a : Nat) : ∀ m, lp_sm f (a + m) = lp_sm f a + lp_sm (fun i => f (a + i)) m := by
  intro m
  induction m with
  | zero => rfl
  | succ m ih =>
    show lp_sm f (a + m + 1) = _
    rw [lp_sm_s, ih, lp_sm_s, Nat.add_assoc]
theorem lp_cc_blk (Q : Nat → Nat → Prop) {M : Nat} (hM : 0 < M) : ∀ N, lp_cc (fun u => Q (u / M) (u % M)) (M * N) = lp_sm (fun t => lp_cc (fun v => Q v t) N) M := by
  intro N
  induction N with
  | zero =>
    rw [Nat.mul_zero, lp_cc_0]
    exact (lp_sm_zero.mpr fun t _ => rfl).symm
  | succ N ih =>
    have e1 : lp_cc (fun u => Q (u / M) (u % M)) (M * N + M) = lp_cc (fun u => Q (u / M) (u % M)) (M * N) + lp_sm (fun i => lp_b1 (Q ((M * N + i) / M) ((M * N + i) % M))) M := lp_sm_app _ _ _
    have e2 : lp_sm (fun i => lp_b1 (Q ((M * N + i) / M) ((M * N + i) % M))) M = lp_sm (fun i => lp_b1 (Q N i)) M := lp_sm_congr fun i hi => by
      rw [Nat.mul_add_div hM, Nat.div_eq_of_lt hi, Nat.add_zero, Nat.mul_add_mod, Nat.mod_eq_of_lt hi]
    rw [Nat.mul_succ, e1, ih, e2, ← lp_sm_add]
    rfl
/-- one steady lamp more -/
theorem lp_lf_sp {M n K u : Nat} {A : Nat → Nat → Nat} {lam : Nat → Nat} (hM : lp_pr M) (hi : ∀ a b, a < K + 1 → b < K + 1 → lam a = lam b → a = b) (hl : lam K < n) (hst : lp_std M n A (lam K)) : lp_lf M n A (lp_kw M lam (K + 1) u) = lp_lf M n A (lp_kw M lam K (u / M)) + u % M := by
  have hM2 := (lp_prBd hM).1
  have e : lp_kw M lam (K + 1) u = fun j => lp_kw M lam K (u / M) j + (if lam K = j then u % M else 0) := funext fun j => lp_kw_s ..
  rw [e]
  exact lp_lf_std hM hl (Nat.mod_lt _ (by omega)) hst (lp_kw_0 fun k hk z => by have := hi k K (by omega) (by omega) z; omega)
theorem lp_sprd {M n K k : Nat} {A : Nat → Nat → Nat} {lam : Nat → Nat} (hM : lp_pr M) (hi : ∀ a b, a < K + 1 → b < K + 1 → lam a = lam b → a = b) (hl : lam K < n) (hst : lp_std M n A (lam K)) :
    lp_cc (fun u => lp_lf M n A (lp_kw M lam (K + 1) u) = k) (M ^ (K + 1)) = lp_sm (fun t => if t ≤ k then lp_cc (fun v => lp_lf M n A (lp_kw M lam K v) = k - t) (M ^ K) else 0) M := by
  have hM2 := (lp_prBd hM).1
  have e1 : lp_cc (fun u => lp_lf M n A (lp_kw M lam (K + 1) u) = k) (M ^ (K + 1)) = lp_cc (fun u => (fun v t => lp_lf M n A (lp_kw M lam K v) + t = k) (u / M) (u % M)) (M * M ^ K) := by
    rw [Nat.pow_succ, Nat.mul_comm (M ^ K) M]
    exact lp_cc_cg fun u _ => by rw [lp_lf_sp hM hi hl hst]
  rw [e1, lp_cc_blk (fun v t => lp_lf M n A (lp_kw M lam K v) + t = k) (M := M) (by omega)]
  refine lp_sm_congr fun t _ => ?_
  by_cases e : t ≤ k
  · rw [if_pos e]
    exact lp_cc_cg fun v _ => ⟨fun z => by omega, fun z => by omega⟩
  · rw [if_neg e]
    exact lp_cc_zero fun v _ z => by omega
/-- where the levels are greatest -/
def lp_zz (M : Nat) (lam : Nat → Nat) (τ i j : Nat) : Nat := lp_sm (fun k => if lam (τ + k) = j then M - 1 else 0) i
theorem lp_mxx {M n τ D0 : Nat} {A : Nat → Nat → Nat} {lam : Nat → Nat} (hM : lp_pr M) (hD : ∀ t, t < M ^ τ → lp_lf M n A (lp_kw M lam τ t) ≤ D0) :
    ∀ i, (∀ a b, a < τ + i → b < τ + i → lam a = lam b → a = b) → (∀ k, k < i → lam (τ + k) < n ∧ lp_std M n A (lam (τ + k))) → ∀ u, u < M ^ (τ + i) → lp_lf M n A (lp_kw M lam (τ + i) u) ≤ D0 + i * (M - 1) ∧ (lp_lf M n A (lp_kw M lam (τ + i) u) = D0 + i * (M - 1) → ∃ t, t < M ^ τ ∧ lp_lf M n A (lp_kw M lam τ t) = D0 ∧ ∀ j, lp_kw M lam (τ + i) u j = lp_kw M lam τ t j + lp_zz M lam τ i j) := by
  have hM2 := (lp_prBd hM).1
  intro i
  induction i with
  | zero =>
    intro _ _ u hu
    rw [Nat.zero_mul, Nat.add_zero]
    refine ⟨hD u hu, fun z => ⟨u, hu, z, fun j => ?_⟩⟩
    rfl
  | succ i ih =>
    intro hi hs u hu
    have e := lp_lf_sp (u := u) hM (K := τ + i) (fun a b ha hb => hi a b (by omega) (by omega)) (hs i (by omega)).1 (hs i (by omega)).2
    have e' : lp_lf M n A (lp_kw M lam (τ + (i + 1)) u) = lp_lf M n A (lp_kw M lam (τ + i) (u / M)) + u % M := e
    have ul : u / M < M ^ (τ + i) := by
      rw [Nat.div_lt_iff_lt_mul (by omega)]
      have : M ^ (τ + (i + 1)) = M ^ (τ + i) * M := Nat.pow_succ ..
      omega
    obtain ⟨i1, i2⟩ := ih (fun a b ha hb => hi a b (by omega) (by omega)) (fun k hk => hs k (by omega)) (u / M) ul
    have um : u % M < M := Nat.mod_lt _ (by omega)
    have mm : (i + 1) * (M - 1) = i * (M - 1) + (M - 1) := Nat.succ_mul ..
    rw [e', mm]
    refine ⟨by omega, fun z => ?_⟩
    obtain ⟨t, t1, t2, t3⟩ := i2 (by omega)
    refine ⟨t, t1, t2, fun j => ?_⟩
    have k1 : lp_kw M lam (τ + (i + 1)) u j = lp_kw M lam (τ + i) (u / M) j + (if lam (τ + i) = j then u % M else 0) := lp_kw_s ..
    have k2 : u % M = M - 1 := by omega
    rw [k1, t3 j, k2, Nat.add_assoc]
    rfl
theorem lp_mxx2 {M n τ t : Nat} {A : Nat → Nat → Nat} {lam : Nat → Nat} (hM : lp_pr M) :
    ∀ i, (∀ a b, a < τ + i → b < τ + i → lam a = lam b → a = b) → (∀ k, k < i → lam (τ + k) < n ∧ lp_std M n A (lam (τ + k))) → lp_lf M n A (fun j => lp_kw M lam τ t j + lp_zz M lam τ i j) = lp_lf M n A (lp_kw M lam τ t) + i * (M - 1) := by
  have hM2 := (lp_prBd hM).1
  intro i
  induction i with
  | zero =>
    intro _ _
    rw [Nat.zero_mul, Nat.add_zero]
    rfl
  | succ i ih =>
    intro hi hs
    have e : (fun j => lp_kw M lam τ t j + lp_zz M lam τ (i + 1) j) = fun j => (lp_kw M lam τ t j + lp_zz M lam τ i j) + (if lam (τ + i) = j then M - 1 else 0) := funext fun j => (Nat.add_assoc ..).symm
    have z0 : lp_kw M lam τ t (lam (τ + i)) + lp_zz M lam τ i (lam (τ + i)) = 0 := by
      have a : lp_kw M lam τ t (lam (τ + i)) = 0 := lp_kw_0 fun k hk z => by have := hi k (τ + i) (by omega) (by omega) z; omega
      have b : lp_zz M lam τ i (lam (τ + i)) = 0 := lp_sm_zero.mpr fun k hk => if_neg fun z => by have := hi (τ + k) (τ + i) (by omega) (by omega) z; omega
      omega
    rw [e, lp_lf_std (x := fun j => lp_kw M lam τ t j + lp_zz M lam τ i j) hM (hs i (by omega)).1 (by omega) (hs i (by omega)).2 z0, ih (fun a b ha hb => hi a b (by omega) (by omega)) (fun k hk => hs k (by omega)), Nat.succ_mul]
    omega
