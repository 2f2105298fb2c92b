/-! ===== what the elimination tells; spans: pure ===== -/
/-- the elimination, done -/
def lp_RF (M n : Nat) (L0 : Nat → Nat → Nat) (rk : Nat) (ro : Nat → Nat) (L D : Nat → Nat → Nat) : Prop := lp_RS M n L0 0 rk ro L D
theorem lp_RF_x {M n rk : Nat} {L0 L D : Nat → Nat → Nat} {ro : Nat → Nat} (h : lp_RF M n L0 rk ro L D) (x : Nat → Nat) (i : Nat) (hi : i < n) : lp_dt (D i) (lp_eff L0 n x) n % M = lp_dt (L i) x n % M := by
  have e : lp_dt (D i) (lp_eff L0 n x) n = lp_dt (fun j => lp_dt (D i) (fun k => L0 k j) n) x n := lp_dt_asc _ _ _ _
  rw [e]
  exact lp_dt_mod (fun j hj => (h.1.2.1 i j hi hj).symm) (fun _ _ => rfl)
/-- rows that press the chosen lamps alike and do the same are the same -/
theorem lp_RF_uniq {M n rk : Nat} {L0 L D : Nat → Nat → Nat} {ro x y : Nat → Nat} (hM : lp_pr M) (h : lp_RF M n L0 rk ro L D) (hf : ∀ j, j < n → ¬ ro j < 10 → x j % M = y j % M) (he : ∀ i, i < n → lp_eff L0 n x i % M = lp_eff L0 n y i % M) : ∀ j, j < n → x j % M = y j % M := by
  intro j hj
  by_cases hp : ro j < 10
  · obtain ⟨q1, q2, q3, q4⟩ := h.2.1 j (by omega) hj hp
    have hi : ro j < n := by have := h.2.2.2.1; omega
    have e : lp_dt (L (ro j)) x n % M = lp_dt (L (ro j)) y n % M := by
      rw [← lp_RF_x h x _ hi, ← lp_RF_x h y _ hi]
      exact lp_dt_mod (fun _ _ => rfl) he
    -- split off place j
    have sp : ∀ z : Nat → Nat, lp_dt (L (ro j)) z n = lp_dt (L (ro j)) (fun k => if k = j then 0 else z k) n + z j := by
      intro z
      have e1 : lp_dt (L (ro j)) z n = lp_dt (L (ro j)) (fun k => (if k = j then 0 else z k) + (if k = j then z j else 0)) n := by
        refine lp_sm_congr fun k _ => ?_
        by_cases e : k = j
        · simp only [e, if_true, Nat.zero_add]
        · simp only [e, if_false, Nat.add_zero]
      rw [e1, lp_dt_add, lp_dt_one (a := L (ro j)) (x := fun k => if k = j then z j else 0) hj (fun k _ hne => .inr (if_neg hne)), if_pos rfl, q2, Nat.one_mul]
    rw [sp x, sp y] at e
    have e2 : lp_dt (L (ro j)) (fun k => if k = j then 0 else x k) n % M = lp_dt (L (ro j)) (fun k => if k = j then 0 else y k) n % M := by
      refine lp_sm_mod fun k hk => ?_
      by_cases e : k = j
      · simp only [e, if_true]
      · simp only [e, if_false]
        by_cases hpk : ro k < 10
        · obtain ⟨w1, w2, w3, w4⟩ := h.2.1 k (by omega) hk hpk
          have hne : ro j ≠ ro k := by
            intro z
            by_cases lt : j < k
            · have := q4 k lt hk
              rw [z, w2] at this
              omega
            · have := w4 j (by omega) hj
              rw [← z, q2] at this
              omega
          rw [w3 (ro j) hi hne, Nat.zero_mul, Nat.zero_mul]
        · exact lp_eq_mul rfl (hf k hk hpk)
    exact lp_cancel hM (by rw [Nat.add_comm (x j), Nat.add_comm (y j)]; exact e) e2
  · exact hf j hj hp
def lp_fit (M n rk : Nat) (D : Nat → Nat → Nat) (c : Nat → Nat) : Prop := ∀ i, rk ≤ i → i < n → lp_dt (D i) c n % M = 0
def lp_fr (M n : Nat) (ro : Nat → Nat) (D : Nat → Nat → Nat) (c : Nat → Nat) (j : Nat) : Nat := if ro j < 10 then lp_dt (D (ro j)) c n % M else 0
/-- the first row solves, if the change fits -/
theorem lp_RF_sol {M n rk : Nat} {L0 L D : Nat → Nat → Nat} {ro c : Nat → Nat} (hn : n ≤ 10) (h : lp_RF M n L0 rk ro L D) (hf : lp_fit M n rk D c) : ∀ i, i < n → lp_eff L0 n (lp_fr M n ro D c) i % M = c i % M := by
  refine h.1.2.2 _ _ fun i hi => ?_
  rw [lp_RF_x h _ i hi]
  by_cases hr : i < rk
  · obtain ⟨j, _, j2, j3⟩ := h.2.2.2.2.2 i hr
    have hn10 : ro j < 10 ∨ ¬ ro j < 10 := by omega
    rcases hn10 with hp | hp
    · obtain ⟨q1, q2, q3, q4⟩ := h.2.1 j (by omega) j2 hp
      rw [lp_dt_one (k := j) j2, ← j3, q2, Nat.one_mul]
      · show (if ro j < 10 then _ else _) % M = _
        rw [if_pos hp, Nat.mod_mod]
      · intro k hk hne
        by_cases hpk : ro k < 10
        · obtain ⟨w1, w2, w3, w4⟩ := h.2.1 k (by omega) hk hpk
          left
          refine w3 i hi ?_
          intro z
          rw [← j3] at z
          by_cases lt : j < k
          · have := q4 k lt hk
            rw [z, w2] at this
            omega
          · have := w4 j (by omega) j2
            rw [← z, q2] at this
            omega
        · right; exact if_neg hpk
    · -- a row is of a place below 10
      exfalso
      have z := h.2.2.2.2.1
      have hle : lp_cnt (fun j => 0 ≤ j ∧ ro j < 10) n ≤ n := lp_cnt_le _ _
      have := h.2.2.2.1
      omega
  · rw [hf i (by omega) hi, lp_dt_zero, Nat.zero_mod]
    intro j hj
    left
    exact h.2.2.1 i j (by omega) hi (by omega) hj
theorem lp_RF_fit {M n rk : Nat} {L0 L D : Nat → Nat → Nat} {ro c : Nat → Nat} (hn : n ≤ 10) (h : lp_RF M n L0 rk ro L D) : lp_fit M n rk D c ↔ lp_InS M n L0 0 c := by
  constructor
  · intro hf
    exact ⟨_, fun j hj => by omega, lp_RF_sol hn h hf⟩
  · rintro ⟨x, _, hx⟩ i i1 i2
    have e : lp_dt (D i) c n % M = lp_dt (D i) (lp_eff L0 n x) n % M := lp_dt_mod (fun _ _ => rfl) (fun j hj => (hx j hj).symm)
    rw [e, lp_RF_x h x i i2, lp_dt_zero, Nat.zero_mod]
    intro j hj
    left
    exact h.2.2.1 i j i1 i2 (by omega) hj
/-- the quiet row of a chosen lamp -/
def lp_bs (M : Nat) (ro : Nat → Nat) (L : Nat → Nat → Nat) (f j : Nat) : Nat := if j = f then 1 else if ro j < 10 then (M - L (ro j) f) % M else 0
theorem lp_RF_base {M n rk f : Nat} {L0 L D : Nat → Nat → Nat} {ro : Nat → Nat} (hM : lp_pr M) (hn : n ≤ 10) (h : lp_RF M n L0 rk ro L D) (hf : f < n) (hp : ¬ ro f < 10) : (∀ j, j < f → lp_bs M ro L f j = 0) ∧ ∀ i, i < n → lp_eff L0 n (lp_bs M ro L f) i % M = 0 := by
  constructor
  · intro j hj
    unfold lp_bs
    rw [if_neg (by omega)]
    by_cases hpj : ro j < 10
    · obtain ⟨q1, q2, q3, q4⟩ := h.2.1 j (by omega) (by omega) hpj
      rw [if_pos hpj, q4 f hj hf, Nat.sub_zero, Nat.mod_self]
    · rw [if_neg hpj]
  · have key : ∀ i, i < n → lp_eff L0 n (lp_bs M ro L f) i % M = (fun _ => 0) i % M := by
      refine h.1.2.2 _ _ fun i hi => ?_
      rw [lp_RF_x h _ i hi]
      have e0 : lp_dt (D i) (fun _ => 0) n = 0 := lp_dt_zero fun j _ => .inr rfl
      rw [e0, Nat.zero_mod]
      have sp : lp_dt (L i) (lp_bs M ro L f) n = lp_dt (L i) (fun k => if k = f then 0 else lp_bs M ro L f k) n + L i f := by
        have e1 : lp_dt (L i) (lp_bs M ro L f) n = lp_dt (L i) (fun k => (if k = f then 0 else lp_bs M ro L f k) + (if k = f then 1 else 0)) n := by
          refine lp_sm_congr fun k _ => ?_
          by_cases e : k = f
          · have : lp_bs M ro L f f = 1 := if_pos rfl
            simp only [e, if_true, Nat.zero_add, this]
          · simp only [e, if_false, Nat.add_zero]
        rw [e1, lp_dt_add, lp_dt_one (a := L i) (x := fun k => if k = f then 1 else 0) hf (fun k _ hne => .inr (if_neg hne)), if_pos rfl, Nat.mul_one]
      rw [sp]
      by_cases hr : i < rk
      · obtain ⟨j, _, j2, j3⟩ := h.2.2.2.2.2 i hr
        have hp2 : ro j < 10 := by have := h.2.2.2.1; omega
        obtain ⟨q1, q2, q3, q4⟩ := h.2.1 j (by omega) j2 hp2
        have hjf : j ≠ f := fun e => hp (e ▸ hp2)
        rw [lp_dt_one (k := j) j2, ← j3, q2, Nat.one_mul, if_neg hjf]
        · have e : lp_bs M ro L f j = (M - L (ro j) f) % M := by unfold lp_bs; rw [if_neg hjf, if_pos hp2]
          have hb := (h.1.1 (ro j) f (by omega) hf).1
          rw [e, Nat.add_mod, Nat.mod_mod, ← Nat.add_mod, Nat.sub_add_cancel (by omega), Nat.mod_self]
        · intro k hk hne
          by_cases hpk : ro k < 10
          · obtain ⟨w1, w2, w3, w4⟩ := h.2.1 k (by omega) hk hpk
            left
            refine w3 i hi ?_
            intro z
            rw [← j3] at z
            by_cases lt : j < k
            · have := q4 k lt hk
              rw [z, w2] at this
              omega
            · have := w4 j (by omega) j2
              rw [← z, q2] at this
              omega
          · right
            show (if k = f then 0 else lp_bs M ro L f k) = 0
            by_cases e : k = f
            · exact if_pos e
            · rw [if_neg e]; unfold lp_bs; rw [if_neg e, if_neg hpk]
      · rw [h.2.2.1 i f (by omega) hi (by omega) hf, lp_dt_zero (fun j hj => .inl (h.2.2.1 i j (by omega) hi (by omega) hj)), Nat.zero_mod]
    intro i hi
    rw [key i hi, Nat.zero_mod]
/-- a lamp has a row if its step doesn't come about behind it -/
theorem lp_RF_piv {M n rk l : Nat} {L0 L D : Nat → Nat → Nat} {ro : Nat → Nat} (hM : lp_pr M) (hn : n ≤ 10) (h : lp_RF M n L0 rk ro L D) (hl : l < n) : ro l < 10 ↔ ¬ lp_InS M n L0 (l + 1) (fun i => L0 i l) := by
  constructor
  · rintro hp ⟨x, hx1, hx2⟩
    obtain ⟨q1, q2, q3, q4⟩ := h.2.1 l (by omega) hl hp
    have hi : ro l < n := by have := h.2.2.2.1; omega
    have e1 : lp_dt (L (ro l)) x n = 0 := lp_dt_zero fun j hj => by
      by_cases e : j < l + 1
      · exact .inr (hx1 j e)
      · exact .inl (q4 j (by omega) hj)
    have e2 := lp_RF_x h x (ro l) hi
    have e3 : lp_dt (D (ro l)) (lp_eff L0 n x) n % M = lp_dt (D (ro l)) (fun k => L0 k l) n % M := lp_dt_mod (fun _ _ => rfl) hx2
    have e4 := h.1.2.1 (ro l) l hi hl
    rw [q2, ← e3, e2, e1, lp_1M hM, Nat.zero_mod] at e4
    omega
  · intro hno
    refine Classical.byContradiction fun hp => hno ?_
    obtain ⟨b1, b2⟩ := lp_RF_base hM hn h hl hp
    -- col l = - sum of the others
    refine ⟨fun j => if j = l then 0 else (M - 1) * lp_bs M ro L l j, fun j hj => ?_, fun i hi => ?_⟩
    · show (if j = l then 0 else (M - 1) * lp_bs M ro L l j) = 0
      by_cases e : j = l
      · exact if_pos e
      · rw [if_neg e, b1 j (by omega), Nat.mul_zero]
    · have z := b2 i hi
      unfold lp_eff at z ⊢
      have e1 : lp_dt (L0 i) (lp_bs M ro L l) n = lp_dt (L0 i) (fun j => if j = l then 0 else lp_bs M ro L l j) n + L0 i l := by
        have e1 : lp_dt (L0 i) (lp_bs M ro L l) n = lp_dt (L0 i) (fun k => (if k = l then 0 else lp_bs M ro L l k) + (if k = l then 1 else 0)) n := by
          refine lp_sm_congr fun k _ => ?_
          by_cases e : k = l
          · have : lp_bs M ro L l l = 1 := if_pos rfl
            simp only [e, if_true, Nat.zero_add, this]
          · simp only [e, if_false, Nat.add_zero]
        rw [e1, lp_dt_add, lp_dt_one (a := L0 i) (x := fun k => if k = l then 1 else 0) hl (fun k _ hne => .inr (if_neg hne)), if_pos rfl, Nat.mul_one]
      have e2 : lp_dt (L0 i) (fun j => if j = l then 0 else (M - 1) * lp_bs M ro L l j) n = (M - 1) * lp_dt (L0 i) (fun j => if j = l then 0 else lp_bs M ro L l j) n := by
        rw [← lp_dt_mul]
        refine lp_sm_congr fun j _ => ?_
        by_cases e : j = l
        · simp only [e, if_true, Nat.mul_zero]
        · simp only [e, if_false]
      rw [e1] at z
      rw [e2]
      show _ = L0 i l % M
      generalize lp_dt (L0 i) (fun j => if j = l then 0 else lp_bs M ro L l j) n = w at *
      generalize L0 i l = b at *
      have hw : (w + (M - 1) * w) % M = 0 := lp_neg hM
      refine lp_cancel hM (c := w) (d := w) ?_ rfl
      rw [Nat.add_comm ((M - 1) * w), hw, Nat.add_comm b, z]
/-! spans as the model has them -/
def lp_pv (M n : Nat) (L : Nat → Nat → Nat) (l : Nat) : Prop := ¬ lp_InS M n L (l + 1) (fun i => L i l)
def lp_MS (M n : Nat) (L : Nat → Nat → Nat) (l : Nat) (B : Nat → Prop) (R : Nat → Nat → Nat) : Prop :=
  (∀ p, p < n → B p → R p p = 1 ∧ (∀ k, k < p → R p k = 0) ∧ (∀ k, k < n → R p k < M) ∧ lp_InS M n L l (R p)) ∧
  ∀ v, lp_InS M n L l v → (∀ p, p < n → B p → v p % M = 0) → ∀ i, i < n → v i % M = 0
theorem lp_MS0 {M n : Nat} {L : Nat → Nat → Nat} {B : Nat → Prop} {R : Nat → Nat → Nat} (hB : ∀ p, p < n → ¬ B p) : lp_MS M n L n B R :=
  ⟨fun p hp h => absurd h (hB p hp), fun v hv _ => lp_InS_end hv⟩
/-- nothing new -/
theorem lp_MS_no {M n l : Nat} {L : Nat → Nat → Nat} {B : Nat → Prop} {R : Nat → Nat → Nat} (hl : l < n) (h : lp_MS M n L (l + 1) B R) (hc : lp_InS M n L (l + 1) (fun i => L i l)) : lp_MS M n L l B R := by
  refine ⟨fun p hp hb => ?_, fun v hv hz => ?_⟩
  · obtain ⟨a, b, c, d⟩ := h.1 p hp hb
    exact ⟨a, b, c, lp_InS_le (by omega) d⟩
  · obtain ⟨a, s, h1, h2⟩ := lp_InS_dec hl hv
    have h3 : lp_InS M n L (l + 1) v := lp_InS_cg (fun i hi => (h2 i hi).symm) (lp_InS_add (lp_InS_mul a hc) h1)
    exact h.2 v h3 hz
/-- what is left of the step comes in -/
theorem lp_MS_yes {M n l p0 u : Nat} {L : Nat → Nat → Nat} {B B' : Nat → Prop} {R R' : Nat → Nat → Nat} {w : Nat → Nat} (hM : lp_pr M) (hl : l < n) (h : lp_MS M n L (l + 1) B R)
    (hw : ∃ s, lp_InS M n L (l + 1) s ∧ ∀ i, i < n → L i l % M = (w i + s i) % M) (hz : ∀ p, p < n → B p → w p % M = 0) (hp0 : p0 < n) (hwp : ∀ k, k < p0 → w k % M = 0) (hu : (u * w p0) % M = 1)
    (hB : ∀ p, p < n → (B' p ↔ B p ∨ p = p0)) (hR : ∀ p k, p < n → k < n → p ≠ p0 → R' p k = R p k) (hR0 : ∀ k, k < n → R' p0 k = (w k * u) % M) : lp_MS M n L l B' R' := by
  obtain ⟨s, hs1, hs2⟩ := hw
  have hM0 : 0 < M := by rcases hM with rfl | rfl | rfl <;> omega
  have hwS : lp_InS M n L l w := lp_InS_sub hM (lp_InS_le (Nat.le_succ l) hs1) (lp_InS_cg (fun i hi => by rw [hs2 i hi, Nat.add_comm]) (lp_InS_col hl))
  refine ⟨fun p hp hb => ?_, fun v hv hzv => ?_⟩
  · by_cases e : p = p0
    · subst e
      refine ⟨?_, fun k hk => ?_, fun k hk => ?_, ?_⟩
      · rw [hR0 p hp, Nat.mul_comm]; exact hu
      · rw [hR0 k (by omega), Nat.mul_mod, hwp k hk, Nat.zero_mul, Nat.zero_mod]
      · rw [hR0 k hk]; exact Nat.mod_lt _ hM0
      · refine lp_InS_cg (fun i hi => ?_) (lp_InS_mul u hwS)
        rw [hR0 i hi, Nat.mod_mod, Nat.mul_comm]
    · obtain ⟨a, b, c, d⟩ := h.1 p hp (((hB p hp).mp hb).resolve_right e)
      refine ⟨by rw [hR p p hp hp e]; exact a, fun k hk => by rw [hR p k hp (by omega) e]; exact b k hk, fun k hk => by rw [hR p k hp hk e]; exact c k hk, ?_⟩
      exact lp_InS_cg (fun i hi => by rw [hR p i hp hi e]) (lp_InS_le (Nat.le_succ l) d)
  · obtain ⟨a, t, h1, h2⟩ := lp_InS_dec hl hv
    -- v = a w + (a s + t)
    have e1 : ∀ i, i < n → v i % M = (a * w i + (a * s i + t i)) % M := fun i hi => by
      rw [h2 i hi, ← Nat.add_assoc, ← Nat.mul_add]
      exact lp_eq_add (lp_eq_mul rfl (hs2 i hi)) rfl
    have e2 : lp_InS M n L (l + 1) (fun i => a * s i + t i) := lp_InS_add (lp_InS_mul a hs1) h1
    have e3 : ∀ i, i < n → (a * s i + t i) % M = 0 := h.2 _ e2 fun p hp hb => by
      have z1 := hzv p hp ((hB p hp).mpr (.inl hb))
      have z2 := hz p hp hb
      rw [e1 p hp, Nat.add_mod, Nat.mul_mod, z2, Nat.mul_zero, Nat.zero_mod, Nat.zero_add, Nat.mod_mod] at z1
      exact z1
    have e4 : ∀ i, i < n → v i % M = (a * w i) % M := fun i hi => by
      rw [e1 i hi, Nat.add_mod, e3 i hi, Nat.add_zero, Nat.mod_mod]
    have e5 : a % M = 0 := by
      have z := hzv p0 hp0 ((hB p0 hp0).mpr (.inr rfl))
      rw [e4 p0 hp0] at z
      have : (w p0 * a) % M = (w p0 * 0) % M := by rw [Nat.mul_comm, z, Nat.mul_zero, Nat.zero_mod]
      have := lp_unmul hM (u := w p0) (v := u) (by rw [Nat.mul_comm]; exact hu) this
      rw [this, Nat.zero_mod]
    intro i hi
    rw [e4 i hi, Nat.mul_mod, e5, Nat.zero_mul, Nat.zero_mod]
/-- what is left tells whether a vector comes about -/
theorem lp_MS_left {M n l : Nat} {L : Nat → Nat → Nat} {B : Nat → Prop} {R : Nat → Nat → Nat} {v w : Nat → Nat} (hM : lp_pr M) (h : lp_MS M n L l B R) (hw : ∃ s, lp_InS M n L l s ∧ ∀ i, i < n → v i % M = (w i + s i) % M) (hz : ∀ p, p < n → B p → w p % M = 0) : (∀ i, i < n → w i % M = 0) ↔ lp_InS M n L l v := by
  obtain ⟨s, hs1, hs2⟩ := hw
  constructor
  · intro h0
    exact lp_InS_cg (fun i hi => by rw [hs2 i hi, Nat.add_mod, h0 i hi, Nat.zero_add, Nat.mod_mod]) hs1
  · intro hv
    have : lp_InS M n L l w := lp_InS_sub hM hs1 (lp_InS_cg (fun i hi => by rw [hs2 i hi, Nat.add_comm]) hv)
    exact h.2 w this hz
