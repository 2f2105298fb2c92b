/-! ===== texts: what is put, byte for byte ===== -/
def lp_pb (c f e : Nat) (g : lp_M) (b : Nat) : lp_M := lp_w (lp_w g e (g c f).toNatClampNeg (nI b)) c f (g c f + nI 1)
def lp_ps (c f e : Nat) (g : lp_M) (ws : List Nat) : lp_M := ws.foldl (lp_pb c f e) g
theorem lp_ps_app (c f e : Nat) (g : lp_M) (a b : List Nat) : lp_ps c f e g (a ++ b) = lp_ps c f e (lp_ps c f e g a) b := List.foldl_append
theorem lp_ps_one (c f e : Nat) (g : lp_M) (b : Nat) : lp_ps c f e g [b] = lp_pb c f e g b := rfl
theorem lp_ps_nil (c f e : Nat) (g : lp_M) : lp_ps c f e g [] = g := rfl
theorem lp_ps_all {c f e : Nat} (hce : c ≠ e) : ∀ (ws : List Nat) (g : lp_M) (k : Nat), g c f = nI k → k + ws.length ≤ 1000 →
    lp_ps c f e g ws c f = nI (k + ws.length) ∧ (∀ i, i < ws.length → lp_ps c f e g ws e (k + i) = nI (ws.getD i 0)) ∧ (∀ i, i < k → lp_ps c f e g ws e i = g e i) ∧ (∀ q, q ≠ c → q ≠ e → lp_ps c f e g ws q = g q) ∧ ∀ j, j ≠ f → lp_ps c f e g ws c j = g c j := by
  intro ws
  induction ws with
  | nil => intro g k h _; exact ⟨h, fun i hi => absurd hi (Nat.not_lt_zero i), fun _ _ => rfl, fun _ _ _ => rfl, fun _ _ => rfl⟩
  | cons b ws ih =>
    intro g k h hk
    have hk' : k + (ws.length + 1) ≤ 1000 := hk
    have e0 : lp_pb c f e g b = lp_w (lp_w g e k (nI b)) c f (nI (k + 1)) := by
      unfold lp_pb
      rw [h, nI_clamp (by omega), nI_add]
    have e1 : lp_pb c f e g b c f = nI (k + 1) := by rw [e0, lp_w_eq, pk_us]
    obtain ⟨a1, a2, a3, a4, a5⟩ := ih (lp_pb c f e g b) (k + 1) e1 (by omega)
    have es : lp_ps c f e g (b :: ws) = lp_ps c f e (lp_pb c f e g b) ws := rfl
    have el : (b :: ws).length = ws.length + 1 := rfl
    have ee : lp_pb c f e g b e = upd (g e) k (nI b) := by rw [e0, lp_w_ne (Ne.symm hce), lp_w_eq]
    rw [es, el]
    refine ⟨?_, fun i hi => ?_, fun i hi => ?_, fun q h1 h2 => ?_, fun j hj => ?_⟩
    · rw [a1]; congr 1; omega
    · cases i with
      | zero =>
        show lp_ps c f e (lp_pb c f e g b) ws e k = nI b
        rw [a3 k (by omega), ee, pk_us]
      | succ i =>
        show lp_ps c f e (lp_pb c f e g b) ws e (k + (i + 1)) = nI (ws.getD i 0)
        rw [← a2 i (by omega)]
        congr 1; omega
    · rw [a3 i (by omega), ee, pk_un (by omega)]
    · rw [a4 q h1 h2, e0, lp_w_ne h1, lp_w_ne h2]
    · rw [a5 j hj, e0, lp_w_eq, pk_un hj, lp_w_ne hce]
/-- a line of the class -/
def lp_ln (c cap : Nat) : Prop := (c = 336 ∧ cap = 900) ∨ (c = 338 ∧ cap = 120)
theorem lp_nar7 : ∀ b, b < 128 → vp_nar .byte (nI b).toInt8.toInt32 = nI b := by decide +kernel
theorem s15 {d c cap b k : Nat} {g : lp_M} (hc : lp_ln c cap) (hk : g c 1 = nI k) (hlt : k < cap) (hb : b < 128) : lp_rn (d + 1) 15 [.ref c, .int (nI b)] (lp_s0 g) = some (nI 0, lp_s0 (lp_ps c 1 (c + 1) g [b])) := by
  rw [lp_ps_one]
  unfold lp_pb
  rcases hc with ⟨rfl, rfl⟩ | ⟨rfl, rfl⟩
  · have h : lp_w g 337 k (nI b) 336 1 = nI k := by rw [lp_w_ne (by omega)]; exact hk
    simp (disch := omega) only [e15_336, hk, lp_nar7 b hb, e15_336_23, h, nI_leI, nI_ltI, nI_eq, nI_clamp, lp_oobN, nI_add, pk_mul, pk_sub, pk_rem, pk_m1, lp_neg1lt, lp_neg1le, lp_neg1eq, lp_neg1eq2, if_true, if_false, if_pos, if_neg, Option.bind_some, Nat.lt_irrefl, Nat.le_refl, true_and, and_true, false_or, or_false, true_or, or_true, not_true_eq_false, not_false_eq_true, and_self, or_self, false_and, and_false, ite_true, ite_false, reduceIte]
  · have h : lp_w g 339 k (nI b) 338 1 = nI k := by rw [lp_w_ne (by omega)]; exact hk
    simp (disch := omega) only [e15_338, hk, lp_nar7 b hb, e15_338_23, h, nI_leI, nI_ltI, nI_eq, nI_clamp, lp_oobN, nI_add, pk_mul, pk_sub, pk_rem, pk_m1, lp_neg1lt, lp_neg1le, lp_neg1eq, lp_neg1eq2, if_true, if_false, if_pos, if_neg, Option.bind_some, Nat.lt_irrefl, Nat.le_refl, true_and, and_true, false_or, or_false, true_or, or_true, not_true_eq_false, not_false_eq_true, and_self, or_self, false_and, and_false, ite_true, ite_false, reduceIte]
/-- the class's words -/
def lp_swd (w : Nat) : List Nat := (lp_sb.getD w []).map (·.toNatClampNeg)
theorem lp_swd_len (w : Nat) : (lp_swd w).length = (lp_sb.getD w []).length := List.length_map ..
theorem lp_swd_le : ∀ w, w < 18 → (lp_swd w).length ≤ 20 := by decide +kernel
theorem lp_swd_at : ∀ w, w < 18 → ∀ i, i < (lp_swd w).length → ((((lp_sb.getD w []).getD i 0) &&& nI 255).toUInt32 % 65536).toInt32 = nI ((lp_swd w).getD i 0) ∧ nI ((lp_swd w).getD i 0) &&& nI 255 = nI ((lp_swd w).getD i 0) ∧ (lp_swd w).getD i 0 < 128 := by decide +kernel
theorem lp_shr0 (x : Int32) : x >>> (nI 0 &&& nI 31) = x := by
  have e : nI 0 &&& nI 31 = 0 := by decide
  rw [e]
  exact Int32.shiftRight_zero
theorem lp_lt18 {w : Nat} (hw : w < 18) : (w < 18 ∨ (100 ≤ w ∧ w < 118) ∨ w = 300) = True := eq_true (.inl hw)
theorem lp_lt118 {w : Nat} (hw : w < 18) : (100 + w < 18 ∨ (100 ≤ 100 + w ∧ 100 + w < 118) ∨ 100 + w = 300) = True := eq_true (.inr (.inl ⟨by omega, by omega⟩))
theorem lp_lt118b {w : Nat} (hw : w < 18) : (100 ≤ 100 + w ∧ 100 + w < 118) = True := eq_true ⟨by omega, by omega⟩
theorem lp_ow3 : lp_ow 285 = 13 ∧ lp_ow 286 = 13 ∧ lp_ow 287 = 13 ∧ lp_ow 288 = 13 := by decide +kernel
theorem s285 {d w : Nat} {g : lp_M} (hw : w < 18) : lp_rn (d + 2) 285 [.retAddr w] (lp_s0 g) = some (nI (lp_swd w).length, lp_s0 g) := by
  have e : 100 + w - 100 = w := by omega
  rw [lp_swd_len]
  simp only [e285, e287, e285_9, lp_lt18 hw, lp_lt118b hw, lp_ow3.2.2.1, hw, e, lp_shr0, if_true, if_false, if_pos, if_neg, Option.bind_some, Nat.lt_irrefl, Nat.le_refl, true_and, and_true, false_or, or_false, true_or, or_true, not_true_eq_false, not_false_eq_true, and_self, or_self, false_and, and_false, ite_true, ite_false, reduceIte]
theorem s286 {d w i : Nat} {g : lp_M} (hw : w < 18) (hi : i < (lp_swd w).length) : lp_rn (d + 4) 286 [.retAddr w, .int (nI i)] (lp_s0 g) = some (nI ((lp_swd w).getD i 0), lp_s0 g) := by
  have e : 100 + w - 100 = w := by omega
  have hl := lp_swd_le w hw
  have hl' := lp_swd_len w
  obtain ⟨h1, h2, h3⟩ := lp_swd_at w hw i hi
  have n1 : ¬ nI 1 = nI 0 := by decide
  simp (disch := omega) only [e286, e288, e286_4, e290, e289, e292, e289_8, e290_6, e286_15, lp_lt18 hw, lp_lt118 hw, lp_lt118b hw, lp_ow3.2.2.2, hw, e, h1, h2, n1, ← hl', nI_leI, nI_ltI, nI_eq, nI_clamp, lp_oobN, nI_add, pk_mul, pk_sub, pk_rem, pk_m1, lp_neg1lt, lp_neg1le, lp_neg1eq, lp_neg1eq2, if_true, if_false, if_pos, if_neg, Option.bind_some, Nat.lt_irrefl, Nat.le_refl, true_and, and_true, false_or, or_false, true_or, or_true, not_true_eq_false, not_false_eq_true, and_self, or_self, false_and, and_false, ite_true, ite_false, reduceIte]
theorem lp_tk : ∀ (l : List Nat) (i : Nat), i < l.length → l.take (i + 1) = l.take i ++ [l.getD i 0] := by
  intro l
  induction l with
  | nil => intro i hi; exact absurd hi (Nat.not_lt_zero i)
  | cons b l ih =>
    intro i hi
    cases i with
    | zero => rfl
    | succ i =>
      show b :: l.take (i + 1) = b :: (l.take i ++ [l.getD i 0])
      rw [ih i (by have : i + 1 < l.length + 1 := hi; omega)]
theorem s13 {d c cap w k : Nat} {g : lp_M} (hc : lp_ln c cap) (hw : w < 18) (hk : g c 1 = nI k) (hle : k + (lp_swd w).length ≤ cap) : lp_rn (d + 5) 13 [.ref c, .retAddr w] (lp_s0 g) = some (nI 0, lp_s0 (lp_ps c 1 (c + 1) g (lp_swd w))) := by
  have hl := lp_swd_le w hw
  have hcap : cap ≤ 900 := by rcases hc with ⟨_, h⟩ | ⟨_, h⟩ <;> omega
  have it := lp_iter (fun i => lp_fn (d + 4) 13 2 [.ref c, .retAddr w, .int (nI i)] [] (lp_s0 (lp_ps c 1 (c + 1) g ((lp_swd w).take i)))) (lp_swd w).length (fun i hi => by
    have hlen : ((lp_swd w).take i).length = i := by rw [List.length_take]; omega
    obtain ⟨a1, -⟩ := lp_ps_all (c := c) (f := 1) (e := c + 1) (by omega) ((lp_swd w).take i) g k hk (by omega)
    rw [hlen] at a1
    have E := s15 (d := d + 3) (b := (lp_swd w).getD i 0) hc a1 (by omega) (lp_swd_at w hw i hi).2.2
    rw [← lp_ps_app, ← lp_tk _ _ hi] at E
    show lp_fn (d + 4) 13 2 _ _ _ = lp_fn (d + 4) 13 2 _ _ _
    rcases hc with ⟨rfl, rfl⟩ | ⟨rfl, rfl⟩
    · rw [e13_336_2]
      simp (disch := omega) only [lp_lt18 hw, lp_ow3.1, lp_ow3.2.1, hw, s285 hw, e13_336_7, s286 hw hi, e13_336_16, E, e13_336_19, nI_leI, nI_ltI, nI_eq, nI_clamp, lp_oobN, nI_add, pk_mul, pk_sub, pk_rem, pk_m1, lp_neg1lt, lp_neg1le, lp_neg1eq, lp_neg1eq2, if_true, if_false, if_pos, if_neg, Option.bind_some, Nat.lt_irrefl, Nat.le_refl, true_and, and_true, false_or, or_false, true_or, or_true, not_true_eq_false, not_false_eq_true, and_self, or_self, false_and, and_false, ite_true, ite_false, reduceIte]
    · rw [e13_338_2]
      simp (disch := omega) only [lp_lt18 hw, lp_ow3.1, lp_ow3.2.1, hw, s285 hw, e13_338_7, s286 hw hi, e13_338_16, E, e13_338_19, nI_leI, nI_ltI, nI_eq, nI_clamp, lp_oobN, nI_add, pk_mul, pk_sub, pk_rem, pk_m1, lp_neg1lt, lp_neg1le, lp_neg1eq, lp_neg1eq2, if_true, if_false, if_pos, if_neg, Option.bind_some, Nat.lt_irrefl, Nat.le_refl, true_and, and_true, false_or, or_false, true_or, or_true, not_true_eq_false, not_false_eq_true, and_self, or_self, false_and, and_false, ite_true, ite_false, reduceIte])
  rw [List.take_zero, List.take_length] at it
  rcases hc with ⟨rfl, rfl⟩ | ⟨rfl, rfl⟩
  · rw [e13_336]
    refine Eq.trans it ?_
    show lp_fn (d + 4) 13 2 _ _ _ = _
    rw [e13_336_2]
    simp (disch := omega) only [lp_lt18 hw, lp_ow3.1, hw, s285 hw, e13_336_7, nI_leI, nI_ltI, nI_eq, nI_clamp, lp_oobN, nI_add, pk_mul, pk_sub, pk_rem, pk_m1, lp_neg1lt, lp_neg1le, lp_neg1eq, lp_neg1eq2, if_true, if_false, if_pos, if_neg, Option.bind_some, Nat.lt_irrefl, Nat.le_refl, true_and, and_true, false_or, or_false, true_or, or_true, not_true_eq_false, not_false_eq_true, and_self, or_self, false_and, and_false, ite_true, ite_false, reduceIte]
  · rw [e13_338]
    refine Eq.trans it ?_
    show lp_fn (d + 4) 13 2 _ _ _ = _
    rw [e13_338_2]
    simp (disch := omega) only [lp_lt18 hw, lp_ow3.1, hw, s285 hw, e13_338_7, nI_leI, nI_ltI, nI_eq, nI_clamp, lp_oobN, nI_add, pk_mul, pk_sub, pk_rem, pk_m1, lp_neg1lt, lp_neg1le, lp_neg1eq, lp_neg1eq2, if_true, if_false, if_pos, if_neg, Option.bind_some, Nat.lt_irrefl, Nat.le_refl, true_and, and_true, false_or, or_false, true_or, or_true, not_true_eq_false, not_false_eq_true, and_self, or_self, false_and, and_false, ite_true, ite_false, reduceIte]
/-- a number of 0 .. 99 -/
def lp_dig (n : Nat) : List Nat := if n < 10 then [48 + n % 10] else [48 + n / 10, 48 + n % 10]
theorem lp_dig1 {n : Nat} (h : n < 10) : (lp_dig n).length = 1 := by unfold lp_dig; rw [if_pos h]; rfl
theorem lp_dig2 (n : Nat) : (lp_dig n).length ≤ 2 := by unfold lp_dig; split; exact (show 1 ≤ 2 by omega); exact (show 2 ≤ 2 by omega)
theorem s14 {d c cap w n k : Nat} {g : lp_M} (hc : lp_ln c cap) (hw : w < 18) (hn : n < 100) (hk : g c 1 = nI k) (hle : k + (lp_swd w ++ lp_dig n).length ≤ cap) : lp_rn (d + 6) 14 [.ref c, .retAddr w, .int (nI n)] (lp_s0 g) = some (nI 0, lp_s0 (lp_ps c 1 (c + 1) g (lp_swd w ++ lp_dig n))) := by
  have hl := lp_swd_le w hw
  have hcap : cap ≤ 900 := by rcases hc with ⟨_, h⟩ | ⟨_, h⟩ <;> omega
  rw [List.length_append] at hle
  have E1 := s13 (d := d) hc hw hk (by omega)
  obtain ⟨a1, -⟩ := lp_ps_all (c := c) (f := 1) (e := c + 1) (by omega) (lp_swd w) g k hk (by omega)
  have dv := pk_div (a := n) (d := 10) (by omega) (by omega) (by omega)
  rw [lp_ps_app]
  by_cases h : n < 10
  · have e1 := lp_dig1 h
    have e : lp_dig n = [48 + n % 10] := if_pos h
    have E2 := s15 (d := d + 4) (b := 48 + n % 10) hc a1 (by omega) (by omega)
    rw [e]
    rcases hc with ⟨rfl, rfl⟩ | ⟨rfl, rfl⟩
    · simp (disch := omega) only [e14_336, lp_lt18 hw, E1, e14_336_5, h, E2, e14_336_36, nI_leI, nI_ltI, nI_eq, nI_clamp, lp_oobN, nI_add, pk_mul, pk_sub, pk_rem, pk_m1, lp_neg1lt, lp_neg1le, lp_neg1eq, lp_neg1eq2, if_true, if_false, if_pos, if_neg, Option.bind_some, Nat.lt_irrefl, Nat.le_refl, true_and, and_true, false_or, or_false, true_or, or_true, not_true_eq_false, not_false_eq_true, and_self, or_self, false_and, and_false, ite_true, ite_false, reduceIte]
    · simp (disch := omega) only [e14_338, lp_lt18 hw, E1, e14_338_5, h, E2, e14_338_36, nI_leI, nI_ltI, nI_eq, nI_clamp, lp_oobN, nI_add, pk_mul, pk_sub, pk_rem, pk_m1, lp_neg1lt, lp_neg1le, lp_neg1eq, lp_neg1eq2, if_true, if_false, if_pos, if_neg, Option.bind_some, Nat.lt_irrefl, Nat.le_refl, true_and, and_true, false_or, or_false, true_or, or_true, not_true_eq_false, not_false_eq_true, and_self, or_self, false_and, and_false, ite_true, ite_false, reduceIte]
  · have e : lp_dig n = [48 + n / 10] ++ [48 + n % 10] := if_neg h
    have e1 : (lp_dig n).length = 2 := by rw [e]; rfl
    have E2 := s15 (d := d + 4) (b := 48 + n / 10) hc a1 (by omega) (by omega)
    obtain ⟨a2, -⟩ := lp_ps_all (c := c) (f := 1) (e := c + 1) (by omega) [48 + n / 10] _ _ a1 (by show _ + 1 ≤ _; omega)
    have E3 := s15 (d := d + 4) (b := 48 + n % 10) hc a2 (by show _ + 1 < _; omega) (by omega)
    have m : n / 10 % 10 = n / 10 := by omega
    have rm : n - n / 10 * 10 = n % 10 := by omega
    rw [e, lp_ps_app]
    rcases hc with ⟨rfl, rfl⟩ | ⟨rfl, rfl⟩
    · simp (disch := omega) only [e14_336, lp_lt18 hw, E1, e14_336_5, dv, m, rm, h, E2, e14_336_25, E3, e14_336_36, nI_leI, nI_ltI, nI_eq, nI_clamp, lp_oobN, nI_add, pk_mul, pk_sub, pk_rem, pk_m1, lp_neg1lt, lp_neg1le, lp_neg1eq, lp_neg1eq2, if_true, if_false, if_pos, if_neg, Option.bind_some, Nat.lt_irrefl, Nat.le_refl, true_and, and_true, false_or, or_false, true_or, or_true, not_true_eq_false, not_false_eq_true, and_self, or_self, false_and, and_false, ite_true, ite_false, reduceIte]
    · simp (disch := omega) only [e14_338, lp_lt18 hw, E1, e14_338_5, dv, m, rm, h, E2, e14_338_25, E3, e14_338_36, nI_leI, nI_ltI, nI_eq, nI_clamp, lp_oobN, nI_add, pk_mul, pk_sub, pk_rem, pk_m1, lp_neg1lt, lp_neg1le, lp_neg1eq, lp_neg1eq2, if_true, if_false, if_pos, if_neg, Option.bind_some, Nat.lt_irrefl, Nat.le_refl, true_and, and_true, false_or, or_false, true_or, or_true, not_true_eq_false, not_false_eq_true, and_self, or_self, false_and, and_false, ite_true, ite_false, reduceIte]
/-- what is answered of a text -/
def lp_an (x : Int32) (ws : List Nat) : Int32 := if -1 ≤ x then (if x = -1 then nI ws.length else if nI ws.length ≤ x then -2 else nI (ws.getD x.toNatClampNeg 0)) else -1
def lp_lnk (g : lp_M) (c f e : Nat) (ws : List Nat) : Prop := g c f = nI ws.length ∧ ∀ i, i < ws.length → g e i = nI (ws.getD i 0)
theorem lp_anx {x : Int32} {n : Nat} (hn : n < 2 ^ 31) (h1 : -1 ≤ x) (h2 : ¬ x = -1) (h3 : ¬ nI n ≤ x) : ∃ i, i < n ∧ x = nI i := by
  rcases lp_ix x hn with (h | h) | h
  · exfalso
    rw [Int32.lt_iff_toInt_lt] at h
    rw [Int32.le_iff_toInt_le] at h1
    have e0 : (nI 0).toInt = 0 := by decide
    have e1 : (-1 : Int32).toInt = -1 := by decide
    rw [e0] at h
    rw [e1] at h1
    exact h2 (Int32.toInt_inj.mp (by rw [e1]; omega))
  · exact absurd h h3
  · exact h
theorem s16 {d c cap : Nat} {g : lp_M} {ws : List Nat} (hc : lp_ln c cap) (h : lp_lnk g c 1 (c + 1) ws) (hle : ws.length ≤ cap) (x : Int32) : lp_rn (d + 1) 16 [.ref c, .int x] (lp_s0 g) = some (lp_an x ws, lp_s0 g) := by
  have hcap : cap ≤ 900 := by rcases hc with ⟨_, h⟩ | ⟨_, h⟩ <;> omega
  obtain ⟨h1, h2⟩ := h
  unfold lp_an
  by_cases k1 : -1 ≤ x
  · by_cases k2 : x = -1
    · rcases hc with ⟨rfl, rfl⟩ | ⟨rfl, rfl⟩
      · rw [e16_336, if_pos k1, if_pos k2, if_pos k1, if_pos k2, h1]
      · rw [e16_338, if_pos k1, if_pos k2, if_pos k1, if_pos k2, h1]
    · by_cases k3 : nI ws.length ≤ x
      · rcases hc with ⟨rfl, rfl⟩ | ⟨rfl, rfl⟩
        · rw [e16_336, if_pos k1, if_neg k2, if_pos k1, if_neg k2, h1, if_pos k3, if_pos k3]
        · rw [e16_338, if_pos k1, if_neg k2, if_pos k1, if_neg k2, h1, if_pos k3, if_pos k3]
      · rw [if_pos k1, if_neg k2, if_neg k3]
        obtain ⟨i, hi, e⟩ := lp_anx (by omega) k1 k2 k3
        rcases hc with ⟨rfl, rfl⟩ | ⟨rfl, rfl⟩
        · rw [e16_336, if_pos k1, if_neg k2, h1, if_neg k3, e]
          simp (disch := omega) only [h2 i hi, nI_leI, nI_ltI, nI_eq, nI_clamp, lp_oobN, nI_add, pk_mul, pk_sub, pk_rem, pk_m1, lp_neg1lt, lp_neg1le, lp_neg1eq, lp_neg1eq2, if_true, if_false, if_pos, if_neg, Option.bind_some, Nat.lt_irrefl, Nat.le_refl, true_and, and_true, false_or, or_false, true_or, or_true, not_true_eq_false, not_false_eq_true, and_self, or_self, false_and, and_false, ite_true, ite_false, reduceIte]
        · rw [e16_338, if_pos k1, if_neg k2, h1, if_neg k3, e]
          simp (disch := omega) only [h2 i hi, nI_leI, nI_ltI, nI_eq, nI_clamp, lp_oobN, nI_add, pk_mul, pk_sub, pk_rem, pk_m1, lp_neg1lt, lp_neg1le, lp_neg1eq, lp_neg1eq2, if_true, if_false, if_pos, if_neg, Option.bind_some, Nat.lt_irrefl, Nat.le_refl, true_and, and_true, false_or, or_false, true_or, or_true, not_true_eq_false, not_false_eq_true, and_self, or_self, false_and, and_false, ite_true, ite_false, reduceIte]
  · rcases hc with ⟨rfl, rfl⟩ | ⟨rfl, rfl⟩
    · rw [e16_336, if_neg k1, if_neg k1]
    · rw [e16_338, if_neg k1, if_neg k1]
theorem s263 {d : Nat} {g : lp_M} {ws : List Nat} (h : lp_lnk g 343 28 366 ws) (hle : ws.length ≤ 900) {x : Int32} (k1 : -1 ≤ x) : lp_rn (d + 1) 263 [.ref 343, .int x] (lp_s0 g) = some (lp_an x ws, lp_s0 g) := by
  obtain ⟨h1, h2⟩ := h
  unfold lp_an
  rw [if_pos k1, e263_343]
  by_cases k2 : x = -1
  · rw [if_pos k2, if_pos k2, h1]
  · rw [if_neg k2, if_neg k2, h1]
    by_cases k3 : nI ws.length ≤ x
    · rw [if_pos k3, if_pos k3]
    · rw [if_neg k3, if_neg k3]
      obtain ⟨i, hi, e⟩ := lp_anx (by omega) k1 k2 k3
      rw [e]
      simp (disch := omega) only [h2 i hi, nI_leI, nI_ltI, nI_eq, nI_clamp, lp_oobN, nI_add, pk_mul, pk_sub, pk_rem, pk_m1, lp_neg1lt, lp_neg1le, lp_neg1eq, lp_neg1eq2, if_true, if_false, if_pos, if_neg, Option.bind_some, Nat.lt_irrefl, Nat.le_refl, true_and, and_true, false_or, or_false, true_or, or_true, not_true_eq_false, not_false_eq_true, and_self, or_self, false_and, and_false, ite_true, ite_false, reduceIte]
/-- the model's texts -/
theorem s260 {d b k : Nat} {g : lp_M} (hk : g 343 28 = nI k) (hlt : k < 900) : lp_rn (d + 1) 260 [.ref 343, .int (nI b)] (lp_s0 g) = some (nI 0, lp_s0 (lp_ps 343 28 366 g [b])) := by
  rw [lp_ps_one]
  unfold lp_pb
  have h : lp_w g 366 k (nI b) 343 28 = nI k := by rw [lp_w_ne (by omega)]; exact hk
  simp (disch := omega) only [e260_343, hk, e260_343_10, h, nI_leI, nI_ltI, nI_eq, nI_clamp, lp_oobN, nI_add, pk_mul, pk_sub, pk_rem, pk_m1, lp_neg1lt, lp_neg1le, lp_neg1eq, lp_neg1eq2, if_true, if_false, if_pos, if_neg, Option.bind_some, Nat.lt_irrefl, Nat.le_refl, true_and, and_true, false_or, or_false, true_or, or_true, not_true_eq_false, not_false_eq_true, and_self, or_self, false_and, and_false, ite_true, ite_false, reduceIte]
def lp_mwl : List (List Nat) := [[115, 116, 97, 116, 101, 115], [108, 97, 109, 112], [111, 119, 110], [103, 111, 97, 108], [119, 105, 114, 101], [98, 121], [112, 114, 101, 115, 115], [100, 111, 110, 101], [110, 111, 110, 101], [109, 97, 110, 121]]
def lp_mwd (w : Nat) : List Nat := lp_mwl.getD w []
def lp_wsim : Nat → Nat → Nat → Option Nat
  | 0, _, _ => none
  | f + 1, p, k => if k = 0 then some p else if 50 ≤ p then none else if lp_wds.getD p 0 = nI 0 then lp_wsim f (p + 1) (k - 1) else lp_wsim f (p + 1) k
def lp_wchk : Nat → List Nat → Bool
  | p, [] => decide (p < 50) && decide (lp_wds.getD p 0 = nI 0)
  | p, b :: ws => decide (p < 50) && decide (lp_wds.getD p 0 = nI b) && decide (¬ b = 0) && decide (b < 128) && lp_wchk (p + 1) ws
theorem lp_wsim_run {d : Nat} {g : lp_M} {x : Int32} (hw : ∀ j, j < 50 → g 368 j = lp_wds.getD j 0) : ∀ (f p k q : Nat), k < 1000 → p ≤ 50 → lp_wsim f p k = some q → lp_fn d 272 4 [.ref 343, .int x, .int (nI p), .int (nI k)] [] (lp_s0 g) = some (nI q, lp_s0 g) := by
  intro f
  induction f with
  | zero => intro p k q _ _ h; exact absurd h (by unfold lp_wsim; exact fun z => nomatch z)
  | succ f ih =>
    intro p k q hk hp h
    unfold lp_wsim at h
    by_cases k0 : k = 0
    · rw [if_pos k0] at h
      have hq : p = q := Option.some.inj h
      subst hq; subst k0
      rw [e272_343_4]
      simp (disch := omega) only [nI_leI, nI_ltI, nI_eq, nI_clamp, lp_oobN, nI_add, pk_mul, pk_sub, pk_rem, pk_m1, lp_neg1lt, lp_neg1le, lp_neg1eq, lp_neg1eq2, if_true, if_false, if_pos, if_neg, Option.bind_some, Nat.lt_irrefl, Nat.le_refl, true_and, and_true, false_or, or_false, true_or, or_true, not_true_eq_false, not_false_eq_true, and_self, or_self, false_and, and_false, ite_true, ite_false, reduceIte]
    · rw [if_neg k0] at h
      by_cases p5 : 50 ≤ p
      · rw [if_pos p5] at h; exact nomatch h
      · rw [if_neg p5] at h
        have hp' := hw p (by omega)
        by_cases z : lp_wds.getD p 0 = nI 0
        · rw [if_pos z] at h
          rw [← ih (p + 1) (k - 1) q (by omega) (by omega) h]
          have km : nI k + -1 = nI (k - 1) := by
            have : k = (k - 1) + 1 := by omega
            rw [this]; exact pk_m1 _
          rw [e272_343_4]
          simp (disch := omega) only [hp', z, km, nI_leI, nI_ltI, nI_eq, nI_clamp, lp_oobN, nI_add, pk_mul, pk_sub, pk_rem, pk_m1, lp_neg1lt, lp_neg1le, lp_neg1eq, lp_neg1eq2, if_true, if_false, if_pos, if_neg, Option.bind_some, Nat.lt_irrefl, Nat.le_refl, true_and, and_true, false_or, or_false, true_or, or_true, not_true_eq_false, not_false_eq_true, and_self, or_self, false_and, and_false, ite_true, ite_false, reduceIte]
        · rw [if_neg z] at h
          rw [← ih (p + 1) k q hk (by omega) h]
          rw [e272_343_4]
          simp (disch := omega) only [hp', z, nI_leI, nI_ltI, nI_eq, nI_clamp, lp_oobN, nI_add, pk_mul, pk_sub, pk_rem, pk_m1, lp_neg1lt, lp_neg1le, lp_neg1eq, lp_neg1eq2, if_true, if_false, if_pos, if_neg, Option.bind_some, Nat.lt_irrefl, Nat.le_refl, true_and, and_true, false_or, or_false, true_or, or_true, not_true_eq_false, not_false_eq_true, and_self, or_self, false_and, and_false, ite_true, ite_false, reduceIte]
theorem lp_wchk_run {d : Nat} {x : Int32} : ∀ (ws : List Nat) (g : lp_M) (p k : Nat), (∀ j, j < 50 → g 368 j = lp_wds.getD j 0) → g 343 28 = nI k → k + ws.length ≤ 900 → lp_wchk p ws = true → lp_fn (d + 1) 261 6 [.ref 343, .int x, .int (nI p)] [] (lp_s0 g) = some (nI 0, lp_s0 (lp_ps 343 28 366 g ws)) := by
  intro ws
  induction ws with
  | nil =>
    intro g p k hw hk hle h
    unfold lp_wchk at h
    rw [Bool.and_eq_true, decide_eq_true_eq, decide_eq_true_eq] at h
    have hp' := hw p h.1
    have h2 := h.2
    have h1 := h.1
    rw [lp_ps_nil]
    simp (disch := omega) only [e261_343_6, hp', h2, nI_leI, nI_ltI, nI_eq, nI_clamp, lp_oobN, nI_add, pk_mul, pk_sub, pk_rem, pk_m1, lp_neg1lt, lp_neg1le, lp_neg1eq, lp_neg1eq2, if_true, if_false, if_pos, if_neg, Option.bind_some, Nat.lt_irrefl, Nat.le_refl, true_and, and_true, false_or, or_false, true_or, or_true, not_true_eq_false, not_false_eq_true, and_self, or_self, false_and, and_false, ite_true, ite_false, reduceIte]
  | cons b ws ih =>
    intro g p k hw hk hle h
    unfold lp_wchk at h
    simp only [Bool.and_eq_true, decide_eq_true_eq] at h
    obtain ⟨⟨⟨⟨h1, h2⟩, h3⟩, h4⟩, h5⟩ := h
    have hle' : k + (ws.length + 1) ≤ 900 := hle
    have hp' := hw p h1
    obtain ⟨a1, a2, a3, a4, a5⟩ := lp_ps_all (c := 343) (f := 28) (e := 366) (by omega) [b] g k hk (by show _ + 1 ≤ _; omega)
    have E := ih (lp_ps 343 28 366 g [b]) (p + 1) (k + 1) (fun j hj => by rw [a4 _ (by omega) (by omega)]; exact hw j hj) a1 (by omega) h5
    have E2 := s260 (d := d) (b := b) hk (by omega)
    have e : lp_ps 343 28 366 g (b :: ws) = lp_ps 343 28 366 (lp_ps 343 28 366 g [b]) ws := rfl
    rw [e, ← E]
    simp (disch := omega) only [e261_343_6, hp', h2, h3, E2, e261_343_25, nI_leI, nI_ltI, nI_eq, nI_clamp, lp_oobN, nI_add, pk_mul, pk_sub, pk_rem, pk_m1, lp_neg1lt, lp_neg1le, lp_neg1eq, lp_neg1eq2, if_true, if_false, if_pos, if_neg, Option.bind_some, Nat.lt_irrefl, Nat.le_refl, true_and, and_true, false_or, or_false, true_or, or_true, not_true_eq_false, not_false_eq_true, and_self, or_self, false_and, and_false, ite_true, ite_false, reduceIte]
theorem lp_mwd_ok : ∀ w, w < 10 → ∃ p, p < 50 ∧ lp_wsim 60 0 w = some p ∧ lp_wchk p (lp_mwd w) = true := by decide +kernel
theorem s261 {d w k : Nat} {g : lp_M} (hw : w < 10) (h8 : ∀ j, j < 50 → g 368 j = lp_wds.getD j 0) (hk : g 343 28 = nI k) (hle : k + (lp_mwd w).length ≤ 900) : lp_rn (d + 2) 261 [.ref 343, .int (nI w)] (lp_s0 g) = some (nI 0, lp_s0 (lp_ps 343 28 366 g (lp_mwd w))) := by
  obtain ⟨p, p1, p2, p3⟩ := lp_mwd_ok w hw
  have E1 := lp_wsim_run (d := d) (x := nI w) h8 60 0 w p (by omega) (by omega) p2
  have E2 := lp_wchk_run (d := d) (x := nI w) (lp_mwd w) g p k h8 hk hle p3
  rw [← E2]
  simp (disch := omega) only [e261_343, e272_343, E1, e261_343_5, nI_leI, nI_ltI, nI_eq, nI_clamp, lp_oobN, nI_add, pk_mul, pk_sub, pk_rem, pk_m1, lp_neg1lt, lp_neg1le, lp_neg1eq, lp_neg1eq2, if_true, if_false, if_pos, if_neg, Option.bind_some, Nat.lt_irrefl, Nat.le_refl, true_and, and_true, false_or, or_false, true_or, or_true, not_true_eq_false, not_false_eq_true, and_self, or_self, false_and, and_false, ite_true, ite_false, reduceIte]
theorem s262 {d n k : Nat} {g : lp_M} (hn : n < 100) (hk : g 343 28 = nI k) (hle : k + ([32] ++ lp_dig n).length ≤ 900) : lp_rn (d + 2) 262 [.ref 343, .int (nI n)] (lp_s0 g) = some (nI 0, lp_s0 (lp_ps 343 28 366 g ([32] ++ lp_dig n))) := by
  have hle' : k + (1 + (lp_dig n).length) ≤ 900 := by rw [List.length_append] at hle; exact hle
  have E1 := s260 (d := d) (b := 32) hk (by omega)
  obtain ⟨a1, -⟩ := lp_ps_all (c := 343) (f := 28) (e := 366) (by omega) [32] g k hk (by show _ + 1 ≤ _; omega)
  have dv := pk_div (a := n) (d := 10) (by omega) (by omega) (by omega)
  have a1' : lp_ps 343 28 366 g [32] 343 28 = nI (k + 1) := a1
  rw [lp_ps_app]
  by_cases h : n < 10
  · have e1 := lp_dig1 h
    have e : lp_dig n = [48 + n % 10] := if_pos h
    have E2 := s260 (d := d) (b := 48 + n % 10) a1' (by omega)
    have h' : n ≤ 9 := by omega
    rw [e]
    simp (disch := omega) only [e262_343, E1, e262_343_6, h', E2, e262_343_34, nI_leI, nI_ltI, nI_eq, nI_clamp, lp_oobN, nI_add, pk_mul, pk_sub, pk_rem, pk_m1, lp_neg1lt, lp_neg1le, lp_neg1eq, lp_neg1eq2, if_true, if_false, if_pos, if_neg, Option.bind_some, Nat.lt_irrefl, Nat.le_refl, true_and, and_true, false_or, or_false, true_or, or_true, not_true_eq_false, not_false_eq_true, and_self, or_self, false_and, and_false, ite_true, ite_false, reduceIte]
  · have e : lp_dig n = [48 + n / 10] ++ [48 + n % 10] := if_neg h
    have e1 : (lp_dig n).length = 2 := by rw [e]; rfl
    have E2 := s260 (d := d) (b := 48 + n / 10) a1' (by omega)
    obtain ⟨a2, -⟩ := lp_ps_all (c := 343) (f := 28) (e := 366) (by omega) [48 + n / 10] _ _ a1' (by show _ + 1 ≤ _; omega)
    have E3 := s260 (d := d) (b := 48 + n % 10) a2 (by show _ + 1 < _; omega)
    have h' : ¬ n ≤ 9 := by omega
    have rm : n - n / 10 * 10 = n % 10 := by omega
    rw [e, lp_ps_app]
    simp (disch := omega) only [e262_343, E1, e262_343_6, dv, rm, h', E2, e262_343_23, E3, e262_343_34, nI_leI, nI_ltI, nI_eq, nI_clamp, lp_oobN, nI_add, pk_mul, pk_sub, pk_rem, pk_m1, lp_neg1lt, lp_neg1le, lp_neg1eq, lp_neg1eq2, if_true, if_false, if_pos, if_neg, Option.bind_some, Nat.lt_irrefl, Nat.le_refl, true_and, and_true, false_or, or_false, true_or, or_true, not_true_eq_false, not_false_eq_true, and_self, or_self, false_and, and_false, ite_true, ite_false, reduceIte]
