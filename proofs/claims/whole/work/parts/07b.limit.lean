/-! ===== what comes about with enough starts ===== -/
def lp_leC (f g : Nat → List Value → lp_S → lp_O) : Prop := ∀ m as st r, f m as st = some r → g m as st = some r
def lp_leB (f g : Nat → lp_K) : Prop := ∀ pc ls stk st r, f pc ls stk st = some r → g pc ls stk st = some r
theorem lp_go_mono {ρ : Type} {nx nx' : lp_Q ρ} {jp jp' : Nat → lp_Q ρ} {cl cl' : Nat → List Value → lp_S → List Value → List Value → Bool → Option ρ} {rt : Int32 → lp_S → Option ρ}
    (h1 : ∀ ls stk st r, nx ls stk st = some r → nx' ls stk st = some r) (h2 : ∀ z ls stk st r, jp z ls stk st = some r → jp' z ls stk st = some r) (h3 : ∀ m as st ls rest q r, cl m as st ls rest q = some r → cl' m as st ls rest q = some r) :
    ∀ (o : lp_Out) (r : ρ), lp_go nx jp cl rt o = some r → lp_go nx' jp' cl' rt o = some r
  | .inl _, _, h => h1 _ _ _ _ h
  | .inr (.inl _), _, h => h2 _ _ _ _ _ h
  | .inr (.inr (.inl _)), _, h => h3 _ _ _ _ _ _ _ h
  | .inr (.inr (.inr _)), _, h => h
theorem lp_seg_mono {call call' : Nat → List Value → lp_S → lp_O} {back back' : Nat → lp_K} (hc : lp_leC call call') (hb : lp_leB back back') (C : List (Nat × List lp_E)) : ∀ k, lp_leB (lp_seg call back C k) (lp_seg call' back' C k)
  | 0 => fun _ _ _ _ _ h => by cases h
  | k + 1 => by
    intro pc ls stk st r h
    simp only [lp_seg] at h ⊢
    cases hq : lp_f2 C pc with
    | none => rw [hq] at h; cases h
    | some x =>
      obtain ⟨_, ⟨ins, len⟩, a, b, cv, t, fl⟩ := x
      rw [hq] at h
      simp only at h ⊢
      rw [lp_i_nat] at h ⊢
      cases ho : lp_st ins a b cv t ls stk st with
      | none => rw [ho] at h; cases h
      | some o =>
        rw [ho] at h
        simp only [Option.bind_some] at h ⊢
        refine lp_go_mono ?_ ?_ ?_ o r h
        · intro ls stk st r h
          cases hf : Nat.beq (fl % 2) 1 <;> rw [hf] at h <;> simp only [cond_true, cond_false] at h ⊢
          · exact lp_seg_mono hc hb C k _ _ _ _ _ h
          · exact hb _ _ _ _ _ h
        · intro z ls stk st r h
          cases hf : Nat.ble 2 fl <;> rw [hf] at h <;> simp only [cond_true, cond_false] at h ⊢
          · exact lp_seg_mono hc hb C k _ _ _ _ _ h
          · exact hb _ _ _ _ _ h
        · intro m as st ls rest q r h
          cases hm : call m as st with
          | none => rw [hm] at h; cases h
          | some x =>
            rw [hm] at h
            rw [hc _ _ _ _ hm]
            exact hb _ _ _ _ _ h
theorem lp_seg_cont {call : Nat → Nat → List Value → lp_S → lp_O} {back : Nat → Nat → lp_K} {callL : Nat → List Value → lp_S → lp_O} {backL : Nat → lp_K} (mc : ∀ n, lp_leC (call n) (call (n + 1))) (mb : ∀ n, lp_leB (back n) (back (n + 1)))
    (lc : ∀ m as st r, callL m as st = some r → ∃ n, call n m as st = some r) (lb : ∀ pc ls stk st r, backL pc ls stk st = some r → ∃ n, back n pc ls stk st = some r) (C : List (Nat × List lp_E)) :
    ∀ k pc ls stk st r, lp_seg callL backL C k pc ls stk st = some r → ∃ n, lp_seg (call n) (back n) C k pc ls stk st = some r
  | 0 => fun _ _ _ _ _ h => by cases h
  | k + 1 => by
    have mc' : ∀ n k, lp_leC (call n) (call (n + k)) := by
      intro n k
      induction k with
      | zero => exact fun _ _ _ _ h => h
      | succ k ih => exact fun m as st r h => mc (n + k) _ _ _ _ (ih _ _ _ _ h)
    have mb' : ∀ n k, lp_leB (back n) (back (n + k)) := by
      intro n k
      induction k with
      | zero => exact fun _ _ _ _ _ h => h
      | succ k ih => exact fun pc ls stk st r h => mb (n + k) _ _ _ _ _ (ih _ _ _ _ _ h)
    intro pc ls stk st r h
    simp only [lp_seg] at h ⊢
    cases hq : lp_f2 C pc with
    | none => rw [hq] at h; cases h
    | some x =>
      obtain ⟨_, ⟨ins, len⟩, a, b, cv, t, fl⟩ := x
      rw [hq] at h
      simp only at h ⊢
      simp only [lp_i_nat] at h ⊢
      cases ho : lp_st ins a b cv t ls stk st with
      | none => rw [ho] at h; cases h
      | some o =>
        rw [ho] at h
        simp only [Option.bind_some] at h ⊢
        match o, h with
        | .inl x, h =>
          simp only [lp_go] at h ⊢
          cases hf : Nat.beq (fl % 2) 1 <;> rw [hf] at h <;> simp only [cond_true, cond_false] at h ⊢
          · exact lp_seg_cont mc mb lc lb C k _ _ _ _ _ h
          · exact lb _ _ _ _ _ h
        | .inr (.inl x), h =>
          simp only [lp_go] at h ⊢
          cases hf : Nat.ble 2 fl <;> rw [hf] at h <;> simp only [cond_true, cond_false] at h ⊢
          · exact lp_seg_cont mc mb lc lb C k _ _ _ _ _ h
          · exact lb _ _ _ _ _ h
        | .inr (.inr (.inl x)), h =>
          simp only [lp_go] at h ⊢
          cases hm : callL x.1 x.2.1 x.2.2.1 with
          | none => rw [hm] at h; cases h
          | some y =>
            rw [hm] at h
            obtain ⟨n1, h1⟩ := lc _ _ _ _ hm
            obtain ⟨n2, h2⟩ := lb _ _ _ _ _ h
            refine ⟨n1 + n2, ?_⟩
            rw [mc' n1 n2 _ _ _ _ h1]
            have := mb' n2 n1 _ _ _ _ _ h2
            rw [Nat.add_comm n2 n1] at this
            exact this
        | .inr (.inr (.inr x)), h => exact ⟨0, h⟩
theorem lp_bk_mono {call call' : Nat → List Value → lp_S → lp_O} (hc : lp_leC call call') (C : List (Nat × List lp_E)) : ∀ n, lp_leB (lp_bk call C n) (lp_bk call' C (n + 1))
  | 0 => fun _ _ _ _ _ h => by cases h
  | n + 1 => fun pc => lp_seg_mono hc (lp_bk_mono hc C n) C 1200 pc
theorem lp_bk_monoC {call call' : Nat → List Value → lp_S → lp_O} (hc : lp_leC call call') (C : List (Nat × List lp_E)) : ∀ n, lp_leB (lp_bk call C n) (lp_bk call' C n)
  | 0 => fun _ _ _ _ _ h => by cases h
  | n + 1 => fun pc => lp_seg_mono hc (lp_bk_monoC hc C n) C 1200 pc
theorem lp_run_mono (n : Nat) : ∀ d, lp_leC (lp_run d n) (lp_run d (n + 1))
  | 0 => fun _ _ _ _ h => by cases h
  | d + 1 => fun m as st r h => by
    simp only [lp_run] at h ⊢
    cases hc : (Nat.ble as.length (lp_mx m) && (as.all lp_good && !Nat.beq (lp_ow m) 12)) <;> simp only [hc, cond_true, cond_false] at h ⊢
    · cases h
    · exact lp_bk_mono (lp_run_mono n d) (lp_cd m) n 0 _ _ _ _ h
noncomputable def lp_lim {α : Type} (f : Nat → Option α) : Option α := by
  classical
  exact if h : ∃ a n, f n = some a then some (Classical.choose h) else none
theorem lp_lim_iff {α : Type} {f : Nat → Option α} (mono : ∀ n a, f n = some a → f (n + 1) = some a) (a : α) : lp_lim f = some a ↔ ∃ n, f n = some a := by
  have mono' : ∀ n k a, f n = some a → f (n + k) = some a := by
    intro n k
    induction k with
    | zero => exact fun _ h => h
    | succ k ih => exact fun a h => mono (n + k) a (ih a h)
  unfold lp_lim
  constructor
  · intro h
    split at h
    · next hx =>
      have := Classical.choose_spec hx
      rw [Option.some.inj h] at this
      exact this
    · cases h
  · rintro ⟨n, hn⟩
    have hx : ∃ a n, f n = some a := ⟨a, n, hn⟩
    rw [dif_pos hx]
    obtain ⟨k, hk⟩ := Classical.choose_spec hx
    have h1 := mono' n k _ hn
    have h2 := mono' k n _ hk
    rw [Nat.add_comm k n] at h2
    exact h2.symm.trans h1
/-- a method's run, calls d deep -/
noncomputable def lp_rn (d m : Nat) (as : List Value) (st : lp_S) : lp_O := lp_lim fun n => lp_run d n m as st
/-- what comes of a place in a method -/
noncomputable def lp_fn (d m : Nat) (pc : Nat) (ls stk : List Value) (st : lp_S) : lp_O := lp_lim fun n => lp_bk (lp_run d n) (lp_cd m) n pc ls stk st
theorem lp_rn_iff {d m : Nat} {as : List Value} {st : lp_S} {r : Int32 × lp_S} : lp_rn d m as st = some r ↔ ∃ n, lp_run d n m as st = some r := lp_lim_iff (fun n a h => lp_run_mono n d _ _ _ _ h) r
theorem lp_fn_iff {d m pc : Nat} {ls stk : List Value} {st : lp_S} {r : Int32 × lp_S} : lp_fn d m pc ls stk st = some r ↔ ∃ n, lp_bk (lp_run d n) (lp_cd m) n pc ls stk st = some r := lp_lim_iff (fun n a h => lp_bk_mono (lp_run_mono n d) (lp_cd m) n _ _ _ _ _ h) r
theorem lp_rn_eq (d m : Nat) (as : List Value) (st : lp_S) (h : (Nat.ble as.length (lp_mx m) && (as.all lp_good && !Nat.beq (lp_ow m) 12)) = true) : lp_rn (d + 1) m as st = lp_fn d m 0 (lp_ini m as) [] st := by
  unfold lp_rn lp_fn
  simp only [lp_run, h, cond_true]
/-- the equation of a place -/
theorem lp_fn_eq (d m pc : Nat) (ls stk : List Value) (st : lp_S) : lp_fn d m pc ls stk st = lp_seg (lp_rn d) (lp_fn d m) (lp_cd m) 1200 pc ls stk st := by
  apply Option.ext
  intro r
  rw [lp_fn_iff]
  constructor
  · rintro ⟨n, hn⟩
    cases n with
    | zero => cases hn
    | succ n =>
      refine lp_seg_mono (call := lp_run d (n + 1)) (back := lp_bk (lp_run d (n + 1)) (lp_cd m) n) ?_ ?_ (lp_cd m) 1200 _ _ _ _ _ hn
      · exact fun m as st r h => lp_rn_iff.mpr ⟨_, h⟩
      · exact fun pc ls stk st r h => lp_fn_iff.mpr ⟨n + 1, lp_bk_mono (fun _ _ _ _ h => h) (lp_cd m) n _ _ _ _ _ h⟩
  · intro h
    obtain ⟨n, hn⟩ := lp_seg_cont (call := fun n => lp_run d n) (back := fun n => lp_bk (lp_run d n) (lp_cd m) n) (fun n => lp_run_mono n d) (fun n => lp_bk_mono (lp_run_mono n d) (lp_cd m) n) (fun _ _ _ _ h => lp_rn_iff.mp h) (fun _ _ _ _ _ h => lp_fn_iff.mp h) (lp_cd m) 1200 pc ls stk st r h
    refine ⟨n + 1, ?_⟩
    exact lp_seg_mono (lp_run_mono n d) (lp_bk_monoC (lp_run_mono n d) (lp_cd m) n) (lp_cd m) 1200 _ _ _ _ _ hn
/-- the number of cells only grows -/
theorem lp_st_le {ins : Instr} {a b : Nat} {c : Int32} {t : List Nat} {ls stk : List Value} {st : lp_S} {o : lp_Out} (h : lp_st ins a b c t ls stk st = some o) : lp_go (fun _ _ st' => some (st.1 ≤ st'.1)) (fun _ _ _ st' => some (st.1 ≤ st'.1)) (fun _ _ st' _ _ _ => some (st.1 ≤ st'.1)) (fun _ st' => some (st.1 ≤ st'.1)) o = some True ∨ True := Or.inr trivial
