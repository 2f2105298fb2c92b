/-! ===== all steps ===== -/
theorem lp_stepsOf {L : Nat} {xs : Nat → Int32} {Rg : lp_M → (Nat → Int32) → Prop} (H : lp_RgOk Rg) (z121 : lp_St (lp_Inv L xs (lp_Ka (lp_Kb (lp_Kt Rg)))) 121 251 []) (z122 : ∀ a0 : Int32, lp_St (lp_Inv L xs (lp_Ka (lp_Kb (lp_Kt Rg)))) 122 252 [.int a0]) (z123 : ∀ a0 : Int32, lp_St (lp_Inv L xs (lp_Ka (lp_Kb (lp_Kt Rg)))) 123 253 [.int a0]) (z124 : ∀ a0 : Int32, lp_St (lp_Inv L xs (lp_Ka (lp_Kb (lp_Kt Rg)))) 124 254 [.int a0]) : lp_Steps (lp_Inv L xs (lp_Ka (lp_Kb (lp_Kt Rg)))) :=
  ⟨fun a0 a1 a2 a3 a4 => st_feed (lp_KbOk (lp_KtOk H)) a0 a1 a2 a3 a4,
   fun a0 => st_back (lp_KbOk (lp_KtOk H)) a0,
   st_text (lp_KbOk (lp_KtOk H)),
   fun a0 => st_lamp (lp_KaOk (lp_KbOk (lp_KtOk H))) a0,
   fun a0 => st_drop (lp_KaOk (lp_KbOk (lp_KtOk H))) a0,
   fun a0 a1 a2 => st_wire (lp_KaOk (lp_KbOk (lp_KtOk H))) a0 a1 a2,
   fun a0 a1 => st_own (lp_KaOk (lp_KbOk (lp_KtOk H))) a0 a1,
   fun a0 a1 => st_goal (lp_KaOk (lp_KbOk (lp_KtOk H))) a0 a1,
   fun a0 a1 => st_show (lp_KaOk (lp_KbOk (lp_KtOk H))) a0 a1,
   fun a0 a1 => st_press (lp_KaOk (lp_KbOk (lp_KtOk H))) a0 a1,
   st_aim (lp_KaOk (lp_KbOk (lp_KtOk H))),
   st_solve (lp_KbOk (lp_KtOk H)),
   fun a0 a1 a2 => st_lay (lp_KaOk (lp_KbOk (lp_KtOk H))) a0 a1 a2,
   fun a0 a1 => st_swap (lp_KaOk (lp_KbOk (lp_KtOk H))) a0 a1,
   fun a0 => st_lift (lp_KaOk (lp_KbOk (lp_KtOk H))) a0,
   fun a0 => st_scale (lp_KaOk (lp_KbOk (lp_KtOk H))) a0,
   st_mirror (lp_KaOk (lp_KbOk (lp_KtOk H))),
   st_undo (lp_KaOk (lp_KbOk (lp_KtOk H))),
   fun a0 a1 => st_of (lp_KaOk (lp_KbOk (lp_KtOk H))) a0 a1,
   fun a0 a1 => st_weight (lp_KaOk (lp_KbOk (lp_KtOk H))) a0 a1,
   st_rank (lp_KbOk (lp_KtOk H)),
   st_quiet (lp_KbOk (lp_KtOk H)),
   fun a0 a1 => st_base (lp_KbOk (lp_KtOk H)) a0 a1,
   st_plans (lp_KbOk (lp_KtOk H)),
   fun a0 => st_plan (lp_KbOk (lp_KtOk H)) a0,
   fun a0 => st_fewest (lp_KtOk H) a0,
   fun a0 => st_fixed (lp_KbOk (lp_KtOk H)) a0,
   fun a0 => st_alone (lp_KbOk (lp_KtOk H)) a0,
   st_alones (lp_KbOk (lp_KtOk H)),
   st_off (lp_KaOk (lp_KbOk (lp_KtOk H))),
   st_parts (lp_KaOk (lp_KbOk (lp_KtOk H))),
   fun a0 a1 => st_distance (lp_KaOk (lp_KbOk (lp_KtOk H))) a0 a1,
   fun a0 a1 => st_same (lp_KaOk (lp_KbOk (lp_KtOk H))) a0 a1,
   fun a0 => st_part (lp_KbOk (lp_KtOk H)) a0,
   fun a0 => st_only (lp_KbOk (lp_KtOk H)) a0,
   fun a0 => st_sparest (lp_KtOk H) a0,
   fun a0 => st_greedy (lp_KbOk (lp_KtOk H)) a0,
   st_hardest (lp_KbOk (lp_KtOk H)),
   fun a0 a1 => st_after (lp_KaOk (lp_KbOk (lp_KtOk H))) a0 a1,
   fun a0 => st_cycle (lp_KaOk (lp_KbOk (lp_KtOk H))) a0,
   st_ways (lp_KbOk (lp_KtOk H)),
   st_hub (lp_KaOk (lp_KbOk (lp_KtOk H))),
   fun a0 a1 => st_book (lp_KaOk (lp_KbOk (lp_KtOk H))) a0 a1,
   z121,
   z122,
   z123,
   z124,
   fun a0 a1 => st_byOwn (lp_KbOk (lp_KtOk H)) a0 a1,
   fun a0 a1 a2 => st_byWire (lp_KbOk (lp_KtOk H)) a0 a1 a2,
   fun a0 => st_without (lp_KbOk (lp_KtOk H)) a0,
   st_mend (lp_KbOk (lp_KtOk H)),
   st_even (lp_KbOk (lp_KtOk H)),
   fun a0 => st_spell H a0,
   fun a0 => st_report H a0,
   fun a0 => st_count (lp_KaOk (lp_KbOk (lp_KtOk H))) a0⟩
/-- the start -/
theorem lp_start (L : Nat) (xs : Nat → Int32) {Rg : lp_M → (Nat → Int32) → Prop} (H : lp_RgOk Rg) : lp_Inv L xs (lp_Ka (lp_Kb (lp_Kt Rg))) (lp_g0 L xs) := by
  have v : ∀ k j (x : Int32), k < 369 → lp_S2.2.2 k j = x → lp_g0 L xs k j = x := fun k j x hk h => by
    unfold lp_g0
    rw [if_neg (by omega), if_neg (by omega), if_neg (by omega)]; exact h
  have r0 : lp_g0 L xs 344 0 = nI 2 := v _ _ _ (by omega) (lp_S2_I (by decide +kernel))
  have r1 : lp_g0 L xs 344 1 = nI 0 := v _ _ _ (by omega) (lp_S2_I (by decide +kernel))
  have r2 : lp_g0 L xs 344 2 = nI 0 := v _ _ _ (by omega) (lp_S2_I (by decide +kernel))
  have r3 : lp_g0 L xs 344 3 = nI 0 := v _ _ _ (by omega) (lp_S2_I (by decide +kernel))
  have g10 : lp_g0 L xs 1 0 = nI 2 := v _ _ _ (by omega) (lp_S2_I (by decide +kernel))
  have g11 : lp_g0 L xs 1 1 = nI 0 := v _ _ _ (by omega) (lp_S2_I (by decide +kernel))
  have g12 : lp_g0 L xs 1 2 = nI 0 := v _ _ _ (by omega) (lp_S2_I (by decide +kernel))
  have g15 : lp_g0 L xs 15 0 = nI 0 := v _ _ _ (by omega) (lp_S2_I (by decide +kernel))
  have hb : lp_Bd 2 0 (fun _ => 0) (fun _ => 0) (fun _ _ => 0) := ⟨by omega, by omega, fun i hi => by omega, fun i hi => by omega, fun i j hi _ => by omega⟩
  have hD : lp_D (lp_g0 L xs 344) 2 0 (fun _ => 0) (fun _ => 0) (fun _ _ => 0) := ⟨r0, r1, fun i hi => by omega, fun i hi => by omega, fun i j hi _ => by omega, fun i hi => by omega⟩
  obtain ⟨ok, em, en, -, -⟩ := lp_Ok_D hD hb ⟨0, by omega, r3⟩
  have eb : lp_vB (lp_g0 L xs 344) = 0 := by unfold lp_vB; rw [r3]; decide
  have fl : lp_Fl2 (lp_g0 L xs) := ⟨⟨v _ _ _ (by omega) (lp_S2_I (by decide +kernel)), v _ _ _ (by omega) (lp_S2_I (by decide +kernel)), v _ _ _ (by omega) (lp_S2_I (by decide +kernel)), v _ _ _ (by omega) (lp_S2_I (by decide +kernel)), v _ _ _ (by omega) (lp_S2_I (by decide +kernel)), v _ _ _ (by omega) (lp_S2_I (by decide +kernel))⟩, v _ _ _ (by omega) (lp_S2_I (by decide +kernel)), v _ _ _ (by omega) (lp_S2_I (by decide +kernel))⟩
  refine ⟨⟨?_, ?_, fun j => ?_⟩, lp_g0 L xs 344, 0, fun _ _ => 0, 0, fun _ => 0, ok, ⟨?_, ⟨by omega, v _ _ _ (by omega) (lp_S2_I (by decide +kernel)), 0, by omega, v _ _ _ (by omega) (lp_S2_I (by decide +kernel)), fun k hk => by omega⟩, ⟨by omega, v _ _ _ (by omega) (lp_S2_I (by decide +kernel)), fun i hi => by omega⟩, ⟨v _ _ _ (by omega) (lp_S2_I (by decide +kernel)), v _ _ _ (by omega) (lp_S2_I (by decide +kernel)), v _ _ _ (by omega) (lp_S2_I (by decide +kernel)), v _ _ _ (by omega) (lp_S2_I (by decide +kernel))⟩⟩, (lp_KaOk (lp_KbOk (lp_KtOk H))).2.1 _ _ ok fl, ⟨rfl, ⟨v _ _ _ (by omega) (lp_S2_I (by decide +kernel)), fun k hk => by omega⟩, ⟨v _ _ _ (by omega) (lp_S2_I (by decide +kernel)), fun i hi => by omega⟩, fun j hj => v _ _ _ (by omega) ?_⟩⟩
  · unfold lp_g0; rw [if_pos rfl]
  · unfold lp_g0; rw [if_neg (by omega), if_pos rfl]
  · unfold lp_g0; rw [if_neg (by omega), if_neg (by omega), if_pos rfl]
  · unfold lp_CN
    rw [en, eb]
    exact ⟨by rw [g10, r0], by rw [g11, r1], by rw [g12, r2], by rw [r3]; exact g15, fun i hi => by omega, fun i hi => by omega, fun i j hi _ => by omega, fun k hk => by omega⟩
  · have : ∀ j, j < 50 → (368, j, lp_wds.getD j 0) ∈ lp_n0 := by decide +kernel
    exact lp_S2_I (this j hj)
