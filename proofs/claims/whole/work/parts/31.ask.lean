theorem xs_p52 {P Q R : Nat → Bool} {i : Nat} (hi : i < 8) (f_equationsThere f_stale f_unknowns f_pairs f_excessEquations f_excessVariables f_looseEquations f_looseVariables f_blockCount f_firstSingular : Int32) (a_kinds a_given a_found a_constants a_coefficients a_oldCoefficients a_reach a_goodReach a_blockEquations a_blockVariables a_grid a_solvedBy a_rests : Nat → Int32) (post : Int32 → SX → Prop) (h0 : P i = false → post (-1) (f_equationsThere, f_stale, f_unknowns, f_pairs, f_excessEquations, f_excessVariables, f_looseEquations, f_looseVariables, f_blockCount, f_firstSingular, a_kinds, a_given, a_found, a_constants, a_coefficients, a_oldCoefficients, a_reach, a_goodReach, a_blockEquations, a_blockVariables, a_grid, a_solvedBy, a_rests)) (h1 : P i = true → Q i = true → post 1 (f_equationsThere, f_stale, f_unknowns, f_pairs, f_excessEquations, f_excessVariables, f_looseEquations, f_looseVariables, f_blockCount, f_firstSingular, a_kinds, a_given, a_found, a_constants, a_coefficients, a_oldCoefficients, a_reach, a_goodReach, a_blockEquations, a_blockVariables, a_grid, a_solvedBy, a_rests)) (h2 : P i = true → Q i = false → R i = true → post 2 (f_equationsThere, f_stale, f_unknowns, f_pairs, f_excessEquations, f_excessVariables, f_looseEquations, f_looseVariables, f_blockCount, f_firstSingular, a_kinds, a_given, a_found, a_constants, a_coefficients, a_oldCoefficients, a_reach, a_goodReach, a_blockEquations, a_blockVariables, a_grid, a_solvedBy, a_rests)) (h3 : P i = true → Q i = false → R i = false → post 0 (f_equationsThere, f_stale, f_unknowns, f_pairs, f_excessEquations, f_excessVariables, f_looseEquations, f_looseVariables, f_blockCount, f_firstSingular, a_kinds, a_given, a_found, a_constants, a_coefficients, a_oldCoefficients, a_reach, a_goodReach, a_blockEquations, a_blockVariables, a_grid, a_solvedBy, a_rests)) : wX_part_52 post (nI i) (nI (md_mk 8 P)) (nI (md_mk 8 Q)) (nI (md_mk 8 R)) f_equationsThere f_stale f_unknowns f_pairs f_excessEquations f_excessVariables f_looseEquations f_looseVariables f_blockCount f_firstSingular a_kinds a_given a_found a_constants a_coefficients a_oldCoefficients a_reach a_goodReach a_blockEquations a_blockVariables a_grid a_solvedBy a_rests :=
  xs_num_t hi (xs_has P hi (fun a => xs_has Q hi (fun b => h1 a b) (fun b => xs_has R hi (fun c => h2 a b c) (fun c => h3 a b c))) (fun a => h0 a))
theorem ys_p60 {Q R : Nat → Bool} {i : Nat} (hi : i < 8) (f_equations f_variables f_greatest f_excess f_loose f_excessOnes f_looseOnes f_known f_blocks : Int32) (a_kind a_value a_before a_constant a_latest a_there a_shown a_coefficient a_old a_inside a_most a_more a_blockEquations a_blockVariables a_goodPairs a_matrix : Nat → Int32) (post : Int32 → SY → Prop) {r : Int32} (h : post r (f_equations, f_variables, f_greatest, f_excess, f_loose, f_excessOnes, f_looseOnes, f_known, f_blocks, a_kind, a_value, a_before, a_constant, a_latest, a_there, a_shown, a_coefficient, a_old, a_inside, a_most, a_more, a_blockEquations, a_blockVariables, a_goodPairs, a_matrix)) (e1 : Q i = true → r = 1) (e2 : Q i = false → R i = true → r = 2) (e3 : Q i = false → R i = false → r = 0) : wY_part_60 post (nI i) (nI (md_mk 8 Q)) (nI (md_mk 8 R)) f_equations f_variables f_greatest f_excess f_loose f_excessOnes f_looseOnes f_known f_blocks a_kind a_value a_before a_constant a_latest a_there a_shown a_coefficient a_old a_inside a_most a_more a_blockEquations a_blockVariables a_goodPairs a_matrix := by
  unfold wY_part_60
  cases hq : Q i with
  | true => rw [e1 hq] at h; exact br_t (md_b1 hi hq) h
  | false =>
    refine br_f (md_b1n hi hq) ?_
    cases hr : R i with
    | true => rw [e2 hq hr] at h; exact br_t (md_b1 hi hr) h
    | false => rw [e3 hq hr] at h; exact br_f (md_b1n hi hr) h
theorem i_vc_part {k : Nat} {u : SX} {v : SY} (I : i_Rel k u v) (hk : k + 5 ≤ 2560) (v1 : Int32) (v2 : Int32) : wpX_part (fun r u' => wpY_part (fun r' v' => r' = r ∧ i_Rel (k + 5) u' v') v v1 (lw_bz v2)) u v1 (lw_bz v2) := by
  obtain ⟨f_equationsThere, f_stale, f_unknowns, f_pairs, f_excessEquations, f_excessVariables, f_looseEquations, f_looseVariables, f_blockCount, f_firstSingular, a_kinds, a_given, a_found, a_constants, a_coefficients, a_oldCoefficients, a_reach, a_goodReach, a_blockEquations, a_blockVariables, a_grid, a_solvedBy, a_rests⟩ := u
  obtain ⟨f_equations, f_variables, f_greatest, f_excess, f_loose, f_excessOnes, f_looseOnes, f_known, f_blocks, a_kind, a_value, a_before, a_constant, a_latest, a_there, a_shown, a_coefficient, a_old, a_inside, a_most, a_more, b_E, b_V, a_goodPairs, a_matrix⟩ := v
  obtain ⟨kd, cf, ol, co, gv, m, mm, ⟨hm8, heq, hkx, hky, hk4, hcx, hcy, hc1, hox, hoy, ho1, hnx, hny, hn1, hgx, hg1, hth, hv2, hv3, hsh⟩, hmm, hX, hY⟩ := I
  subst heq
  unfold wpX_part
  refine xs_ref  f_stale f_unknowns f_pairs f_excessEquations f_excessVariables f_looseEquations f_looseVariables f_blockCount f_firstSingular a_kinds a_given a_found a_constants a_coefficients a_oldCoefficients a_reach a_goodReach a_blockEquations a_blockVariables a_grid a_solvedBy a_rests hkx hk4 hcx hc1 hX _ (fun unk prs exE exV loE loV bc fs rea goo bE bV grid sol hXL => ?_)
  have hXL2 := hXL
  obtain ⟨⟨rfl, rfl, rfl, rfl, rfl, rfl, rfl, hre, hgo, hB⟩, rfl, hG⟩ := hXL
  by_cases hb : lw_bz v2 = 0
  · refine br_t hb (br_t hb (br_t hb ?_))
    rcases pk_ix v1 (n := 8) (by decide) with hx | hx | ⟨i, hi, rfl⟩
    · refine xs_num_f (Or.inl hx) ?_
      unfold wpY_part
      exact br_t hb (ys_there_f (Or.inl hx) f_equations f_variables f_greatest f_excess f_loose f_excessOnes f_looseOnes f_known f_blocks a_kind a_value a_before a_constant a_latest a_there a_shown a_coefficient a_old a_inside a_most a_more b_E b_V a_goodPairs a_matrix ⟨rfl, kd, cf, ol, co, gv, m, mm, ⟨hm8, rfl, hkx, hky, hk4, hcx, hcy, hc1, hox, hoy, ho1, hnx, hny, hn1, hgx, hg1, hth, hv2, hv3, hsh⟩, hmm, fun _ => hXL2, hY⟩)
    · refine xs_num_f (Or.inr hx) ?_
      unfold wpY_part
      exact br_t hb (ys_there_f (Or.inr hx) f_equations f_variables f_greatest f_excess f_loose f_excessOnes f_looseOnes f_known f_blocks a_kind a_value a_before a_constant a_latest a_there a_shown a_coefficient a_old a_inside a_most a_more b_E b_V a_goodPairs a_matrix ⟨rfl, kd, cf, ol, co, gv, m, mm, ⟨hm8, rfl, hkx, hky, hk4, hcx, hcy, hc1, hox, hoy, ho1, hnx, hny, hn1, hgx, hg1, hth, hv2, hv3, hsh⟩, hmm, fun _ => hXL2, hY⟩)
    · have hyes : (md_Em m) i = true → ∀ r, ((md_exc (md_Ak kd cf m) (md_Em m) (md_Vk kd)) i = true → r = 1) → ((md_exc (md_Ak kd cf m) (md_Em m) (md_Vk kd)) i = false → (md_loe (md_Ak kd cf m) (md_Em m) (md_Vk kd)) i = true → r = 2) → ((md_exc (md_Ak kd cf m) (md_Em m) (md_Vk kd)) i = false → (md_loe (md_Ak kd cf m) (md_Em m) (md_Vk kd)) i = false → r = 0) → wpY_part (fun r' v' => r' = r ∧ i_Rel (k + 5) ((nI (md_mk 8 (md_Em m))), 0, (nI (md_mk 8 (md_Vk kd))), (nI (md_tau (md_Ak kd cf m) (md_Em m) (md_Vk kd))), (nI (md_mk 8 (md_exc (md_Ak kd cf m) (md_Em m) (md_Vk kd)))), (nI (md_mk 8 (md_exv (md_Ak kd cf m) (md_Em m) (md_Vk kd)))), (nI (md_mk 8 (md_loe (md_Ak kd cf m) (md_Em m) (md_Vk kd)))), (nI (md_mk 8 (md_loo (md_Ak kd cf m) (md_Em m) (md_Vk kd)))), (nI (md_Q (md_Ak kd cf m) (md_Em m) (md_Vk kd))), (md_FS (md_Kq cf) (md_Ak kd cf m) (md_Em m) (md_Vk kd)), a_kinds, a_given, a_found, a_constants, a_coefficients, a_oldCoefficients, rea, goo, bE, bV, grid, sol, a_rests) v') (f_equations, f_variables, f_greatest, f_excess, f_loose, f_excessOnes, f_looseOnes, f_known, f_blocks, a_kind, a_value, a_before, a_constant, a_latest, a_there, a_shown, a_coefficient, a_old, a_inside, a_most, a_more, b_E, b_V, a_goodPairs, a_matrix) (nI i) (lw_bz v2) := by
        intro hP r e1 e2 e3
        unfold wpY_part
        refine br_t hb (ys_there hi f_equations f_variables f_greatest f_excess f_loose f_excessOnes f_looseOnes f_known f_blocks a_kind a_value a_before a_constant a_latest a_there a_shown a_coefficient a_old a_inside a_most a_more b_E b_V a_goodPairs a_matrix hth (fun _ => ?_) (fun h0 => by rw [hP] at h0; simp at h0))
        unfold wY_part_25
        refine ys_know f_equations f_variables f_greatest f_excess f_loose f_excessOnes f_looseOnes f_known f_blocks a_kind a_value a_before a_constant a_latest a_there a_shown a_coefficient a_old a_inside a_most a_more b_E b_V a_goodPairs a_matrix hky hk4 hth hcy hc1 hY _ (fun eqs vrs gre xE lE xV lV kn blk ins mo me yE yV god hkn hYA => ?_)
        have hYA2 := hYA
        obtain ⟨rfl, rfl, rfl, rfl, rfl, rfl, rfl, rfl, hin, hgd, hYB⟩ := hYA
        refine br_t hb (br_t hb ?_)
        exact ys_p60 hi _ _ _ _ _ _ _ kn _ a_kind a_value a_before a_constant a_latest a_there a_shown a_coefficient a_old ins mo me yE yV god a_matrix _ (r := r) ⟨rfl, kd, cf, ol, co, gv, m, mm, ⟨hm8, rfl, hkx, hky, hk4, hcx, hcy, hc1, hox, hoy, ho1, hnx, hny, hn1, hgx, hg1, hth, hv2, hv3, hsh⟩, hmm, fun _ => hXL2, fun _ => hYA2⟩ e1 e2 e3
      refine xs_p52 hi _ _ _ _ _ _ _ _ _ _ a_kinds a_given a_found a_constants a_coefficients a_oldCoefficients rea goo bE bV grid sol a_rests _ (fun hP => ?_) (fun hP hQ => hyes hP _ (fun _ => rfl) (fun h => by rw [hQ] at h; simp at h) (fun h => by rw [hQ] at h; simp at h)) (fun hP hQ hR => hyes hP _ (fun h => by rw [hQ] at h; simp at h) (fun _ _ => rfl) (fun _ h => by rw [hR] at h; simp at h)) (fun hP hQ hR => hyes hP _ (fun h => by rw [hQ] at h; simp at h) (fun _ h => by rw [hR] at h; simp at h) (fun _ _ => rfl))
      unfold wpY_part
      exact br_t hb (ys_there hi f_equations f_variables f_greatest f_excess f_loose f_excessOnes f_looseOnes f_known f_blocks a_kind a_value a_before a_constant a_latest a_there a_shown a_coefficient a_old a_inside a_most a_more b_E b_V a_goodPairs a_matrix hth (fun h1 => by rw [hP] at h1; simp at h1) (fun _ => ⟨rfl, kd, cf, ol, co, gv, m, mm, ⟨hm8, rfl, hkx, hky, hk4, hcx, hcy, hc1, hox, hoy, ho1, hnx, hny, hn1, hgx, hg1, hth, hv2, hv3, hsh⟩, hmm, fun _ => hXL2, hY⟩))
  · refine br_f hb (br_f hb (br_f hb ?_))
    rcases pk_ix v1 (n := 8) (by decide) with hx | hx | ⟨i, hi, rfl⟩
    · refine xs_num_f (Or.inl hx) ?_
      unfold wpY_part
      exact br_f hb (ys_open_f (Or.inl hx) f_equations f_variables f_greatest f_excess f_loose f_excessOnes f_looseOnes f_known f_blocks a_kind a_value a_before a_constant a_latest a_there a_shown a_coefficient a_old a_inside a_most a_more b_E b_V a_goodPairs a_matrix ⟨rfl, kd, cf, ol, co, gv, m, mm, ⟨hm8, rfl, hkx, hky, hk4, hcx, hcy, hc1, hox, hoy, ho1, hnx, hny, hn1, hgx, hg1, hth, hv2, hv3, hsh⟩, hmm, fun _ => hXL2, hY⟩)
    · refine xs_num_f (Or.inr hx) ?_
      unfold wpY_part
      exact br_f hb (ys_open_f (Or.inr hx) f_equations f_variables f_greatest f_excess f_loose f_excessOnes f_looseOnes f_known f_blocks a_kind a_value a_before a_constant a_latest a_there a_shown a_coefficient a_old a_inside a_most a_more b_E b_V a_goodPairs a_matrix ⟨rfl, kd, cf, ol, co, gv, m, mm, ⟨hm8, rfl, hkx, hky, hk4, hcx, hcy, hc1, hox, hoy, ho1, hnx, hny, hn1, hgx, hg1, hth, hv2, hv3, hsh⟩, hmm, fun _ => hXL2, hY⟩)
    · have hyes : (md_Vk kd) i = true → ∀ r, ((md_exv (md_Ak kd cf m) (md_Em m) (md_Vk kd)) i = true → r = 1) → ((md_exv (md_Ak kd cf m) (md_Em m) (md_Vk kd)) i = false → (md_loo (md_Ak kd cf m) (md_Em m) (md_Vk kd)) i = true → r = 2) → ((md_exv (md_Ak kd cf m) (md_Em m) (md_Vk kd)) i = false → (md_loo (md_Ak kd cf m) (md_Em m) (md_Vk kd)) i = false → r = 0) → wpY_part (fun r' v' => r' = r ∧ i_Rel (k + 5) ((nI (md_mk 8 (md_Em m))), 0, (nI (md_mk 8 (md_Vk kd))), (nI (md_tau (md_Ak kd cf m) (md_Em m) (md_Vk kd))), (nI (md_mk 8 (md_exc (md_Ak kd cf m) (md_Em m) (md_Vk kd)))), (nI (md_mk 8 (md_exv (md_Ak kd cf m) (md_Em m) (md_Vk kd)))), (nI (md_mk 8 (md_loe (md_Ak kd cf m) (md_Em m) (md_Vk kd)))), (nI (md_mk 8 (md_loo (md_Ak kd cf m) (md_Em m) (md_Vk kd)))), (nI (md_Q (md_Ak kd cf m) (md_Em m) (md_Vk kd))), (md_FS (md_Kq cf) (md_Ak kd cf m) (md_Em m) (md_Vk kd)), a_kinds, a_given, a_found, a_constants, a_coefficients, a_oldCoefficients, rea, goo, bE, bV, grid, sol, a_rests) v') (f_equations, f_variables, f_greatest, f_excess, f_loose, f_excessOnes, f_looseOnes, f_known, f_blocks, a_kind, a_value, a_before, a_constant, a_latest, a_there, a_shown, a_coefficient, a_old, a_inside, a_most, a_more, b_E, b_V, a_goodPairs, a_matrix) (nI i) (lw_bz v2) := by
        intro hP r e1 e2 e3
        unfold wpY_part
        refine br_f hb (ys_open hi f_equations f_variables f_greatest f_excess f_loose f_excessOnes f_looseOnes f_known f_blocks a_kind a_value a_before a_constant a_latest a_there a_shown a_coefficient a_old a_inside a_most a_more b_E b_V a_goodPairs a_matrix hky hk4 (fun _ => ?_) (fun h0 => by rw [hP] at h0; simp at h0))
        unfold wY_part_25
        refine ys_know f_equations f_variables f_greatest f_excess f_loose f_excessOnes f_looseOnes f_known f_blocks a_kind a_value a_before a_constant a_latest a_there a_shown a_coefficient a_old a_inside a_most a_more b_E b_V a_goodPairs a_matrix hky hk4 hth hcy hc1 hY _ (fun eqs vrs gre xE lE xV lV kn blk ins mo me yE yV god hkn hYA => ?_)
        have hYA2 := hYA
        obtain ⟨rfl, rfl, rfl, rfl, rfl, rfl, rfl, rfl, hin, hgd, hYB⟩ := hYA
        refine br_f hb (br_f hb ?_)
        exact ys_p60 hi _ _ _ _ _ _ _ kn _ a_kind a_value a_before a_constant a_latest a_there a_shown a_coefficient a_old ins mo me yE yV god a_matrix _ (r := r) ⟨rfl, kd, cf, ol, co, gv, m, mm, ⟨hm8, rfl, hkx, hky, hk4, hcx, hcy, hc1, hox, hoy, ho1, hnx, hny, hn1, hgx, hg1, hth, hv2, hv3, hsh⟩, hmm, fun _ => hXL2, fun _ => hYA2⟩ e1 e2 e3
      refine xs_p52 hi _ _ _ _ _ _ _ _ _ _ a_kinds a_given a_found a_constants a_coefficients a_oldCoefficients rea goo bE bV grid sol a_rests _ (fun hP => ?_) (fun hP hQ => hyes hP _ (fun _ => rfl) (fun h => by rw [hQ] at h; simp at h) (fun h => by rw [hQ] at h; simp at h)) (fun hP hQ hR => hyes hP _ (fun h => by rw [hQ] at h; simp at h) (fun _ _ => rfl) (fun _ h => by rw [hR] at h; simp at h)) (fun hP hQ hR => hyes hP _ (fun h => by rw [hQ] at h; simp at h) (fun _ h => by rw [hR] at h; simp at h) (fun _ _ => rfl))
      unfold wpY_part
      exact br_f hb (ys_open hi f_equations f_variables f_greatest f_excess f_loose f_excessOnes f_looseOnes f_known f_blocks a_kind a_value a_before a_constant a_latest a_there a_shown a_coefficient a_old a_inside a_most a_more b_E b_V a_goodPairs a_matrix hky hk4 (fun h1 => by rw [hP] at h1; simp at h1) (fun _ => ⟨rfl, kd, cf, ol, co, gv, m, mm, ⟨hm8, rfl, hkx, hky, hk4, hcx, hcy, hc1, hox, hoy, ho1, hnx, hny, hn1, hgx, hg1, hth, hv2, hv3, hsh⟩, hmm, fun _ => hXL2, hY⟩))
theorem i_vc_good {k : Nat} {u : SX} {v : SY} (I : i_Rel k u v) (hk : k + 5 ≤ 2560) (v1 : Int32) (v2 : Int32) : wpX_good (fun r u' => wpY_good (fun r' v' => r' = r ∧ i_Rel (k + 5) u' v') v v1 v2) u v1 v2 := by
  obtain ⟨f_equationsThere, f_stale, f_unknowns, f_pairs, f_excessEquations, f_excessVariables, f_looseEquations, f_looseVariables, f_blockCount, f_firstSingular, a_kinds, a_given, a_found, a_constants, a_coefficients, a_oldCoefficients, a_reach, a_goodReach, a_blockEquations, a_blockVariables, a_grid, a_solvedBy, a_rests⟩ := u
  obtain ⟨f_equations, f_variables, f_greatest, f_excess, f_loose, f_excessOnes, f_looseOnes, f_known, f_blocks, a_kind, a_value, a_before, a_constant, a_latest, a_there, a_shown, a_coefficient, a_old, a_inside, a_most, a_more, b_E, b_V, a_goodPairs, a_matrix⟩ := v
  obtain ⟨kd, cf, ol, co, gv, m, mm, ⟨hm8, heq, hkx, hky, hk4, hcx, hcy, hc1, hox, hoy, ho1, hnx, hny, hn1, hgx, hg1, hth, hv2, hv3, hsh⟩, hmm, hX, hY⟩ := I
  subst heq
  unfold wpX_good
  refine xs_ref  f_stale f_unknowns f_pairs f_excessEquations f_excessVariables f_looseEquations f_looseVariables f_blockCount f_firstSingular a_kinds a_given a_found a_constants a_coefficients a_oldCoefficients a_reach a_goodReach a_blockEquations a_blockVariables a_grid a_solvedBy a_rests hkx hk4 hcx hc1 hX _ (fun unk prs exE exV loE loV bc fs rea goo bE bV grid sol hXL => ?_)
  have hXL2 := hXL
  obtain ⟨⟨rfl, rfl, rfl, rfl, rfl, rfl, rfl, hre, hgo, hB⟩, rfl, hG⟩ := hXL
  rcases pk_ix v1 (n := 8) (by decide) with hx | hx | ⟨e, he, rfl⟩
  · refine xs_num_f (Or.inl hx) ?_
    unfold wpY_good
    exact ys_there_f (Or.inl hx) f_equations f_variables f_greatest f_excess f_loose f_excessOnes f_looseOnes f_known f_blocks a_kind a_value a_before a_constant a_latest a_there a_shown a_coefficient a_old a_inside a_most a_more b_E b_V a_goodPairs a_matrix ⟨rfl, kd, cf, ol, co, gv, m, mm, ⟨hm8, rfl, hkx, hky, hk4, hcx, hcy, hc1, hox, hoy, ho1, hnx, hny, hn1, hgx, hg1, hth, hv2, hv3, hsh⟩, hmm, fun _ => hXL2, hY⟩
  · refine xs_num_f (Or.inr hx) ?_
    unfold wpY_good
    exact ys_there_f (Or.inr hx) f_equations f_variables f_greatest f_excess f_loose f_excessOnes f_looseOnes f_known f_blocks a_kind a_value a_before a_constant a_latest a_there a_shown a_coefficient a_old a_inside a_most a_more b_E b_V a_goodPairs a_matrix ⟨rfl, kd, cf, ol, co, gv, m, mm, ⟨hm8, rfl, hkx, hky, hk4, hcx, hcy, hc1, hox, hoy, ho1, hnx, hny, hn1, hgx, hg1, hth, hv2, hv3, hsh⟩, hmm, fun _ => hXL2, hY⟩
  · refine xs_num_t he ?_
    rcases pk_ix v2 (n := 8) (by decide) with hx | hx | ⟨w, hw, rfl⟩
    · refine xs_num_f (Or.inl hx) ?_
      unfold wpY_good
      exact ys_there he f_equations f_variables f_greatest f_excess f_loose f_excessOnes f_looseOnes f_known f_blocks a_kind a_value a_before a_constant a_latest a_there a_shown a_coefficient a_old a_inside a_most a_more b_E b_V a_goodPairs a_matrix hth (fun _ => ys_open_f (Or.inl hx) f_equations f_variables f_greatest f_excess f_loose f_excessOnes f_looseOnes f_known f_blocks a_kind a_value a_before a_constant a_latest a_there a_shown a_coefficient a_old a_inside a_most a_more b_E b_V a_goodPairs a_matrix ⟨rfl, kd, cf, ol, co, gv, m, mm, ⟨hm8, rfl, hkx, hky, hk4, hcx, hcy, hc1, hox, hoy, ho1, hnx, hny, hn1, hgx, hg1, hth, hv2, hv3, hsh⟩, hmm, fun _ => hXL2, hY⟩) (fun _ => ⟨rfl, kd, cf, ol, co, gv, m, mm, ⟨hm8, rfl, hkx, hky, hk4, hcx, hcy, hc1, hox, hoy, ho1, hnx, hny, hn1, hgx, hg1, hth, hv2, hv3, hsh⟩, hmm, fun _ => hXL2, hY⟩)
    · refine xs_num_f (Or.inr hx) ?_
      unfold wpY_good
      exact ys_there he f_equations f_variables f_greatest f_excess f_loose f_excessOnes f_looseOnes f_known f_blocks a_kind a_value a_before a_constant a_latest a_there a_shown a_coefficient a_old a_inside a_most a_more b_E b_V a_goodPairs a_matrix hth (fun _ => ys_open_f (Or.inr hx) f_equations f_variables f_greatest f_excess f_loose f_excessOnes f_looseOnes f_known f_blocks a_kind a_value a_before a_constant a_latest a_there a_shown a_coefficient a_old a_inside a_most a_more b_E b_V a_goodPairs a_matrix ⟨rfl, kd, cf, ol, co, gv, m, mm, ⟨hm8, rfl, hkx, hky, hk4, hcx, hcy, hc1, hox, hoy, ho1, hnx, hny, hn1, hgx, hg1, hth, hv2, hv3, hsh⟩, hmm, fun _ => hXL2, hY⟩) (fun _ => ⟨rfl, kd, cf, ol, co, gv, m, mm, ⟨hm8, rfl, hkx, hky, hk4, hcx, hcy, hc1, hox, hoy, ho1, hnx, hny, hn1, hgx, hg1, hth, hv2, hv3, hsh⟩, hmm, fun _ => hXL2, hY⟩)
    · refine xs_num_t hw ⟨md_ixin he, ?_⟩
      rw [md_rea1 hgo he]
      refine xs_has (md_god (md_Ak kd cf m) (md_Em m) (md_Vk kd) e) hw (fun hg => ?_) (fun hg => ?_)
      · obtain ⟨hE, hV⟩ := md_Ak_in kd cf m e w he hw (md_god_A hg)
        unfold wpY_good
        refine ys_there he f_equations f_variables f_greatest f_excess f_loose f_excessOnes f_looseOnes f_known f_blocks a_kind a_value a_before a_constant a_latest a_there a_shown a_coefficient a_old a_inside a_most a_more b_E b_V a_goodPairs a_matrix hth (fun _ => ys_open hw f_equations f_variables f_greatest f_excess f_loose f_excessOnes f_looseOnes f_known f_blocks a_kind a_value a_before a_constant a_latest a_there a_shown a_coefficient a_old a_inside a_most a_more b_E b_V a_goodPairs a_matrix hky hk4 (fun _ => ?_) (fun h0 => by rw [hV] at h0; simp at h0)) (fun h0 => by rw [hE] at h0; simp at h0)
        refine ys_know f_equations f_variables f_greatest f_excess f_loose f_excessOnes f_looseOnes f_known f_blocks a_kind a_value a_before a_constant a_latest a_there a_shown a_coefficient a_old a_inside a_most a_more b_E b_V a_goodPairs a_matrix hky hk4 hth hcy hc1 hY _ (fun eqs vrs gre xE lE xV lV kn blk ins mo me yE yV god hkn hYA => ?_)
        have hYA2 := hYA
        obtain ⟨rfl, rfl, rfl, rfl, rfl, rfl, rfl, rfl, hin, hgd, hYB⟩ := hYA
        refine ⟨vp_in_nI he (by decide), ?_⟩
        rw [nI_clamp (by omega), hgd e he]
        exact br_t (md_b1 hw hg) ⟨rfl, kd, cf, ol, co, gv, m, mm, ⟨hm8, rfl, hkx, hky, hk4, hcx, hcy, hc1, hox, hoy, ho1, hnx, hny, hn1, hgx, hg1, hth, hv2, hv3, hsh⟩, hmm, fun _ => hXL2, fun _ => hYA2⟩
      · unfold wpY_good
        refine ys_there he f_equations f_variables f_greatest f_excess f_loose f_excessOnes f_looseOnes f_known f_blocks a_kind a_value a_before a_constant a_latest a_there a_shown a_coefficient a_old a_inside a_most a_more b_E b_V a_goodPairs a_matrix hth (fun _ => ys_open hw f_equations f_variables f_greatest f_excess f_loose f_excessOnes f_looseOnes f_known f_blocks a_kind a_value a_before a_constant a_latest a_there a_shown a_coefficient a_old a_inside a_most a_more b_E b_V a_goodPairs a_matrix hky hk4 (fun _ => ?_) (fun _ => ⟨rfl, kd, cf, ol, co, gv, m, mm, ⟨hm8, rfl, hkx, hky, hk4, hcx, hcy, hc1, hox, hoy, ho1, hnx, hny, hn1, hgx, hg1, hth, hv2, hv3, hsh⟩, hmm, fun _ => hXL2, hY⟩)) (fun _ => ⟨rfl, kd, cf, ol, co, gv, m, mm, ⟨hm8, rfl, hkx, hky, hk4, hcx, hcy, hc1, hox, hoy, ho1, hnx, hny, hn1, hgx, hg1, hth, hv2, hv3, hsh⟩, hmm, fun _ => hXL2, hY⟩)
        refine ys_know f_equations f_variables f_greatest f_excess f_loose f_excessOnes f_looseOnes f_known f_blocks a_kind a_value a_before a_constant a_latest a_there a_shown a_coefficient a_old a_inside a_most a_more b_E b_V a_goodPairs a_matrix hky hk4 hth hcy hc1 hY _ (fun eqs vrs gre xE lE xV lV kn blk ins mo me yE yV god hkn hYA => ?_)
        have hYA2 := hYA
        obtain ⟨rfl, rfl, rfl, rfl, rfl, rfl, rfl, rfl, hin, hgd, hYB⟩ := hYA
        refine ⟨vp_in_nI he (by decide), ?_⟩
        rw [nI_clamp (by omega), hgd e he]
        exact br_f (md_b1n hw hg) ⟨rfl, kd, cf, ol, co, gv, m, mm, ⟨hm8, rfl, hkx, hky, hk4, hcx, hcy, hc1, hox, hoy, ho1, hnx, hny, hn1, hgx, hg1, hth, hv2, hv3, hsh⟩, hmm, fun _ => hXL2, fun _ => hYA2⟩
def md_br (P : Nat → Nat → Bool) (q i : Nat) : Int32 := if md_fi (fun b => decide (b < q) && P b i) 8 0 < 8 then nI (md_fi (fun b => decide (b < q) && P b i) 8 0) else -1
theorem md_br_at {P : Nat → Nat → Bool} {q i b : Nat} (hq : q ≤ 8) (hb : b < q) (h1 : P b i = true) (h2 : ∀ j, j < b → P j i = false) : md_br P q i = nI b := by
  have e := md_fi_at (p := fun b => decide (b < q) && P b i) (b := b) (by omega) (by simp [hb, h1]) (fun j hj => by simp [h2 j hj])
  unfold md_br
  rw [e, if_pos (by omega)]
theorem md_br_no {P : Nat → Nat → Bool} {q i : Nat} (h : ∀ j, j < q → P j i = false) : md_br P q i = -1 := by
  unfold md_br
  rw [if_neg]
  intro hlt
  obtain ⟨_, h3⟩ := md_fi_some (p := fun b => decide (b < q) && P b i) 8 0 rfl hlt
  rw [Bool.and_eq_true] at h3
  rw [h _ (of_decide_eq_true h3.1)] at h3
  simp at h3
theorem xs_bk {P : Nat → Nat → Bool} {q i : Nat} (hq : q ≤ 8) (hi : i < 8) (x2 : Int32) (f_equationsThere f_stale f_unknowns f_pairs f_excessEquations f_excessVariables f_looseEquations f_looseVariables f_firstSingular : Int32) (a_kinds a_given a_found a_constants a_coefficients a_oldCoefficients a_reach a_goodReach a_blockEquations a_blockVariables a_grid a_solvedBy a_rests : Nat → Int32) (hs0 : x2 = 0 → ∀ b, b < q → a_blockEquations b = nI (md_mk 8 (P b))) (hs1 : ¬ x2 = 0 → ∀ b, b < q → a_blockVariables b = nI (md_mk 8 (P b))) (post : Int32 → SX → Prop) (h : post (md_br P q i) (f_equationsThere, f_stale, f_unknowns, f_pairs, f_excessEquations, f_excessVariables, f_looseEquations, f_looseVariables, (nI q), f_firstSingular, a_kinds, a_given, a_found, a_constants, a_coefficients, a_oldCoefficients, a_reach, a_goodReach, a_blockEquations, a_blockVariables, a_grid, a_solvedBy, a_rests)) : ∀ d b, b + d = q → (∀ j, j < b → P j i = false) → wX_block_15 post (nI i) x2 f_equationsThere f_stale f_unknowns f_pairs f_excessEquations f_excessVariables f_looseEquations f_looseVariables (nI q) f_firstSingular a_kinds a_given a_found a_constants a_coefficients a_oldCoefficients a_reach a_goodReach a_blockEquations a_blockVariables a_grid a_solvedBy a_rests (d + 1) (nI b) := by
  intro d
  induction d with
  | zero =>
    intro b hb hn
    rw [md_br_no (fun j hj => hn j (by omega))] at h
    exact br_t (nI_le (by omega) (by omega)) h
  | succ d ih =>
    intro b hb hn
    have h42 : wX_block_42 post (wX_block_15 post (nI i) x2 f_equationsThere f_stale f_unknowns f_pairs f_excessEquations f_excessVariables f_looseEquations f_looseVariables (nI q) f_firstSingular a_kinds a_given a_found a_constants a_coefficients a_oldCoefficients a_reach a_goodReach a_blockEquations a_blockVariables a_grid a_solvedBy a_rests (d + 1)) (nI i) x2 (nI b) (nI (md_mk 8 (P b))) f_equationsThere f_stale f_unknowns f_pairs f_excessEquations f_excessVariables f_looseEquations f_looseVariables (nI q) f_firstSingular a_kinds a_given a_found a_constants a_coefficients a_oldCoefficients a_reach a_goodReach a_blockEquations a_blockVariables a_grid a_solvedBy a_rests := by
      refine xs_has (P b) hi (fun hp => ?_) (fun hp => nm_r (nI_1 b) (ih (b + 1) (by omega) (fun j hj => ?_)))
      · rw [md_br_at hq (by omega) hp hn] at h
        exact h
      · by_cases e : j = b
        · rw [e]; exact hp
        · exact hn j (by omega)
    refine br_f (nI_ge (by omega) (by omega)) (br_c (fun h0 => ⟨vp_in_nI (by omega) (by decide), ?_⟩) (fun h0 => ⟨vp_in_nI (by omega) (by decide), ?_⟩))
    · rw [nI_clamp (by omega), hs0 h0 b (by omega)]; exact h42
    · rw [nI_clamp (by omega), hs1 h0 b (by omega)]; exact h42
theorem ys_bk {P : Nat → Nat → Bool} {q i : Nat} (hq : q ≤ 8) (hi : i < 8) (x2 : Int32) (f_equations f_variables f_greatest f_excess f_loose f_excessOnes f_looseOnes f_known : Int32) (a_kind a_value a_before a_constant a_latest a_there a_shown a_coefficient a_old a_inside a_most a_more a_blockEquations a_blockVariables a_goodPairs a_matrix : Nat → Int32) (hs0 : x2 = 0 → ∀ b, b < q → a_blockEquations b = nI (md_mk 8 (P b))) (hs1 : ¬ x2 = 0 → ∀ b, b < q → a_blockVariables b = nI (md_mk 8 (P b))) (post : Int32 → SY → Prop) (h : post (md_br P q i) (f_equations, f_variables, f_greatest, f_excess, f_loose, f_excessOnes, f_looseOnes, f_known, (nI q), a_kind, a_value, a_before, a_constant, a_latest, a_there, a_shown, a_coefficient, a_old, a_inside, a_most, a_more, a_blockEquations, a_blockVariables, a_goodPairs, a_matrix)) : ∀ d b, b + d = q → (∀ j, j < b → P j i = false) → wY_block_31 post (nI i) x2 f_equations f_variables f_greatest f_excess f_loose f_excessOnes f_looseOnes f_known (nI q) a_kind a_value a_before a_constant a_latest a_there a_shown a_coefficient a_old a_inside a_most a_more a_blockEquations a_blockVariables a_goodPairs a_matrix (d + 1) (nI b) := by
  intro d
  induction d with
  | zero =>
    intro b hb hn
    rw [md_br_no (fun j hj => hn j (by omega))] at h
    exact br_t (nI_le (by omega) (by omega)) h
  | succ d ih =>
    intro b hb hn
    have h42 : wY_block_58 post (wY_block_31 post (nI i) x2 f_equations f_variables f_greatest f_excess f_loose f_excessOnes f_looseOnes f_known (nI q) a_kind a_value a_before a_constant a_latest a_there a_shown a_coefficient a_old a_inside a_most a_more a_blockEquations a_blockVariables a_goodPairs a_matrix (d + 1)) (nI i) x2 (nI b) (nI (md_mk 8 (P b))) f_equations f_variables f_greatest f_excess f_loose f_excessOnes f_looseOnes f_known (nI q) a_kind a_value a_before a_constant a_latest a_there a_shown a_coefficient a_old a_inside a_most a_more a_blockEquations a_blockVariables a_goodPairs a_matrix := by
      unfold wY_block_58
      cases hp : P b i with
      | true =>
        rw [md_br_at hq (by omega) hp hn] at h
        exact br_t (md_b1 hi hp) h
      | false =>
        refine br_f (md_b1n hi hp) (nm_r (nI_1 b) (ih (b + 1) (by omega) (fun j hj => ?_)))
        by_cases e : j = b
        · rw [e]; exact hp
        · exact hn j (by omega)
    refine br_f (nI_ge (by omega) (by omega)) (br_c (fun h0 => ⟨vp_in_nI (by omega) (by decide), ?_⟩) (fun h0 => ⟨vp_in_nI (by omega) (by decide), ?_⟩))
    · rw [nI_clamp (by omega), hs0 h0 b (by omega)]; exact h42
    · rw [nI_clamp (by omega), hs1 h0 b (by omega)]; exact h42
theorem i_vc_block {k : Nat} {u : SX} {v : SY} (I : i_Rel k u v) (hk : k + 5 ≤ 2560) (v1 : Int32) (v2 : Int32) : wpX_block (fun r u' => wpY_block (fun r' v' => r' = r ∧ i_Rel (k + 5) u' v') v v1 (lw_bz v2)) u v1 (lw_bz v2) := by
  obtain ⟨f_equationsThere, f_stale, f_unknowns, f_pairs, f_excessEquations, f_excessVariables, f_looseEquations, f_looseVariables, f_blockCount, f_firstSingular, a_kinds, a_given, a_found, a_constants, a_coefficients, a_oldCoefficients, a_reach, a_goodReach, a_blockEquations, a_blockVariables, a_grid, a_solvedBy, a_rests⟩ := u
  obtain ⟨f_equations, f_variables, f_greatest, f_excess, f_loose, f_excessOnes, f_looseOnes, f_known, f_blocks, a_kind, a_value, a_before, a_constant, a_latest, a_there, a_shown, a_coefficient, a_old, a_inside, a_most, a_more, b_E, b_V, a_goodPairs, a_matrix⟩ := v
  obtain ⟨kd, cf, ol, co, gv, m, mm, ⟨hm8, heq, hkx, hky, hk4, hcx, hcy, hc1, hox, hoy, ho1, hnx, hny, hn1, hgx, hg1, hth, hv2, hv3, hsh⟩, hmm, hX, hY⟩ := I
  subst heq
  unfold wpX_block
  refine xs_ref  f_stale f_unknowns f_pairs f_excessEquations f_excessVariables f_looseEquations f_looseVariables f_blockCount f_firstSingular a_kinds a_given a_found a_constants a_coefficients a_oldCoefficients a_reach a_goodReach a_blockEquations a_blockVariables a_grid a_solvedBy a_rests hkx hk4 hcx hc1 hX _ (fun unk prs exE exV loE loV bc fs rea goo bE bV grid sol hXL => ?_)
  have hXL2 := hXL
  obtain ⟨⟨rfl, rfl, rfl, rfl, rfl, rfl, rfl, hre, hgo, hB⟩, rfl, hG⟩ := hXL
  by_cases hb : lw_bz v2 = 0
  · rcases pk_ix v1 (n := 8) (by decide) with hx | hx | ⟨i, hi, rfl⟩
    · refine xs_num_f (Or.inl hx) ?_
      unfold wpY_block
      exact br_t hb (ys_there_f (Or.inl hx) f_equations f_variables f_greatest f_excess f_loose f_excessOnes f_looseOnes f_known f_blocks a_kind a_value a_before a_constant a_latest a_there a_shown a_coefficient a_old a_inside a_most a_more b_E b_V a_goodPairs a_matrix ⟨rfl, kd, cf, ol, co, gv, m, mm, ⟨hm8, rfl, hkx, hky, hk4, hcx, hcy, hc1, hox, hoy, ho1, hnx, hny, hn1, hgx, hg1, hth, hv2, hv3, hsh⟩, hmm, fun _ => hXL2, hY⟩)
    · refine xs_num_f (Or.inr hx) ?_
      unfold wpY_block
      exact br_t hb (ys_there_f (Or.inr hx) f_equations f_variables f_greatest f_excess f_loose f_excessOnes f_looseOnes f_known f_blocks a_kind a_value a_before a_constant a_latest a_there a_shown a_coefficient a_old a_inside a_most a_more b_E b_V a_goodPairs a_matrix ⟨rfl, kd, cf, ol, co, gv, m, mm, ⟨hm8, rfl, hkx, hky, hk4, hcx, hcy, hc1, hox, hoy, ho1, hnx, hny, hn1, hgx, hg1, hth, hv2, hv3, hsh⟩, hmm, fun _ => hXL2, hY⟩)
    · refine xs_num_t hi ⟨md_Q (md_Ak kd cf m) (md_Em m) (md_Vk kd) + 1, xs_bk (P := (md_B (md_Ak kd cf m) (md_Em m) (md_Vk kd))) (md_Q_le (md_Ak kd cf m) (md_Em m) (md_Vk kd)) hi (lw_bz v2) _ _ _ _ _ _ _ _  _ a_kinds a_given a_found a_constants a_coefficients a_oldCoefficients rea goo bE bV grid sol a_rests (fun _ b hb2 => (hB b hb2).1) (fun h => absurd hb h) _ ?_ (md_Q (md_Ak kd cf m) (md_Em m) (md_Vk kd)) 0 (by omega) (fun j hj => by omega)⟩
      unfold wpY_block
      refine br_t hb (ys_there hi f_equations f_variables f_greatest f_excess f_loose f_excessOnes f_looseOnes f_known f_blocks a_kind a_value a_before a_constant a_latest a_there a_shown a_coefficient a_old a_inside a_most a_more b_E b_V a_goodPairs a_matrix hth (fun _ => ?_) (fun h0 => ?_))
      · unfold wY_block_25
        refine ys_know f_equations f_variables f_greatest f_excess f_loose f_excessOnes f_looseOnes f_known f_blocks a_kind a_value a_before a_constant a_latest a_there a_shown a_coefficient a_old a_inside a_most a_more b_E b_V a_goodPairs a_matrix hky hk4 hth hcy hc1 hY _ (fun eqs vrs gre xE lE xV lV kn blk ins mo me yE yV god hkn hYA => ?_)
        have hYA2 := hYA
        obtain ⟨rfl, rfl, rfl, rfl, rfl, rfl, rfl, rfl, hin, hgd, hYB⟩ := hYA
        exact ⟨md_Q (md_Ak kd cf m) (md_Em m) (md_Vk kd) + 1, ys_bk (P := (md_B (md_Ak kd cf m) (md_Em m) (md_Vk kd))) (md_Q_le (md_Ak kd cf m) (md_Em m) (md_Vk kd)) hi (lw_bz v2) _ _ _ _ _ _ _ kn  a_kind a_value a_before a_constant a_latest a_there a_shown a_coefficient a_old ins mo me yE yV god a_matrix (fun _ b hb2 => (hYB b hb2).1) (fun h => absurd hb h) _ ⟨rfl, kd, cf, ol, co, gv, m, mm, ⟨hm8, rfl, hkx, hky, hk4, hcx, hcy, hc1, hox, hoy, ho1, hnx, hny, hn1, hgx, hg1, hth, hv2, hv3, hsh⟩, hmm, fun _ => hXL2, fun _ => hYA2⟩ (md_Q (md_Ak kd cf m) (md_Em m) (md_Vk kd)) 0 (by omega) (fun j hj => by omega)⟩
      · have hno : md_br (md_B (md_Ak kd cf m) (md_Em m) (md_Vk kd)) (md_Q (md_Ak kd cf m) (md_Em m) (md_Vk kd)) i = -1 := md_br_no (fun j hj => by
          rw [← Bool.not_eq_true]
          intro hp
          have := md_eve_E (md_B_even (md_Ak_in kd cf m) hj i hi hp)
          rw [h0] at this
          simp at this)
        rw [hno]
        exact ⟨rfl, kd, cf, ol, co, gv, m, mm, ⟨hm8, rfl, hkx, hky, hk4, hcx, hcy, hc1, hox, hoy, ho1, hnx, hny, hn1, hgx, hg1, hth, hv2, hv3, hsh⟩, hmm, fun _ => hXL2, hY⟩
  · rcases pk_ix v1 (n := 8) (by decide) with hx | hx | ⟨i, hi, rfl⟩
    · refine xs_num_f (Or.inl hx) ?_
      unfold wpY_block
      exact br_f hb (ys_open_f (Or.inl hx) f_equations f_variables f_greatest f_excess f_loose f_excessOnes f_looseOnes f_known f_blocks a_kind a_value a_before a_constant a_latest a_there a_shown a_coefficient a_old a_inside a_most a_more b_E b_V a_goodPairs a_matrix ⟨rfl, kd, cf, ol, co, gv, m, mm, ⟨hm8, rfl, hkx, hky, hk4, hcx, hcy, hc1, hox, hoy, ho1, hnx, hny, hn1, hgx, hg1, hth, hv2, hv3, hsh⟩, hmm, fun _ => hXL2, hY⟩)
    · refine xs_num_f (Or.inr hx) ?_
      unfold wpY_block
      exact br_f hb (ys_open_f (Or.inr hx) f_equations f_variables f_greatest f_excess f_loose f_excessOnes f_looseOnes f_known f_blocks a_kind a_value a_before a_constant a_latest a_there a_shown a_coefficient a_old a_inside a_most a_more b_E b_V a_goodPairs a_matrix ⟨rfl, kd, cf, ol, co, gv, m, mm, ⟨hm8, rfl, hkx, hky, hk4, hcx, hcy, hc1, hox, hoy, ho1, hnx, hny, hn1, hgx, hg1, hth, hv2, hv3, hsh⟩, hmm, fun _ => hXL2, hY⟩)
    · refine xs_num_t hi ⟨md_Q (md_Ak kd cf m) (md_Em m) (md_Vk kd) + 1, xs_bk (P := (fun b => md_gr (md_god (md_Ak kd cf m) (md_Em m) (md_Vk kd)) (md_B (md_Ak kd cf m) (md_Em m) (md_Vk kd) b))) (md_Q_le (md_Ak kd cf m) (md_Em m) (md_Vk kd)) hi (lw_bz v2) _ _ _ _ _ _ _ _  _ a_kinds a_given a_found a_constants a_coefficients a_oldCoefficients rea goo bE bV grid sol a_rests (fun h => absurd h hb) (fun _ b hb2 => (hB b hb2).2) _ ?_ (md_Q (md_Ak kd cf m) (md_Em m) (md_Vk kd)) 0 (by omega) (fun j hj => by omega)⟩
      unfold wpY_block
      refine br_f hb (ys_open hi f_equations f_variables f_greatest f_excess f_loose f_excessOnes f_looseOnes f_known f_blocks a_kind a_value a_before a_constant a_latest a_there a_shown a_coefficient a_old a_inside a_most a_more b_E b_V a_goodPairs a_matrix hky hk4 (fun _ => ?_) (fun h0 => ?_))
      · unfold wY_block_25
        refine ys_know f_equations f_variables f_greatest f_excess f_loose f_excessOnes f_looseOnes f_known f_blocks a_kind a_value a_before a_constant a_latest a_there a_shown a_coefficient a_old a_inside a_most a_more b_E b_V a_goodPairs a_matrix hky hk4 hth hcy hc1 hY _ (fun eqs vrs gre xE lE xV lV kn blk ins mo me yE yV god hkn hYA => ?_)
        have hYA2 := hYA
        obtain ⟨rfl, rfl, rfl, rfl, rfl, rfl, rfl, rfl, hin, hgd, hYB⟩ := hYA
        exact ⟨md_Q (md_Ak kd cf m) (md_Em m) (md_Vk kd) + 1, ys_bk (P := (fun b => md_gr (md_god (md_Ak kd cf m) (md_Em m) (md_Vk kd)) (md_B (md_Ak kd cf m) (md_Em m) (md_Vk kd) b))) (md_Q_le (md_Ak kd cf m) (md_Em m) (md_Vk kd)) hi (lw_bz v2) _ _ _ _ _ _ _ kn  a_kind a_value a_before a_constant a_latest a_there a_shown a_coefficient a_old ins mo me yE yV god a_matrix (fun h => absurd h hb) (fun _ b hb2 => (hYB b hb2).2) _ ⟨rfl, kd, cf, ol, co, gv, m, mm, ⟨hm8, rfl, hkx, hky, hk4, hcx, hcy, hc1, hox, hoy, ho1, hnx, hny, hn1, hgx, hg1, hth, hv2, hv3, hsh⟩, hmm, fun _ => hXL2, fun _ => hYA2⟩ (md_Q (md_Ak kd cf m) (md_Em m) (md_Vk kd)) 0 (by omega) (fun j hj => by omega)⟩
      · have hno : md_br (fun b => md_gr (md_god (md_Ak kd cf m) (md_Em m) (md_Vk kd)) (md_B (md_Ak kd cf m) (md_Em m) (md_Vk kd) b)) (md_Q (md_Ak kd cf m) (md_Em m) (md_Vk kd)) i = -1 := md_br_no (fun j hj => by
          rw [← Bool.not_eq_true]
          intro hp
          obtain ⟨e2, he2, _, g⟩ := md_gr_iff.mp hp
          have := (md_Ak_in kd cf m e2 i he2 hi (md_god_A g)).2
          rw [h0] at this
          simp at this)
        rw [hno]
        exact ⟨rfl, kd, cf, ol, co, gv, m, mm, ⟨hm8, rfl, hkx, hky, hk4, hcx, hcy, hc1, hox, hoy, ho1, hnx, hny, hn1, hgx, hg1, hth, hv2, hv3, hsh⟩, hmm, fun _ => hXL2, hY⟩
