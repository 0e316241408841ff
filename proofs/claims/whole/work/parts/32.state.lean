def md_gb (A : Nat → Nat → Bool) (E V : Nat → Bool) : Nat → Nat
  | 0 => 0
  | b + 1 => if md_ct 8 (md_B A E V b) ≤ md_gb A E V b then md_gb A E V b else md_ct 8 (md_B A E V b)
theorem md_gb_8 (A : Nat → Nat → Bool) (E V : Nat → Bool) : ∀ b, md_gb A E V b ≤ 8 := by
  intro b
  induction b with
  | zero => exact Nat.zero_le _
  | succ b ih =>
    have := md_ct_le (md_B A E V b) 8
    show (if md_ct 8 (md_B A E V b) ≤ md_gb A E V b then md_gb A E V b else md_ct 8 (md_B A E V b)) ≤ 8
    split <;> omega
theorem xs_gb {A : Nat → Nat → Bool} {E V : Nat → Bool} (f_equationsThere f_stale f_unknowns f_pairs f_excessEquations f_excessVariables f_looseEquations f_looseVariables f_firstSingular : Int32) (a_kinds a_given a_found a_constants a_coefficients a_oldCoefficients a_reach a_goodReach a_blockEquations a_blockVariables a_grid a_solvedBy a_rests : Nat → Int32) (hB : md_bx2 A E V (md_Q A E V) a_blockEquations a_blockVariables) (post : Int32 → Prop) (h : post (nI (md_gb A E V (md_Q A E V)))) : ∀ d b, b + d = md_Q A E V → wX_greatestBlockSize_4 post f_equationsThere f_stale f_unknowns f_pairs f_excessEquations f_excessVariables f_looseEquations f_looseVariables (nI (md_Q A E V)) f_firstSingular a_kinds a_given a_found a_constants a_coefficients a_oldCoefficients a_reach a_goodReach a_blockEquations a_blockVariables a_grid a_solvedBy a_rests (d + 1) (nI (md_gb A E V b)) (nI b) := by
  have hq := md_Q_le A E V
  intro d
  induction d with
  | zero =>
    intro b hb
    rw [show b = md_Q A E V by omega]
    exact br_t (nI_le (Nat.le_refl _) (by omega)) h
  | succ d ih =>
    intro b hb
    have hg := md_gb_8 A E V b
    have hc := md_ct_le (md_B A E V b) 8
    have e0 : md_gb A E V (b + 1) = if md_ct 8 (md_B A E V b) ≤ md_gb A E V b then md_gb A E V b else md_ct 8 (md_B A E V b) := rfl
    refine br_f (nI_ge (by omega) (by omega)) ⟨vp_in_nI (by omega) (by decide), ?_⟩
    rw [nI_clamp (by omega), (hB b (by omega)).1]
    refine xs_size _ _ (br_c (fun hh => nm_r (nI_1 b) ?_) (fun hh => nm_r (nI_1 b) ?_))
    · rw [nI_leI (by omega) (by omega)] at hh
      rw [if_pos hh] at e0
      rw [← e0]; exact ih (b + 1) (by omega)
    · rw [nI_leI (by omega) (by omega)] at hh
      rw [if_neg hh] at e0
      rw [← e0]; exact ih (b + 1) (by omega)
theorem ys_st {A : Nat → Nat → Bool} {E V : Nat → Bool} (x1 : Int32) (f_equations f_variables f_greatest f_excess f_loose f_excessOnes f_looseOnes f_known : Int32) (a_kind a_value a_before a_constant a_latest a_there a_shown a_coefficient a_old a_inside a_most a_more a_blockEquations a_blockVariables a_goodPairs a_matrix : Nat → Int32) (hB : md_bx2 A E V (md_Q A E V) a_blockEquations a_blockVariables) (post : Int32 → SY → Prop) (h : (x1 = 0 → post (nI (md_Q A E V)) (f_equations, f_variables, f_greatest, f_excess, f_loose, f_excessOnes, f_looseOnes, f_known, (nI (md_Q A E V)), a_kind, a_value, a_before, a_constant, a_latest, a_there, a_shown, a_coefficient, a_old, a_inside, a_most, a_more, a_blockEquations, a_blockVariables, a_goodPairs, a_matrix)) ∧ (¬ x1 = 0 → ((x1 = 1 → post (nI (md_gb A E V (md_Q A E V))) (f_equations, f_variables, f_greatest, f_excess, f_loose, f_excessOnes, f_looseOnes, f_known, (nI (md_Q A E V)), a_kind, a_value, a_before, a_constant, a_latest, a_there, a_shown, a_coefficient, a_old, a_inside, a_most, a_more, a_blockEquations, a_blockVariables, a_goodPairs, a_matrix)) ∧ (¬ x1 = 1 → ((x1 = 2 → wpY_size (fun r => post r (f_equations, f_variables, f_greatest, f_excess, f_loose, f_excessOnes, f_looseOnes, f_known, (nI (md_Q A E V)), a_kind, a_value, a_before, a_constant, a_latest, a_there, a_shown, a_coefficient, a_old, a_inside, a_most, a_more, a_blockEquations, a_blockVariables, a_goodPairs, a_matrix)) f_equations) ∧ (¬ x1 = 2 → ((x1 = 3 → wpY_size (fun r => post r (f_equations, f_variables, f_greatest, f_excess, f_loose, f_excessOnes, f_looseOnes, f_known, (nI (md_Q A E V)), a_kind, a_value, a_before, a_constant, a_latest, a_there, a_shown, a_coefficient, a_old, a_inside, a_most, a_more, a_blockEquations, a_blockVariables, a_goodPairs, a_matrix)) f_variables) ∧ (¬ x1 = 3 → wpY_firstSingular (fun r u => match u with | (q_1, q_2, q_3, q_4, q_5, q_6, q_7, q_8, q_9, p_1, p_2, p_3, p_4, p_5, p_6, p_7, p_8, p_9, p_10, p_11, p_12, p_13, p_14, p_15, p_16) => post r (q_1, q_2, q_3, q_4, q_5, q_6, q_7, q_8, q_9, p_1, p_2, p_3, p_4, p_5, p_6, p_7, p_8, p_9, p_10, p_11, p_12, p_13, p_14, p_15, p_16)) (f_equations, f_variables, f_greatest, f_excess, f_loose, f_excessOnes, f_looseOnes, f_known, (nI (md_Q A E V)), a_kind, a_value, a_before, a_constant, a_latest, a_there, a_shown, a_coefficient, a_old, a_inside, a_most, a_more, a_blockEquations, a_blockVariables, a_goodPairs, a_matrix))))))))) : ∀ d b, b + d = md_Q A E V → wY_state_19 post x1 f_equations f_variables f_greatest f_excess f_loose f_excessOnes f_looseOnes f_known (nI (md_Q A E V)) a_kind a_value a_before a_constant a_latest a_there a_shown a_coefficient a_old a_inside a_most a_more a_blockEquations a_blockVariables a_goodPairs a_matrix (d + 1) (nI (md_gb A E V b)) (nI b) := by
  have hq := md_Q_le A E V
  intro d
  induction d with
  | zero =>
    intro b hb
    rw [show b = md_Q A E V by omega]
    exact br_t (nI_le (Nat.le_refl _) (by omega)) h
  | succ d ih =>
    intro b hb
    have hg := md_gb_8 A E V b
    have hc := md_ct_le (md_B A E V b) 8
    have e0 : md_gb A E V (b + 1) = if md_ct 8 (md_B A E V b) ≤ md_gb A E V b then md_gb A E V b else md_ct 8 (md_B A E V b) := rfl
    refine br_f (nI_ge (by omega) (by omega)) ⟨vp_in_nI (by omega) (by decide), ?_⟩
    rw [nI_clamp (by omega), (hB b (by omega)).1]
    refine ys_size _ _ (br_c (fun hh => nm_r (nI_1 b) ?_) (fun hh => ⟨vp_in_nI (by omega) (by decide), ys_size _ _ (nm_r (nI_1 b) ?_)⟩))
    · rw [nI_leI (by omega) (by omega)] at hh
      rw [if_pos hh] at e0
      rw [← e0]; exact ih (b + 1) (by omega)
    · rw [nI_leI (by omega) (by omega)] at hh
      rw [if_neg hh] at e0
      rw [← e0]; exact ih (b + 1) (by omega)
theorem i_vc_state {k : Nat} {u : SX} {v : SY} (I : i_Rel k u v) (hk : k + 5 ≤ 2560) (v1 : Int32) : wpX_state (fun r u' => wpY_state (fun r' v' => r' = r ∧ i_Rel (k + 5) u' v') v v1) u v1 := by
  obtain ⟨f_equationsThere, f_stale, f_unknowns, f_pairs, f_excessEquations, f_excessVariables, f_looseEquations, f_looseVariables, f_blockCount, f_firstSingular, a_kinds, a_given, a_found, a_constants, a_coefficients, a_oldCoefficients, a_reach, a_goodReach, a_blockEquations, a_blockVariables, a_grid, a_solvedBy, a_rests⟩ := u
  obtain ⟨f_equations, f_variables, f_greatest, f_excess, f_loose, f_excessOnes, f_looseOnes, f_known, f_blocks, a_kind, a_value, a_before, a_constant, a_latest, a_there, a_shown, a_coefficient, a_old, a_inside, a_most, a_more, b_E, b_V, a_goodPairs, a_matrix⟩ := v
  obtain ⟨kd, cf, ol, co, gv, m, mm, ⟨hm8, heq, hkx, hky, hk4, hcx, hcy, hc1, hox, hoy, ho1, hnx, hny, hn1, hgx, hg1, hth, hv2, hv3, hsh⟩, hmm, hX, hY⟩ := I
  subst heq
  unfold wpX_state
  refine xs_ref  f_stale f_unknowns f_pairs f_excessEquations f_excessVariables f_looseEquations f_looseVariables f_blockCount f_firstSingular a_kinds a_given a_found a_constants a_coefficients a_oldCoefficients a_reach a_goodReach a_blockEquations a_blockVariables a_grid a_solvedBy a_rests hkx hk4 hcx hc1 hX _ (fun unk prs exE exV loE loV bc fs rea goo bE bV grid sol hXL => ?_)
  have hXL2 := hXL
  obtain ⟨⟨rfl, rfl, rfl, rfl, rfl, rfl, rfl, hre, hgo, hB⟩, rfl, hG⟩ := hXL
  rcases pk_ix v1 (n := 5) (by decide) with hx | hx | ⟨w, hw, rfl⟩
  · refine br_t hx ?_
    unfold wpY_state
    exact ys_in_f (Or.inl hx) ⟨rfl, kd, cf, ol, co, gv, m, mm, ⟨hm8, rfl, hkx, hky, hk4, hcx, hcy, hc1, hox, hoy, ho1, hnx, hny, hn1, hgx, hg1, hth, hv2, hv3, hsh⟩, hmm, fun _ => hXL2, hY⟩
  · have hn : ¬ v1 < 0 := fun h => absurd (Int32.lt_of_le_of_lt hx h) (by decide)
    have hn2 : 4 < v1 := Int32.lt_of_lt_of_le (by decide) hx
    refine br_f hn (br_t hn2 ?_)
    unfold wpY_state
    exact ys_in_f (Or.inr hx) ⟨rfl, kd, cf, ol, co, gv, m, mm, ⟨hm8, rfl, hkx, hky, hk4, hcx, hcy, hc1, hox, hoy, ho1, hnx, hny, hn1, hgx, hg1, hth, hv2, hv3, hsh⟩, hmm, fun _ => hXL2, hY⟩
  · have hw5 : w = 0 ∨ w = 1 ∨ w = 2 ∨ w = 3 ∨ w = 4 := by omega
    rcases hw5 with rfl | rfl | rfl | rfl | rfl
    · refine br_f (by decide) (br_f (by decide) (br_t rfl ?_))
      unfold wpY_state
      refine ys_in_t (a := 0) (b := 5) (Nat.zero_le _) (by decide) (by decide) ?_
      refine ys_know f_equations f_variables f_greatest f_excess f_loose f_excessOnes f_looseOnes f_known f_blocks a_kind a_value a_before a_constant a_latest a_there a_shown a_coefficient a_old a_inside a_most a_more b_E b_V a_goodPairs a_matrix hky hk4 hth hcy hc1 hY _ (fun eqs vrs gre xE lE xV lV kn blk ins mo me yE yV god hkn hYA => ?_)
      have hYA2 := hYA
      obtain ⟨rfl, rfl, rfl, rfl, rfl, rfl, rfl, rfl, hin, hgd, hYB⟩ := hYA
      refine ⟨md_Q (md_Ak kd cf m) (md_Em m) (md_Vk kd) + 1, ys_st _ _ _ _ _ _ _ _ kn  a_kind a_value a_before a_constant a_latest a_there a_shown a_coefficient a_old ins mo me yE yV god a_matrix hYB _ (br_t rfl ⟨rfl, kd, cf, ol, co, gv, m, mm, ⟨hm8, rfl, hkx, hky, hk4, hcx, hcy, hc1, hox, hoy, ho1, hnx, hny, hn1, hgx, hg1, hth, hv2, hv3, hsh⟩, hmm, fun _ => hXL2, fun _ => hYA2⟩) (md_Q (md_Ak kd cf m) (md_Em m) (md_Vk kd)) 0 (by omega)⟩
    · refine br_f (by decide) (br_f (by decide) (br_f (by decide) (br_t rfl ?_)))
      unfold wpX_greatestBlockSize
      refine ⟨md_Q (md_Ak kd cf m) (md_Em m) (md_Vk kd) + 1, xs_gb _ _ _ _ _ _ _ _  _ a_kinds a_given a_found a_constants a_coefficients a_oldCoefficients rea goo bE bV grid sol a_rests hB _ ?_ (md_Q (md_Ak kd cf m) (md_Em m) (md_Vk kd)) 0 (by omega)⟩
      unfold wpY_state
      refine ys_in_t (a := 0) (b := 5) (Nat.zero_le _) (by decide) (by decide) ?_
      refine ys_know f_equations f_variables f_greatest f_excess f_loose f_excessOnes f_looseOnes f_known f_blocks a_kind a_value a_before a_constant a_latest a_there a_shown a_coefficient a_old a_inside a_most a_more b_E b_V a_goodPairs a_matrix hky hk4 hth hcy hc1 hY _ (fun eqs vrs gre xE lE xV lV kn blk ins mo me yE yV god hkn hYA => ?_)
      have hYA2 := hYA
      obtain ⟨rfl, rfl, rfl, rfl, rfl, rfl, rfl, rfl, hin, hgd, hYB⟩ := hYA
      refine ⟨md_Q (md_Ak kd cf m) (md_Em m) (md_Vk kd) + 1, ys_st _ _ _ _ _ _ _ _ kn  a_kind a_value a_before a_constant a_latest a_there a_shown a_coefficient a_old ins mo me yE yV god a_matrix hYB _ (br_f (by decide) (br_t rfl ⟨rfl, kd, cf, ol, co, gv, m, mm, ⟨hm8, rfl, hkx, hky, hk4, hcx, hcy, hc1, hox, hoy, ho1, hnx, hny, hn1, hgx, hg1, hth, hv2, hv3, hsh⟩, hmm, fun _ => hXL2, fun _ => hYA2⟩)) (md_Q (md_Ak kd cf m) (md_Em m) (md_Vk kd)) 0 (by omega)⟩
    · refine br_f (by decide) (br_f (by decide) (br_f (by decide) (br_f (by decide) (br_t rfl (xs_size _ _ ?_)))))
      unfold wpY_state
      refine ys_in_t (a := 0) (b := 5) (Nat.zero_le _) (by decide) (by decide) ?_
      refine ys_know f_equations f_variables f_greatest f_excess f_loose f_excessOnes f_looseOnes f_known f_blocks a_kind a_value a_before a_constant a_latest a_there a_shown a_coefficient a_old a_inside a_most a_more b_E b_V a_goodPairs a_matrix hky hk4 hth hcy hc1 hY _ (fun eqs vrs gre xE lE xV lV kn blk ins mo me yE yV god hkn hYA => ?_)
      have hYA2 := hYA
      obtain ⟨rfl, rfl, rfl, rfl, rfl, rfl, rfl, rfl, hin, hgd, hYB⟩ := hYA
      refine ⟨md_Q (md_Ak kd cf m) (md_Em m) (md_Vk kd) + 1, ys_st _ _ _ _ _ _ _ _ kn  a_kind a_value a_before a_constant a_latest a_there a_shown a_coefficient a_old ins mo me yE yV god a_matrix hYB _ (br_f (by decide) (br_f (by decide) (br_t rfl (ys_size _ _ ⟨rfl, kd, cf, ol, co, gv, m, mm, ⟨hm8, rfl, hkx, hky, hk4, hcx, hcy, hc1, hox, hoy, ho1, hnx, hny, hn1, hgx, hg1, hth, hv2, hv3, hsh⟩, hmm, fun _ => hXL2, fun _ => hYA2⟩)))) (md_Q (md_Ak kd cf m) (md_Em m) (md_Vk kd)) 0 (by omega)⟩
    · refine br_f (by decide) (br_f (by decide) (br_f (by decide) (br_f (by decide) (br_f (by decide) (br_t rfl (xs_size _ _ ?_))))))
      unfold wpY_state
      refine ys_in_t (a := 0) (b := 5) (Nat.zero_le _) (by decide) (by decide) ?_
      refine ys_know f_equations f_variables f_greatest f_excess f_loose f_excessOnes f_looseOnes f_known f_blocks a_kind a_value a_before a_constant a_latest a_there a_shown a_coefficient a_old a_inside a_most a_more b_E b_V a_goodPairs a_matrix hky hk4 hth hcy hc1 hY _ (fun eqs vrs gre xE lE xV lV kn blk ins mo me yE yV god hkn hYA => ?_)
      have hYA2 := hYA
      obtain ⟨rfl, rfl, rfl, rfl, rfl, rfl, rfl, rfl, hin, hgd, hYB⟩ := hYA
      refine ⟨md_Q (md_Ak kd cf m) (md_Em m) (md_Vk kd) + 1, ys_st _ _ _ _ _ _ _ _ kn  a_kind a_value a_before a_constant a_latest a_there a_shown a_coefficient a_old ins mo me yE yV god a_matrix hYB _ (br_f (by decide) (br_f (by decide) (br_f (by decide) (br_t rfl (ys_size _ _ ⟨rfl, kd, cf, ol, co, gv, m, mm, ⟨hm8, rfl, hkx, hky, hk4, hcx, hcy, hc1, hox, hoy, ho1, hnx, hny, hn1, hgx, hg1, hth, hv2, hv3, hsh⟩, hmm, fun _ => hXL2, fun _ => hYA2⟩))))) (md_Q (md_Ak kd cf m) (md_Em m) (md_Vk kd)) 0 (by omega)⟩
    · refine br_f (by decide) (br_f (by decide) (br_f (by decide) (br_f (by decide) (br_f (by decide) (br_f (by decide) (br_t rfl ?_))))))
      unfold wpY_state
      refine ys_in_t (a := 0) (b := 5) (Nat.zero_le _) (by decide) (by decide) ?_
      refine ys_know f_equations f_variables f_greatest f_excess f_loose f_excessOnes f_looseOnes f_known f_blocks a_kind a_value a_before a_constant a_latest a_there a_shown a_coefficient a_old a_inside a_most a_more b_E b_V a_goodPairs a_matrix hky hk4 hth hcy hc1 hY _ (fun eqs vrs gre xE lE xV lV kn blk ins mo me yE yV god hkn hYA => ?_)
      have hYA2 := hYA
      obtain ⟨rfl, rfl, rfl, rfl, rfl, rfl, rfl, rfl, hin, hgd, hYB⟩ := hYA
      refine ⟨md_Q (md_Ak kd cf m) (md_Em m) (md_Vk kd) + 1, ys_st _ _ _ _ _ _ _ _ kn  a_kind a_value a_before a_constant a_latest a_there a_shown a_coefficient a_old ins mo me yE yV god a_matrix hYB _ (br_f (by decide) (br_f (by decide) (br_f (by decide) (br_f (by decide) ?_)))) (md_Q (md_Ak kd cf m) (md_Em m) (md_Vk kd)) 0 (by omega)⟩
      refine ys_fs (md_Ak_in kd cf m) _ _ _     kn  a_kind a_value a_before a_constant a_latest a_there a_shown a_coefficient a_old ins mo me yE yV god a_matrix hcy hc1 hmm hYB _ (fun f g hg => ?_)
      exact ⟨rfl, kd, cf, ol, co, gv, m, g, ⟨hm8, rfl, hkx, hky, hk4, hcx, hcy, hc1, hox, hoy, ho1, hnx, hny, hn1, hgx, hg1, hth, hv2, hv3, hsh⟩, hg, fun _ => hXL2, fun _ => hYA2⟩
