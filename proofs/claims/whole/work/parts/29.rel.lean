def md_MR (kd cf ol co gv : Nat → Nat) (m : Nat) (eq : Int32) (kinds given found consts coefs olds kind value before constant latest there shown coefficient old : Nat → Int32) : Prop :=
  m < 256 ∧ eq = nI (md_mk 8 (md_Em m)) ∧ (∀ j, kinds j = nI (kd j)) ∧ (∀ j, kind j = nI (kd j)) ∧ (∀ j, kd j < 4) ∧ (∀ j, coefs j = nI (cf j)) ∧ (∀ j, coefficient j = nI (cf j)) ∧ (∀ j, cf j < 101) ∧ (∀ j, olds j = nI (ol j)) ∧ (∀ j, old j = nI (ol j)) ∧ (∀ j, ol j < 101) ∧ (∀ j, consts j = nI (co j)) ∧ (∀ j, constant j = nI (co j)) ∧ (∀ j, co j < 101) ∧ (∀ j, given j = nI (gv j)) ∧ (∀ j, gv j < 101) ∧ (∀ j, j < 8 → there j = nI (m.testBit j).toNat) ∧ (∀ j, j < 8 → kd j = 2 → value j = nI (gv j)) ∧ (∀ j, j < 8 → kd j = 3 → before j = nI (gv j)) ∧ ∀ j, j < 8 → md_Vk kd j = true → (shown j = 0 → found j = -1) ∧ (¬ shown j = 0 → found j = latest j)
def i_Rel (_ : Nat) (u : SX) (v : SY) : Prop := match u with
  | (f_equationsThere, f_stale, f_unknowns, f_pairs, f_excessEquations, f_excessVariables, f_looseEquations, f_looseVariables, f_blockCount, f_firstSingular, a_kinds, a_given, a_found, a_constants, a_coefficients, a_oldCoefficients, a_reach, a_goodReach, a_blockEquations, a_blockVariables, a_grid, a_solvedBy, a_rests) => match v with
    | (f_equations, f_variables, f_greatest, f_excess, f_loose, f_excessOnes, f_looseOnes, f_known, f_blocks, a_kind, a_value, a_before, a_constant, a_latest, a_there, a_shown, a_coefficient, a_old, a_inside, a_most, a_more, b_E, b_V, a_goodPairs, a_matrix) => ∃ kd cf ol co gv m mm, md_MR kd cf ol co gv m f_equationsThere a_kinds a_given a_found a_constants a_coefficients a_oldCoefficients a_kind a_value a_before a_constant a_latest a_there a_shown a_coefficient a_old ∧ md_mN mm a_matrix ∧ (f_stale = 0 → md_XL kd cf m f_unknowns f_pairs f_excessEquations f_excessVariables f_looseEquations f_looseVariables f_blockCount f_firstSingular a_reach a_goodReach a_blockEquations a_blockVariables a_grid a_solvedBy) ∧ (¬ f_known = 0 → md_YA (md_Ak kd cf m) (md_Em m) (md_Vk kd) f_equations f_variables f_greatest f_excess f_loose f_excessOnes f_looseOnes f_blocks a_inside a_goodPairs b_E b_V)
theorem i_up {k : Nat} {u : SX} {v : SY} (h : i_Rel k u v) : i_Rel (k + 5) u v := h
theorem i_vc0 : wpX_init (fun u => wpY_init (fun v => i_Rel 0 u v)) := by
  have z4 : (0 : Nat) < 4 := by decide
  have z1 : (0 : Nat) < 101 := by decide
  refine ⟨fun _ => 0, fun _ => 0, fun _ => 0, fun _ => 0, fun _ => 0, 0, fun _ => 0, ⟨by decide, ?_, fun _ => rfl, fun _ => rfl, fun _ => z4, fun _ => rfl, fun _ => rfl, fun _ => z1, fun _ => rfl, fun _ => rfl, fun _ => z1, fun _ => rfl, fun _ => rfl, fun _ => z1, fun _ => rfl, fun _ => z1, fun j _ => ?_, fun j _ h => ?_, fun j _ h => ?_, fun j hj h => ?_⟩, fun j => ⟨rfl, z1⟩, fun h => ?_, fun h => absurd rfl h⟩
  · rw [ni_0]; exact ni_cg (fun i _ => by unfold md_Em; simp)
  · simp; rfl
  · exact absurd (show (0 : Nat) = 2 from h) (by decide)
  · exact absurd (show (0 : Nat) = 3 from h) (by decide)
  · unfold md_Vk at h; simp at h
  · exact absurd h (by decide)
theorem nb_0 : vp_nar .boolean 0 = 0 := by decide
theorem nb_1 : vp_nar .boolean 1 = 1 := by decide
theorem i_vc_value {k : Nat} {u : SX} {v : SY} (I : i_Rel k u v) (hk : k + 5 ≤ 2560) (v1 : Int32) : wpX_value (fun r => wpY_value (fun r' => r' = r ∧ i_Rel (k + 5) u v) v v1) u v1 := by
  obtain ⟨f_equationsThere, f_stale, f_unknowns, f_pairs, f_excessEquations, f_excessVariables, f_looseEquations, f_looseVariables, f_blockCount, f_firstSingular, a_kinds, a_given, a_found, a_constants, a_coefficients, a_oldCoefficients, a_reach, a_goodReach, a_blockEquations, a_blockVariables, a_grid, a_solvedBy, a_rests⟩ := u
  obtain ⟨f_equations, f_variables, f_greatest, f_excess, f_loose, f_excessOnes, f_looseOnes, f_known, f_blocks, a_kind, a_value, a_before, a_constant, a_latest, a_there, a_shown, a_coefficient, a_old, a_inside, a_most, a_more, b_E, b_V, a_goodPairs, a_matrix⟩ := v
  obtain ⟨kd, cf, ol, co, gv, m, mm, ⟨hm8, heq, hkx, hky, hk4, hcx, hcy, hc1, hox, hoy, ho1, hnx, hny, hn1, hgx, hg1, hth, hv2, hv3, hsh⟩, hmm, hX, hY⟩ := I
  subst heq
  have hR : i_Rel (k + 5) ((nI (md_mk 8 (md_Em m))), f_stale, f_unknowns, f_pairs, f_excessEquations, f_excessVariables, f_looseEquations, f_looseVariables, f_blockCount, f_firstSingular, a_kinds, a_given, a_found, a_constants, a_coefficients, a_oldCoefficients, a_reach, a_goodReach, a_blockEquations, a_blockVariables, a_grid, a_solvedBy, a_rests) (f_equations, f_variables, f_greatest, f_excess, f_loose, f_excessOnes, f_looseOnes, f_known, f_blocks, a_kind, a_value, a_before, a_constant, a_latest, a_there, a_shown, a_coefficient, a_old, a_inside, a_most, a_more, b_E, b_V, a_goodPairs, a_matrix) := ⟨kd, cf, ol, co, gv, m, mm, ⟨hm8, rfl, hkx, hky, hk4, hcx, hcy, hc1, hox, hoy, ho1, hnx, hny, hn1, hgx, hg1, hth, hv2, hv3, hsh⟩, hmm, hX, hY⟩
  unfold wpX_value
  rcases pk_ix v1 (n := 8) (by decide) with hx | hx | ⟨j, hj, rfl⟩
  · refine xs_num_f (Or.inl hx) ?_
    unfold wpY_value
    exact ys_in_f (Or.inl hx) ⟨rfl, hR⟩
  · refine xs_num_f (Or.inr hx) ?_
    unfold wpY_value
    exact ys_in_f (Or.inr hx) ⟨rfl, hR⟩
  · have hin : vp_in (nI j) 8 := vp_in_nI hj (by decide)
    have hkk := hk4 j
    have hcl : (nI j).toNatClampNeg = j := nI_clamp (by omega)
    have hY2 : ∀ r, (kd j = 2 → r = nI (gv j)) → (md_Vk kd j = false → kd j ≠ 2 → r = -1) → (md_Vk kd j = true → r = a_found j) → wpY_value (fun r' => r' = r ∧ i_Rel (k + 5) ((nI (md_mk 8 (md_Em m))), f_stale, f_unknowns, f_pairs, f_excessEquations, f_excessVariables, f_looseEquations, f_looseVariables, f_blockCount, f_firstSingular, a_kinds, a_given, a_found, a_constants, a_coefficients, a_oldCoefficients, a_reach, a_goodReach, a_blockEquations, a_blockVariables, a_grid, a_solvedBy, a_rests) (f_equations, f_variables, f_greatest, f_excess, f_loose, f_excessOnes, f_looseOnes, f_known, f_blocks, a_kind, a_value, a_before, a_constant, a_latest, a_there, a_shown, a_coefficient, a_old, a_inside, a_most, a_more, b_E, b_V, a_goodPairs, a_matrix)) (f_equations, f_variables, f_greatest, f_excess, f_loose, f_excessOnes, f_looseOnes, f_known, f_blocks, a_kind, a_value, a_before, a_constant, a_latest, a_there, a_shown, a_coefficient, a_old, a_inside, a_most, a_more, b_E, b_V, a_goodPairs, a_matrix) (nI j) := by
      intro r r1 r2 r3
      unfold wpY_value
      refine ys_in_t (a := 0) (b := 8) (Nat.zero_le _) hj (by decide) ⟨hin, ?_⟩
      rw [hcl, hky]
      by_cases c2 : kd j = 2
      · refine br_t (by rw [c2]; rfl) ⟨hin, ?_, hR⟩
        rw [hv2 j hj c2, r1 c2]
      · refine br_f (fun hh => c2 ((nI_eq (by omega) (by decide)).mp (hh : nI (kd j) = nI 2))) ?_
        refine ys_open hj f_equations f_variables f_greatest f_excess f_loose f_excessOnes f_looseOnes f_known f_blocks a_kind a_value a_before a_constant a_latest a_there a_shown a_coefficient a_old a_inside a_most a_more b_E b_V a_goodPairs a_matrix hky hk4 (fun hV => ⟨hin, ?_⟩) (fun hV => ⟨(r2 hV c2).symm, hR⟩)
        refine br_c (fun hs => ⟨?_, hR⟩) (fun hs => ⟨hin, ?_, hR⟩)
        · rw [r3 hV, (hsh j hj hV).1 hs]
        · rw [r3 hV, (hsh j hj hV).2 hs]
    refine xs_num_t hj ⟨hin, ?_⟩
    rw [hcl, hkx]
    by_cases c0 : kd j = 0
    · refine br_t (by rw [c0]; rfl) (hY2 _ (fun h => by omega) (fun _ _ => rfl) (fun h => ?_))
      unfold md_Vk at h
      simp [c0] at h
    · refine br_f (fun hh => c0 ((md_z0 (by omega)).mp hh)) ⟨hin, ?_⟩
      by_cases c2 : kd j = 2
      · refine br_t (by rw [c2]; rfl) ⟨hin, hY2 _ (fun _ => hgx j) (fun _ h => absurd c2 h) (fun h => ?_)⟩
        unfold md_Vk at h
        simp [c2] at h
      · refine br_f (fun hh => c2 ((nI_eq (by omega) (by decide)).mp (hh : nI (kd j) = nI 2))) ⟨hin, hY2 _ (fun h => absurd h c2) (fun h _ => ?_) (fun _ => rfl)⟩
        exfalso
        unfold md_Vk at h
        have : kd j = 1 ∨ kd j = 3 := by omega
        rcases this with h1 | h1 <;> simp [hj, h1] at h
theorem i_vc_before {k : Nat} {u : SX} {v : SY} (I : i_Rel k u v) (hk : k + 5 ≤ 2560) (v1 : Int32) : wpX_before (fun r => wpY_before (fun r' => r' = r ∧ i_Rel (k + 5) u v) v v1) u v1 := by
  obtain ⟨f_equationsThere, f_stale, f_unknowns, f_pairs, f_excessEquations, f_excessVariables, f_looseEquations, f_looseVariables, f_blockCount, f_firstSingular, a_kinds, a_given, a_found, a_constants, a_coefficients, a_oldCoefficients, a_reach, a_goodReach, a_blockEquations, a_blockVariables, a_grid, a_solvedBy, a_rests⟩ := u
  obtain ⟨f_equations, f_variables, f_greatest, f_excess, f_loose, f_excessOnes, f_looseOnes, f_known, f_blocks, a_kind, a_value, a_before, a_constant, a_latest, a_there, a_shown, a_coefficient, a_old, a_inside, a_most, a_more, b_E, b_V, a_goodPairs, a_matrix⟩ := v
  obtain ⟨kd, cf, ol, co, gv, m, mm, ⟨hm8, heq, hkx, hky, hk4, hcx, hcy, hc1, hox, hoy, ho1, hnx, hny, hn1, hgx, hg1, hth, hv2, hv3, hsh⟩, hmm, hX, hY⟩ := I
  subst heq
  have hR : i_Rel (k + 5) ((nI (md_mk 8 (md_Em m))), f_stale, f_unknowns, f_pairs, f_excessEquations, f_excessVariables, f_looseEquations, f_looseVariables, f_blockCount, f_firstSingular, a_kinds, a_given, a_found, a_constants, a_coefficients, a_oldCoefficients, a_reach, a_goodReach, a_blockEquations, a_blockVariables, a_grid, a_solvedBy, a_rests) (f_equations, f_variables, f_greatest, f_excess, f_loose, f_excessOnes, f_looseOnes, f_known, f_blocks, a_kind, a_value, a_before, a_constant, a_latest, a_there, a_shown, a_coefficient, a_old, a_inside, a_most, a_more, b_E, b_V, a_goodPairs, a_matrix) := ⟨kd, cf, ol, co, gv, m, mm, ⟨hm8, rfl, hkx, hky, hk4, hcx, hcy, hc1, hox, hoy, ho1, hnx, hny, hn1, hgx, hg1, hth, hv2, hv3, hsh⟩, hmm, hX, hY⟩
  unfold wpX_before
  rcases pk_ix v1 (n := 8) (by decide) with hx | hx | ⟨j, hj, rfl⟩
  · refine xs_num_f (Or.inl hx) ?_
    unfold wpY_before
    exact ys_in_f (Or.inl hx) ⟨rfl, hR⟩
  · refine xs_num_f (Or.inr hx) ?_
    unfold wpY_before
    exact ys_in_f (Or.inr hx) ⟨rfl, hR⟩
  · have hin : vp_in (nI j) 8 := vp_in_nI hj (by decide)
    have hkk := hk4 j
    have hcl : (nI j).toNatClampNeg = j := nI_clamp (by omega)
    refine xs_num_t hj ⟨hin, ?_⟩
    rw [hcl, hkx]
    by_cases c3 : kd j = 3
    · refine br_t (by rw [c3]; rfl) ⟨hin, ?_⟩
      unfold wpY_before
      refine ys_in_t (a := 0) (b := 8) (Nat.zero_le _) hj (by decide) ⟨hin, ?_⟩
      rw [hcl, hky]
      refine br_t (by rw [c3]; rfl) ⟨hin, ?_, hR⟩
      rw [hv3 j hj c3, hgx]
    · have c3' : ¬ nI (kd j) = 3 := fun hh => c3 ((nI_eq (by omega) (by decide)).mp (hh : nI (kd j) = nI 3))
      refine br_f c3' ?_
      unfold wpY_before
      refine ys_in_t (a := 0) (b := 8) (Nat.zero_le _) hj (by decide) ⟨hin, ?_⟩
      rw [hcl, hky]
      exact br_f c3' ⟨rfl, hR⟩
theorem i_vc_drop {k : Nat} {u : SX} {v : SY} (I : i_Rel k u v) (hk : k + 5 ≤ 2560) (v1 : Int32) : wpX_drop (fun r u' => wpY_drop (fun r' v' => r' = r ∧ i_Rel (k + 5) u' v') v v1) u v1 := by
  obtain ⟨f_equationsThere, f_stale, f_unknowns, f_pairs, f_excessEquations, f_excessVariables, f_looseEquations, f_looseVariables, f_blockCount, f_firstSingular, a_kinds, a_given, a_found, a_constants, a_coefficients, a_oldCoefficients, a_reach, a_goodReach, a_blockEquations, a_blockVariables, a_grid, a_solvedBy, a_rests⟩ := u
  obtain ⟨f_equations, f_variables, f_greatest, f_excess, f_loose, f_excessOnes, f_looseOnes, f_known, f_blocks, a_kind, a_value, a_before, a_constant, a_latest, a_there, a_shown, a_coefficient, a_old, a_inside, a_most, a_more, b_E, b_V, a_goodPairs, a_matrix⟩ := v
  obtain ⟨kd, cf, ol, co, gv, m, mm, ⟨hm8, heq, hkx, hky, hk4, hcx, hcy, hc1, hox, hoy, ho1, hnx, hny, hn1, hgx, hg1, hth, hv2, hv3, hsh⟩, hmm, hX, hY⟩ := I
  subst heq
  have hR : i_Rel (k + 5) ((nI (md_mk 8 (md_Em m))), f_stale, f_unknowns, f_pairs, f_excessEquations, f_excessVariables, f_looseEquations, f_looseVariables, f_blockCount, f_firstSingular, a_kinds, a_given, a_found, a_constants, a_coefficients, a_oldCoefficients, a_reach, a_goodReach, a_blockEquations, a_blockVariables, a_grid, a_solvedBy, a_rests) (f_equations, f_variables, f_greatest, f_excess, f_loose, f_excessOnes, f_looseOnes, f_known, f_blocks, a_kind, a_value, a_before, a_constant, a_latest, a_there, a_shown, a_coefficient, a_old, a_inside, a_most, a_more, b_E, b_V, a_goodPairs, a_matrix) := ⟨kd, cf, ol, co, gv, m, mm, ⟨hm8, rfl, hkx, hky, hk4, hcx, hcy, hc1, hox, hoy, ho1, hnx, hny, hn1, hgx, hg1, hth, hv2, hv3, hsh⟩, hmm, hX, hY⟩
  unfold wpX_drop
  have bad : v1 < 0 ∨ nI 8 ≤ v1 → wpX_isThere (fun r_1 => (r_1 = 0 → wpY_drop (fun r' v' => r' = 0 ∧ i_Rel (k + 5) ((nI (md_mk 8 (md_Em m))), f_stale, f_unknowns, f_pairs, f_excessEquations, f_excessVariables, f_looseEquations, f_looseVariables, f_blockCount, f_firstSingular, a_kinds, a_given, a_found, a_constants, a_coefficients, a_oldCoefficients, a_reach, a_goodReach, a_blockEquations, a_blockVariables, a_grid, a_solvedBy, a_rests) v') (f_equations, f_variables, f_greatest, f_excess, f_loose, f_excessOnes, f_looseOnes, f_known, f_blocks, a_kind, a_value, a_before, a_constant, a_latest, a_there, a_shown, a_coefficient, a_old, a_inside, a_most, a_more, b_E, b_V, a_goodPairs, a_matrix) v1) ∧ (¬ r_1 = 0 → ∀ f_equationsThere_26 : Int32, f_equationsThere_26 = nI (md_mk 8 (md_Em m)) &&& (((1 : Int32) <<< (v1 &&& 31)) ^^^ (-1)) → wpY_drop (fun r' v' => r' = 1 ∧ i_Rel (k + 5) (f_equationsThere_26, 1, f_unknowns, f_pairs, f_excessEquations, f_excessVariables, f_looseEquations, f_looseVariables, f_blockCount, f_firstSingular, a_kinds, a_given, a_found, a_constants, a_coefficients, a_oldCoefficients, a_reach, a_goodReach, a_blockEquations, a_blockVariables, a_grid, a_solvedBy, a_rests) v') (f_equations, f_variables, f_greatest, f_excess, f_loose, f_excessOnes, f_looseOnes, f_known, f_blocks, a_kind, a_value, a_before, a_constant, a_latest, a_there, a_shown, a_coefficient, a_old, a_inside, a_most, a_more, b_E, b_V, a_goodPairs, a_matrix) v1)) ((nI (md_mk 8 (md_Em m))), f_stale, f_unknowns, f_pairs, f_excessEquations, f_excessVariables, f_looseEquations, f_looseVariables, f_blockCount, f_firstSingular, a_kinds, a_given, a_found, a_constants, a_coefficients, a_oldCoefficients, a_reach, a_goodReach, a_blockEquations, a_blockVariables, a_grid, a_solvedBy, a_rests) v1 := by
    intro hx
    unfold wpX_isThere
    refine xs_num_f hx (br_t rfl ?_)
    unfold wpY_drop
    exact ys_there_f hx f_equations f_variables f_greatest f_excess f_loose f_excessOnes f_looseOnes f_known f_blocks a_kind a_value a_before a_constant a_latest a_there a_shown a_coefficient a_old a_inside a_most a_more b_E b_V a_goodPairs a_matrix ⟨rfl, hR⟩
  rcases pk_ix v1 (n := 8) (by decide) with hx | hx | ⟨e, he, rfl⟩
  · exact bad (Or.inl hx)
  · exact bad (Or.inr hx)
  · unfold wpX_isThere
    refine xs_num_t he (xs_has (md_Em m) he (fun hE => br_f (by decide) ?_) (fun hE => br_t rfl ?_))
    · refine nm_r (e' := nI (md_mk 8 (md_Em (md_sd m (2 ^ e))))) ?_ ?_
      · rw [ni_shl he, ni_sd]
        refine ni_cg (fun i hi => ?_)
        show _ = (md_sd m (2 ^ e)).testBit i
        rw [md_rmb i hi]; rfl
      · unfold wpY_drop
        refine ys_there he f_equations f_variables f_greatest f_excess f_loose f_excessOnes f_looseOnes f_known f_blocks a_kind a_value a_before a_constant a_latest a_there a_shown a_coefficient a_old a_inside a_most a_more b_E b_V a_goodPairs a_matrix hth (fun _ => ⟨vp_in_nI he (by decide), nm_e ⟨rfl, ?_⟩⟩) (fun h0 => by rw [hE] at h0; simp at h0)
        rw [nI_clamp (by omega), nb_0]
        refine ⟨kd, cf, ol, co, gv, md_sd m (2 ^ e), mm, ⟨md_sd_lt _ hm8, rfl, hkx, hky, hk4, hcx, hcy, hc1, hox, hoy, ho1, hnx, hny, hn1, hgx, hg1, fun j hj => ?_, hv2, hv3, hsh⟩, hmm, fun h => absurd h (by decide), fun h => absurd rfl h⟩
        rw [md_rmb j hj]
        by_cases e1 : j = e
        · rw [e1, pk_us]; simp; rfl
        · rw [pk_un e1, hth j hj]
          have h2 : (j == e) = false := by simp [e1]
          rw [h2]; simp
    · unfold wpY_drop
      exact ys_there he f_equations f_variables f_greatest f_excess f_loose f_excessOnes f_looseOnes f_known f_blocks a_kind a_value a_before a_constant a_latest a_there a_shown a_coefficient a_old a_inside a_most a_more b_E b_V a_goodPairs a_matrix hth (fun h1 => by rw [hE] at h1; simp at h1) (fun _ => ⟨rfl, hR⟩)
theorem i_vc_matching {k : Nat} {u : SX} {v : SY} (I : i_Rel k u v) (hk : k + 5 ≤ 2560) : wpX_matching (fun r u' => wpY_matching (fun r' v' => r' = r ∧ i_Rel (k + 5) u' v') v) u := by
  obtain ⟨f_equationsThere, f_stale, f_unknowns, f_pairs, f_excessEquations, f_excessVariables, f_looseEquations, f_looseVariables, f_blockCount, f_firstSingular, a_kinds, a_given, a_found, a_constants, a_coefficients, a_oldCoefficients, a_reach, a_goodReach, a_blockEquations, a_blockVariables, a_grid, a_solvedBy, a_rests⟩ := u
  obtain ⟨f_equations, f_variables, f_greatest, f_excess, f_loose, f_excessOnes, f_looseOnes, f_known, f_blocks, a_kind, a_value, a_before, a_constant, a_latest, a_there, a_shown, a_coefficient, a_old, a_inside, a_most, a_more, b_E, b_V, a_goodPairs, a_matrix⟩ := v
  obtain ⟨kd, cf, ol, co, gv, m, mm, ⟨hm8, heq, hkx, hky, hk4, hcx, hcy, hc1, hox, hoy, ho1, hnx, hny, hn1, hgx, hg1, hth, hv2, hv3, hsh⟩, hmm, hX, hY⟩ := I
  subst heq
  unfold wpX_matching
  refine xs_ref  f_stale f_unknowns f_pairs f_excessEquations f_excessVariables f_looseEquations f_looseVariables f_blockCount f_firstSingular a_kinds a_given a_found a_constants a_coefficients a_oldCoefficients a_reach a_goodReach a_blockEquations a_blockVariables a_grid a_solvedBy a_rests hkx hk4 hcx hc1 hX _ (fun unk prs exE exV loE loV bc fs rea goo bE bV grid sol hXL => ?_)
  show wpY_matching _ _
  unfold wpY_matching
  refine ys_know f_equations f_variables f_greatest f_excess f_loose f_excessOnes f_looseOnes f_known f_blocks a_kind a_value a_before a_constant a_latest a_there a_shown a_coefficient a_old a_inside a_most a_more b_E b_V a_goodPairs a_matrix hky hk4 hth hcy hc1 hY _ (fun eqs vrs gre xE lE xV lV kn blk ins mo me yE yV god hkn hYA => ?_)
  exact ⟨by rw [hXL.1.2.1, hYA.2.2.1], kd, cf, ol, co, gv, m, mm, ⟨hm8, rfl, hkx, hky, hk4, hcx, hcy, hc1, hox, hoy, ho1, hnx, hny, hn1, hgx, hg1, hth, hv2, hv3, hsh⟩, hmm, fun _ => hXL, fun _ => hYA⟩
