theorem i_vc_variable {k : Nat} {u : SX} {v : SY} (I : i_Rel k u v) (hk : k + 5 ≤ 2560) (v1 : Int32) (v2 : Int32) (v3 : Int32) : wpX_variable (fun r u' => wpY_variable (fun r' v' => r' = r ∧ i_Rel (k + 5) u' v') v v1 v2 v3) u v1 v2 v3 := by
  obtain ⟨f_equationsThere, f_stale, f_unknowns, f_pairs, f_excessEquations, f_excessVariables, f_looseEquations, f_looseVariables, f_blockCount, f_firstSingular, a_kinds, a_given, a_found, a_constants, a_coefficients, a_oldCoefficients, a_reach, a_goodReach, a_blockEquations, a_blockVariables, a_grid, a_solvedBy, a_rests⟩ := u
  obtain ⟨f_equations, f_variables, f_greatest, f_excess, f_loose, f_excessOnes, f_looseOnes, f_known, f_blocks, a_kind, a_value, a_before, a_constant, a_latest, a_there, a_shown, a_coefficient, a_old, a_inside, a_most, a_more, b_E, b_V, a_goodPairs, a_matrix⟩ := v
  obtain ⟨kd, cf, ol, co, gv, m, mm, ⟨hm8, heq, hkx, hky, hk4, hcx, hcy, hc1, hox, hoy, ho1, hnx, hny, hn1, hgx, hg1, hth, hv2, hv3, hsh⟩, hmm, hX, hY⟩ := I
  subst heq
  have hR : i_Rel (k + 5) ((nI (md_mk 8 (md_Em m))), f_stale, f_unknowns, f_pairs, f_excessEquations, f_excessVariables, f_looseEquations, f_looseVariables, f_blockCount, f_firstSingular, a_kinds, a_given, a_found, a_constants, a_coefficients, a_oldCoefficients, a_reach, a_goodReach, a_blockEquations, a_blockVariables, a_grid, a_solvedBy, a_rests) (f_equations, f_variables, f_greatest, f_excess, f_loose, f_excessOnes, f_looseOnes, f_known, f_blocks, a_kind, a_value, a_before, a_constant, a_latest, a_there, a_shown, a_coefficient, a_old, a_inside, a_most, a_more, b_E, b_V, a_goodPairs, a_matrix) := ⟨kd, cf, ol, co, gv, m, mm, ⟨hm8, rfl, hkx, hky, hk4, hcx, hcy, hc1, hox, hoy, ho1, hnx, hny, hn1, hgx, hg1, hth, hv2, hv3, hsh⟩, hmm, hX, hY⟩
  unfold wpX_variable
  rcases pk_ix v1 (n := 8) (by decide) with hx | hx | ⟨j, hj, rfl⟩
  · refine xs_num_f (Or.inl hx) ?_
    unfold wpY_variable
    exact ys_in_f (Or.inl hx) ⟨rfl, hR⟩
  · refine xs_num_f (Or.inr hx) ?_
    unfold wpY_variable
    exact ys_in_f (Or.inr hx) ⟨rfl, hR⟩
  · have hin : vp_in (nI j) 8 := vp_in_nI hj (by decide)
    have hcl : (nI j).toNatClampNeg = j := nI_clamp (by omega)
    refine xs_num_t hj ?_
    rcases pk_ix v2 (n := 4) (by decide) with hy | hy | ⟨q, hq, rfl⟩
    · refine br_t hy ?_
      unfold wpY_variable
      exact ys_in_t (a := 0) (b := 8) (Nat.zero_le _) hj (by decide) (ys_in_f (Or.inl hy) ⟨rfl, hR⟩)
    · have hn : ¬ v2 < 0 := fun h => absurd (Int32.lt_of_le_of_lt hy h) (by decide)
      have hn2 : ¬ v2 ≤ 3 := fun h => absurd (Int32.le_trans hy h) (by decide)
      refine br_f hn (br_f hn2 ?_)
      unfold wpY_variable
      exact ys_in_t (a := 0) (b := 8) (Nat.zero_le _) hj (by decide) (ys_in_f (Or.inr hy) ⟨rfl, hR⟩)
    · refine br_f (nI_pos (by omega)) (br_t (nI_le (b := 3) (by omega) (by decide)) ⟨hin, nm_e ?_⟩)
      refine xs_modulo _ _ ⟨hin, nm_e ⟨hin, nm_e ?_⟩⟩
      rw [hcl]
      have hmd := md_md_lt v3
      have hend : ∀ va bf : Nat → Int32, (q = 2 → va j = nI (md_md v3)) → (q = 3 → bf j = nI (md_md v3)) → (∀ i, i ≠ j → va i = a_value i) → (∀ i, i ≠ j → bf i = a_before i) → wY_variable_58 (fun r' v' => r' = 1 ∧ i_Rel (k + 5) ((nI (md_mk 8 (md_Em m))), 1, f_unknowns, f_pairs, f_excessEquations, f_excessVariables, f_looseEquations, f_looseVariables, f_blockCount, f_firstSingular, (upd a_kinds j (nI q)), (upd a_given j (nI (md_md v3))), (upd a_found j (-1)), a_constants, a_coefficients, a_oldCoefficients, a_reach, a_goodReach, a_blockEquations, a_blockVariables, a_grid, a_solvedBy, a_rests) v') (nI j) f_equations f_variables f_greatest f_excess f_loose f_excessOnes f_looseOnes f_known f_blocks (upd a_kind j (nI q)) va bf a_constant a_latest a_there a_shown a_coefficient a_old a_inside a_most a_more b_E b_V a_goodPairs a_matrix := by
        intro va bf w1 w2 w3 w4
        refine And.intro hin (nm_e ⟨rfl, ?_⟩)
        rw [hcl, nb_0]
        refine ⟨md_up kd j q, cf, ol, co, md_up gv j (md_md v3), m, mm, ⟨hm8, rfl, fun i => ?_, fun i => ?_, fun i => ?_, hcx, hcy, hc1, hox, hoy, ho1, hnx, hny, hn1, fun i => ?_, fun i => ?_, hth, fun i hi h2 => ?_, fun i hi h3 => ?_, fun i hi hV => ?_⟩, hmm, fun h => absurd h (by decide), fun h => absurd rfl h⟩
        · by_cases e : i = j
          · rw [e, pk_us, md_up_s]
          · rw [pk_un e, md_up_n e]; exact hkx i
        · by_cases e : i = j
          · rw [e, pk_us, md_up_s]
          · rw [pk_un e, md_up_n e]; exact hky i
        · by_cases e : i = j
          · rw [e, md_up_s]; exact hq
          · rw [md_up_n e]; exact hk4 i
        · by_cases e : i = j
          · rw [e, pk_us, md_up_s]
          · rw [pk_un e, md_up_n e]; exact hgx i
        · by_cases e : i = j
          · rw [e, md_up_s]; exact hmd
          · rw [md_up_n e]; exact hg1 i
        · by_cases e : i = j
          · rw [e, md_up_s] at h2; rw [e, md_up_s]; exact w1 h2
          · rw [md_up_n e] at h2; rw [md_up_n e, w3 i e]; exact hv2 i hi h2
        · by_cases e : i = j
          · rw [e, md_up_s] at h3; rw [e, md_up_s]; exact w2 h3
          · rw [md_up_n e] at h3; rw [md_up_n e, w4 i e]; exact hv3 i hi h3
        · by_cases e : i = j
          · rw [e, pk_us, pk_us]; exact ⟨fun _ => rfl, fun h => absurd rfl h⟩
          · rw [pk_un e, pk_un e]
            refine hsh i hi ?_
            unfold md_Vk at hV ⊢
            rw [md_up_n e] at hV
            exact hV
      unfold wpY_variable
      refine ys_in_t (a := 0) (b := 8) (Nat.zero_le _) hj (by decide) (ys_in_t (a := 0) (b := 4) (Nat.zero_le _) hq (by decide) ⟨hin, nm_e ?_⟩)
      rw [hcl]
      by_cases c2 : q = 2
      · refine br_t (by rw [c2]; rfl) (ys_mod _ _ ⟨hin, nm_e ?_⟩)
        refine br_f (fun hh => ?_) (hend _ _ (fun _ => pk_us) (fun h => by omega) (fun i hi => pk_un hi) (fun i hi => rfl))
        have h3 : q = 3 := (nI_eq (by omega) (by decide)).mp (hh : nI q = nI 3)
        omega
      · refine br_f (fun hh => c2 ((nI_eq (by omega) (by decide)).mp (hh : nI q = nI 2))) ?_
        by_cases c3 : q = 3
        · refine br_t (by rw [c3]; rfl) (ys_mod _ _ ⟨hin, nm_e ?_⟩)
          rw [hcl]
          exact hend _ _ (fun h => absurd h c2) (fun _ => pk_us) (fun i hi => rfl) (fun i hi => pk_un hi)
        · refine br_f (fun hh => c3 ((nI_eq (by omega) (by decide)).mp (hh : nI q = nI 3))) ?_
          exact hend _ _ (fun h => absurd h c2) (fun h => absurd h c3) (fun i hi => rfl) (fun i hi => rfl)
theorem md_ro_lt {b k : Nat} {g : Nat → Nat} (h : ∀ j, g j < 101) : ∀ j, md_ro b k (fun _ => 0) g j < 101 := by
  intro j
  show (if b ≤ j ∧ j < b + k then 0 else g j) < 101
  split
  · decide
  · exact h j
theorem md_ro_put {b k : Nat} {g : Nat → Nat} {f : Nat → Int32} (h : ∀ j, f j = nI (md_ro b k (fun _ => 0) g j)) : ∀ j, upd f (b + k) 0 j = nI (md_ro b (k + 1) (fun _ => 0) g j) := by
  intro j
  rw [← md_ro_s]
  by_cases e : j = b + k
  · rw [e, pk_us, md_up_s]; rfl
  · rw [pk_un e, md_up_n e]; exact h j
theorem xs_eq_l {cf ol : Nat → Nat} {e : Nat} (he : e < 8) (f_equationsThere f_stale f_unknowns f_pairs f_excessEquations f_excessVariables f_looseEquations f_looseVariables f_blockCount f_firstSingular : Int32) (a_kinds a_given a_found a_constants a_reach a_goodReach a_blockEquations a_blockVariables a_grid a_solvedBy a_rests : Nat → Int32) (post : Int32 → SX → Prop) (h : ∀ fc fo, (∀ j, fc j = nI (md_ro (e * 8) 8 (fun _ => 0) cf j)) → (∀ j, fo j = nI (md_ro (e * 8) 8 (fun _ => 0) ol j)) → post 1 (f_equationsThere, 1, f_unknowns, f_pairs, f_excessEquations, f_excessVariables, f_looseEquations, f_looseVariables, f_blockCount, f_firstSingular, a_kinds, a_given, a_found, a_constants, fc, fo, a_reach, a_goodReach, a_blockEquations, a_blockVariables, a_grid, a_solvedBy, a_rests)) : ∀ d i fc fo, i + d = 8 → (∀ j, fc j = nI (md_ro (e * 8) i (fun _ => 0) cf j)) → (∀ j, fo j = nI (md_ro (e * 8) i (fun _ => 0) ol j)) → wX_equation_33 post (nI e) f_equationsThere f_stale f_unknowns f_pairs f_excessEquations f_excessVariables f_looseEquations f_looseVariables f_blockCount f_firstSingular (d + 1) (nI i) a_kinds a_given a_found a_constants fc fo a_reach a_goodReach a_blockEquations a_blockVariables a_grid a_solvedBy a_rests := by
  intro d
  induction d with
  | zero =>
    intro i fc fo hi h1 h2
    rw [show i = 8 by omega] at h1 h2 ⊢
    exact br_t (nI_le (a := 8) (b := 8) (by omega) (by decide)) (h fc fo h1 h2)
  | succ d ih =>
    intro i fc fo hi h1 h2
    have hi8 : i < 8 := by omega
    refine br_f (nI_ge (b := 8) hi8 (by decide)) ?_
    rw [md_ix8]
    refine ⟨vp_in_nI (by omega) (by decide), nm_e ⟨vp_in_nI (by omega) (by decide), nm_e (nm_r (nI_1 i) ?_)⟩⟩
    rw [nI_clamp (by omega)]
    exact ih (i + 1) _ _ (by omega) (md_ro_put h1) (md_ro_put h2)
theorem ys_eq_l {cf ol : Nat → Nat} {e : Nat} (he : e < 8) (f_equations f_variables f_greatest f_excess f_loose f_excessOnes f_looseOnes f_known f_blocks : Int32) (a_kind a_value a_before a_constant a_latest a_there a_shown a_inside a_most a_more a_blockEquations a_blockVariables a_goodPairs a_matrix : Nat → Int32) (post : Int32 → SY → Prop) (h : ∀ fc fo, (∀ j, fc j = nI (md_ro (e * 8) 8 (fun _ => 0) cf j)) → (∀ j, fo j = nI (md_ro (e * 8) 8 (fun _ => 0) ol j)) → post 1 (f_equations, f_variables, f_greatest, f_excess, f_loose, f_excessOnes, f_looseOnes, 0, f_blocks, a_kind, a_value, a_before, a_constant, a_latest, a_there, a_shown, fc, fo, a_inside, a_most, a_more, a_blockEquations, a_blockVariables, a_goodPairs, a_matrix)) : ∀ d i fc fo, i + d = 8 → (∀ j, fc j = nI (md_ro (e * 8) i (fun _ => 0) cf j)) → (∀ j, fo j = nI (md_ro (e * 8) i (fun _ => 0) ol j)) → wY_equation_31 post (nI e) f_equations f_variables f_greatest f_excess f_loose f_excessOnes f_looseOnes f_known f_blocks (d + 1) (nI i) a_kind a_value a_before a_constant a_latest a_there a_shown fc fo a_inside a_most a_more a_blockEquations a_blockVariables a_goodPairs a_matrix := by
  intro d
  induction d with
  | zero =>
    intro i fc fo hi h1 h2
    rw [show i = 8 by omega] at h1 h2 ⊢
    exact br_t (nI_le (a := 8) (b := 8) (by omega) (by decide)) (h fc fo h1 h2)
  | succ d ih =>
    intro i fc fo hi h1 h2
    have hi8 : i < 8 := by omega
    refine br_f (nI_ge (b := 8) hi8 (by decide)) ?_
    rw [md_ix8']
    refine ⟨vp_in_nI (by omega) (by decide), nm_e ⟨vp_in_nI (by omega) (by decide), nm_e (nm_r (nI_1 i) ?_)⟩⟩
    rw [nI_clamp (by omega)]
    exact ih (i + 1) _ _ (by omega) (md_ro_put h1) (md_ro_put h2)
theorem i_vc_equation {k : Nat} {u : SX} {v : SY} (I : i_Rel k u v) (hk : k + 5 ≤ 2560) (v1 : Int32) (v2 : Int32) : wpX_equation (fun r u' => wpY_equation (fun r' v' => r' = r ∧ i_Rel (k + 5) u' v') v v1 v2) u v1 v2 := by
  obtain ⟨f_equationsThere, f_stale, f_unknowns, f_pairs, f_excessEquations, f_excessVariables, f_looseEquations, f_looseVariables, f_blockCount, f_firstSingular, a_kinds, a_given, a_found, a_constants, a_coefficients, a_oldCoefficients, a_reach, a_goodReach, a_blockEquations, a_blockVariables, a_grid, a_solvedBy, a_rests⟩ := u
  obtain ⟨f_equations, f_variables, f_greatest, f_excess, f_loose, f_excessOnes, f_looseOnes, f_known, f_blocks, a_kind, a_value, a_before, a_constant, a_latest, a_there, a_shown, a_coefficient, a_old, a_inside, a_most, a_more, b_E, b_V, a_goodPairs, a_matrix⟩ := v
  obtain ⟨kd, cf, ol, co, gv, m, mm, ⟨hm8, heq, hkx, hky, hk4, hcx, hcy, hc1, hox, hoy, ho1, hnx, hny, hn1, hgx, hg1, hth, hv2, hv3, hsh⟩, hmm, hX, hY⟩ := I
  subst heq
  have hR : i_Rel (k + 5) ((nI (md_mk 8 (md_Em m))), f_stale, f_unknowns, f_pairs, f_excessEquations, f_excessVariables, f_looseEquations, f_looseVariables, f_blockCount, f_firstSingular, a_kinds, a_given, a_found, a_constants, a_coefficients, a_oldCoefficients, a_reach, a_goodReach, a_blockEquations, a_blockVariables, a_grid, a_solvedBy, a_rests) (f_equations, f_variables, f_greatest, f_excess, f_loose, f_excessOnes, f_looseOnes, f_known, f_blocks, a_kind, a_value, a_before, a_constant, a_latest, a_there, a_shown, a_coefficient, a_old, a_inside, a_most, a_more, b_E, b_V, a_goodPairs, a_matrix) := ⟨kd, cf, ol, co, gv, m, mm, ⟨hm8, rfl, hkx, hky, hk4, hcx, hcy, hc1, hox, hoy, ho1, hnx, hny, hn1, hgx, hg1, hth, hv2, hv3, hsh⟩, hmm, hX, hY⟩
  unfold wpX_equation
  rcases pk_ix v1 (n := 8) (by decide) with hx | hx | ⟨e, he, rfl⟩
  · refine xs_num_f (Or.inl hx) ?_
    unfold wpY_equation
    exact ys_in_f (Or.inl hx) ⟨rfl, hR⟩
  · refine xs_num_f (Or.inr hx) ?_
    unfold wpY_equation
    exact ys_in_f (Or.inr hx) ⟨rfl, hR⟩
  · have hin : vp_in (nI e) 8 := vp_in_nI he (by decide)
    have hcl : (nI e).toNatClampNeg = e := nI_clamp (by omega)
    have hmd := md_md_lt v2
    refine xs_num_t he (nm_r (e' := nI (md_mk 8 (md_Em (m ||| 2 ^ e)))) ?_ (xs_modulo _ _ ⟨hin, nm_e ⟨9, ?_⟩⟩))
    · rw [ni_shl he, ni_or]
      refine ni_cg (fun i hi => ?_)
      show _ = (m ||| 2 ^ e).testBit i
      rw [Nat.testBit_or, Nat.testBit_two_pow]
      show (m.testBit i || (i == e)) = (m.testBit i || decide (e = i))
      by_cases c : i = e
      · rw [c]; simp
      · have c1 : (i == e) = false := by simp [c]
        have c2 : ¬ e = i := fun h => c h.symm
        rw [c1]; simp [c2]
    · rw [hcl]
      refine xs_eq_l (cf := cf) (ol := ol) he _ f_stale f_unknowns f_pairs f_excessEquations f_excessVariables f_looseEquations f_looseVariables f_blockCount f_firstSingular a_kinds a_given a_found (upd a_constants e (nI (md_md v2)))   a_reach a_goodReach a_blockEquations a_blockVariables a_grid a_solvedBy a_rests _ (fun fc fo w1 w2 => ?_) 8 0 a_coefficients a_oldCoefficients rfl (by rw [md_ro_0]; exact hcx) (by rw [md_ro_0]; exact hox)
      unfold wpY_equation
      refine ys_in_t (a := 0) (b := 8) (Nat.zero_le _) he (by decide) ⟨hin, nm_e (ys_mod _ _ ⟨hin, nm_e ⟨9, ?_⟩⟩)⟩
      rw [hcl, nb_1]
      refine ys_eq_l (cf := cf) (ol := ol) he f_equations f_variables f_greatest f_excess f_loose f_excessOnes f_looseOnes f_known f_blocks a_kind a_value a_before (upd a_constant e (nI (md_md v2))) a_latest (upd a_there e 1) a_shown   a_inside a_most a_more b_E b_V a_goodPairs a_matrix _ (fun gc go w3 w4 => ⟨rfl, ?_⟩) 8 0 a_coefficient a_old rfl (by rw [md_ro_0]; exact hcy) (by rw [md_ro_0]; exact hoy)
      refine ⟨kd, md_ro (e * 8) 8 (fun _ => 0) cf, md_ro (e * 8) 8 (fun _ => 0) ol, md_up co e (md_md v2), gv, m ||| 2 ^ e, mm, ⟨md_or_lt hm8 (md_pow_lt e he), rfl, hkx, hky, hk4, w1, w3, md_ro_lt hc1, w2, w4, md_ro_lt ho1, fun i => ?_, fun i => ?_, fun i => ?_, hgx, hg1, fun j hj => ?_, hv2, hv3, hsh⟩, hmm, fun h => absurd h (by decide), fun h => absurd rfl h⟩
      · by_cases c : i = e
        · rw [c, pk_us, md_up_s]
        · rw [pk_un c, md_up_n c]; exact hnx i
      · by_cases c : i = e
        · rw [c, pk_us, md_up_s]
        · rw [pk_un c, md_up_n c]; exact hny i
      · by_cases c : i = e
        · rw [c, md_up_s]; exact hmd
        · rw [md_up_n c]; exact hn1 i
      · rw [Nat.testBit_or]
        by_cases c : j = e
        · rw [c, pk_us, Nat.testBit_two_pow_self]; simp; rfl
        · rw [pk_un c, hth j hj, Nat.testBit_two_pow_of_ne (fun h => c h.symm)]; simp
theorem i_vc_term {k : Nat} {u : SX} {v : SY} (I : i_Rel k u v) (hk : k + 5 ≤ 2560) (v1 : Int32) (v2 : Int32) (v3 : Int32) (v4 : Int32) : wpX_term (fun r u' => wpY_term (fun r' v' => r' = r ∧ i_Rel (k + 5) u' v') v v1 v2 v3 (lw_bz v4)) u v1 v2 v3 (lw_bz v4) := by
  obtain ⟨f_equationsThere, f_stale, f_unknowns, f_pairs, f_excessEquations, f_excessVariables, f_looseEquations, f_looseVariables, f_blockCount, f_firstSingular, a_kinds, a_given, a_found, a_constants, a_coefficients, a_oldCoefficients, a_reach, a_goodReach, a_blockEquations, a_blockVariables, a_grid, a_solvedBy, a_rests⟩ := u
  obtain ⟨f_equations, f_variables, f_greatest, f_excess, f_loose, f_excessOnes, f_looseOnes, f_known, f_blocks, a_kind, a_value, a_before, a_constant, a_latest, a_there, a_shown, a_coefficient, a_old, a_inside, a_most, a_more, b_E, b_V, a_goodPairs, a_matrix⟩ := v
  obtain ⟨kd, cf, ol, co, gv, m, mm, ⟨hm8, heq, hkx, hky, hk4, hcx, hcy, hc1, hox, hoy, ho1, hnx, hny, hn1, hgx, hg1, hth, hv2, hv3, hsh⟩, hmm, hX, hY⟩ := I
  subst heq
  have hR : i_Rel (k + 5) ((nI (md_mk 8 (md_Em m))), f_stale, f_unknowns, f_pairs, f_excessEquations, f_excessVariables, f_looseEquations, f_looseVariables, f_blockCount, f_firstSingular, a_kinds, a_given, a_found, a_constants, a_coefficients, a_oldCoefficients, a_reach, a_goodReach, a_blockEquations, a_blockVariables, a_grid, a_solvedBy, a_rests) (f_equations, f_variables, f_greatest, f_excess, f_loose, f_excessOnes, f_looseOnes, f_known, f_blocks, a_kind, a_value, a_before, a_constant, a_latest, a_there, a_shown, a_coefficient, a_old, a_inside, a_most, a_more, b_E, b_V, a_goodPairs, a_matrix) := ⟨kd, cf, ol, co, gv, m, mm, ⟨hm8, rfl, hkx, hky, hk4, hcx, hcy, hc1, hox, hoy, ho1, hnx, hny, hn1, hgx, hg1, hth, hv2, hv3, hsh⟩, hmm, hX, hY⟩
  unfold wpX_term
  have hY0 : v1 < 0 ∨ nI 8 ≤ v1 → wpY_term (fun r' v' => r' = 0 ∧ i_Rel (k + 5) ((nI (md_mk 8 (md_Em m))), f_stale, f_unknowns, f_pairs, f_excessEquations, f_excessVariables, f_looseEquations, f_looseVariables, f_blockCount, f_firstSingular, a_kinds, a_given, a_found, a_constants, a_coefficients, a_oldCoefficients, a_reach, a_goodReach, a_blockEquations, a_blockVariables, a_grid, a_solvedBy, a_rests) v') (f_equations, f_variables, f_greatest, f_excess, f_loose, f_excessOnes, f_looseOnes, f_known, f_blocks, a_kind, a_value, a_before, a_constant, a_latest, a_there, a_shown, a_coefficient, a_old, a_inside, a_most, a_more, b_E, b_V, a_goodPairs, a_matrix) v1 v2 v3 (lw_bz v4) := by
    intro hx
    unfold wpY_term
    exact ys_there_f hx f_equations f_variables f_greatest f_excess f_loose f_excessOnes f_looseOnes f_known f_blocks a_kind a_value a_before a_constant a_latest a_there a_shown a_coefficient a_old a_inside a_most a_more b_E b_V a_goodPairs a_matrix ⟨rfl, hR⟩
  rcases pk_ix v1 (n := 8) (by decide) with hx | hx | ⟨e, he, rfl⟩
  · unfold wpX_isThere
    exact xs_num_f (Or.inl hx) (br_t rfl (hY0 (Or.inl hx)))
  · unfold wpX_isThere
    exact xs_num_f (Or.inr hx) (br_t rfl (hY0 (Or.inr hx)))
  · unfold wpX_isThere
    refine xs_num_t he (xs_has (md_Em m) he (fun hE => br_f (by decide) ?_) (fun hE => br_t rfl ?_))
    · have hY1 : v2 < 0 ∨ nI 8 ≤ v2 → wpY_term (fun r' v' => r' = 0 ∧ i_Rel (k + 5) ((nI (md_mk 8 (md_Em m))), f_stale, f_unknowns, f_pairs, f_excessEquations, f_excessVariables, f_looseEquations, f_looseVariables, f_blockCount, f_firstSingular, a_kinds, a_given, a_found, a_constants, a_coefficients, a_oldCoefficients, a_reach, a_goodReach, a_blockEquations, a_blockVariables, a_grid, a_solvedBy, a_rests) v') (f_equations, f_variables, f_greatest, f_excess, f_loose, f_excessOnes, f_looseOnes, f_known, f_blocks, a_kind, a_value, a_before, a_constant, a_latest, a_there, a_shown, a_coefficient, a_old, a_inside, a_most, a_more, b_E, b_V, a_goodPairs, a_matrix) (nI e) v2 v3 (lw_bz v4) := by
        intro hx
        unfold wpY_term
        exact ys_there he f_equations f_variables f_greatest f_excess f_loose f_excessOnes f_looseOnes f_known f_blocks a_kind a_value a_before a_constant a_latest a_there a_shown a_coefficient a_old a_inside a_most a_more b_E b_V a_goodPairs a_matrix hth (fun _ => ys_in_f hx ⟨rfl, hR⟩) (fun h0 => by rw [hE] at h0; simp at h0)
      rcases pk_ix v2 (n := 8) (by decide) with hx | hx | ⟨w, hw, rfl⟩
      · exact xs_num_f (Or.inl hx) (hY1 (Or.inl hx))
      · exact xs_num_f (Or.inr hx) (hY1 (Or.inr hx))
      · have hcl : (nI (e * 8 + w)).toNatClampNeg = e * 8 + w := nI_clamp (by omega)
        have hin : vp_in (nI (e * 8 + w)) 64 := vp_in_nI (by omega) (by decide)
        have hmd := md_md_lt v3
        refine xs_num_t hw ?_
        rw [md_ix8]
        by_cases hb : lw_bz v4 = 0
        · refine br_t hb (xs_modulo _ _ ⟨hin, nm_e ?_⟩)
          rw [hcl]
          unfold wpY_term
          refine ys_there he f_equations f_variables f_greatest f_excess f_loose f_excessOnes f_looseOnes f_known f_blocks a_kind a_value a_before a_constant a_latest a_there a_shown a_coefficient a_old a_inside a_most a_more b_E b_V a_goodPairs a_matrix hth (fun _ => ys_in_t (a := 0) (b := 8) (Nat.zero_le _) hw (by decide) (br_t hb (ys_mod _ _ ?_))) (fun h0 => by rw [hE] at h0; simp at h0)
          rw [md_ix8', hcl]
          refine ⟨hin, nm_e ⟨rfl, ?_⟩⟩
          refine ⟨kd, md_up cf (e * 8 + w) (md_md v3), ol, co, gv, m, mm, ⟨hm8, rfl, hkx, hky, hk4, fun i => ?_, fun i => ?_, fun i => ?_, hox, hoy, ho1, hnx, hny, hn1, hgx, hg1, hth, hv2, hv3, hsh⟩, hmm, fun h => absurd h (by decide), fun h => absurd rfl h⟩
          · by_cases c : i = e * 8 + w
            · rw [c, pk_us, md_up_s]
            · rw [pk_un c, md_up_n c]; exact hcx i
          · by_cases c : i = e * 8 + w
            · rw [c, pk_us, md_up_s]
            · rw [pk_un c, md_up_n c]; exact hcy i
          · by_cases c : i = e * 8 + w
            · rw [c, md_up_s]; exact hmd
            · rw [md_up_n c]; exact hc1 i
        · refine br_f hb (xs_modulo _ _ ⟨hin, nm_e ?_⟩)
          rw [hcl]
          unfold wpY_term
          refine ys_there he f_equations f_variables f_greatest f_excess f_loose f_excessOnes f_looseOnes f_known f_blocks a_kind a_value a_before a_constant a_latest a_there a_shown a_coefficient a_old a_inside a_most a_more b_E b_V a_goodPairs a_matrix hth (fun _ => ys_in_t (a := 0) (b := 8) (Nat.zero_le _) hw (by decide) (br_f hb (ys_mod _ _ ?_))) (fun h0 => by rw [hE] at h0; simp at h0)
          rw [md_ix8', hcl]
          refine ⟨hin, nm_e ⟨rfl, ?_⟩⟩
          refine ⟨kd, cf, md_up ol (e * 8 + w) (md_md v3), co, gv, m, mm, ⟨hm8, rfl, hkx, hky, hk4, hcx, hcy, hc1, fun i => ?_, fun i => ?_, fun i => ?_, hnx, hny, hn1, hgx, hg1, hth, hv2, hv3, hsh⟩, hmm, fun h => absurd h (by decide), fun h => absurd rfl h⟩
          · by_cases c : i = e * 8 + w
            · rw [c, pk_us, md_up_s]
            · rw [pk_un c, md_up_n c]; exact hox i
          · by_cases c : i = e * 8 + w
            · rw [c, pk_us, md_up_s]
            · rw [pk_un c, md_up_n c]; exact hoy i
          · by_cases c : i = e * 8 + w
            · rw [c, md_up_s]; exact hmd
            · rw [md_up_n c]; exact ho1 i
    · unfold wpY_term
      exact ys_there he f_equations f_variables f_greatest f_excess f_loose f_excessOnes f_looseOnes f_known f_blocks a_kind a_value a_before a_constant a_latest a_there a_shown a_coefficient a_old a_inside a_most a_more b_E b_V a_goodPairs a_matrix hth (fun h1 => by rw [hE] at h1; simp at h1) (fun _ => ⟨rfl, hR⟩)
