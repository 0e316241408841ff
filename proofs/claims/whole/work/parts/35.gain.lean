theorem ys_g87 {kd g0 : Nat → Nat} {E : Nat → Bool} {w r : Nat} (hw : w < 8) (hr : r < 8) (f_variables f_greatest f_excess f_loose f_excessOnes f_looseOnes f_known f_blocks : Int32) (a_kind a_value a_before a_constant a_latest a_there a_shown a_coefficient a_old a_inside a_most a_more a_blockEquations a_blockVariables a_goodPairs a_matrix : Nat → Int32) (hk : ∀ j, a_kind j = nI (kd j)) (hk4 : ∀ j, kd j < 4) (hg : md_mN g0 a_matrix) (post : Int32 → SY → Prop) (h : ∀ f2 g2, md_mN g2 f2 → md_YE (md_gy (md_up g0 (9 * r + 8) 100)) (md_ct 8 E) (md_ct 8 E) g2 → post (nI (g2 (9 * md_ct w (md_Vk kd) + 8))) ((nI (md_mk 8 E)), f_variables, f_greatest, f_excess, f_loose, f_excessOnes, f_looseOnes, f_known, f_blocks, a_kind, a_value, a_before, a_constant, a_latest, a_there, a_shown, a_coefficient, a_old, a_inside, a_most, a_more, a_blockEquations, a_blockVariables, a_goodPairs, f2)) (hno : ∀ g2 k2, k2 < md_ct 8 E → md_YE (md_gy (md_up g0 (9 * r + 8) 100)) (md_ct 8 E) k2 g2 → (∀ q, k2 ≤ q → q < md_ct 8 E → g2 (9 * q + k2) = 0) → False) : ∀ d i, i + d = w → wY_gain_87 post (nI w) (nI r) (nI (md_mk 8 E)) f_variables f_greatest f_excess f_loose f_excessOnes f_looseOnes f_known f_blocks a_kind a_value a_before a_constant a_latest a_there a_shown a_coefficient a_old a_inside a_most a_more a_blockEquations a_blockVariables a_goodPairs a_matrix (d + 1) (nI (md_ct i (md_Vk kd))) (nI i) := by
  intro d
  induction d with
  | zero =>
    intro i hi
    rw [show i = w by omega]
    have hcw := md_ct_le (md_Vk kd) w
    refine br_t (nI_le (Nat.le_refl _) (by omega)) ?_
    rw [md_ix98, md_ix98]
    refine ⟨vp_in_nI (by omega) (by decide), nm_e ?_⟩
    rw [nI_clamp (n := 9 * r + 8) (by omega)]
    refine ys_size _ _ ?_
    refine ys_el (md_ct_le _ 8) _ f_variables f_greatest f_excess f_loose f_excessOnes f_looseOnes f_known f_blocks a_kind a_value a_before a_constant a_latest a_there a_shown a_coefficient a_old a_inside a_most a_more a_blockEquations a_blockVariables a_goodPairs (upd a_matrix (9 * r + 8) 100) (md_mN_up (x := 100) hg (by decide)) _ (fun f2 g2 c3 c4 => ⟨vp_in_nI (by omega) (by decide), ?_⟩) (fun f2 g2 k2 c3 c4 c5 c6 => absurd (hno g2 k2 c4 c5 c6) (fun h => h))
    rw [nI_clamp (by omega), (c3 _).1]
    exact h f2 g2 c3 c4
  | succ d ih =>
    intro i hi
    refine br_f (nI_ge (by omega) (by omega)) (ys_open (by omega) _ f_variables f_greatest f_excess f_loose f_excessOnes f_looseOnes f_known f_blocks a_kind a_value a_before a_constant a_latest a_there a_shown a_coefficient a_old a_inside a_most a_more a_blockEquations a_blockVariables a_goodPairs a_matrix hk hk4 (fun hV => ?_) (fun hV => nm_r (nI_1 i) ?_))
    · exact nm_r (by rw [nI_1, ← md_ct_s1 hV]) (nm_r (nI_1 i) (ih (i + 1) (by omega)))
    · rw [← md_ct_s0 hV]; exact ih (i + 1) (by omega)
theorem ys_g59 {m : Nat} {w e : Nat} (he : e < 8) (f_equations f_variables f_greatest f_excess f_loose f_excessOnes f_looseOnes f_known f_blocks : Int32) (a_kind a_value a_before a_constant a_latest a_there a_shown a_coefficient a_old a_inside a_most a_more a_blockEquations a_blockVariables a_goodPairs a_matrix : Nat → Int32) (ht : ∀ j, j < 8 → a_there j = nI (m.testBit j).toNat) (post : Int32 → SY → Prop) (h : ∃ n, wY_gain_87 post (nI w) (nI (md_ct e (md_Em m))) f_equations f_variables f_greatest f_excess f_loose f_excessOnes f_looseOnes f_known f_blocks a_kind a_value a_before a_constant a_latest a_there a_shown a_coefficient a_old a_inside a_most a_more a_blockEquations a_blockVariables a_goodPairs a_matrix n 0 0) : ∀ d i, i + d = e → wY_gain_59 post (nI w) (nI e) 0 f_equations f_variables f_greatest f_excess f_loose f_excessOnes f_looseOnes f_known f_blocks a_kind a_value a_before a_constant a_latest a_there a_shown a_coefficient a_old a_inside a_most a_more a_blockEquations a_blockVariables a_goodPairs a_matrix (d + 1) (nI (md_ct i (md_Em m))) (nI i) := by
  intro d
  induction d with
  | zero =>
    intro i hi
    rw [show i = e by omega]
    exact br_t (nI_le (Nat.le_refl _) (by omega)) h
  | succ d ih =>
    intro i hi
    have hi8 : i < 8 := by omega
    refine br_f (nI_ge (by omega) (by omega)) ⟨vp_in_nI hi8 (by decide), ?_⟩
    rw [nI_clamp (by omega), ht i hi8]
    cases hm : m.testBit i with
    | false =>
      refine br_t (by decide) (nm_r (nI_1 i) ?_)
      rw [← md_ct_s0 (P := md_Em m) hm]; exact ih (i + 1) (by omega)
    | true =>
      exact br_f (by decide) (nm_r (by rw [nI_1, ← md_ct_s1 (P := md_Em m) hm]) (nm_r (nI_1 i) (ih (i + 1) (by omega))))
theorem i_vc_gain {k : Nat} {u : SX} {v : SY} (I : i_Rel k u v) (hk : k + 5 ≤ 2560) (v1 : Int32) (v2 : Int32) : wpX_gain (fun r u' => wpY_gain (fun r' v' => r' = r ∧ i_Rel (k + 5) u' v') v v1 v2) u v1 v2 := by
  obtain ⟨f_equationsThere, f_stale, f_unknowns, f_pairs, f_excessEquations, f_excessVariables, f_looseEquations, f_looseVariables, f_blockCount, f_firstSingular, a_kinds, a_given, a_found, a_constants, a_coefficients, a_oldCoefficients, a_reach, a_goodReach, a_blockEquations, a_blockVariables, a_grid, a_solvedBy, a_rests⟩ := u
  obtain ⟨f_equations, f_variables, f_greatest, f_excess, f_loose, f_excessOnes, f_looseOnes, f_known, f_blocks, a_kind, a_value, a_before, a_constant, a_latest, a_there, a_shown, a_coefficient, a_old, a_inside, a_most, a_more, b_E, b_V, a_goodPairs, a_matrix⟩ := v
  obtain ⟨kd, cf, ol, co, gv, m, mm, ⟨hm8, heq, hkx, hky, hk4, hcx, hcy, hc1, hox, hoy, ho1, hnx, hny, hn1, hgx, hg1, hth, hv2, hv3, hsh⟩, hmm, hX, hY⟩ := I
  subst heq
  unfold wpX_gain
  refine xs_ref  f_stale f_unknowns f_pairs f_excessEquations f_excessVariables f_looseEquations f_looseVariables f_blockCount f_firstSingular a_kinds a_given a_found a_constants a_coefficients a_oldCoefficients a_reach a_goodReach a_blockEquations a_blockVariables a_grid a_solvedBy a_rests hkx hk4 hcx hc1 hX _ (fun unk prs exE exV loE loV bc fs rea goo bE bV grid sol hXL => ?_)
  have hXL2 := hXL
  obtain ⟨⟨rfl, rfl, rfl, rfl, rfl, rfl, rfl, hre, hgo, hB⟩, rfl, hG⟩ := hXL
  have hbadY : (∀ e w, e < 8 → w < 8 → v2 = nI e → v1 = nI w → md_Em m e = true → md_Vk kd w = true → md_balb (md_Ak kd cf m) (md_Em m) (md_Vk kd) = true → md_fs (md_Kq cf) (md_Ak kd cf m) (md_Em m) (md_Vk kd) < 8) → wpY_gain (fun r' v' => r' = -1 ∧ i_Rel (k + 5) ((nI (md_mk 8 (md_Em m))), 0, (nI (md_mk 8 (md_Vk kd))), (nI (md_tau (md_Ak kd cf m) (md_Em m) (md_Vk kd))), (nI (md_mk 8 (md_exc (md_Ak kd cf m) (md_Em m) (md_Vk kd)))), (nI (md_mk 8 (md_exv (md_Ak kd cf m) (md_Em m) (md_Vk kd)))), (nI (md_mk 8 (md_loe (md_Ak kd cf m) (md_Em m) (md_Vk kd)))), (nI (md_mk 8 (md_loo (md_Ak kd cf m) (md_Em m) (md_Vk kd)))), (nI (md_Q (md_Ak kd cf m) (md_Em m) (md_Vk kd))), (md_FS (md_Kq cf) (md_Ak kd cf m) (md_Em m) (md_Vk kd)), a_kinds, a_given, a_found, a_constants, a_coefficients, a_oldCoefficients, rea, goo, bE, bV, grid, sol, a_rests) v') (f_equations, f_variables, f_greatest, f_excess, f_loose, f_excessOnes, f_looseOnes, f_known, f_blocks, a_kind, a_value, a_before, a_constant, a_latest, a_there, a_shown, a_coefficient, a_old, a_inside, a_most, a_more, b_E, b_V, a_goodPairs, a_matrix) v1 v2 := by
    intro hbad
    unfold wpY_gain
    rcases pk_ix v2 (n := 8) (by decide) with hx | hx | ⟨e, he, rfl⟩
    · exact ys_there_f (Or.inl hx) f_equations f_variables f_greatest f_excess f_loose f_excessOnes f_looseOnes f_known f_blocks a_kind a_value a_before a_constant a_latest a_there a_shown a_coefficient a_old a_inside a_most a_more b_E b_V a_goodPairs a_matrix ⟨rfl, kd, cf, ol, co, gv, m, mm, ⟨hm8, rfl, hkx, hky, hk4, hcx, hcy, hc1, hox, hoy, ho1, hnx, hny, hn1, hgx, hg1, hth, hv2, hv3, hsh⟩, hmm, fun _ => hXL2, hY⟩
    · exact ys_there_f (Or.inr hx) f_equations f_variables f_greatest f_excess f_loose f_excessOnes f_looseOnes f_known f_blocks a_kind a_value a_before a_constant a_latest a_there a_shown a_coefficient a_old a_inside a_most a_more b_E b_V a_goodPairs a_matrix ⟨rfl, kd, cf, ol, co, gv, m, mm, ⟨hm8, rfl, hkx, hky, hk4, hcx, hcy, hc1, hox, hoy, ho1, hnx, hny, hn1, hgx, hg1, hth, hv2, hv3, hsh⟩, hmm, fun _ => hXL2, hY⟩
    · refine ys_there he f_equations f_variables f_greatest f_excess f_loose f_excessOnes f_looseOnes f_known f_blocks a_kind a_value a_before a_constant a_latest a_there a_shown a_coefficient a_old a_inside a_most a_more b_E b_V a_goodPairs a_matrix hth (fun hE => ?_) (fun _ => ⟨rfl, kd, cf, ol, co, gv, m, mm, ⟨hm8, rfl, hkx, hky, hk4, hcx, hcy, hc1, hox, hoy, ho1, hnx, hny, hn1, hgx, hg1, hth, hv2, hv3, hsh⟩, hmm, fun _ => hXL2, hY⟩)
      rcases pk_ix v1 (n := 8) (by decide) with hx | hx | ⟨w, hw, rfl⟩
      · exact ys_open_f (Or.inl hx) f_equations f_variables f_greatest f_excess f_loose f_excessOnes f_looseOnes f_known f_blocks a_kind a_value a_before a_constant a_latest a_there a_shown a_coefficient a_old a_inside a_most a_more b_E b_V a_goodPairs a_matrix ⟨rfl, kd, cf, ol, co, gv, m, mm, ⟨hm8, rfl, hkx, hky, hk4, hcx, hcy, hc1, hox, hoy, ho1, hnx, hny, hn1, hgx, hg1, hth, hv2, hv3, hsh⟩, hmm, fun _ => hXL2, hY⟩
      · exact ys_open_f (Or.inr hx) f_equations f_variables f_greatest f_excess f_loose f_excessOnes f_looseOnes f_known f_blocks a_kind a_value a_before a_constant a_latest a_there a_shown a_coefficient a_old a_inside a_most a_more b_E b_V a_goodPairs a_matrix ⟨rfl, kd, cf, ol, co, gv, m, mm, ⟨hm8, rfl, hkx, hky, hk4, hcx, hcy, hc1, hox, hoy, ho1, hnx, hny, hn1, hgx, hg1, hth, hv2, hv3, hsh⟩, hmm, fun _ => hXL2, hY⟩
      · refine ys_open hw f_equations f_variables f_greatest f_excess f_loose f_excessOnes f_looseOnes f_known f_blocks a_kind a_value a_before a_constant a_latest a_there a_shown a_coefficient a_old a_inside a_most a_more b_E b_V a_goodPairs a_matrix hky hk4 (fun hV => ?_) (fun _ => ⟨rfl, kd, cf, ol, co, gv, m, mm, ⟨hm8, rfl, hkx, hky, hk4, hcx, hcy, hc1, hox, hoy, ho1, hnx, hny, hn1, hgx, hg1, hth, hv2, hv3, hsh⟩, hmm, fun _ => hXL2, hY⟩)
        refine ys_know f_equations f_variables f_greatest f_excess f_loose f_excessOnes f_looseOnes f_known f_blocks a_kind a_value a_before a_constant a_latest a_there a_shown a_coefficient a_old a_inside a_most a_more b_E b_V a_goodPairs a_matrix hky hk4 hth hcy hc1 hY _ (fun eqs vrs gre xE lE xV lV kn blk ins mo me yE yV god hkn hYA => ?_)
        have hYA2 := hYA
        obtain ⟨rfl, rfl, rfl, rfl, rfl, rfl, rfl, rfl, hin, hgd, hYB⟩ := hYA
        refine ys_bal _ _ _     kn _ a_kind a_value a_before a_constant a_latest a_there a_shown a_coefficient a_old ins mo me yE yV god a_matrix (fun hb => ?_) (fun _ => ⟨rfl, kd, cf, ol, co, gv, m, mm, ⟨hm8, rfl, hkx, hky, hk4, hcx, hcy, hc1, hox, hoy, ho1, hnx, hny, hn1, hgx, hg1, hth, hv2, hv3, hsh⟩, hmm, fun _ => hXL2, fun _ => hYA2⟩)
        refine ys_fs (md_Ak_in kd cf m) _ _ _     kn  a_kind a_value a_before a_constant a_latest a_there a_shown a_coefficient a_old ins mo me yE yV god a_matrix hcy hc1 hmm hYB _ (fun f gg hgg => ?_)
        have hlt := hbad e w he hw rfl rfl hE hV hb
        have e1 : md_FS (md_Kq cf) (md_Ak kd cf m) (md_Em m) (md_Vk kd) = nI (md_fs (md_Kq cf) (md_Ak kd cf m) (md_Em m) (md_Vk kd)) := by
          unfold md_FS
          rw [if_pos ⟨hb, hlt⟩]
        refine br_f (by rw [e1]; exact nI_pos (by omega)) ?_
        exact ⟨rfl, kd, cf, ol, co, gv, m, gg, ⟨hm8, rfl, hkx, hky, hk4, hcx, hcy, hc1, hox, hoy, ho1, hnx, hny, hn1, hgx, hg1, hth, hv2, hv3, hsh⟩, hgg, fun _ => hXL2, fun _ => hYA2⟩
  refine xs_bal _ _ _ _     _ _ a_kinds a_given a_found a_constants a_coefficients a_oldCoefficients rea goo bE bV grid sol a_rests (fun hb => ?_) (fun hb => hbadY (fun e w _ _ _ _ _ _ hb1 => by rw [hb] at hb1; simp at hb1))
  refine br_c (fun hf => ?_) (fun hf => hbadY (fun e w _ _ _ _ _ _ _ => ?_))
  · have hfs := (md_FS_m1 hb).mp hf
    unfold wpX_isThere
    rcases pk_ix v2 (n := 8) (by decide) with hx | hx | ⟨e, he, rfl⟩
    · exact xs_num_f (Or.inl hx) (br_t rfl (hbadY (fun e w he _ h2 _ _ _ _ => absurd hx (by rw [h2]; exact nI_pos (by omega)))))
    · exact xs_num_f (Or.inr hx) (br_t rfl (hbadY (fun e w he _ h2 _ _ _ _ => absurd hx (by rw [h2]; exact nI_ge he (by decide)))))
    · refine xs_num_t he (xs_has (md_Em m) he (fun hE => br_f (by decide) ?_) (fun hE => br_t rfl (hbadY (fun e' w he' _ h2 _ hE' _ _ => ?_))))
      · rcases pk_ix v1 (n := 8) (by decide) with hx | hx | ⟨w, hw, rfl⟩
        · exact xs_num_f (Or.inl hx) (hbadY (fun _ w _ hw _ h1 _ _ _ => absurd hx (by rw [h1]; exact nI_pos (by omega))))
        · exact xs_num_f (Or.inr hx) (hbadY (fun _ w _ hw _ h1 _ _ _ => absurd hx (by rw [h1]; exact nI_ge hw (by decide))))
        · refine xs_num_t hw (xs_has (md_Vk kd) hw (fun hV => ?_) (fun hV => hbadY (fun _ w' _ hw' _ h1 _ hV' _ => ?_)))
          · obtain ⟨g, ro, x1, x2, x3, x4, x5⟩ := hG hb hfs
            have hns := md_whole_ns hb hfs
            have hbal := md_balb_iff.mp hb
            have hct : md_ct 8 (md_Vk kd) = md_ct 8 (md_Em m) := by rw [md_bal_E hbal, md_bal_V hbal]
            have hr8 := (x3.1 w hw hV).1
            refine ⟨vp_in_nI hw (by decide), ?_⟩
            rw [nI_clamp (n := w) (by omega), x2 w hw hV, md_ix168]
            refine ⟨vp_in_nI (by omega) (by decide), ?_⟩
            rw [nI_clamp (by omega), (x1 _ (by omega)).1]
            refine xs_modulo _ _ ?_
            have hgl := (x1 (ro w * 16 + (8 + e)) (by omega)).2
            unfold wpY_gain
            refine ys_there he f_equations f_variables f_greatest f_excess f_loose f_excessOnes f_looseOnes f_known f_blocks a_kind a_value a_before a_constant a_latest a_there a_shown a_coefficient a_old a_inside a_most a_more b_E b_V a_goodPairs a_matrix hth (fun _ => ys_open hw f_equations f_variables f_greatest f_excess f_loose f_excessOnes f_looseOnes f_known f_blocks a_kind a_value a_before a_constant a_latest a_there a_shown a_coefficient a_old a_inside a_most a_more b_E b_V a_goodPairs a_matrix hky hk4 (fun _ => ?_) (fun h0 => by rw [hV] at h0; simp at h0)) (fun h0 => by rw [hE] at h0; simp at h0)
            refine ys_know f_equations f_variables f_greatest f_excess f_loose f_excessOnes f_looseOnes f_known f_blocks a_kind a_value a_before a_constant a_latest a_there a_shown a_coefficient a_old a_inside a_most a_more b_E b_V a_goodPairs a_matrix hky hk4 hth hcy hc1 hY _ (fun eqs vrs gre xE lE xV lV kn blk ins mo me yE yV god hkn hYA => ?_)
            have hYA2 := hYA
            obtain ⟨rfl, rfl, rfl, rfl, rfl, rfl, rfl, rfl, hin, hgd, hYB⟩ := hYA
            refine ys_bal _ _ _     kn _ a_kind a_value a_before a_constant a_latest a_there a_shown a_coefficient a_old ins mo me yE yV god a_matrix (fun _ => ?_) (fun hb0 => by rw [hb] at hb0; simp at hb0)
            refine ys_fs (md_Ak_in kd cf m) _ _ _     kn  a_kind a_value a_before a_constant a_latest a_there a_shown a_coefficient a_old ins mo me yE yV god a_matrix hcy hc1 hmm hYB _ (fun f gg hgg => ?_)
            refine br_t (by rw [hf]; decide) ?_
            refine ys_fill (rv := fun _ => 0) (os := fun _ => 0) 0 _ _ _ _ _ _ _ kn _ a_kind a_value a_before a_constant a_latest a_there a_shown a_coefficient a_old ins mo me yE yV god f hcy hc1 hgg (fun hn => absurd rfl hn) (fun _ _ => rfl) (fun hn => absurd rfl hn) _ (fun f1 g1 c1 c2 => ⟨e + 1, ?_⟩)
            have hce := md_ct_le (md_Em m) e
            have hpk : md_pk (md_Kq cf) (md_gy (md_up g1 (9 * md_ct e (md_Em m) + 8) 100)) (md_Em m) (md_Vk kd) := by
              intro e' v' he' hv' hE' hV'
              have hcv := md_ct_le (md_Vk kd) v'
              have hce' := md_ct_le (md_Em m) e'
              show md_q (md_up g1 (9 * md_ct e (md_Em m) + 8) 100 (9 * md_ct e' (md_Em m) + md_ct v' (md_Vk kd))) = md_q (cf (e' * 8 + v'))
              rw [md_up_n (by omega), c2.1 e' v' he' hv' hE' hV' (Or.inl he')]
            refine ys_g59 (w := w) he _ _ _ _ _ _ _ kn _ a_kind a_value a_before a_constant a_latest a_there a_shown a_coefficient a_old ins mo me yE yV god f1 hth _ ⟨w + 1, ?_⟩ e 0 (by omega)
            refine ys_g87 (kd := kd) (E := md_Em m) hw (by omega)  _ _ _ _ _ _ kn _ a_kind a_value a_before a_constant a_latest a_there a_shown a_coefficient a_old ins mo me yE yV god f1 hky hk4 c1 _ (fun f2 g2 c3 c4 => ⟨?_, kd, cf, ol, co, gv, m, g2, ⟨hm8, rfl, hkx, hky, hk4, hcx, hcy, hc1, hox, hoy, ho1, hnx, hny, hn1, hgx, hg1, hth, hv2, hv3, hsh⟩, c3, fun _ => hXL2, fun _ => hYA2⟩) (fun g2 k2 c4 c5 c6 => md_YE_no rfl hct hpk c5 c4 c6 hns) w 0 (by omega)
            congr 1
            refine md_q_inj (c4.1 _) (md_md_lt _) ?_
            rw [md_neg_md (md_neg_ti2 (by omega))]
            refine md_val_gen (rs := fun f => if f = e then 1 else 0) (rv := fun _ => 0) (fun j hj => md_Vk_8 hj) x3 x4 x5 hpk rfl hct c4 (fun e' he' hE' => ?_) hw hV ?_
            · by_cases h : e' = e
              · rw [h, md_up_s, if_pos rfl]; decide
              · have hne : md_ct e' (md_Em m) ≠ md_ct e (md_Em m) := fun hh => h (md_rk_inj _ hE' hE hh)
                rw [md_up_n (by omega), c2.2 e' he' hE' he', if_neg h]
                show md_q 0 = -md_q 0
                decide
            · rw [md_sm_one (k := e) he (fun i hi hne => ?_)]
              · rw [if_pos hE, if_pos rfl, md_q_1]; exact (md_rd1 _).symm
              · by_cases hEi : md_Em m i = true
                · rw [if_pos hEi, if_neg hne, md_q_0]; exact md_r6 _
                · rw [if_neg hEi]
          · have := (nI_eq (by omega) (by omega)).mp h1
            rw [this, hV'] at hV
            simp at hV
      · have := (nI_eq (by omega) (by omega)).mp h2
        rw [this, hE'] at hE
        simp at hE
  · apply Classical.byContradiction
    intro hh
    exact hf ((md_FS_m1 hb).mpr hh)
