theorem ys_bal {A : Nat → Nat → Bool} {E V : Nat → Bool} {P Q : Prop} (f_equations f_variables f_greatest f_known f_blocks : Int32) (a_kind a_value a_before a_constant a_latest a_there a_shown a_coefficient a_old a_inside a_most a_more a_blockEquations a_blockVariables a_goodPairs a_matrix : Nat → Int32) (h1 : md_balb A E V = true → Q) (h0 : md_balb A E V = false → P) : wpY_balanced (fun r => (r = 0 → P) ∧ (¬ r = 0 → Q)) (f_equations, f_variables, f_greatest, (nI (md_mk 8 (md_exc A E V))), (nI (md_mk 8 (md_loe A E V))), (nI (md_mk 8 (md_exv A E V))), (nI (md_mk 8 (md_loo A E V))), f_known, f_blocks, a_kind, a_value, a_before, a_constant, a_latest, a_there, a_shown, a_coefficient, a_old, a_inside, a_most, a_more, a_blockEquations, a_blockVariables, a_goodPairs, a_matrix) := by
  unfold wpY_balanced
  cases hb : md_balb A E V with
  | true =>
    have hbal := md_balb_iff.mp hb
    have e1 : ∀ i, i < 8 → md_exv A E V i = false := fun i _ => by
      unfold md_exv
      rw [← Bool.not_eq_true, md_an_iff]
      rintro ⟨e, he, hh⟩
      rw [Bool.and_eq_true, hbal.1 e he] at hh
      simp at hh
    have e2 : ∀ i, i < 8 → md_loe A E V i = false := fun i _ => by
      unfold md_loe
      rw [← Bool.not_eq_true, md_an_iff]
      rintro ⟨v, hv, hh⟩
      rw [Bool.and_eq_true, hbal.2 v hv] at hh
      simp at hh
    exact br_t (ni_z.mpr hbal.1) (br_t (ni_z.mpr e2) (br_t (ni_z.mpr hbal.2) (br_t (ni_z.mpr e1) (br_f (by decide) (h1 hb)))))
  | false =>
    have hp : (0 : Int32) = 0 → P := fun _ => h0 hb
    refine br_c (fun z1 => br_c (fun _ => br_c (fun z2 => ?_) (fun _ => br_t rfl (h0 hb))) (fun _ => br_t rfl (h0 hb))) (fun _ => br_t rfl (h0 hb))
    have : md_balb A E V = true := md_balb_iff.mpr ⟨ni_z.mp z1, ni_z.mp z2⟩
    rw [hb] at this
    simp at this
theorem md_fl_pk {cf rv : Nat → Nat} {es vs : Nat → Bool} {g : Nat → Nat} (h : md_fl cf rv es vs 8 0 g) : md_pk (md_Kq cf) (md_gy g) es vs := by
  intro e v he hv hes hvs
  show md_q (g (9 * md_ct e es + md_ct v vs)) = md_q (cf (e * 8 + v))
  rw [h.1 e v he hv hes hvs (Or.inl he)]
theorem ys_fs11 {cf : Nat → Nat} {A : Nat → Nat → Bool} {E V : Nat → Bool} (hA : md_in A E V) (hb : md_balb A E V = true) (f_equations f_variables f_greatest f_excess f_loose f_excessOnes f_looseOnes f_known : Int32) (a_kind a_value a_before a_constant a_latest a_there a_shown a_coefficient a_old a_inside a_most a_more a_blockEquations a_blockVariables a_goodPairs : Nat → Int32) (hc : ∀ j, a_coefficient j = nI (cf j)) (hc1 : ∀ j, cf j < 101) (hB : md_bx2 A E V (md_Q A E V) a_blockEquations a_blockVariables) (post : Int32 → SY → Prop) (h : ∀ f g, md_mN g f → post (md_FS (md_Kq cf) A E V) (f_equations, f_variables, f_greatest, f_excess, f_loose, f_excessOnes, f_looseOnes, f_known, (nI (md_Q A E V)), a_kind, a_value, a_before, a_constant, a_latest, a_there, a_shown, a_coefficient, a_old, a_inside, a_most, a_more, a_blockEquations, a_blockVariables, a_goodPairs, f)) : ∀ d b f g, b + d = md_Q A E V → md_mN g f → (∀ j, j < b → md_ns (md_Kq cf) (md_B A E V j) (md_gr (md_god A E V) (md_B A E V j))) → wY_firstSingular_11 post (d + 1) (nI b) f_equations f_variables f_greatest f_excess f_loose f_excessOnes f_looseOnes f_known (nI (md_Q A E V)) a_kind a_value a_before a_constant a_latest a_there a_shown a_coefficient a_old a_inside a_most a_more a_blockEquations a_blockVariables a_goodPairs f := by
  have hq := md_Q_le A E V
  intro d
  induction d with
  | zero =>
    intro b f g hbd hg hns
    have e1 : md_FS (md_Kq cf) A E V = -1 := by
      unfold md_FS
      rw [if_neg]
      intro hh
      exact md_fs_8 (fun j hj => hns j (by omega)) hh.2
    have h2 := h f g hg
    rw [e1] at h2
    exact br_t (nI_le (by omega) (by omega)) h2
  | succ d ih =>
    intro b f g hbd hg hns
    have hb8 : b < 8 := by omega
    have hbq : b < md_Q A E V := by omega
    obtain ⟨b1, b2⟩ := hB b hbq
    have hsq := md_B_sq hA (md_balb_iff.mp hb) hbq
    refine br_f (nI_ge (by omega) (by omega)) ⟨vp_in_nI hb8 (by decide), vp_in_nI hb8 (by decide), ?_⟩
    rw [nI_clamp (by omega), b1, b2]
    refine ys_fill (rv := fun _ => 0) (os := fun _ => 0) 0 f_equations f_variables f_greatest f_excess f_loose f_excessOnes f_looseOnes f_known _ a_kind a_value a_before a_constant a_latest a_there a_shown a_coefficient a_old a_inside a_most a_more a_blockEquations a_blockVariables a_goodPairs f hc hc1 hg (fun hn => absurd rfl hn) (fun _ _ => rfl) (fun hn => absurd rfl hn) _ (fun f1 g1 c1 c2 => ⟨vp_in_nI hb8 (by decide), ?_⟩)
    rw [b1]
    refine ys_size _ _ ?_
    refine ys_el (md_ct_le _ 8) f_equations f_variables f_greatest f_excess f_loose f_excessOnes f_looseOnes f_known _ a_kind a_value a_before a_constant a_latest a_there a_shown a_coefficient a_old a_inside a_most a_more a_blockEquations a_blockVariables a_goodPairs f1 c1 _ (fun f2 g2 c3 c4 => ?_) (fun f2 g2 k2 c3 c4 c5 c6 => ?_)
    · have hn := md_YE_ok rfl hsq (md_fl_pk c2) c4
      refine br_f (by decide) (nm_r (nI_1 b) (ih (b + 1) f2 g2 (by omega) c3 (fun j hj => ?_)))
      by_cases e : j = b
      · rw [e]; exact hn
      · exact hns j (by omega)
    · have hn := md_YE_no rfl hsq (md_fl_pk c2) c5 c4 c6
      have e0 := md_fs_at hbq hn hns
      have e1 : md_FS (md_Kq cf) A E V = nI b := by
        unfold md_FS
        rw [e0, if_pos ⟨hb, hb8⟩]
      have h2 := h f2 g2 c3
      rw [e1] at h2
      exact br_t rfl h2
theorem ys_fs {cf g0 : Nat → Nat} {A : Nat → Nat → Bool} {E V : Nat → Bool} (hA : md_in A E V) (f_equations f_variables f_greatest f_known : Int32) (a_kind a_value a_before a_constant a_latest a_there a_shown a_coefficient a_old a_inside a_most a_more a_blockEquations a_blockVariables a_goodPairs a_matrix : Nat → Int32) (hc : ∀ j, a_coefficient j = nI (cf j)) (hc1 : ∀ j, cf j < 101) (hg : md_mN g0 a_matrix) (hB : md_bx2 A E V (md_Q A E V) a_blockEquations a_blockVariables) (post : Int32 → SY → Prop) (h : ∀ f g, md_mN g f → post (md_FS (md_Kq cf) A E V) (f_equations, f_variables, f_greatest, (nI (md_mk 8 (md_exc A E V))), (nI (md_mk 8 (md_loe A E V))), (nI (md_mk 8 (md_exv A E V))), (nI (md_mk 8 (md_loo A E V))), f_known, (nI (md_Q A E V)), a_kind, a_value, a_before, a_constant, a_latest, a_there, a_shown, a_coefficient, a_old, a_inside, a_most, a_more, a_blockEquations, a_blockVariables, a_goodPairs, f)) : wpY_firstSingular post (f_equations, f_variables, f_greatest, (nI (md_mk 8 (md_exc A E V))), (nI (md_mk 8 (md_loe A E V))), (nI (md_mk 8 (md_exv A E V))), (nI (md_mk 8 (md_loo A E V))), f_known, (nI (md_Q A E V)), a_kind, a_value, a_before, a_constant, a_latest, a_there, a_shown, a_coefficient, a_old, a_inside, a_most, a_more, a_blockEquations, a_blockVariables, a_goodPairs, a_matrix) := by
  unfold wpY_firstSingular
  refine ys_bal f_equations f_variables f_greatest     f_known _ a_kind a_value a_before a_constant a_latest a_there a_shown a_coefficient a_old a_inside a_most a_more a_blockEquations a_blockVariables a_goodPairs a_matrix (fun hb => ⟨md_Q A E V + 1, ?_⟩) (fun hb => ?_)
  · exact ys_fs11 hA hb f_equations f_variables f_greatest _ _ _ _ f_known  a_kind a_value a_before a_constant a_latest a_there a_shown a_coefficient a_old a_inside a_most a_more a_blockEquations a_blockVariables a_goodPairs  hc hc1 hB post h (md_Q A E V) 0 a_matrix g0 (by omega) hg (fun j hj => by omega)
  · have h2 := h a_matrix g0 hg
    have e1 : md_FS (md_Kq cf) A E V = -1 := by
      unfold md_FS
      rw [if_neg]
      intro hh
      rw [hb] at hh
      simp at hh
    rw [e1] at h2
    exact h2
def md_ov (kd cf ol gv : Nat → Nat) (e : Nat) : Nat → Nat := fun v => (if kd v = 2 then cf (e * 8 + v) * gv v else 0) + (if kd v = 3 then ol (e * 8 + v) * gv v else 0)
theorem ys_oth_l {kd cf ol gv : Nat → Nat} {c0 e : Nat} (he : e < 8) (f_equations f_variables f_greatest f_excess f_loose f_excessOnes f_looseOnes f_known f_blocks : Int32) (a_kind a_value a_before a_constant a_latest a_there a_shown a_coefficient a_old a_inside a_most a_more a_blockEquations a_blockVariables a_goodPairs a_matrix : Nat → Int32) (hk : ∀ j, a_kind j = nI (kd j)) (hk4 : ∀ j, kd j < 4) (hc : ∀ j, a_coefficient j = nI (cf j)) (ho : ∀ j, a_old j = nI (ol j)) (hv2 : ∀ v, v < 8 → kd v = 2 → a_value v = nI (gv v)) (hv3 : ∀ v, v < 8 → kd v = 3 → a_before v = nI (gv v)) (post : Int32 → Prop) (h : post (nI (c0 + md_sn 8 (md_ov kd cf ol gv e)))) : ∀ d i, i + d = 8 → wY_others_9 post (nI e) f_equations f_variables f_greatest f_excess f_loose f_excessOnes f_looseOnes f_known f_blocks a_kind a_value a_before a_constant a_latest a_there a_shown a_coefficient a_old a_inside a_most a_more a_blockEquations a_blockVariables a_goodPairs a_matrix (d + 1) (nI (c0 + md_sn i (md_ov kd cf ol gv e))) (nI i) := by
  intro d
  induction d with
  | zero =>
    intro i hi
    rw [show i = 8 by omega]
    exact br_t (nI_le (a := 8) (b := 8) (by omega) (by decide)) h
  | succ d ih =>
    intro i hi
    have hi8 : i < 8 := by omega
    have hin : vp_in (nI i) 8 := vp_in_nI hi8 (by decide)
    have hkk := hk4 i
    have e1 : a_kind (nI i).toNatClampNeg = nI (kd i) := by rw [nI_clamp (by omega), hk]
    have h46 : ∀ N, N = c0 + md_sn i (md_ov kd cf ol gv e) + (if kd i = 2 then cf (e * 8 + i) * gv i else 0) → wY_others_46 post (wY_others_9 post (nI e) f_equations f_variables f_greatest f_excess f_loose f_excessOnes f_looseOnes f_known f_blocks a_kind a_value a_before a_constant a_latest a_there a_shown a_coefficient a_old a_inside a_most a_more a_blockEquations a_blockVariables a_goodPairs a_matrix (d + 1)) (nI e) (nI N) (nI i) f_equations f_variables f_greatest f_excess f_loose f_excessOnes f_looseOnes f_known f_blocks a_kind a_value a_before a_constant a_latest a_there a_shown a_coefficient a_old a_inside a_most a_more a_blockEquations a_blockVariables a_goodPairs a_matrix := by
      intro N hN
      have hstep : N + (if kd i = 3 then ol (e * 8 + i) * gv i else 0) = c0 + md_sn (i + 1) (md_ov kd cf ol gv e) := by
        show _ = c0 + (md_sn i (md_ov kd cf ol gv e) + ((if kd i = 2 then cf (e * 8 + i) * gv i else 0) + (if kd i = 3 then ol (e * 8 + i) * gv i else 0)))
        omega
      refine And.intro hin ?_
      rw [e1]
      by_cases c3 : kd i = 3
      · refine br_t (by rw [c3]; rfl) ?_
        rw [md_ix8']
        refine ⟨vp_in_nI (by omega) (by decide), hin, ?_⟩
        rw [nI_clamp (n := e * 8 + i) (by omega), nI_clamp (n := i) (by omega), ho, hv3 i hi8 c3, pk_mul, nI_add]
        rw [if_pos c3] at hstep
        rw [hstep]
        exact nm_e (nm_r (nI_1 i) (ih (i + 1) (by omega)))
      · refine br_f (fun hh => c3 ((nI_eq (by omega) (by decide)).mp (hh : nI (kd i) = nI 3))) (nm_r (nI_1 i) ?_)
        rw [if_neg c3, Nat.add_zero] at hstep
        rw [hstep]
        exact ih (i + 1) (by omega)
    refine br_f (nI_ge (b := 8) hi8 (by decide)) ⟨hin, ?_⟩
    rw [e1]
    by_cases c2 : kd i = 2
    · refine br_t (by rw [c2]; rfl) ?_
      rw [md_ix8']
      refine ⟨vp_in_nI (by omega) (by decide), hin, ?_⟩
      rw [nI_clamp (n := e * 8 + i) (by omega), nI_clamp (n := i) (by omega), hc, hv2 i hi8 c2, pk_mul, nI_add]
      exact nm_e (h46 _ (by rw [if_pos c2]))
    · refine br_f (fun hh => c2 ((nI_eq (by omega) (by decide)).mp (hh : nI (kd i) = nI 2))) ?_
      exact h46 _ (by rw [if_neg c2]; rfl)
theorem ys_oth {kd cf ol co gv : Nat → Nat} {e : Nat} (he : e < 8) (f_equations f_variables f_greatest f_excess f_loose f_excessOnes f_looseOnes f_known f_blocks : Int32) (a_kind a_value a_before a_constant a_latest a_there a_shown a_coefficient a_old a_inside a_most a_more a_blockEquations a_blockVariables a_goodPairs a_matrix : Nat → Int32) (hk : ∀ j, a_kind j = nI (kd j)) (hk4 : ∀ j, kd j < 4) (hc : ∀ j, a_coefficient j = nI (cf j)) (ho : ∀ j, a_old j = nI (ol j)) (hco : ∀ j, a_constant j = nI (co j)) (hv2 : ∀ v, v < 8 → kd v = 2 → a_value v = nI (gv v)) (hv3 : ∀ v, v < 8 → kd v = 3 → a_before v = nI (gv v)) (post : Int32 → Prop) (h : post (nI (md_os kd cf ol co gv e))) : wpY_others post (f_equations, f_variables, f_greatest, f_excess, f_loose, f_excessOnes, f_looseOnes, f_known, f_blocks, a_kind, a_value, a_before, a_constant, a_latest, a_there, a_shown, a_coefficient, a_old, a_inside, a_most, a_more, a_blockEquations, a_blockVariables, a_goodPairs, a_matrix) (nI e) := by
  unfold wpY_others
  refine ⟨vp_in_nI he (by decide), ?_⟩
  rw [nI_clamp (by omega), hco]
  exact nm_e ⟨9, ys_oth_l (c0 := co e) he f_equations f_variables f_greatest f_excess f_loose f_excessOnes f_looseOnes f_known f_blocks a_kind a_value a_before a_constant a_latest a_there a_shown a_coefficient a_old a_inside a_most a_more a_blockEquations a_blockVariables a_goodPairs a_matrix hk hk4 hc ho hv2 hv3 post h 8 0 rfl⟩
theorem xs_rest_l {kd cf ol gv : Nat → Nat} {c0 e : Nat} (he : e < 8) (f_equationsThere f_stale f_unknowns f_pairs f_excessEquations f_excessVariables f_looseEquations f_looseVariables f_blockCount f_firstSingular : Int32) (a_kinds a_given a_found a_constants a_coefficients a_oldCoefficients a_reach a_goodReach a_blockEquations a_blockVariables a_grid a_solvedBy a_rests : Nat → Int32) (hk : ∀ j, a_kinds j = nI (kd j)) (hk4 : ∀ j, kd j < 4) (hc : ∀ j, a_coefficients j = nI (cf j)) (ho : ∀ j, a_oldCoefficients j = nI (ol j)) (hv : ∀ v, a_given v = nI (gv v)) (post : Int32 → Prop) (h : post (nI (md_md (nI (c0 + md_sn 8 (md_ov kd cf ol gv e)))))) : ∀ d i, i + d = 8 → wX_restOf_9 post (nI e) f_equationsThere f_stale f_unknowns f_pairs f_excessEquations f_excessVariables f_looseEquations f_looseVariables f_blockCount f_firstSingular a_kinds a_given a_found a_constants a_coefficients a_oldCoefficients a_reach a_goodReach a_blockEquations a_blockVariables a_grid a_solvedBy a_rests (d + 1) (nI (c0 + md_sn i (md_ov kd cf ol gv e))) (nI i) := by
  intro d
  induction d with
  | zero =>
    intro i hi
    rw [show i = 8 by omega]
    exact br_t (nI_le (a := 8) (b := 8) (by omega) (by decide)) (xs_modulo _ _ h)
  | succ d ih =>
    intro i hi
    have hi8 : i < 8 := by omega
    have hin : vp_in (nI i) 8 := vp_in_nI hi8 (by decide)
    have hkk := hk4 i
    have e1 : a_kinds (nI i).toNatClampNeg = nI (kd i) := by rw [nI_clamp (by omega), hk]
    have h46 : ∀ N, N = c0 + md_sn i (md_ov kd cf ol gv e) + (if kd i = 2 then cf (e * 8 + i) * gv i else 0) → wX_restOf_46 post (wX_restOf_9 post (nI e) f_equationsThere f_stale f_unknowns f_pairs f_excessEquations f_excessVariables f_looseEquations f_looseVariables f_blockCount f_firstSingular a_kinds a_given a_found a_constants a_coefficients a_oldCoefficients a_reach a_goodReach a_blockEquations a_blockVariables a_grid a_solvedBy a_rests (d + 1)) (nI e) (nI N) (nI i) f_equationsThere f_stale f_unknowns f_pairs f_excessEquations f_excessVariables f_looseEquations f_looseVariables f_blockCount f_firstSingular a_kinds a_given a_found a_constants a_coefficients a_oldCoefficients a_reach a_goodReach a_blockEquations a_blockVariables a_grid a_solvedBy a_rests := by
      intro N hN
      have hstep : N + (if kd i = 3 then ol (e * 8 + i) * gv i else 0) = c0 + md_sn (i + 1) (md_ov kd cf ol gv e) := by
        show _ = c0 + (md_sn i (md_ov kd cf ol gv e) + ((if kd i = 2 then cf (e * 8 + i) * gv i else 0) + (if kd i = 3 then ol (e * 8 + i) * gv i else 0)))
        omega
      refine And.intro hin ?_
      rw [e1]
      by_cases c3 : kd i = 3
      · refine br_t (by rw [c3]; rfl) ?_
        rw [md_ix8]
        refine ⟨vp_in_nI (by omega) (by decide), hin, ?_⟩
        rw [nI_clamp (n := e * 8 + i) (by omega), nI_clamp (n := i) (by omega), ho, hv, pk_mul, nI_add]
        rw [if_pos c3] at hstep
        rw [hstep]
        exact nm_e (nm_r (nI_1 i) (ih (i + 1) (by omega)))
      · refine br_f (fun hh => c3 ((nI_eq (by omega) (by decide)).mp (hh : nI (kd i) = nI 3))) (nm_r (nI_1 i) ?_)
        rw [if_neg c3, Nat.add_zero] at hstep
        rw [hstep]
        exact ih (i + 1) (by omega)
    refine br_f (nI_ge (b := 8) hi8 (by decide)) ⟨hin, ?_⟩
    rw [e1]
    by_cases c2 : kd i = 2
    · refine br_t (by rw [c2]; rfl) ?_
      rw [md_ix8]
      refine ⟨vp_in_nI (by omega) (by decide), hin, ?_⟩
      rw [nI_clamp (n := e * 8 + i) (by omega), nI_clamp (n := i) (by omega), hc, hv, pk_mul, nI_add]
      exact nm_e (h46 _ (by rw [if_pos c2]))
    · refine br_f (fun hh => c2 ((nI_eq (by omega) (by decide)).mp (hh : nI (kd i) = nI 2))) ?_
      exact h46 _ (by rw [if_neg c2]; rfl)
theorem xs_rest {kd cf ol co gv : Nat → Nat} {e : Nat} (he : e < 8) (f_equationsThere f_stale f_unknowns f_pairs f_excessEquations f_excessVariables f_looseEquations f_looseVariables f_blockCount f_firstSingular : Int32) (a_kinds a_given a_found a_constants a_coefficients a_oldCoefficients a_reach a_goodReach a_blockEquations a_blockVariables a_grid a_solvedBy a_rests : Nat → Int32) (hk : ∀ j, a_kinds j = nI (kd j)) (hk4 : ∀ j, kd j < 4) (hc : ∀ j, a_coefficients j = nI (cf j)) (ho : ∀ j, a_oldCoefficients j = nI (ol j)) (hco : ∀ j, a_constants j = nI (co j)) (hv : ∀ v, a_given v = nI (gv v)) (post : Int32 → Prop) (h : post (nI (md_md (nI (md_os kd cf ol co gv e))))) : wpX_restOf post (f_equationsThere, f_stale, f_unknowns, f_pairs, f_excessEquations, f_excessVariables, f_looseEquations, f_looseVariables, f_blockCount, f_firstSingular, a_kinds, a_given, a_found, a_constants, a_coefficients, a_oldCoefficients, a_reach, a_goodReach, a_blockEquations, a_blockVariables, a_grid, a_solvedBy, a_rests) (nI e) := by
  unfold wpX_restOf
  refine ⟨vp_in_nI he (by decide), ?_⟩
  rw [nI_clamp (by omega), hco]
  exact nm_e ⟨9, xs_rest_l (c0 := co e) he f_equationsThere f_stale f_unknowns f_pairs f_excessEquations f_excessVariables f_looseEquations f_looseVariables f_blockCount f_firstSingular a_kinds a_given a_found a_constants a_coefficients a_oldCoefficients a_reach a_goodReach a_blockEquations a_blockVariables a_grid a_solvedBy a_rests hk hk4 hc ho hv post h 8 0 rfl⟩
def md_sf (E : Nat → Bool) (g : Nat → Nat) (r : Nat) (rs : Nat → Nat) : Nat → Nat := fun f => if E f = true then g (r * 16 + (8 + f)) * rs f else 0
theorem xs_sol_l {E : Nat → Bool} {g rs : Nat → Nat} {v r : Nat} (hv : v < 8) (hr : r < 8) (f_stale f_unknowns f_pairs f_excessEquations f_excessVariables f_looseEquations f_looseVariables f_blockCount f_firstSingular : Int32) (a_kinds a_given a_found a_constants a_coefficients a_oldCoefficients a_reach a_goodReach a_blockEquations a_blockVariables a_grid a_solvedBy a_rests : Nat → Int32) (hs : a_solvedBy v = nI r) (hg : md_gN g a_grid) (hrs : ∀ e, e < 8 → a_rests e = nI (rs e)) (post : Int32 → Prop) (h : post (nI (md_md (0 - nI (md_sn 8 (md_sf E g r rs)))))) : ∀ d i, i + d = 8 → wX_solutionFor_4 post (nI v) (nI (md_mk 8 E)) f_stale f_unknowns f_pairs f_excessEquations f_excessVariables f_looseEquations f_looseVariables f_blockCount f_firstSingular a_kinds a_given a_found a_constants a_coefficients a_oldCoefficients a_reach a_goodReach a_blockEquations a_blockVariables a_grid a_solvedBy a_rests (d + 1) (0 - nI (md_sn i (md_sf E g r rs))) (nI i) := by
  intro d
  induction d with
  | zero =>
    intro i hi
    rw [show i = 8 by omega]
    exact br_t (nI_le (a := 8) (b := 8) (by omega) (by decide)) (xs_modulo _ _ h)
  | succ d ih =>
    intro i hi
    have hi8 : i < 8 := by omega
    have hs1 : md_sn (i + 1) (md_sf E g r rs) = md_sn i (md_sf E g r rs) + (if E i = true then g (r * 16 + (8 + i)) * rs i else 0) := rfl
    refine br_f (nI_ge (b := 8) hi8 (by decide)) (xs_has E hi8 (fun hE => ?_) (fun hE => nm_r (nI_1 i) ?_))
    · refine ⟨vp_in_nI hv (by decide), ?_⟩
      rw [nI_clamp (n := v) (by omega), hs, md_ix168]
      refine ⟨vp_in_nI (by omega) (by decide), vp_in_nI hi8 (by decide), ?_⟩
      rw [nI_clamp (n := r * 16 + (8 + i)) (by omega), nI_clamp (n := i) (by omega), (hg _ (by omega)).1, hrs i hi8, pk_mul, md_sub_acc]
      rw [if_pos hE] at hs1
      rw [← hs1]
      exact nm_e (nm_r (nI_1 i) (ih (i + 1) (by omega)))
    · have hs2 : md_sn (i + 1) (md_sf E g r rs) = md_sn i (md_sf E g r rs) := by
        rw [hs1, if_neg (by rw [hE]; simp)]; rfl
      rw [← hs2]
      exact ih (i + 1) (by omega)
theorem xs_sol {E : Nat → Bool} {g rs : Nat → Nat} {v r : Nat} (hv : v < 8) (hr : r < 8) (f_stale f_unknowns f_pairs f_excessEquations f_excessVariables f_looseEquations f_looseVariables f_blockCount f_firstSingular : Int32) (a_kinds a_given a_found a_constants a_coefficients a_oldCoefficients a_reach a_goodReach a_blockEquations a_blockVariables a_grid a_solvedBy a_rests : Nat → Int32) (hs : a_solvedBy v = nI r) (hg : md_gN g a_grid) (hrs : ∀ e, e < 8 → a_rests e = nI (rs e)) (post : Int32 → Prop) (h : post (nI (md_md (0 - nI (md_sn 8 (md_sf E g r rs)))))) : wpX_solutionFor post ((nI (md_mk 8 E)), f_stale, f_unknowns, f_pairs, f_excessEquations, f_excessVariables, f_looseEquations, f_looseVariables, f_blockCount, f_firstSingular, a_kinds, a_given, a_found, a_constants, a_coefficients, a_oldCoefficients, a_reach, a_goodReach, a_blockEquations, a_blockVariables, a_grid, a_solvedBy, a_rests) (nI v) := by
  unfold wpX_solutionFor
  have h1 := xs_sol_l hv hr  f_stale f_unknowns f_pairs f_excessEquations f_excessVariables f_looseEquations f_looseVariables f_blockCount f_firstSingular a_kinds a_given a_found a_constants a_coefficients a_oldCoefficients a_reach a_goodReach a_blockEquations a_blockVariables a_grid a_solvedBy a_rests hs hg hrs post h 8 0 rfl
  have e0 : (0 : Int32) - nI (md_sn 0 (md_sf E g r rs)) = 0 := by
    show (0 : Int32) - nI 0 = 0
    decide
  rw [e0] at h1
  exact ⟨9, h1⟩
def md_so (kd : Nat → Nat) (sv : Nat → Nat) (i : Nat) (gi fo gi' fo' : Nat → Int32) : Prop := (∀ v, v < 8 → (v < i → md_Vk kd v = true → fo' v = nI (sv v)) ∧ (v < i → kd v = 3 → gi' v = nI (sv v)) ∧ (i ≤ v ∨ md_Vk kd v = false → fo' v = fo v)) ∧ ∀ v, (i ≤ v ∨ kd v ≠ 3) → gi' v = gi v
theorem xs_so27 {kd g rs ro : Nat → Nat} {E : Nat → Bool} (f_stale f_pairs f_excessEquations f_excessVariables f_looseEquations f_looseVariables f_blockCount f_firstSingular : Int32) (a_kinds a_constants a_coefficients a_oldCoefficients a_reach a_goodReach a_blockEquations a_blockVariables a_grid a_solvedBy a_rests : Nat → Int32) (gi fo : Nat → Int32) (hk : ∀ j, a_kinds j = nI (kd j)) (hk4 : ∀ j, kd j < 4) (hro : ∀ v, v < 8 → md_Vk kd v = true → ro v < 8 ∧ a_solvedBy v = nI (ro v)) (hg : md_gN g a_grid) (hrs : ∀ e, e < 8 → a_rests e = nI (rs e)) (post : SX → Prop) (h : ∀ gi' fo', md_so kd (fun v => md_md (0 - nI (md_sn 8 (md_sf E g (ro v) rs)))) 8 gi fo gi' fo' → post ((nI (md_mk 8 E)), f_stale, (nI (md_mk 8 (md_Vk kd))), f_pairs, f_excessEquations, f_excessVariables, f_looseEquations, f_looseVariables, f_blockCount, f_firstSingular, a_kinds, gi', fo', a_constants, a_coefficients, a_oldCoefficients, a_reach, a_goodReach, a_blockEquations, a_blockVariables, a_grid, a_solvedBy, a_rests)) : ∀ d i gi' fo', i + d = 8 → md_so kd (fun v => md_md (0 - nI (md_sn 8 (md_sf E g (ro v) rs)))) i gi fo gi' fo' → wX_solveOnce_27 post (nI (md_mk 8 E)) f_stale (nI (md_mk 8 (md_Vk kd))) f_pairs f_excessEquations f_excessVariables f_looseEquations f_looseVariables f_blockCount f_firstSingular (d + 1) (nI i) a_kinds gi' fo' a_constants a_coefficients a_oldCoefficients a_reach a_goodReach a_blockEquations a_blockVariables a_grid a_solvedBy a_rests := by
  intro d
  induction d with
  | zero =>
    intro i gi' fo' hi hs
    rw [show i = 8 by omega] at hs ⊢
    exact br_t (nI_le (a := 8) (b := 8) (by omega) (by decide)) (h gi' fo' hs)
  | succ d ih =>
    intro i gi' fo' hi hs
    have hi8 : i < 8 := by omega
    have hkk := hk4 i
    have hin : vp_in (nI i) 8 := vp_in_nI hi8 (by decide)
    have h55 : ∀ fo2, (md_Vk kd i = true → fo2 i = nI (md_md (0 - nI (md_sn 8 (md_sf E g (ro i) rs))))) → (md_Vk kd i = false → fo2 i = fo' i) → (∀ v, v ≠ i → fo2 v = fo' v) → wX_solveOnce_55 post (wX_solveOnce_27 post (nI (md_mk 8 E)) f_stale (nI (md_mk 8 (md_Vk kd))) f_pairs f_excessEquations f_excessVariables f_looseEquations f_looseVariables f_blockCount f_firstSingular (d + 1)) (nI i) (nI (md_mk 8 E)) f_stale (nI (md_mk 8 (md_Vk kd))) f_pairs f_excessEquations f_excessVariables f_looseEquations f_looseVariables f_blockCount f_firstSingular a_kinds gi' fo2 a_constants a_coefficients a_oldCoefficients a_reach a_goodReach a_blockEquations a_blockVariables a_grid a_solvedBy a_rests := by
      intro fo2 f1 f2 f3
      have hfo : ∀ v, v < 8 → (v < i + 1 → md_Vk kd v = true → fo2 v = nI (md_md (0 - nI (md_sn 8 (md_sf E g (ro v) rs))))) ∧ (i + 1 ≤ v ∨ md_Vk kd v = false → fo2 v = fo v) := by
        intro v hv
        obtain ⟨s1, _, s3⟩ := hs.1 v hv
        by_cases e : v = i
        · refine ⟨fun _ hV => by rw [e] at hV ⊢; exact f1 hV, fun hh => ?_⟩
          have hV : md_Vk kd v = false := by
            rcases hh with hh | hh
            · omega
            · exact hh
          rw [e] at hV
          rw [e, f2 hV]
          have := s3 (Or.inl (by omega))
          rw [e] at this
          exact this
        · refine ⟨fun hlt hV => by rw [f3 v e]; exact s1 (by omega) hV, fun hh => ?_⟩
          rw [f3 v e]
          exact s3 (hh.imp (fun h => by omega) (fun h => h))
      refine And.intro hin ?_
      rw [nI_clamp (by omega), hk]
      by_cases c3 : kd i = 3
      · refine br_t (by rw [c3]; rfl) ⟨hin, hin, nm_e (nm_r (nI_1 i) (ih (i + 1) _ fo2 (by omega) ⟨fun v hv => ⟨(hfo v hv).1, fun hlt h3 => ?_, (hfo v hv).2⟩, fun v hv => ?_⟩))⟩
        · by_cases e : v = i
          · rw [e, pk_us]
            exact f1 (by unfold md_Vk; simp [hi8, c3])
          · rw [pk_un e]
            exact (hs.1 v hv).2.1 (by omega) h3
        · by_cases e : v = i
          · rw [e] at hv; omega
          · rw [pk_un e]
            exact hs.2 v (by omega)
      · refine br_f (fun hh => c3 ((nI_eq (by omega) (by decide)).mp (hh : nI (kd i) = nI 3))) (nm_r (nI_1 i) (ih (i + 1) gi' fo2 (by omega) ⟨fun v hv => ⟨(hfo v hv).1, fun hlt h3 => ?_, (hfo v hv).2⟩, fun v hv => ?_⟩))
        · by_cases e : v = i
          · rw [e] at h3; omega
          · exact (hs.1 v hv).2.1 (by omega) h3
        · by_cases e : v = i
          · rw [e]; exact hs.2 i (Or.inl (Nat.le_refl i))
          · exact hs.2 v (by omega)
    refine br_f (nI_ge (b := 8) hi8 (by decide)) (xs_has (md_Vk kd) hi8 (fun hV => ?_) (fun hV => ?_))
    · obtain ⟨r1, r2⟩ := hro i hi8 hV
      refine xs_sol hi8 r1  f_stale _ f_pairs f_excessEquations f_excessVariables f_looseEquations f_looseVariables f_blockCount f_firstSingular a_kinds gi' fo' a_constants a_coefficients a_oldCoefficients a_reach a_goodReach a_blockEquations a_blockVariables a_grid a_solvedBy a_rests r2 hg hrs _ ⟨hin, nm_e ?_⟩
      rw [nI_clamp (by omega)]
      refine h55 _ (fun _ => pk_us) (fun hn => by rw [hV] at hn; simp at hn) (fun v hv => pk_un hv)
    · exact h55 fo' (fun hn => by rw [hV] at hn; simp at hn) (fun _ => rfl) (fun _ _ => rfl)
theorem xs_so {kd cf ol co gv g ro : Nat → Nat} {E : Nat → Bool} (f_stale f_pairs f_excessEquations f_excessVariables f_looseEquations f_looseVariables f_blockCount f_firstSingular : Int32) (a_kinds a_given a_found a_constants a_coefficients a_oldCoefficients a_reach a_goodReach a_blockEquations a_blockVariables a_grid a_solvedBy a_rests : Nat → Int32) (hk : ∀ j, a_kinds j = nI (kd j)) (hk4 : ∀ j, kd j < 4) (hc : ∀ j, a_coefficients j = nI (cf j)) (ho : ∀ j, a_oldCoefficients j = nI (ol j)) (hco : ∀ j, a_constants j = nI (co j)) (hv : ∀ v, a_given v = nI (gv v)) (hro : ∀ v, v < 8 → md_Vk kd v = true → ro v < 8 ∧ a_solvedBy v = nI (ro v)) (hg : md_gN g a_grid) (post : SX → Prop) (h : ∀ gi' fo' re, md_so kd (fun v => md_md (0 - nI (md_sn 8 (md_sf E g (ro v) (fun e => md_md (nI (md_os kd cf ol co gv e))))))) 8 a_given a_found gi' fo' → post ((nI (md_mk 8 E)), f_stale, (nI (md_mk 8 (md_Vk kd))), f_pairs, f_excessEquations, f_excessVariables, f_looseEquations, f_looseVariables, f_blockCount, f_firstSingular, a_kinds, gi', fo', a_constants, a_coefficients, a_oldCoefficients, a_reach, a_goodReach, a_blockEquations, a_blockVariables, a_grid, a_solvedBy, re)) : wpX_solveOnce post ((nI (md_mk 8 E)), f_stale, (nI (md_mk 8 (md_Vk kd))), f_pairs, f_excessEquations, f_excessVariables, f_looseEquations, f_looseVariables, f_blockCount, f_firstSingular, a_kinds, a_given, a_found, a_constants, a_coefficients, a_oldCoefficients, a_reach, a_goodReach, a_blockEquations, a_blockVariables, a_grid, a_solvedBy, a_rests) := by
  unfold wpX_solveOnce
  refine ⟨9, ?_⟩
  have key : ∀ d i re, i + d = 8 → (∀ e, e < i → re e = nI (md_md (nI (md_os kd cf ol co gv e)))) → wX_solveOnce_2 post (nI (md_mk 8 E)) f_stale (nI (md_mk 8 (md_Vk kd))) f_pairs f_excessEquations f_excessVariables f_looseEquations f_looseVariables f_blockCount f_firstSingular (d + 1) (nI i) a_kinds a_given a_found a_constants a_coefficients a_oldCoefficients a_reach a_goodReach a_blockEquations a_blockVariables a_grid a_solvedBy re := by
    intro d
    induction d with
    | zero =>
      intro i re hi hre
      rw [show i = 8 by omega] at hre ⊢
      refine br_t (nI_le (a := 8) (b := 8) (by omega) (by decide)) ⟨9, ?_⟩
      exact xs_so27  f_stale  f_pairs f_excessEquations f_excessVariables f_looseEquations f_looseVariables f_blockCount f_firstSingular a_kinds   a_constants a_coefficients a_oldCoefficients a_reach a_goodReach a_blockEquations a_blockVariables a_grid a_solvedBy re a_given a_found hk hk4 hro hg hre post (fun gi' fo' hs => h gi' fo' re hs) 8 0 a_given a_found rfl ⟨fun v _ => ⟨fun hlt => by omega, fun hlt => by omega, fun _ => rfl⟩, fun v _ => rfl⟩
    | succ d ih =>
      intro i re hi hre
      have hi8 : i < 8 := by omega
      refine br_f (nI_ge (b := 8) hi8 (by decide)) ?_
      refine xs_rest hi8 _ f_stale _ f_pairs f_excessEquations f_excessVariables f_looseEquations f_looseVariables f_blockCount f_firstSingular a_kinds a_given a_found a_constants a_coefficients a_oldCoefficients a_reach a_goodReach a_blockEquations a_blockVariables a_grid a_solvedBy re hk hk4 hc ho hco hv _ ⟨vp_in_nI hi8 (by decide), nm_e (nm_r (nI_1 i) (ih (i + 1) _ (by omega) (fun e he => ?_)))⟩
      rw [nI_clamp (by omega)]
      by_cases e1 : e = i
      · rw [e1, pk_us]
      · rw [pk_un e1]; exact hre e (by omega)
  exact key 8 0 a_rests rfl (fun e he => by omega)
