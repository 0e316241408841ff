theorem ys_open {kd : Nat → Nat} {P Q : Prop} {v : Nat} (hv : v < 8) (f_equations f_variables f_greatest f_excess f_loose f_excessOnes f_looseOnes f_known f_blocks : Int32) (a_kind a_value a_before a_constant a_latest a_there a_shown a_coefficient a_old a_inside a_most a_more a_blockEquations a_blockVariables a_goodPairs a_matrix : Nat → Int32) (hk : ∀ j, a_kind j = nI (kd j)) (hk4 : ∀ j, kd j < 4) (h1 : md_Vk kd v = true → Q) (h0 : md_Vk kd v = false → P) : wpY_isOpen (fun r => (r = 0 → P) ∧ (¬ r = 0 → Q)) (f_equations, f_variables, f_greatest, f_excess, f_loose, f_excessOnes, f_looseOnes, f_known, f_blocks, a_kind, a_value, a_before, a_constant, a_latest, a_there, a_shown, a_coefficient, a_old, a_inside, a_most, a_more, a_blockEquations, a_blockVariables, a_goodPairs, a_matrix) (nI v) := by
  unfold wpY_isOpen
  have e1 : a_kind (nI v).toNatClampNeg = nI (kd v) := by rw [nI_clamp (by omega), hk]
  have hin : vp_in (nI v) 8 := vp_in_nI hv (by decide)
  have hkk := hk4 v
  refine ys_in_t (a := 0) (b := 8) (Nat.zero_le _) hv (by decide) ⟨hin, ?_⟩
  rw [e1]
  by_cases c1 : kd v = 1
  · refine br_t (by rw [c1]; rfl) (br_f (by decide) (h1 ?_))
    unfold md_Vk; simp [hv, c1]
  · refine br_f (fun hh => c1 ((nI_eq (by omega) (by decide)).mp (hh : nI (kd v) = nI 1))) ⟨hin, ?_⟩
    by_cases c3 : kd v = 3
    · refine br_t (by rw [c3]; rfl) (br_f (by decide) (h1 ?_))
      unfold md_Vk; simp [hv, c3]
    · refine br_f (fun hh => c3 ((nI_eq (by omega) (by decide)).mp (hh : nI (kd v) = nI 3))) (br_t rfl (h0 ?_))
      unfold md_Vk; simp [c1, c3]
theorem ys_open_f {P Q : Prop} {x : Int32} (hx : x < 0 ∨ nI 8 ≤ x) (f_equations f_variables f_greatest f_excess f_loose f_excessOnes f_looseOnes f_known f_blocks : Int32) (a_kind a_value a_before a_constant a_latest a_there a_shown a_coefficient a_old a_inside a_most a_more a_blockEquations a_blockVariables a_goodPairs a_matrix : Nat → Int32) (h : P) : wpY_isOpen (fun r => (r = 0 → P) ∧ (¬ r = 0 → Q)) (f_equations, f_variables, f_greatest, f_excess, f_loose, f_excessOnes, f_looseOnes, f_known, f_blocks, a_kind, a_value, a_before, a_constant, a_latest, a_there, a_shown, a_coefficient, a_old, a_inside, a_most, a_more, a_blockEquations, a_blockVariables, a_goodPairs, a_matrix) x := by
  unfold wpY_isOpen
  exact ys_in_f hx (br_t rfl h)
theorem ys_there {m : Nat} {P Q : Prop} {e : Nat} (he : e < 8) (f_equations f_variables f_greatest f_excess f_loose f_excessOnes f_looseOnes f_known f_blocks : Int32) (a_kind a_value a_before a_constant a_latest a_there a_shown a_coefficient a_old a_inside a_most a_more a_blockEquations a_blockVariables a_goodPairs a_matrix : Nat → Int32) (ht : ∀ j, j < 8 → a_there j = nI (m.testBit j).toNat) (h1 : md_Em m e = true → Q) (h0 : md_Em m e = false → P) : wpY_isThere (fun r => (r = 0 → P) ∧ (¬ r = 0 → Q)) (f_equations, f_variables, f_greatest, f_excess, f_loose, f_excessOnes, f_looseOnes, f_known, f_blocks, a_kind, a_value, a_before, a_constant, a_latest, a_there, a_shown, a_coefficient, a_old, a_inside, a_most, a_more, a_blockEquations, a_blockVariables, a_goodPairs, a_matrix) (nI e) := by
  unfold wpY_isThere
  refine ys_in_t (a := 0) (b := 8) (Nat.zero_le _) he (by decide) ⟨vp_in_nI he (by decide), ?_⟩
  rw [nI_clamp (by omega), ht e he]
  cases hm : m.testBit e with
  | true => exact br_f (by decide) (br_f (by decide) (h1 hm))
  | false => exact br_t (by decide) (br_t rfl (h0 hm))
theorem ys_there_f {P Q : Prop} {x : Int32} (hx : x < 0 ∨ nI 8 ≤ x) (f_equations f_variables f_greatest f_excess f_loose f_excessOnes f_looseOnes f_known f_blocks : Int32) (a_kind a_value a_before a_constant a_latest a_there a_shown a_coefficient a_old a_inside a_most a_more a_blockEquations a_blockVariables a_goodPairs a_matrix : Nat → Int32) (h : P) : wpY_isThere (fun r => (r = 0 → P) ∧ (¬ r = 0 → Q)) (f_equations, f_variables, f_greatest, f_excess, f_loose, f_excessOnes, f_looseOnes, f_known, f_blocks, a_kind, a_value, a_before, a_constant, a_latest, a_there, a_shown, a_coefficient, a_old, a_inside, a_most, a_more, a_blockEquations, a_blockVariables, a_goodPairs, a_matrix) x := by
  unfold wpY_isThere
  exact ys_in_f hx (br_t rfl h)
theorem ys_k25 {kd : Nat → Nat} {m : Nat} (f_greatest f_excess f_loose f_excessOnes f_looseOnes f_known f_blocks : Int32) (a_kind a_value a_before a_constant a_latest a_there a_shown a_coefficient a_old a_inside a_most a_more a_blockEquations a_blockVariables a_goodPairs a_matrix : Nat → Int32) (hk : ∀ j, a_kind j = nI (kd j)) (hk4 : ∀ j, kd j < 4) (ht : ∀ j, j < 8 → a_there j = nI (m.testBit j).toNat) (post : SY → Prop) (h : ∃ n, wY_know_80 post (nI (md_mk 8 (md_Em m))) (nI (md_mk 8 (md_Vk kd))) f_greatest f_excess f_loose f_excessOnes f_looseOnes f_known f_blocks n 0 a_kind a_value a_before a_constant a_latest a_there a_shown a_coefficient a_old a_inside a_most a_more a_blockEquations a_blockVariables a_goodPairs a_matrix) : ∀ d i, i + d = 8 → wY_know_25 post f_greatest f_excess f_loose f_excessOnes f_looseOnes f_known f_blocks a_kind a_value a_before a_constant a_latest a_there a_shown a_coefficient a_old a_inside a_most a_more a_blockEquations a_blockVariables a_goodPairs a_matrix (d + 1) (nI i) (nI (md_mk 8 (fun e => md_Em m e && decide (e < i)))) (nI (md_mk 8 (fun v => md_Vk kd v && decide (v < i)))) := by
  intro d
  induction d with
  | zero =>
    intro i hi
    rw [show i = 8 by omega, ni_full, ni_full]
    exact br_t (nI_le (a := 8) (b := 8) (by omega) (by decide)) h
  | succ d ih =>
    intro i hi
    have hi8 : i < 8 := by omega
    refine br_f (nI_ge (b := 8) hi8 (by decide)) ⟨vp_in_nI hi8 (by decide), ?_⟩
    rw [nI_clamp (by omega), ht i hi8]
    have h52 : wY_know_52 post (wY_know_25 post f_greatest f_excess f_loose f_excessOnes f_looseOnes f_known f_blocks a_kind a_value a_before a_constant a_latest a_there a_shown a_coefficient a_old a_inside a_most a_more a_blockEquations a_blockVariables a_goodPairs a_matrix (d + 1)) (nI i) (nI (md_mk 8 (fun e => md_Em m e && decide (e < i + 1)))) (nI (md_mk 8 (fun v => md_Vk kd v && decide (v < i)))) f_greatest f_excess f_loose f_excessOnes f_looseOnes f_known f_blocks a_kind a_value a_before a_constant a_latest a_there a_shown a_coefficient a_old a_inside a_most a_more a_blockEquations a_blockVariables a_goodPairs a_matrix := by
      refine ys_open hi8 _ _ f_greatest f_excess f_loose f_excessOnes f_looseOnes f_known f_blocks a_kind a_value a_before a_constant a_latest a_there a_shown a_coefficient a_old a_inside a_most a_more a_blockEquations a_blockVariables a_goodPairs a_matrix hk hk4 (fun hV => ?_) (fun hV => nm_r (nI_1 i) ?_)
      · exact nm_r (ni_push hi8 hV) (nm_r (nI_1 i) (ih (i + 1) (by omega)))
      · rw [ni_keep hV]; exact ih (i + 1) (by omega)
    cases hm : m.testBit i with
    | true =>
      refine br_f (by decide) (nm_r (ni_push (P := md_Em m) hi8 hm) ?_)
      exact h52
    | false =>
      refine br_t (by decide) ?_
      rw [ni_keep (P := md_Em m) hm]
      exact h52
theorem md_ix8' (e i : Nat) : (8 * nI e) + nI i = nI (e * 8 + i) := by
  show nI 8 * nI e + nI i = _
  rw [pk_mul, nI_add, Nat.mul_comm]
theorem ys_k95 {kd cf : Nat → Nat} {m i : Nat} (hi8 : i < 8) (f_equations f_variables f_greatest f_excess f_loose f_excessOnes f_looseOnes f_known f_blocks : Int32) (a_kind a_value a_before a_constant a_latest a_there a_shown a_coefficient a_old a_most a_more a_blockEquations a_blockVariables a_goodPairs a_matrix : Nat → Int32) (hk : ∀ j, a_kind j = nI (kd j)) (hk4 : ∀ j, kd j < 4) (ht : ∀ j, j < 8 → a_there j = nI (m.testBit j).toNat) (hc : ∀ j, a_coefficient j = nI (cf j)) (hc1 : ∀ j, cf j < 101) (post : SY → Prop) (J : Int32 → (Nat → Int32) → (Nat → Int32) → (Nat → Int32) → (Nat → Int32) → (Nat → Int32) → (Nat → Int32) → (Nat → Int32) → (Nat → Int32) → (Nat → Int32) → (Nat → Int32) → (Nat → Int32) → (Nat → Int32) → (Nat → Int32) → (Nat → Int32) → (Nat → Int32) → (Nat → Int32) → Prop) (hJ : ∀ f, (∀ e, e < i + 1 → f e = nI (md_mk 8 (md_Ak kd cf m e))) → J (nI (i + 1)) a_kind a_value a_before a_constant a_latest a_there a_shown a_coefficient a_old f a_most a_more a_blockEquations a_blockVariables a_goodPairs a_matrix) : ∀ d v f, v + d = 8 → (∀ e, e < i → f e = nI (md_mk 8 (md_Ak kd cf m e))) → f i = nI (md_mk 8 (fun w => md_Ak kd cf m i w && decide (w < v))) → wY_know_95 post J (nI i) f_equations f_variables f_greatest f_excess f_loose f_excessOnes f_looseOnes f_known f_blocks (d + 1) (nI v) a_kind a_value a_before a_constant a_latest a_there a_shown a_coefficient a_old f a_most a_more a_blockEquations a_blockVariables a_goodPairs a_matrix := by
  intro d
  induction d with
  | zero =>
    intro v f hv h1 h2
    rw [show v = 8 by omega] at h2 ⊢
    rw [ni_full] at h2
    refine br_t (nI_le (a := 8) (b := 8) (by omega) (by decide)) (nm_r (nI_1 i) (hJ f (fun e he => ?_)))
    by_cases e1 : e = i
    · rw [e1]; exact h2
    · exact h1 e (by omega)
  | succ d ih =>
    intro v f hv h1 h2
    have hv8 : v < 8 := by omega
    have hno : md_Ak kd cf m i v = false → wY_know_95 post J (nI i) f_equations f_variables f_greatest f_excess f_loose f_excessOnes f_looseOnes f_known f_blocks (d + 1) (nI (v + 1)) a_kind a_value a_before a_constant a_latest a_there a_shown a_coefficient a_old f a_most a_more a_blockEquations a_blockVariables a_goodPairs a_matrix := fun hn => ih (v + 1) f (by omega) h1 (by rw [h2, ni_keep hn])
    refine br_f (nI_ge (b := 8) hv8 (by decide)) ⟨vp_in_nI hi8 (by decide), ?_⟩
    rw [nI_clamp (by omega), ht i hi8]
    cases hm : m.testBit i with
    | false =>
      refine br_t (by decide) (nm_r (nI_1 v) (hno ?_))
      unfold md_Ak; simp [hm]
    | true =>
      refine br_f (by decide) (ys_open hv8 f_equations f_variables f_greatest f_excess f_loose f_excessOnes f_looseOnes f_known f_blocks a_kind a_value a_before a_constant a_latest a_there a_shown a_coefficient a_old f a_most a_more a_blockEquations a_blockVariables a_goodPairs a_matrix hk hk4 (fun hV => ?_) (fun hV => nm_r (nI_1 v) (hno ?_)))
      · rw [md_ix8']
        refine ⟨vp_in_nI (by omega) (by decide), ?_⟩
        have hcc := hc1 (i * 8 + v)
        rw [nI_clamp (by omega), hc]
        by_cases hz : cf (i * 8 + v) = 0
        · refine br_t (by rw [hz]; rfl) (nm_r (nI_1 v) (hno ?_))
          unfold md_Ak; simp [hz]
        · refine br_f (fun hh => hz ((md_z0 (by omega)).mp hh)) ⟨vp_in_nI hi8 (by decide), vp_in_nI hi8 (by decide), nm_e (nm_r (nI_1 v) (ih (v + 1) _ (by omega) (fun e he => ?_) ?_))⟩
          · rw [pk_un (by omega)]; exact h1 e he
          · rw [pk_us, h2]
            exact ni_push hv8 (by unfold md_Ak; simp [hm, hV, hz])
      · unfold md_Ak; simp [hV]
theorem ys_k80 {kd cf : Nat → Nat} {m : Nat} (f_equations f_variables f_greatest f_excess f_loose f_excessOnes f_looseOnes f_known f_blocks : Int32) (a_kind a_value a_before a_constant a_latest a_there a_shown a_coefficient a_old a_most a_more a_blockEquations a_blockVariables a_goodPairs a_matrix : Nat → Int32) (hk : ∀ j, a_kind j = nI (kd j)) (hk4 : ∀ j, kd j < 4) (ht : ∀ j, j < 8 → a_there j = nI (m.testBit j).toNat) (hc : ∀ j, a_coefficient j = nI (cf j)) (hc1 : ∀ j, cf j < 101) (post : SY → Prop) (h : ∀ f, (∀ e, e < 8 → f e = nI (md_mk 8 (md_Ak kd cf m e))) → wpY_pairs (fun r u => match u with | (q_1, q_2, q_3, q_4, q_5, q_6, q_7, q_8, q_9, p_1, p_2, p_3, p_4, p_5, p_6, p_7, p_8, p_9, p_10, p_11, p_12, p_13, p_14, p_15, p_16) => wpY_findParts (fun u => match u with | (q_1, q_2, q_3, q_4, q_5, q_6, q_7, q_8, q_9, p_1, p_2, p_3, p_4, p_5, p_6, p_7, p_8, p_9, p_10, p_11, p_12, p_13, p_14, p_15, p_16) => ∃ n, wY_know_178 post n 0 q_1 q_2 q_3 q_4 q_5 q_6 q_7 q_8 q_9 p_1 p_2 p_3 p_4 p_5 p_6 p_7 p_8 p_9 p_10 p_11 p_12 p_13 p_14 p_15 p_16) (q_1, q_2, r, q_4, q_5, q_6, q_7, q_8, q_9, p_1, p_2, p_3, p_4, p_5, p_6, p_7, p_8, p_9, p_10, p_11, p_12, p_13, p_14, p_15, p_16)) (f_equations, f_variables, f_greatest, f_excess, f_loose, f_excessOnes, f_looseOnes, f_known, f_blocks, a_kind, a_value, a_before, a_constant, a_latest, a_there, a_shown, a_coefficient, a_old, f, a_most, a_more, a_blockEquations, a_blockVariables, a_goodPairs, a_matrix) f_equations f_variables) : ∀ d i f, i + d = 8 → (∀ e, e < i → f e = nI (md_mk 8 (md_Ak kd cf m e))) → wY_know_80 post f_equations f_variables f_greatest f_excess f_loose f_excessOnes f_looseOnes f_known f_blocks (d + 1) (nI i) a_kind a_value a_before a_constant a_latest a_there a_shown a_coefficient a_old f a_most a_more a_blockEquations a_blockVariables a_goodPairs a_matrix := by
  intro d
  induction d with
  | zero =>
    intro i f hi h1
    rw [show i = 8 by omega] at h1 ⊢
    exact br_t (nI_le (a := 8) (b := 8) (by omega) (by decide)) (h f h1)
  | succ d ih =>
    intro i f hi h1
    have hi8 : i < 8 := by omega
    refine br_f (nI_ge (b := 8) hi8 (by decide)) ⟨vp_in_nI hi8 (by decide), nm_e ⟨9, ?_⟩⟩
    rw [nI_clamp (by omega)]
    refine ys_k95 hi8 f_equations f_variables f_greatest f_excess f_loose f_excessOnes f_looseOnes f_known f_blocks a_kind a_value a_before a_constant a_latest a_there a_shown a_coefficient a_old  a_most a_more a_blockEquations a_blockVariables a_goodPairs a_matrix hk hk4 ht hc hc1 post _ (fun f' hf' => ih (i + 1) f' (by omega) hf') 8 0 (upd f i 0) rfl (fun e he => ?_) ?_
    · rw [pk_un (by omega)]; exact h1 e he
    · rw [pk_us]; exact ni_none _
