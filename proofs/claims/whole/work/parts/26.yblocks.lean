theorem ys_eo {A : Nat → Nat → Bool} {E V : Nat → Bool} (f_greatest f_known f_blocks : Int32) (a_kind a_value a_before a_constant a_latest a_there a_shown a_coefficient a_old a_inside a_most a_more a_blockEquations a_blockVariables a_goodPairs a_matrix : Nat → Int32) (post : Int32 → Prop) (h : post (nI (md_mk 8 (md_evv A E V)))) : wpY_evenOnes post ((nI (md_mk 8 E)), (nI (md_mk 8 V)), f_greatest, (nI (md_mk 8 (md_exc A E V))), (nI (md_mk 8 (md_loe A E V))), (nI (md_mk 8 (md_exv A E V))), (nI (md_mk 8 (md_loo A E V))), f_known, f_blocks, a_kind, a_value, a_before, a_constant, a_latest, a_there, a_shown, a_coefficient, a_old, a_inside, a_most, a_more, a_blockEquations, a_blockVariables, a_goodPairs, a_matrix) := by
  unfold wpY_evenOnes
  dsimp only
  rw [ni_sd, ni_sd]
  exact h
theorem ys_ie {A : Nat → Nat → Bool} {E V : Nat → Bool} {k : Nat} (hk : k < 8) (f_greatest f_known f_blocks : Int32) (a_kind a_value a_before a_constant a_latest a_there a_shown a_coefficient a_old a_inside a_most a_more a_blockEquations a_blockVariables a_goodPairs a_matrix : Nat → Int32) {P Q : Prop} (h1 : md_eve A E V k = true → Q) (h0 : md_eve A E V k = false → P) : wpY_isEven (fun r => (r = 0 → P) ∧ (¬ r = 0 → Q)) ((nI (md_mk 8 E)), (nI (md_mk 8 V)), f_greatest, (nI (md_mk 8 (md_exc A E V))), (nI (md_mk 8 (md_loe A E V))), (nI (md_mk 8 (md_exv A E V))), (nI (md_mk 8 (md_loo A E V))), f_known, f_blocks, a_kind, a_value, a_before, a_constant, a_latest, a_there, a_shown, a_coefficient, a_old, a_inside, a_most, a_more, a_blockEquations, a_blockVariables, a_goodPairs, a_matrix) (nI k) := by
  unfold wpY_isEven
  dsimp only
  rw [ni_sd, ni_sd]
  cases hv : md_eve A E V k with
  | true => exact br_t (md_b1 hk hv) (br_f (by decide) (h1 hv))
  | false => exact br_f (md_b1n hk hv) (br_t rfl (h0 hv))
theorem md_gre_s {G : Nat → Nat → Bool} {S W : Nat → Bool} {i : Nat} (hi : i < 8) (h : S i = true) : nI (md_mk 8 (fun v => md_gr G (fun e => S e && decide (e < i)) v && W v)) ||| (nI (md_mk 8 (G i)) &&& nI (md_mk 8 W)) = nI (md_mk 8 (fun v => md_gr G (fun e => S e && decide (e < i + 1)) v && W v)) := by
  rw [ni_and, ni_or]
  refine ni_cg (fun v _ => ?_)
  rw [md_gr_pre hi h]
  cases md_gr G (fun e => S e && decide (e < i)) v <;> cases G i v <;> cases W v <;> rfl
theorem md_gre_k {G : Nat → Nat → Bool} {S W : Nat → Bool} {i : Nat} (h : S i = false) : nI (md_mk 8 (fun v => md_gr G (fun e => S e && decide (e < i)) v && W v)) = nI (md_mk 8 (fun v => md_gr G (fun e => S e && decide (e < i + 1)) v && W v)) := ni_cg (fun v _ => by rw [md_gr_skip h])
theorem md_gre_f {G : Nat → Nat → Bool} {S W : Nat → Bool} : nI (md_mk 8 (fun v => md_gr G (fun e => S e && decide (e < 8)) v && W v)) = nI (md_mk 8 (fun v => md_gr G S v && W v)) := ni_cg (fun v _ => by rw [md_gr_full])
theorem md_gre_0 {G : Nat → Nat → Bool} {S W : Nat → Bool} : (0 : Int32) = nI (md_mk 8 (fun v => md_gr G (fun e => S e && decide (e < 0)) v && W v)) := by
  rw [ni_0]; exact ni_cg (fun v _ => by rw [md_gr_none]; rfl)
theorem ys_vo_l {A : Nat → Nat → Bool} {E V S : Nat → Bool} (f_greatest f_known f_blocks : Int32) (a_kind a_value a_before a_constant a_latest a_there a_shown a_coefficient a_old a_inside a_most a_more a_blockEquations a_blockVariables a_goodPairs a_matrix : Nat → Int32) (hgo : ∀ e, e < 8 → a_goodPairs e = nI (md_mk 8 (md_god A E V e))) (post : Int32 → Prop) (h : post (nI (md_mk 8 (fun v => md_gr (md_god A E V) S v && md_evv A E V v)))) : ∀ d i, i + d = 8 → wY_variablesOf_4 post (nI (md_mk 8 S)) (nI (md_mk 8 E)) (nI (md_mk 8 V)) f_greatest (nI (md_mk 8 (md_exc A E V))) (nI (md_mk 8 (md_loe A E V))) (nI (md_mk 8 (md_exv A E V))) (nI (md_mk 8 (md_loo A E V))) f_known f_blocks a_kind a_value a_before a_constant a_latest a_there a_shown a_coefficient a_old a_inside a_most a_more a_blockEquations a_blockVariables a_goodPairs a_matrix (d + 1) (nI (md_mk 8 (fun v => md_gr (md_god A E V) (fun e => S e && decide (e < i)) v && md_evv A E V v))) (nI i) := by
  intro d
  induction d with
  | zero =>
    intro i hi
    rw [show i = 8 by omega, md_gre_f]
    exact br_t (nI_le (a := 8) (b := 8) (by omega) (by decide)) h
  | succ d ih =>
    intro i hi
    have hi8 : i < 8 := by omega
    refine br_f (nI_ge (b := 8) hi8 (by decide)) ?_
    cases hS : S i with
    | true =>
      refine br_t (md_b1 hi8 hS) ⟨vp_in_nI hi8 (by decide), ?_⟩
      rw [nI_clamp (by omega), hgo i hi8]
      exact ys_eo   f_greatest     f_known f_blocks a_kind a_value a_before a_constant a_latest a_there a_shown a_coefficient a_old a_inside a_most a_more a_blockEquations a_blockVariables a_goodPairs a_matrix _ (nm_r (md_gre_s hi8 hS) (nm_r (nI_1 i) (ih (i + 1) (by omega))))
    | false =>
      refine br_f (md_b1n hi8 hS) (nm_r (nI_1 i) ?_)
      rw [md_gre_k hS]
      exact ih (i + 1) (by omega)
theorem ys_vo {A : Nat → Nat → Bool} {E V S : Nat → Bool} (f_greatest f_known f_blocks : Int32) (a_kind a_value a_before a_constant a_latest a_there a_shown a_coefficient a_old a_inside a_most a_more a_blockEquations a_blockVariables a_goodPairs a_matrix : Nat → Int32) (hgo : ∀ e, e < 8 → a_goodPairs e = nI (md_mk 8 (md_god A E V e))) (post : Int32 → Prop) (h : post (nI (md_mk 8 (fun v => md_gr (md_god A E V) S v && md_evv A E V v)))) : wpY_variablesOf post ((nI (md_mk 8 E)), (nI (md_mk 8 V)), f_greatest, (nI (md_mk 8 (md_exc A E V))), (nI (md_mk 8 (md_loe A E V))), (nI (md_mk 8 (md_exv A E V))), (nI (md_mk 8 (md_loo A E V))), f_known, f_blocks, a_kind, a_value, a_before, a_constant, a_latest, a_there, a_shown, a_coefficient, a_old, a_inside, a_most, a_more, a_blockEquations, a_blockVariables, a_goodPairs, a_matrix) (nI (md_mk 8 S)) := by
  unfold wpY_variablesOf
  have h1 := ys_vo_l   f_greatest     f_known f_blocks a_kind a_value a_before a_constant a_latest a_there a_shown a_coefficient a_old a_inside a_most a_more a_blockEquations a_blockVariables a_goodPairs a_matrix hgo post h 8 0 rfl
  rw [← md_gre_0] at h1
  exact ⟨9, h1⟩
theorem ys_nd_l {A : Nat → Nat → Bool} {E V S : Nat → Bool} (f_greatest f_known f_blocks : Int32) (a_kind a_value a_before a_constant a_latest a_there a_shown a_coefficient a_old a_inside a_most a_more a_blockEquations a_blockVariables a_goodPairs a_matrix : Nat → Int32) (hin : ∀ e, e < 8 → a_inside e = nI (md_mk 8 (A e))) (hgo : ∀ e, e < 8 → a_goodPairs e = nI (md_mk 8 (md_god A E V e))) (post : Int32 → Prop) (h : post (nI (md_mk 8 (fun v => (md_gr A S v && md_evv A E V v) && !(md_gr (md_god A E V) S v && md_evv A E V v))))) : ∀ d i, i + d = 8 → wY_needed_4 post (nI (md_mk 8 S)) (nI (md_mk 8 E)) (nI (md_mk 8 V)) f_greatest (nI (md_mk 8 (md_exc A E V))) (nI (md_mk 8 (md_loe A E V))) (nI (md_mk 8 (md_exv A E V))) (nI (md_mk 8 (md_loo A E V))) f_known f_blocks a_kind a_value a_before a_constant a_latest a_there a_shown a_coefficient a_old a_inside a_most a_more a_blockEquations a_blockVariables a_goodPairs a_matrix (d + 1) (nI (md_mk 8 (fun v => md_gr A (fun e => S e && decide (e < i)) v && md_evv A E V v))) (nI i) := by
  intro d
  induction d with
  | zero =>
    intro i hi
    rw [show i = 8 by omega, md_gre_f]
    refine br_t (nI_le (a := 8) (b := 8) (by omega) (by decide)) (ys_vo   f_greatest     f_known f_blocks a_kind a_value a_before a_constant a_latest a_there a_shown a_coefficient a_old a_inside a_most a_more a_blockEquations a_blockVariables a_goodPairs a_matrix hgo _ ?_)
    rw [ni_sd]; exact h
  | succ d ih =>
    intro i hi
    have hi8 : i < 8 := by omega
    refine br_f (nI_ge (b := 8) hi8 (by decide)) ?_
    cases hS : S i with
    | true =>
      refine br_t (md_b1 hi8 hS) ⟨vp_in_nI hi8 (by decide), ?_⟩
      rw [nI_clamp (by omega), hin i hi8]
      exact ys_eo   f_greatest     f_known f_blocks a_kind a_value a_before a_constant a_latest a_there a_shown a_coefficient a_old a_inside a_most a_more a_blockEquations a_blockVariables a_goodPairs a_matrix _ (nm_r (md_gre_s hi8 hS) (nm_r (nI_1 i) (ih (i + 1) (by omega))))
    | false =>
      refine br_f (md_b1n hi8 hS) (nm_r (nI_1 i) ?_)
      rw [md_gre_k hS]
      exact ih (i + 1) (by omega)
theorem ys_nd {A : Nat → Nat → Bool} {E V S : Nat → Bool} (f_greatest f_known f_blocks : Int32) (a_kind a_value a_before a_constant a_latest a_there a_shown a_coefficient a_old a_inside a_most a_more a_blockEquations a_blockVariables a_goodPairs a_matrix : Nat → Int32) (hin : ∀ e, e < 8 → a_inside e = nI (md_mk 8 (A e))) (hgo : ∀ e, e < 8 → a_goodPairs e = nI (md_mk 8 (md_god A E V e))) (post : Int32 → Prop) (h : post (nI (md_mk 8 (fun v => (md_gr A S v && md_evv A E V v) && !(md_gr (md_god A E V) S v && md_evv A E V v))))) : wpY_needed post ((nI (md_mk 8 E)), (nI (md_mk 8 V)), f_greatest, (nI (md_mk 8 (md_exc A E V))), (nI (md_mk 8 (md_loe A E V))), (nI (md_mk 8 (md_exv A E V))), (nI (md_mk 8 (md_loo A E V))), f_known, f_blocks, a_kind, a_value, a_before, a_constant, a_latest, a_there, a_shown, a_coefficient, a_old, a_inside, a_most, a_more, a_blockEquations, a_blockVariables, a_goodPairs, a_matrix) (nI (md_mk 8 S)) := by
  unfold wpY_needed
  have h1 := ys_nd_l   f_greatest     f_known f_blocks a_kind a_value a_before a_constant a_latest a_there a_shown a_coefficient a_old a_inside a_most a_more a_blockEquations a_blockVariables a_goodPairs a_matrix hin hgo post h 8 0 rfl
  rw [← md_gre_0] at h1
  exact ⟨9, h1⟩
theorem ys_gr_in {A : Nat → Nat → Bool} {E V S : Nat → Bool} (hA : md_in A E V) (hS : ∀ k, k < 8 → S k = true → md_eve A E V k = true) (f_greatest f_known f_blocks : Int32) (a_kind a_value a_before a_constant a_latest a_there a_shown a_coefficient a_old a_inside a_most a_more a_blockEquations a_blockVariables a_goodPairs a_matrix : Nat → Int32) (hgo : ∀ e, e < 8 → a_goodPairs e = nI (md_mk 8 (md_god A E V e))) (post : Int32 → Prop) (J : Int32 → Int32 → Prop) (old : Int32) (hJ : J (nI (md_mk 8 (md_rd (md_god A E V) S))) old) : ∀ d i, i + d = 8 → wY_grow_23 post J old (nI (md_mk 8 (fun v => md_gr (md_god A E V) S v && md_evv A E V v))) (nI (md_mk 8 E)) (nI (md_mk 8 V)) f_greatest (nI (md_mk 8 (md_exc A E V))) (nI (md_mk 8 (md_loe A E V))) (nI (md_mk 8 (md_exv A E V))) (nI (md_mk 8 (md_loo A E V))) f_known f_blocks a_kind a_value a_before a_constant a_latest a_there a_shown a_coefficient a_old a_inside a_most a_more a_blockEquations a_blockVariables a_goodPairs a_matrix (d + 1) (nI (md_mk 8 (fun k => S k || (md_rd (md_god A E V) S k && decide (k < i))))) (nI i) := by
  intro d
  induction d with
  | zero =>
    intro i hi
    rw [show i = 8 by omega]
    have e1 : nI (md_mk 8 (fun k => S k || (md_rd (md_god A E V) S k && decide (k < 8)))) = nI (md_mk 8 (md_rd (md_god A E V) S)) := ni_cg (fun k hk => by
      cases hs : S k with
      | true => rw [show md_rd (md_god A E V) S k = true from md_rd_iff.mpr (Or.inl hs)]; rfl
      | false => simp [hk])
    rw [e1]
    exact br_t (nI_le (a := 8) (b := 8) (by omega) (by decide)) hJ
  | succ d ih =>
    intro i hi
    have hi8 : i < 8 := by omega
    have hkeep : (¬ ∃ v, v < 8 ∧ md_god A E V i v = true ∧ ∃ e, e < 8 ∧ S e = true ∧ md_god A E V e v = true) → wY_grow_23 post J old (nI (md_mk 8 (fun v => md_gr (md_god A E V) S v && md_evv A E V v))) (nI (md_mk 8 E)) (nI (md_mk 8 V)) f_greatest (nI (md_mk 8 (md_exc A E V))) (nI (md_mk 8 (md_loe A E V))) (nI (md_mk 8 (md_exv A E V))) (nI (md_mk 8 (md_loo A E V))) f_known f_blocks a_kind a_value a_before a_constant a_latest a_there a_shown a_coefficient a_old a_inside a_most a_more a_blockEquations a_blockVariables a_goodPairs a_matrix (d + 1) (nI (md_mk 8 (fun k => S k || (md_rd (md_god A E V) S k && decide (k < i))))) (nI (i + 1)) := by
      intro hn
      have e1 : nI (md_mk 8 (fun k => S k || (md_rd (md_god A E V) S k && decide (k < i)))) = nI (md_mk 8 (fun k => S k || (md_rd (md_god A E V) S k && decide (k < i + 1)))) := ni_cg (fun k hk => by
        rw [md_pre]
        by_cases e : k = i
        · cases hs : S k with
          | true => rfl
          | false =>
            have hr : md_rd (md_god A E V) S k = false := by
              rw [← Bool.not_eq_true, md_rd_iff]
              rintro (h1 | h1)
              · rw [hs] at h1; simp at h1
              · rw [e] at h1; exact hn h1
            rw [hr]; simp
        · have h2 : (k == i) = false := by simp [e]
          rw [h2]; simp)
      rw [e1]
      exact ih (i + 1) (by omega)
    refine br_f (nI_ge (b := 8) hi8 (by decide)) (ys_ie hi8   f_greatest     f_known f_blocks a_kind a_value a_before a_constant a_latest a_there a_shown a_coefficient a_old a_inside a_most a_more a_blockEquations a_blockVariables a_goodPairs a_matrix (fun hE => ?_) (fun hE => nm_r (nI_1 i) (hkeep ?_)))
    · refine ⟨vp_in_nI hi8 (by decide), ?_⟩
      rw [nI_clamp (by omega), hgo i hi8]
      refine ys_eo   f_greatest     f_known f_blocks a_kind a_value a_before a_constant a_latest a_there a_shown a_coefficient a_old a_inside a_most a_more a_blockEquations a_blockVariables a_goodPairs a_matrix _ ?_
      rw [ni_and, ni_and]
      refine br_c (fun hh => nm_r (nI_1 i) (hkeep ?_)) (fun hh => nm_r (e' := nI (md_mk 8 (fun k => S k || (md_rd (md_god A E V) S k && decide (k < i + 1))))) ?_ (nm_r (nI_1 i) (ih (i + 1) (by omega))))
      · rintro ⟨v, hv, g, e2, he2, h1, h2⟩
        have h3 := ni_z.mp hh v hv
        have h4 := md_evev hA hi8 hv hE g
        rw [g, h4, md_gr_iff.mpr ⟨e2, he2, h1, h2⟩] at h3
        simp at h3
      · rw [ni_shl hi8, ni_or]
        refine ni_cg (fun k hk => ?_)
        rw [md_pre]
        by_cases e : k = i
        · have hr : md_rd (md_god A E V) S k = true := by
            obtain ⟨v, hv, h1⟩ := ni_nz.mp hh
            simp at h1
            obtain ⟨⟨g1, g2, _⟩, _⟩ := h1
            obtain ⟨e2, he2, h2, h3⟩ := md_gr_iff.mp g2
            rw [e]
            exact md_rd_iff.mpr (Or.inr ⟨v, hv, g1, e2, he2, h2, h3⟩)
          rw [hr, e]; simp
        · have h2 : (k == i) = false := by simp [e]
          rw [h2]; simp
    · rintro ⟨v, hv, g, e2, he2, h1, h2⟩
      have h4 := md_evve hA hi8 hv (md_evev hA he2 hv (hS e2 he2 h1) h2) g
      rw [hE] at h4
      simp at h4
theorem md_it_even {A : Nat → Nat → Bool} {E V : Nat → Bool} (hA : md_in A E V) {e : Nat} (h : md_eve A E V e = true) : ∀ n k, k < 8 → md_it (md_god A E V) (fun k => k == e) n k = true → md_eve A E V k = true := by
  intro n
  induction n with
  | zero =>
    intro k _ hh
    have : k = e := by simpa [md_it] using hh
    rw [this]; exact h
  | succ n ih =>
    intro k hk hh
    rcases md_rd_iff.mp hh with hh | ⟨v, hv, g, k', hk', h1, h2⟩
    · exact ih k hk hh
    · exact md_evve hA hk hv (md_evev hA hk' hv (ih k' hk' h1) h2) g
theorem ys_gr_out {A : Nat → Nat → Bool} {E V : Nat → Bool} (hA : md_in A E V) {e : Nat} (he : e < 8) (hev : md_eve A E V e = true) (f_greatest f_known f_blocks : Int32) (a_kind a_value a_before a_constant a_latest a_there a_shown a_coefficient a_old a_inside a_most a_more a_blockEquations a_blockVariables a_goodPairs a_matrix : Nat → Int32) (hgo : ∀ e, e < 8 → a_goodPairs e = nI (md_mk 8 (md_god A E V e))) (post : Int32 → Prop) (h : post (nI (md_mk 8 (md_hg (md_god A E V) e)))) : ∀ d n, n + d = 9 → ∀ old, (old = if n = 0 then 0 else nI (md_mk 8 (md_it (md_god A E V) (fun k => k == e) (n - 1)))) → wY_grow_6 post (nI (md_mk 8 E)) (nI (md_mk 8 V)) f_greatest (nI (md_mk 8 (md_exc A E V))) (nI (md_mk 8 (md_loe A E V))) (nI (md_mk 8 (md_exv A E V))) (nI (md_mk 8 (md_loo A E V))) f_known f_blocks a_kind a_value a_before a_constant a_latest a_there a_shown a_coefficient a_old a_inside a_most a_more a_blockEquations a_blockVariables a_goodPairs a_matrix (d + 1) (nI (md_mk 8 (md_it (md_god A E V) (fun k => k == e) n))) old := by
  have hend : ∀ n old, (old = if n = 0 then 0 else nI (md_mk 8 (md_it (md_god A E V) (fun k => k == e) (n - 1)))) → nI (md_mk 8 (md_it (md_god A E V) (fun k => k == e) n)) = old → post (nI (md_mk 8 (md_it (md_god A E V) (fun k => k == e) n))) := by
    intro n old ho heq
    by_cases hn : n = 0
    · exfalso
      rw [if_pos hn] at ho
      rw [ho, hn] at heq
      have := ni_z.mp heq e he
      simp [md_it] at this
    · rw [if_neg hn] at ho
      rw [ho, ni_eq] at heq
      obtain ⟨n', rfl⟩ : ∃ n', n = n' + 1 := ⟨n - 1, by omega⟩
      rw [Nat.add_sub_cancel] at heq
      have h2 := md_hg_of (md_god A E V) he heq
      rw [ni_cg (fun k hk => (heq k hk).trans (h2 k hk))]
      exact h
  intro d
  induction d with
  | zero =>
    intro n hn old ho
    have hn9 : n = 9 := by omega
    have heq : nI (md_mk 8 (md_it (md_god A E V) (fun k => k == e) n)) = old := by
      rw [ho, if_neg (by omega), hn9]
      exact ni_cg (md_hg_fix (md_god A E V) he)
    exact br_t heq (hend n old ho heq)
  | succ d ih =>
    intro n hn old ho
    refine br_c (fun heq => hend n old ho heq) (fun _ => ?_)
    refine ys_vo   f_greatest     f_known f_blocks a_kind a_value a_before a_constant a_latest a_there a_shown a_coefficient a_old a_inside a_most a_more a_blockEquations a_blockVariables a_goodPairs a_matrix hgo _ ⟨9, ?_⟩
    have h1 := ys_gr_in hA (S := md_it (md_god A E V) (fun k => k == e) n) (md_it_even hA hev n)   f_greatest     f_known f_blocks a_kind a_value a_before a_constant a_latest a_there a_shown a_coefficient a_old a_inside a_most a_more a_blockEquations a_blockVariables a_goodPairs a_matrix hgo post (wY_grow_6 post (nI (md_mk 8 E)) (nI (md_mk 8 V)) f_greatest (nI (md_mk 8 (md_exc A E V))) (nI (md_mk 8 (md_loe A E V))) (nI (md_mk 8 (md_exv A E V))) (nI (md_mk 8 (md_loo A E V))) f_known f_blocks a_kind a_value a_before a_constant a_latest a_there a_shown a_coefficient a_old a_inside a_most a_more a_blockEquations a_blockVariables a_goodPairs a_matrix (d + 1)) (nI (md_mk 8 (md_it (md_god A E V) (fun k => k == e) n))) (ih (n + 1) (by omega) _ (by rw [if_neg (by omega), Nat.add_sub_cancel])) 8 0 rfl
    have e1 : nI (md_mk 8 (fun k => md_it (md_god A E V) (fun k => k == e) n k || (md_rd (md_god A E V) (md_it (md_god A E V) (fun k => k == e) n) k && decide (k < 0)))) = nI (md_mk 8 (md_it (md_god A E V) (fun k => k == e) n)) := ni_cg (fun k _ => by simp)
    rw [e1] at h1
    exact h1
theorem ys_gr {A : Nat → Nat → Bool} {E V : Nat → Bool} (hA : md_in A E V) {e : Nat} (he : e < 8) (hev : md_eve A E V e = true) (f_greatest f_known f_blocks : Int32) (a_kind a_value a_before a_constant a_latest a_there a_shown a_coefficient a_old a_inside a_most a_more a_blockEquations a_blockVariables a_goodPairs a_matrix : Nat → Int32) (hgo : ∀ e, e < 8 → a_goodPairs e = nI (md_mk 8 (md_god A E V e))) (post : Int32 → Prop) (h : post (nI (md_mk 8 (md_hg (md_god A E V) e)))) : wpY_grow post ((nI (md_mk 8 E)), (nI (md_mk 8 V)), f_greatest, (nI (md_mk 8 (md_exc A E V))), (nI (md_mk 8 (md_loe A E V))), (nI (md_mk 8 (md_exv A E V))), (nI (md_mk 8 (md_loo A E V))), f_known, f_blocks, a_kind, a_value, a_before, a_constant, a_latest, a_there, a_shown, a_coefficient, a_old, a_inside, a_most, a_more, a_blockEquations, a_blockVariables, a_goodPairs, a_matrix) (nI e) := by
  unfold wpY_grow
  exact nm_r (ni_shl he) ⟨10, ys_gr_out hA he hev   f_greatest     f_known f_blocks a_kind a_value a_before a_constant a_latest a_there a_shown a_coefficient a_old a_inside a_most a_more a_blockEquations a_blockVariables a_goodPairs a_matrix hgo post h 9 0 rfl 0 (by rw [if_pos rfl])⟩
def md_nv (A : Nat → Nat → Bool) (E V C : Nat → Bool) (i : Nat) : Int32 := if md_fi (md_ok A E V C) (8 - i) i < 8 then nI (md_fi (md_ok A E V C) (8 - i) i) else -1
def md_xv : Nat → Int32
  | 0 => -1
  | i + 1 => nI i
theorem md_xv_s (i : Nat) : nI i + (-1) = md_xv i := by
  cases i with
  | zero => rfl
  | succ i => exact pk_m1 i
theorem md_gr_ev {A : Nat → Nat → Bool} {E V : Nat → Bool} (hA : md_in A E V) {S : Nat → Bool} (hS : ∀ k, k < 8 → S k = true → md_eve A E V k = true) : nI (md_mk 8 (fun v => md_gr (md_god A E V) S v && md_evv A E V v)) = nI (md_mk 8 (md_gr (md_god A E V) S)) := ni_cg (fun v hv => by
  cases hg : md_gr (md_god A E V) S v with
  | false => rfl
  | true =>
    obtain ⟨k, hk, a, g⟩ := md_gr_iff.mp hg
    rw [md_evev hA hk hv (hS k hk a) g]; rfl)
theorem ys_fb36 {A : Nat → Nat → Bool} {E V C : Nat → Bool} (hA : md_in A E V) (hnx : md_nx A E V C < 8) {j : Nat} (hj : j < 8) (f_greatest f_known : Int32) (a_kind a_value a_before a_constant a_latest a_there a_shown a_coefficient a_old a_inside a_most a_more a_blockEquations a_blockVariables a_goodPairs a_matrix : Nat → Int32) (hin : ∀ e, e < 8 → a_inside e = nI (md_mk 8 (A e))) (hgo : ∀ e, e < 8 → a_goodPairs e = nI (md_mk 8 (md_god A E V e))) (post : SY → Prop) (J : Int32 → Int32 → Int32 → (Nat → Int32) → (Nat → Int32) → (Nat → Int32) → (Nat → Int32) → (Nat → Int32) → (Nat → Int32) → (Nat → Int32) → (Nat → Int32) → (Nat → Int32) → (Nat → Int32) → (Nat → Int32) → (Nat → Int32) → (Nat → Int32) → (Nat → Int32) → (Nat → Int32) → (Nat → Int32) → Prop) (hJ : J (nI (md_mk 8 (fun e => (md_eve A E V e && !C e) && !md_hg (md_god A E V) (md_nx A E V C) e))) (nI (md_mk 8 (fun v => md_gr (md_god A E V) C v || md_gr (md_god A E V) (md_hg (md_god A E V) (md_nx A E V C)) v))) (nI (j + 1)) a_kind a_value a_before a_constant a_latest a_there a_shown a_coefficient a_old a_inside a_most a_more (upd a_blockEquations j (nI (md_mk 8 (md_hg (md_god A E V) (md_nx A E V C))))) (upd a_blockVariables j (nI (md_mk 8 (md_gr (md_god A E V) (md_hg (md_god A E V) (md_nx A E V C)))))) a_goodPairs a_matrix) : ∀ i, i ≤ 8 → wY_findBlocks_36 post J (nI (md_mk 8 (fun e => md_eve A E V e && !C e))) (nI (md_mk 8 (md_gr (md_god A E V) C))) (nI (md_mk 8 E)) (nI (md_mk 8 V)) f_greatest (nI (md_mk 8 (md_exc A E V))) (nI (md_mk 8 (md_loe A E V))) (nI (md_mk 8 (md_exv A E V))) (nI (md_mk 8 (md_loo A E V))) f_known (nI j) a_kind a_value a_before a_constant a_latest a_there a_shown a_coefficient a_old a_inside a_most a_more a_blockEquations a_blockVariables a_goodPairs a_matrix (i + 1) (md_nv A E V C i) (md_xv i) := by
  have hok := md_ok_iff.mp (md_nx_ok hnx)
  intro i
  induction i with
  | zero =>
    intro _
    refine br_t (by decide) ?_
    have e0 : md_nv A E V C 0 = nI (md_nx A E V C) := by
      unfold md_nv
      exact if_pos hnx
    rw [e0]
    refine ys_gr hA hnx hok.1   f_greatest     f_known _ a_kind a_value a_before a_constant a_latest a_there a_shown a_coefficient a_old a_inside a_most a_more a_blockEquations a_blockVariables a_goodPairs a_matrix hgo _ ⟨vp_in_nI hj (by decide), nm_e ?_⟩
    rw [nI_clamp (by omega)]
    refine ys_vo   f_greatest     f_known _ a_kind a_value a_before a_constant a_latest a_there a_shown a_coefficient a_old a_inside a_most a_more _ a_blockVariables a_goodPairs a_matrix hgo _ ⟨vp_in_nI hj (by decide), nm_e ⟨vp_in_nI hj (by decide), ?_⟩⟩
    rw [pk_us, md_gr_ev hA (md_hg_even hA hok.1), ni_or, ni_sd]
    exact nm_e (nm_e (nm_r (nI_1 j) hJ))
  | succ i ih =>
    intro hi
    have hi8 : i < 8 := by omega
    have hih := ih (by omega)
    have e8 : 8 - i = (8 - (i + 1)) + 1 := by omega
    have efi : md_fi (md_ok A E V C) (8 - i) i = if md_ok A E V C i = true then i else md_fi (md_ok A E V C) (8 - (i + 1)) (i + 1) := by
      rw [e8]; rfl
    have hskip : md_ok A E V C i = false → wY_findBlocks_36 post J (nI (md_mk 8 (fun e => md_eve A E V e && !C e))) (nI (md_mk 8 (md_gr (md_god A E V) C))) (nI (md_mk 8 E)) (nI (md_mk 8 V)) f_greatest (nI (md_mk 8 (md_exc A E V))) (nI (md_mk 8 (md_loe A E V))) (nI (md_mk 8 (md_exv A E V))) (nI (md_mk 8 (md_loo A E V))) f_known (nI j) a_kind a_value a_before a_constant a_latest a_there a_shown a_coefficient a_old a_inside a_most a_more a_blockEquations a_blockVariables a_goodPairs a_matrix (i + 1) (md_nv A E V C (i + 1)) (md_xv i) := by
      intro hn
      have e1 : md_nv A E V C i = md_nv A E V C (i + 1) := by
        have e2 : md_fi (md_ok A E V C) (8 - i) i = md_fi (md_ok A E V C) (8 - (i + 1)) (i + 1) := by
          rw [efi, if_neg (by rw [hn]; simp)]
        unfold md_nv
        rw [e2]
      rw [← e1]; exact hih
    refine br_f (nI_pos (by omega)) ?_
    cases hl : (md_eve A E V i && !C i) with
    | true =>
      have hl2 : md_eve A E V i = true ∧ C i = false := by
        rw [Bool.and_eq_true] at hl
        exact ⟨hl.1, by simpa using hl.2⟩
      refine br_t (md_b1 (P := fun e => md_eve A E V e && !C e) hi8 hl) ?_
      refine ys_gr hA hi8 hl2.1   f_greatest     f_known _ a_kind a_value a_before a_constant a_latest a_there a_shown a_coefficient a_old a_inside a_most a_more a_blockEquations a_blockVariables a_goodPairs a_matrix hgo _ ?_
      refine ys_nd   f_greatest     f_known _ a_kind a_value a_before a_constant a_latest a_there a_shown a_coefficient a_old a_inside a_most a_more a_blockEquations a_blockVariables a_goodPairs a_matrix hin hgo _ ?_
      rw [ni_sd]
      refine br_c (fun hh => nm_r (md_xv_s i) ?_) (fun hh => nm_r (md_xv_s i) (hskip ?_))
      · have hk : md_ok A E V C i = true := by
          rw [md_ok_iff]
          refine ⟨hl2.1, hl2.2, fun v hv a b => ?_⟩
          have h3 := ni_z.mp hh v hv
          rw [a, b] at h3
          cases hg : md_gr (md_god A E V) (md_hg (md_god A E V) i) v with
          | true => exact Or.inl rfl
          | false =>
            rw [hg] at h3
            exact Or.inr (by simpa using h3)
        have e1 : md_nv A E V C i = nI i := by
          unfold md_nv
          rw [efi, if_pos hk, if_pos hi8]
        rw [e1] at hih
        exact hih
      · rw [← Bool.not_eq_true, md_ok_iff]
        rintro ⟨_, _, h3⟩
        obtain ⟨v, hv, h4⟩ := ni_nz.mp hh
        simp only [Bool.and_eq_true, Bool.not_eq_true'] at h4
        obtain ⟨⟨⟨a, b⟩, c⟩, d2⟩ := h4
        rw [b, Bool.and_true] at c
        rcases h3 v hv a b with h5 | h5
        · rw [h5] at c; simp at c
        · rw [h5] at d2; simp at d2
    | false =>
      refine br_f (md_b1n (P := fun e => md_eve A E V e && !C e) hi8 hl) (nm_r (md_xv_s i) (hskip ?_))
      rw [← Bool.not_eq_true, md_ok_iff]
      rintro ⟨h1, h2, _⟩
      rw [h1, h2] at hl
      simp at hl
theorem md_gr_C {A : Nat → Nat → Bool} {E V : Nat → Bool} (hA : md_in A E V) {i : Nat} (hiq : i < md_Q A E V) (v : Nat) : md_gr (md_god A E V) (md_C A E V (i + 1)) v = (md_gr (md_god A E V) (md_C A E V i) v || md_gr (md_god A E V) (md_B A E V i) v) := by
  rw [md_C_step hA hiq, Bool.eq_iff_iff, Bool.or_eq_true, md_gr_iff, md_gr_iff, md_gr_iff]
  constructor
  · rintro ⟨k, hk, a, b⟩
    rw [Bool.or_eq_true] at a
    rcases a with a | a
    · exact Or.inl ⟨k, hk, a, b⟩
    · exact Or.inr ⟨k, hk, a, b⟩
  · rintro (⟨k, hk, a, b⟩ | ⟨k, hk, a, b⟩)
    · exact ⟨k, hk, by rw [a]; rfl, b⟩
    · exact ⟨k, hk, by rw [a]; simp, b⟩
theorem ys_fb26 {A : Nat → Nat → Bool} {E V : Nat → Bool} (hA : md_in A E V) (f_greatest f_known : Int32) (a_kind a_value a_before a_constant a_latest a_there a_shown a_coefficient a_old a_inside a_most a_more a_goodPairs a_matrix : Nat → Int32) (hin : ∀ e, e < 8 → a_inside e = nI (md_mk 8 (A e))) (hgo : ∀ e, e < 8 → a_goodPairs e = nI (md_mk 8 (md_god A E V e))) (post : SY → Prop) (h : ∀ f g, md_bx2 A E V (md_Q A E V) f g → post ((nI (md_mk 8 E)), (nI (md_mk 8 V)), f_greatest, (nI (md_mk 8 (md_exc A E V))), (nI (md_mk 8 (md_loe A E V))), (nI (md_mk 8 (md_exv A E V))), (nI (md_mk 8 (md_loo A E V))), f_known, (nI (md_Q A E V)), a_kind, a_value, a_before, a_constant, a_latest, a_there, a_shown, a_coefficient, a_old, a_inside, a_most, a_more, f, g, a_goodPairs, a_matrix)) : ∀ d j f g, j + d = md_Q A E V → md_bx2 A E V j f g → wY_findBlocks_26 post (nI (md_mk 8 E)) (nI (md_mk 8 V)) f_greatest (nI (md_mk 8 (md_exc A E V))) (nI (md_mk 8 (md_loe A E V))) (nI (md_mk 8 (md_exv A E V))) (nI (md_mk 8 (md_loo A E V))) f_known (d + 1) (nI (md_mk 8 (fun e => md_eve A E V e && !md_C A E V j e))) (nI (md_mk 8 (md_gr (md_god A E V) (md_C A E V j)))) (nI j) a_kind a_value a_before a_constant a_latest a_there a_shown a_coefficient a_old a_inside a_most a_more f g a_goodPairs a_matrix := by
  have hq := md_Q_le A E V
  intro d
  induction d with
  | zero =>
    intro j f g hj hfg
    have hjq : j = md_Q A E V := by omega
    rw [hjq] at hfg ⊢
    refine br_t ?_ (h f g hfg)
    rw [ni_z]
    exact md_Q_em hA
  | succ d ih =>
    intro j f g hj hfg
    have hjq : j < md_Q A E V := by omega
    obtain ⟨e, he, hl⟩ := md_Q_lt hjq
    refine br_f (ni_nz.mpr ⟨e, he, hl⟩) ⟨9, ?_⟩
    refine ys_fb36 (C := md_C A E V j) hA (md_Q_nx hA hjq) (by omega)   f_greatest     f_known  a_kind a_value a_before a_constant a_latest a_there a_shown a_coefficient a_old a_inside a_most a_more f g a_goodPairs a_matrix hin hgo post _ ?_ 8 (Nat.le_refl 8)
    have h1 := ih (j + 1) _ _ (by omega) (md_bx2_put hfg)
    have c1 : nI (md_mk 8 (fun e => md_eve A E V e && !md_C A E V (j + 1) e)) = nI (md_mk 8 (fun e => (md_eve A E V e && !md_C A E V j e) && !md_hg (md_god A E V) (md_nx A E V (md_C A E V j)) e)) := ni_cg (fun e _ => by
      rw [md_C_step hA hjq]
      show (md_eve A E V e && !(md_C A E V j e || md_B A E V j e)) = ((md_eve A E V e && !md_C A E V j e) && !md_B A E V j e)
      cases md_eve A E V e <;> cases md_C A E V j e <;> cases md_B A E V j e <;> rfl)
    have c2 : nI (md_mk 8 (md_gr (md_god A E V) (md_C A E V (j + 1)))) = nI (md_mk 8 (fun v => md_gr (md_god A E V) (md_C A E V j) v || md_gr (md_god A E V) (md_hg (md_god A E V) (md_nx A E V (md_C A E V j))) v)) := ni_cg (fun v _ => md_gr_C hA hjq v)
    rw [c1, c2] at h1
    exact h1
theorem ys_fb {A : Nat → Nat → Bool} {E V : Nat → Bool} (hA : md_in A E V) (f_greatest f_known f_blocks : Int32) (a_kind a_value a_before a_constant a_latest a_there a_shown a_coefficient a_old a_inside a_most a_more a_blockEquations a_blockVariables a_goodPairs a_matrix : Nat → Int32) (hin : ∀ e, e < 8 → a_inside e = nI (md_mk 8 (A e))) (hgo : ∀ e, e < 8 → a_goodPairs e = nI (md_mk 8 (md_god A E V e))) (post : SY → Prop) (h : ∀ f g, md_bx2 A E V (md_Q A E V) f g → post ((nI (md_mk 8 E)), (nI (md_mk 8 V)), f_greatest, (nI (md_mk 8 (md_exc A E V))), (nI (md_mk 8 (md_loe A E V))), (nI (md_mk 8 (md_exv A E V))), (nI (md_mk 8 (md_loo A E V))), f_known, (nI (md_Q A E V)), a_kind, a_value, a_before, a_constant, a_latest, a_there, a_shown, a_coefficient, a_old, a_inside, a_most, a_more, f, g, a_goodPairs, a_matrix)) : wpY_findBlocks post ((nI (md_mk 8 E)), (nI (md_mk 8 V)), f_greatest, (nI (md_mk 8 (md_exc A E V))), (nI (md_mk 8 (md_loe A E V))), (nI (md_mk 8 (md_exv A E V))), (nI (md_mk 8 (md_loo A E V))), f_known, f_blocks, a_kind, a_value, a_before, a_constant, a_latest, a_there, a_shown, a_coefficient, a_old, a_inside, a_most, a_more, a_blockEquations, a_blockVariables, a_goodPairs, a_matrix) := by
  unfold wpY_findBlocks
  refine nm_e ⟨md_Q A E V + 1, ?_⟩
  rw [ni_sd, ni_sd]
  have h1 := ys_fb26 hA   f_greatest     f_known  a_kind a_value a_before a_constant a_latest a_there a_shown a_coefficient a_old a_inside a_most a_more   a_goodPairs a_matrix hin hgo post h (md_Q A E V) 0 a_blockEquations a_blockVariables (by omega) (fun b hb => by omega)
  have c1 : nI (md_mk 8 (fun e => md_eve A E V e && !md_C A E V 0 e)) = nI (md_mk 8 (fun e => (E e && !md_exc A E V e) && !md_loe A E V e)) := ni_cg (fun e _ => by
    show (md_eve A E V e && !false) = _
    rw [Bool.not_false, Bool.and_true]; rfl)
  have c2 : nI (md_mk 8 (md_gr (md_god A E V) (md_C A E V 0))) = 0 := by
    rw [ni_z]
    intro v _
    rw [← Bool.not_eq_true, md_gr_iff]
    rintro ⟨k, _, a, _⟩
    simp [md_C] at a
  rw [c1, c2] at h1
  exact h1
theorem ys_know {kd cf : Nat → Nat} {m : Nat} (f_equations f_variables f_greatest f_excess f_loose f_excessOnes f_looseOnes f_known f_blocks : Int32) (a_kind a_value a_before a_constant a_latest a_there a_shown a_coefficient a_old a_inside a_most a_more a_blockEquations a_blockVariables a_goodPairs a_matrix : Nat → Int32) (hk : ∀ j, a_kind j = nI (kd j)) (hk4 : ∀ j, kd j < 4) (ht : ∀ j, j < 8 → a_there j = nI (m.testBit j).toNat) (hc : ∀ j, a_coefficient j = nI (cf j)) (hc1 : ∀ j, cf j < 101) (hkn : ¬ f_known = 0 → md_YA (md_Ak kd cf m) (md_Em m) (md_Vk kd) f_equations f_variables f_greatest f_excess f_loose f_excessOnes f_looseOnes f_blocks a_inside a_goodPairs a_blockEquations a_blockVariables) (post : SY → Prop) (h : ∀ eqs vrs gre exE loE exV loV kn blk ins mo me bE bV god, ¬ kn = 0 → md_YA (md_Ak kd cf m) (md_Em m) (md_Vk kd) eqs vrs gre exE loE exV loV blk ins god bE bV → post (eqs, vrs, gre, exE, loE, exV, loV, kn, blk, a_kind, a_value, a_before, a_constant, a_latest, a_there, a_shown, a_coefficient, a_old, ins, mo, me, bE, bV, god, a_matrix)) : wpY_know post (f_equations, f_variables, f_greatest, f_excess, f_loose, f_excessOnes, f_looseOnes, f_known, f_blocks, a_kind, a_value, a_before, a_constant, a_latest, a_there, a_shown, a_coefficient, a_old, a_inside, a_most, a_more, a_blockEquations, a_blockVariables, a_goodPairs, a_matrix) := by
  unfold wpY_know
  refine br_c (fun h0 => ⟨9, ?_⟩) (fun h0 => h _ _ _ _ _ _ _ _ _ _ _ _ _ _ _ h0 (hkn h0))
  have h25 := ys_k25 (m := m)   f_greatest f_excess f_loose f_excessOnes f_looseOnes 1 f_blocks a_kind a_value a_before a_constant a_latest a_there a_shown a_coefficient a_old a_inside a_most a_more a_blockEquations a_blockVariables a_goodPairs a_matrix hk hk4 ht post ?_ 8 0 rfl
  · rw [← ni_none, ← ni_none] at h25
    exact h25
  · refine ⟨9, ys_k80 (m := m) _ _ f_greatest f_excess f_loose f_excessOnes f_looseOnes 1 f_blocks a_kind a_value a_before a_constant a_latest a_there a_shown a_coefficient a_old  a_most a_more a_blockEquations a_blockVariables a_goodPairs a_matrix hk hk4 ht hc hc1 post (fun ins hin => ?_) 8 0 a_inside rfl (fun e he => by omega)⟩
    refine ys_pairs _ _ f_greatest f_excess f_loose f_excessOnes f_looseOnes 1 f_blocks a_kind a_value a_before a_constant a_latest a_there a_shown a_coefficient a_old ins a_most a_more a_blockEquations a_blockVariables a_goodPairs a_matrix hin _ (fun f g => ?_)
    refine ys_fp    f_excess f_loose f_excessOnes f_looseOnes 1 f_blocks a_kind a_value a_before a_constant a_latest a_there a_shown a_coefficient a_old ins f g a_blockEquations a_blockVariables a_goodPairs a_matrix hin _ (fun f' g' => ?_)
    refine ⟨9, ys_gp (md_Ak_in kd cf m)    _ _ _ _ 1 f_blocks a_kind a_value a_before a_constant a_latest a_there a_shown a_coefficient a_old ins   a_blockEquations a_blockVariables  a_matrix hin post (fun f2 g2 q2 hq2 => ?_) 8 0 f' g' a_goodPairs rfl (fun e he => by omega)⟩
    refine ys_fb (md_Ak_in kd cf m)   _     1 f_blocks a_kind a_value a_before a_constant a_latest a_there a_shown a_coefficient a_old ins f2 g2 a_blockEquations a_blockVariables q2 a_matrix hin hq2 _ (fun bE bV hB => ?_)
    exact h _ _ _ _ _ _ _ _ _ _ _ _ _ _ _ (by decide) ⟨rfl, rfl, rfl, rfl, rfl, rfl, rfl, rfl, hin, hq2, hB⟩
