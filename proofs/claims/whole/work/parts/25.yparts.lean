theorem md_gr_pre {A : Nat → Nat → Bool} {P : Nat → Bool} {k : Nat} (hk : k < 8) (h : P k = true) (v : Nat) : md_gr A (fun e => P e && decide (e < k + 1)) v = (md_gr A (fun e => P e && decide (e < k)) v || A k v) := by
  rw [Bool.eq_iff_iff, Bool.or_eq_true, md_gr_iff, md_gr_iff]
  constructor
  · rintro ⟨e, he, a, b⟩
    rw [Bool.and_eq_true, decide_eq_true_iff] at a
    by_cases c : e = k
    · rw [c] at b; exact Or.inr b
    · exact Or.inl ⟨e, he, by rw [Bool.and_eq_true, decide_eq_true_iff]; exact ⟨a.1, by omega⟩, b⟩
  · rintro (⟨e, he, a, b⟩ | b)
    · rw [Bool.and_eq_true, decide_eq_true_iff] at a
      exact ⟨e, he, by rw [Bool.and_eq_true, decide_eq_true_iff]; exact ⟨a.1, by omega⟩, b⟩
    · exact ⟨k, hk, by rw [Bool.and_eq_true, decide_eq_true_iff]; exact ⟨h, by omega⟩, b⟩
theorem md_gr_skip {A : Nat → Nat → Bool} {P : Nat → Bool} {k : Nat} (h : P k = false) (v : Nat) : md_gr A (fun e => P e && decide (e < k + 1)) v = md_gr A (fun e => P e && decide (e < k)) v := by
  rw [Bool.eq_iff_iff, md_gr_iff, md_gr_iff]
  constructor
  · rintro ⟨e, he, a, b⟩
    rw [Bool.and_eq_true, decide_eq_true_iff] at a
    by_cases c : e = k
    · rw [c, h] at a; simp at a
    · exact ⟨e, he, by rw [Bool.and_eq_true, decide_eq_true_iff]; exact ⟨a.1, by omega⟩, b⟩
  · rintro ⟨e, he, a, b⟩
    rw [Bool.and_eq_true, decide_eq_true_iff] at a
    exact ⟨e, he, by rw [Bool.and_eq_true, decide_eq_true_iff]; exact ⟨a.1, by omega⟩, b⟩
theorem md_gr_none {A : Nat → Nat → Bool} {P : Nat → Bool} (v : Nat) : md_gr A (fun e => P e && decide (e < 0)) v = false := by
  rw [← Bool.not_eq_true, md_gr_iff]
  rintro ⟨e, _, a, _⟩
  simp at a
theorem md_gr_full {A : Nat → Nat → Bool} {P : Nat → Bool} (v : Nat) : md_gr A (fun e => P e && decide (e < 8)) v = md_gr A P v := by
  rw [Bool.eq_iff_iff, md_gr_iff, md_gr_iff]
  constructor
  · rintro ⟨e, he, a, b⟩
    rw [Bool.and_eq_true] at a
    exact ⟨e, he, a.1, b⟩
  · rintro ⟨e, he, a, b⟩
    exact ⟨e, he, by simp [a, he], b⟩
theorem ys_fp149 {A : Nat → Nat → Bool} {E V : Nat → Bool} (f_equations f_variables f_greatest f_excess f_excessOnes f_known f_blocks : Int32) (a_kind a_value a_before a_constant a_latest a_there a_shown a_coefficient a_old a_inside a_most a_more a_blockEquations a_blockVariables a_goodPairs a_matrix : Nat → Int32) (hin : ∀ e, e < 8 → a_inside e = nI (md_mk 8 (A e))) (post : SY → Prop) (h : post (f_equations, f_variables, f_greatest, f_excess, (nI (md_mk 8 (md_loe A E V))), f_excessOnes, (nI (md_mk 8 (md_loo A E V))), f_known, f_blocks, a_kind, a_value, a_before, a_constant, a_latest, a_there, a_shown, a_coefficient, a_old, a_inside, a_most, a_more, a_blockEquations, a_blockVariables, a_goodPairs, a_matrix)) : ∀ d i, i + d = 8 → wY_findParts_149 post f_equations f_variables f_greatest f_excess f_excessOnes (nI (md_mk 8 (md_loo A E V))) f_known f_blocks a_kind a_value a_before a_constant a_latest a_there a_shown a_coefficient a_old a_inside a_most a_more a_blockEquations a_blockVariables a_goodPairs a_matrix (d + 1) (nI i) (nI (md_mk 8 (fun v => md_loe A E V v && decide (v < i)))) := by
  intro d
  induction d with
  | zero =>
    intro i hi
    rw [show i = 8 by omega, ni_full]
    exact br_t (nI_le (a := 8) (b := 8) (by omega) (by decide)) h
  | succ d ih =>
    intro i hi
    have hi8 : i < 8 := by omega
    refine br_f (nI_ge (b := 8) hi8 (by decide)) ⟨vp_in_nI hi8 (by decide), ?_⟩
    rw [nI_clamp (by omega), hin i hi8, ni_and]
    refine br_c (fun hh => nm_r (nI_1 i) ?_) (fun hh => nm_r (ni_push (P := md_loe A E V) hi8 ?_) (nm_r (nI_1 i) (ih (i + 1) (by omega))))
    · rw [ni_keep (P := md_loe A E V) (by
        unfold md_loe
        rw [← Bool.not_eq_true, md_an_iff]
        rintro ⟨v, hv, hb⟩
        rw [ni_z.mp hh v hv] at hb
        simp at hb)]
      exact ih (i + 1) (by omega)
    · unfold md_loe
      rw [md_an_iff]
      exact ni_nz.mp hh
theorem ys_fp22 {A : Nat → Nat → Bool} {E V : Nat → Bool} (f_known f_blocks : Int32) (a_kind a_value a_before a_constant a_latest a_there a_shown a_coefficient a_old a_inside a_blockEquations a_blockVariables a_goodPairs a_matrix : Nat → Int32) (hin : ∀ e, e < 8 → a_inside e = nI (md_mk 8 (A e))) (post : SY → Prop) (h : ∀ f g, post ((nI (md_mk 8 E)), (nI (md_mk 8 V)), (nI (md_tau A E V)), (nI (md_mk 8 (md_exc A E V))), (nI (md_mk 8 (md_loe A E V))), (nI (md_mk 8 (md_exv A E V))), (nI (md_mk 8 (md_loo A E V))), f_known, f_blocks, a_kind, a_value, a_before, a_constant, a_latest, a_there, a_shown, a_coefficient, a_old, a_inside, f, g, a_blockEquations, a_blockVariables, a_goodPairs, a_matrix)) : ∀ d i f g, i + d = 8 → wY_findParts_22 post (d + 1) (nI i) (nI (md_mk 8 E)) (nI (md_mk 8 V)) (nI (md_tau A E V)) (nI (md_mk 8 (fun e => md_exc A E V e && decide (e < i)))) 0 (nI (md_mk 8 (md_gr A (fun e => md_exc A E V e && decide (e < i))))) (nI (md_mk 8 (fun v => md_loo A E V v && decide (v < i)))) f_known f_blocks a_kind a_value a_before a_constant a_latest a_there a_shown a_coefficient a_old a_inside f g a_blockEquations a_blockVariables a_goodPairs a_matrix := by
  intro d
  induction d with
  | zero =>
    intro i f g hi
    rw [show i = 8 by omega, ni_full, ni_full]
    have e1 : nI (md_mk 8 (md_gr A (fun e => md_exc A E V e && decide (e < 8)))) = nI (md_mk 8 (md_exv A E V)) := ni_cg (fun v _ => md_gr_full v)
    rw [e1]
    refine br_t (nI_le (a := 8) (b := 8) (by omega) (by decide)) ⟨9, ?_⟩
    have h1 := ys_fp149 (A := A) (E := E) (V := V) (nI (md_mk 8 E)) (nI (md_mk 8 V)) (nI (md_tau A E V)) (nI (md_mk 8 (md_exc A E V)))  (nI (md_mk 8 (md_exv A E V)))  f_known f_blocks a_kind a_value a_before a_constant a_latest a_there a_shown a_coefficient a_old a_inside f g a_blockEquations a_blockVariables a_goodPairs a_matrix hin post (h f g) 8 0 rfl
    rw [← ni_none] at h1
    exact h1
  | succ d ih =>
    intro i f g hi
    have hi8 : i < 8 := by omega
    have h92 : ∀ f g, wY_findParts_92 post (wY_findParts_22 post (d + 1)) (nI i) (nI (md_mk 8 E)) (nI (md_mk 8 V)) (nI (md_tau A E V)) (nI (md_mk 8 (fun e => md_exc A E V e && decide (e < i + 1)))) 0 (nI (md_mk 8 (md_gr A (fun e => md_exc A E V e && decide (e < i + 1))))) (nI (md_mk 8 (fun v => md_loo A E V v && decide (v < i)))) f_known f_blocks a_kind a_value a_before a_constant a_latest a_there a_shown a_coefficient a_old a_inside f g a_blockEquations a_blockVariables a_goodPairs a_matrix := by
      intro f g
      unfold wY_findParts_92
      cases hV : V i with
      | true =>
        refine br_t (md_b1 hi8 hV) ?_
        rw [ni_shl hi8, ni_sd]
        refine ys_pairs _ _ _ _ _ _ _ f_known f_blocks a_kind a_value a_before a_constant a_latest a_there a_shown a_coefficient a_old a_inside f g a_blockEquations a_blockVariables a_goodPairs a_matrix hin _ (fun f' g' => ?_)
        refine br_c (fun hh => ?_) (fun hh => nm_r (nI_1 i) ?_)
        · rw [← ni_shl hi8]
          refine nm_r (ni_push (P := md_loo A E V) hi8 ?_) (nm_r (nI_1 i) (ih (i + 1) f' g' (by omega)))
          have hh2 : nI (md_tau A E (md_rm V i)) = nI (md_tau A E V) := hh
          rw [nI_eq (by have := md_tau_le A E (md_rm V i); omega) (by have := md_tau_le A E V; omega)] at hh2
          unfold md_loo
          rw [hV, hh2]; simp
        · have h2 := ih (i + 1) f' g' (by omega)
          rw [← ni_keep (P := md_loo A E V) (by
            unfold md_loo
            rw [hV, Bool.true_and, beq_eq_false_iff_ne]
            exact fun e => hh (congrArg nI e))] at h2
          exact h2
      | false =>
        refine br_f (md_b1n hi8 hV) (nm_r (nI_1 i) ?_)
        have h2 := ih (i + 1) f g (by omega)
        rw [← ni_keep (P := md_loo A E V) (by unfold md_loo; rw [hV]; rfl)] at h2
        exact h2
    have hno : md_exc A E V i = false → ∀ f g, wY_findParts_92 post (wY_findParts_22 post (d + 1)) (nI i) (nI (md_mk 8 E)) (nI (md_mk 8 V)) (nI (md_tau A E V)) (nI (md_mk 8 (fun e => md_exc A E V e && decide (e < i)))) 0 (nI (md_mk 8 (md_gr A (fun e => md_exc A E V e && decide (e < i))))) (nI (md_mk 8 (fun v => md_loo A E V v && decide (v < i)))) f_known f_blocks a_kind a_value a_before a_constant a_latest a_there a_shown a_coefficient a_old a_inside f g a_blockEquations a_blockVariables a_goodPairs a_matrix := by
      intro hn f g
      have h2 := h92 f g
      rw [← ni_keep hn] at h2
      have e2 : nI (md_mk 8 (md_gr A (fun e => md_exc A E V e && decide (e < i + 1)))) = nI (md_mk 8 (md_gr A (fun e => md_exc A E V e && decide (e < i)))) := ni_cg (fun v _ => md_gr_skip hn v)
      rw [e2] at h2
      exact h2
    refine br_f (nI_ge (b := 8) hi8 (by decide)) ?_
    cases hE : E i with
    | true =>
      refine br_t (md_b1 hi8 hE) ?_
      rw [ni_shl hi8, ni_sd]
      refine ys_pairs _ _ _ _ _ _ _ f_known f_blocks a_kind a_value a_before a_constant a_latest a_there a_shown a_coefficient a_old a_inside f g a_blockEquations a_blockVariables a_goodPairs a_matrix hin _ (fun f' g' => ?_)
      refine br_c (fun hh => ?_) (fun hh => ?_)
      · have hx : md_exc A E V i = true := by
          have hh2 : nI (md_tau A (md_rm E i) V) = nI (md_tau A E V) := hh
          rw [nI_eq (by have := md_tau_le A (md_rm E i) V; omega) (by have := md_tau_le A E V; omega)] at hh2
          unfold md_exc
          rw [hE, hh2]; simp
        rw [← ni_shl hi8]
        refine nm_r (ni_push (P := md_exc A E V) hi8 hx) ⟨vp_in_nI hi8 (by decide), ?_⟩
        rw [nI_clamp (by omega), hin i hi8, ni_or]
        refine nm_r (e' := nI (md_mk 8 (md_gr A (fun e => md_exc A E V e && decide (e < i + 1))))) (ni_cg (fun v _ => (md_gr_pre hi8 hx v).symm)) ?_
        exact h92 f' g'
      · refine hno ?_ f' g'
        unfold md_exc
        rw [hE, Bool.true_and, beq_eq_false_iff_ne]
        exact fun e => hh (congrArg nI e)
    | false =>
      refine br_f (md_b1n hi8 hE) (hno ?_ f g)
      unfold md_exc
      rw [hE]; rfl
theorem ys_fp {A : Nat → Nat → Bool} {E V : Nat → Bool} (f_excess f_loose f_excessOnes f_looseOnes f_known f_blocks : Int32) (a_kind a_value a_before a_constant a_latest a_there a_shown a_coefficient a_old a_inside a_most a_more a_blockEquations a_blockVariables a_goodPairs a_matrix : Nat → Int32) (hin : ∀ e, e < 8 → a_inside e = nI (md_mk 8 (A e))) (post : SY → Prop) (h : ∀ f g, post ((nI (md_mk 8 E)), (nI (md_mk 8 V)), (nI (md_tau A E V)), (nI (md_mk 8 (md_exc A E V))), (nI (md_mk 8 (md_loe A E V))), (nI (md_mk 8 (md_exv A E V))), (nI (md_mk 8 (md_loo A E V))), f_known, f_blocks, a_kind, a_value, a_before, a_constant, a_latest, a_there, a_shown, a_coefficient, a_old, a_inside, f, g, a_blockEquations, a_blockVariables, a_goodPairs, a_matrix)) : wpY_findParts post ((nI (md_mk 8 E)), (nI (md_mk 8 V)), (nI (md_tau A E V)), f_excess, f_loose, f_excessOnes, f_looseOnes, f_known, f_blocks, a_kind, a_value, a_before, a_constant, a_latest, a_there, a_shown, a_coefficient, a_old, a_inside, a_most, a_more, a_blockEquations, a_blockVariables, a_goodPairs, a_matrix) := by
  unfold wpY_findParts
  have h1 := ys_fp22        f_known f_blocks a_kind a_value a_before a_constant a_latest a_there a_shown a_coefficient a_old a_inside   a_blockEquations a_blockVariables a_goodPairs a_matrix hin post h 8 0 a_most a_more rfl
  rw [← ni_none, ← ni_none] at h1
  have e2 : nI (md_mk 8 (md_gr A (fun e => md_exc A E V e && decide (e < 0)))) = 0 := by
    rw [ni_0]; exact ni_cg (fun v _ => md_gr_none v)
  rw [e2] at h1
  exact ⟨9, h1⟩
theorem ys_gp_v {A : Nat → Nat → Bool} {E V : Nat → Bool} (hA : md_in A E V) {i : Nat} (hi8 : i < 8) (f_excess f_loose f_excessOnes f_looseOnes f_known f_blocks : Int32) (a_kind a_value a_before a_constant a_latest a_there a_shown a_coefficient a_old a_inside a_blockEquations a_blockVariables a_matrix : Nat → Int32) (hin : ∀ e, e < 8 → a_inside e = nI (md_mk 8 (A e))) (post : SY → Prop) (J : Int32 → Int32 → Int32 → Int32 → Int32 → Int32 → Int32 → Int32 → Int32 → Int32 → (Nat → Int32) → (Nat → Int32) → (Nat → Int32) → (Nat → Int32) → (Nat → Int32) → (Nat → Int32) → (Nat → Int32) → (Nat → Int32) → (Nat → Int32) → (Nat → Int32) → (Nat → Int32) → (Nat → Int32) → (Nat → Int32) → (Nat → Int32) → (Nat → Int32) → (Nat → Int32) → Prop) (hJ : ∀ f g q, (∀ e, e < i + 1 → q e = nI (md_mk 8 (md_god A E V e))) → J (nI (i + 1)) (nI (md_mk 8 E)) (nI (md_mk 8 V)) (nI (md_tau A E V)) f_excess f_loose f_excessOnes f_looseOnes f_known f_blocks a_kind a_value a_before a_constant a_latest a_there a_shown a_coefficient a_old a_inside f g a_blockEquations a_blockVariables q a_matrix) : ∀ d v f g q, v + d = 8 → (∀ e, e < i → q e = nI (md_mk 8 (md_god A E V e))) → q i = nI (md_mk 8 (fun w => md_god A E V i w && decide (w < v))) → wY_know_193 post J (nI i) (d + 1) (nI v) (nI (md_mk 8 E)) (nI (md_mk 8 V)) (nI (md_tau A E V)) f_excess f_loose f_excessOnes f_looseOnes f_known f_blocks a_kind a_value a_before a_constant a_latest a_there a_shown a_coefficient a_old a_inside f g a_blockEquations a_blockVariables q a_matrix := by
  intro d
  induction d with
  | zero =>
    intro v f g q hv h1 h2
    rw [show v = 8 by omega] at h2 ⊢
    rw [ni_full] at h2
    refine br_t (nI_le (a := 8) (b := 8) (by omega) (by decide)) (nm_r (nI_1 i) (hJ f g q (fun e he => ?_)))
    by_cases e1 : e = i
    · rw [e1]; exact h2
    · exact h1 e (by omega)
  | succ d ih =>
    intro v f g q hv h1 h2
    have hv8 : v < 8 := by omega
    refine br_f (nI_ge (b := 8) hv8 (by decide)) ⟨vp_in_nI hi8 (by decide), ?_⟩
    rw [nI_clamp (by omega), hin i hi8]
    cases ha : A i v with
    | false =>
      refine br_f (md_b1n hv8 ha) (nm_r (nI_1 v) (ih (v + 1) f g q (by omega) h1 ?_))
      rw [h2, ni_keep (P := md_god A E V i) (by unfold md_god; rw [ha]; rfl)]
    | true =>
      obtain ⟨hE, hV⟩ := hA i v hi8 hv8 ha
      have t0 := md_tau_rm2 hi8 hv8 hE hV ha
      have t2 := md_tau_le A E V
      refine br_t (md_b1 hv8 ha) ?_
      rw [ni_shl hi8, ni_sd, ni_shl hv8, ni_sd]
      refine ys_pairs _ _ _ f_excess f_loose f_excessOnes f_looseOnes f_known f_blocks a_kind a_value a_before a_constant a_latest a_there a_shown a_coefficient a_old a_inside f g a_blockEquations a_blockVariables q a_matrix hin _ (fun f' g' => ?_)
      have e3 : nI (md_tau A E V) - 1 = nI (md_tau A E V - 1) := by
        show nI (md_tau A E V) - nI 1 = _
        rw [pk_sub (by omega)]
      dsimp only
      rw [e3]
      refine br_c (fun hh => ?_) (fun hh => nm_r (nI_1 v) (ih (v + 1) f' g' q (by omega) h1 ?_))
      · have hh2 : nI (md_tau A (md_rm E i) (md_rm V v)) = nI (md_tau A E V - 1) := hh
        rw [nI_eq (by omega) (by omega)] at hh2
        rw [← ni_shl hv8]
        refine ⟨vp_in_nI hi8 (by decide), vp_in_nI hi8 (by decide), nm_e (nm_r (nI_1 v) (ih (v + 1) f' g' _ (by omega) (fun e he => ?_) ?_))⟩
        · rw [pk_un (by omega)]; exact h1 e he
        · rw [pk_us, h2]
          refine ni_push hv8 ?_
          unfold md_god
          rw [ha, Bool.true_and, beq_iff_eq]
          omega
      · rw [h2, ni_keep (P := md_god A E V i) (by
          unfold md_god
          rw [ha, Bool.true_and, beq_eq_false_iff_ne]
          intro e
          apply hh
          show nI (md_tau A (md_rm E i) (md_rm V v)) = nI (md_tau A E V - 1)
          congr 1
          omega)]
theorem ys_gp {A : Nat → Nat → Bool} {E V : Nat → Bool} (hA : md_in A E V) (f_excess f_loose f_excessOnes f_looseOnes f_known f_blocks : Int32) (a_kind a_value a_before a_constant a_latest a_there a_shown a_coefficient a_old a_inside a_blockEquations a_blockVariables a_matrix : Nat → Int32) (hin : ∀ e, e < 8 → a_inside e = nI (md_mk 8 (A e))) (post : SY → Prop) (h : ∀ f g q, (∀ e, e < 8 → q e = nI (md_mk 8 (md_god A E V e))) → wpY_findBlocks (fun u => post u) ((nI (md_mk 8 E)), (nI (md_mk 8 V)), (nI (md_tau A E V)), f_excess, f_loose, f_excessOnes, f_looseOnes, f_known, f_blocks, a_kind, a_value, a_before, a_constant, a_latest, a_there, a_shown, a_coefficient, a_old, a_inside, f, g, a_blockEquations, a_blockVariables, q, a_matrix)) : ∀ d i f g q, i + d = 8 → (∀ e, e < i → q e = nI (md_mk 8 (md_god A E V e))) → wY_know_178 post (d + 1) (nI i) (nI (md_mk 8 E)) (nI (md_mk 8 V)) (nI (md_tau A E V)) f_excess f_loose f_excessOnes f_looseOnes f_known f_blocks a_kind a_value a_before a_constant a_latest a_there a_shown a_coefficient a_old a_inside f g a_blockEquations a_blockVariables q a_matrix := by
  intro d
  induction d with
  | zero =>
    intro i f g q hi h1
    rw [show i = 8 by omega] at h1 ⊢
    exact br_t (nI_le (a := 8) (b := 8) (by omega) (by decide)) (h f g q h1)
  | succ d ih =>
    intro i f g q hi h1
    have hi8 : i < 8 := by omega
    refine br_f (nI_ge (b := 8) hi8 (by decide)) ⟨vp_in_nI hi8 (by decide), nm_e ⟨9, ?_⟩⟩
    rw [nI_clamp (by omega)]
    refine ys_gp_v hA hi8    f_excess f_loose f_excessOnes f_looseOnes f_known f_blocks a_kind a_value a_before a_constant a_latest a_there a_shown a_coefficient a_old a_inside   a_blockEquations a_blockVariables  a_matrix hin post _ (fun f' g' q' hq' => ih (i + 1) f' g' q' (by omega) hq') 8 0 f g (upd q i 0) rfl (fun e he => ?_) ?_
    · rw [pk_un (by omega)]; exact h1 e he
    · rw [pk_us]; exact ni_none _
