theorem md_orp {i k : Nat} (hk : k < 2 ^ i) : 2 ^ i ||| k = 2 ^ i + k := by
  have := Nat.two_pow_add_eq_or_of_lt hk 1
  rw [Nat.mul_one] at this
  exact this.symm
theorem md_gr_or (A : Nat → Nat → Bool) {i : Nat} (hi : i < 8) (k v : Nat) : md_gr A (fun j => (2 ^ i ||| k).testBit j) v = (md_gr A (fun j => k.testBit j) v || A i v) := by
  rw [Bool.eq_iff_iff, Bool.or_eq_true, md_gr_iff, md_gr_iff]
  constructor
  · rintro ⟨e, he, h1, h2⟩
    rw [Nat.testBit_or, Bool.or_eq_true, Nat.testBit_two_pow] at h1
    rcases h1 with h1 | h1
    · have : i = e := by simpa using h1
      rw [this]; exact Or.inr h2
    · exact Or.inl ⟨e, he, h1, h2⟩
  · rintro (⟨e, he, h1, h2⟩ | h)
    · exact ⟨e, he, by rw [Nat.testBit_or, h1, Bool.or_true], h2⟩
    · exact ⟨i, hi, by rw [Nat.testBit_or, Nat.testBit_two_pow_self]; rfl, h⟩
def md_rx (A : Nat → Nat → Bool) (N : Nat) (f : Nat → Int32) : Prop := ∀ s, s < N → f s = nI (md_mk 8 (md_gr A (fun i => s.testBit i)))
theorem md_rx_put {A : Nat → Nat → Bool} {i k : Nat} {f : Nat → Int32} (hi : i < 8) (hk : k < 2 ^ i) (h : md_rx A (2 ^ i + k) f) : md_rx A (2 ^ i + (k + 1)) (upd f (2 ^ i + k) (f k ||| nI (md_mk 8 (A i)))) := by
  intro s hs
  show (if s = 2 ^ i + k then f k ||| nI (md_mk 8 (A i)) else f s) = _
  by_cases e : s = 2 ^ i + k
  · rw [if_pos e, h k (by omega), ni_or, e]
    refine ni_cg (fun v _ => ?_)
    rw [← md_orp hk, md_gr_or A hi]
  · rw [if_neg e]; exact h s (by omega)
theorem md_rx_0 (A : Nat → Nat → Bool) (f : Nat → Int32) : md_rx A (2 ^ 0) (upd f 0 0) := by
  intro s hs
  have : s = 0 := by omega
  rw [this]
  show (0 : Int32) = _
  rw [ni_0]
  refine ni_cg (fun v _ => ?_)
  cases hg : md_gr A (fun i => Nat.testBit 0 i) v with
  | false => rfl
  | true =>
    obtain ⟨k, _, h1, _⟩ := md_gr_iff.mp hg
    simp at h1
theorem md_p256 : ∀ i, i < 8 → 2 ^ i + 2 ^ i = 2 ^ (i + 1) ∧ 2 ^ i + 2 ^ i ≤ 256 ∧ 0 < 2 ^ i := by decide
theorem xs_rea_in {A : Nat → Nat → Bool} (f_equationsThere f_stale f_unknowns f_pairs f_excessEquations f_excessVariables f_looseEquations f_looseVariables f_blockCount f_firstSingular : Int32) (a_kinds a_given a_found a_constants a_coefficients a_oldCoefficients a_goodReach a_blockEquations a_blockVariables a_grid a_solvedBy a_rests : Nat → Int32) {i : Nat} (hi : i < 8) (post : SX → Prop) (J : Int32 → (Nat → Int32) → (Nat → Int32) → (Nat → Int32) → (Nat → Int32) → (Nat → Int32) → (Nat → Int32) → (Nat → Int32) → (Nat → Int32) → (Nat → Int32) → (Nat → Int32) → (Nat → Int32) → (Nat → Int32) → (Nat → Int32) → Prop) (hJ : ∀ f, md_rx A (2 ^ (i + 1)) f → J (nI (i + 1)) a_kinds a_given a_found a_constants a_coefficients a_oldCoefficients f a_goodReach a_blockEquations a_blockVariables a_grid a_solvedBy a_rests) : ∀ d k f, k + d = 2 ^ i → md_rx A (2 ^ i + k) f → wX_findReach_28 post J (nI i) (nI (md_mk 8 (A i))) (nI (2 ^ i)) f_equationsThere f_stale f_unknowns f_pairs f_excessEquations f_excessVariables f_looseEquations f_looseVariables f_blockCount f_firstSingular (d + 1) (nI k) a_kinds a_given a_found a_constants a_coefficients a_oldCoefficients f a_goodReach a_blockEquations a_blockVariables a_grid a_solvedBy a_rests := by
  obtain ⟨p1, p2, p3⟩ := md_p256 i hi
  intro d
  induction d with
  | zero =>
    intro k f hk hf
    rw [show k = 2 ^ i by omega] at hf ⊢
    rw [p1] at hf
    exact br_t (nI_le (Nat.le_refl _) (by omega)) (nm_r (nI_1 i) (hJ f hf))
  | succ d ih =>
    intro k f hk hf
    have e1 : nI (2 ^ i) ||| nI k = nI (2 ^ i + k) := by rw [nx_or, md_orp (by omega)]
    refine br_f (nI_ge (by omega) (by omega)) ⟨vp_in_nI (by omega) (by decide), ?_⟩
    rw [e1, nI_clamp (n := 2 ^ i + k) (by omega), nI_clamp (n := k) (by omega)]
    exact ⟨vp_in_nI (by omega) (by decide), nm_e (nm_r (nI_1 k) (ih (k + 1) _ (by omega) (md_rx_put hi (by omega) hf)))⟩
theorem xs_rea_out {kd cf : Nat → Nat} {m : Nat} (f_stale f_pairs f_excessEquations f_excessVariables f_looseEquations f_looseVariables f_blockCount f_firstSingular : Int32) (a_kinds a_given a_found a_constants a_coefficients a_oldCoefficients a_goodReach a_blockEquations a_blockVariables a_grid a_solvedBy a_rests : Nat → Int32) (hc : ∀ j, a_coefficients j = nI (cf j)) (hc1 : ∀ j, cf j < 101) (post : SX → Prop) (h : ∀ f, md_rx (md_Ak kd cf m) 256 f → post ((nI (md_mk 8 (md_Em m))), f_stale, (nI (md_mk 8 (md_Vk kd))), f_pairs, f_excessEquations, f_excessVariables, f_looseEquations, f_looseVariables, f_blockCount, f_firstSingular, a_kinds, a_given, a_found, a_constants, a_coefficients, a_oldCoefficients, f, a_goodReach, a_blockEquations, a_blockVariables, a_grid, a_solvedBy, a_rests)) : ∀ d i f, i + d = 8 → md_rx (md_Ak kd cf m) (2 ^ i) f → wX_findReach_9 post (nI (md_mk 8 (md_Em m))) f_stale (nI (md_mk 8 (md_Vk kd))) f_pairs f_excessEquations f_excessVariables f_looseEquations f_looseVariables f_blockCount f_firstSingular (d + 1) (nI i) a_kinds a_given a_found a_constants a_coefficients a_oldCoefficients f a_goodReach a_blockEquations a_blockVariables a_grid a_solvedBy a_rests := by
  intro d
  induction d with
  | zero =>
    intro i f hi hf
    rw [show i = 8 by omega] at hf ⊢
    exact br_t (nI_le (a := 8) (b := 8) (by omega) (by decide)) (h f hf)
  | succ d ih =>
    intro i f hi hf
    have hi8 : i < 8 := by omega
    refine br_f (nI_ge (b := 8) hi8 (by decide)) ?_
    refine xs_uin hi8  f_stale  f_pairs f_excessEquations f_excessVariables f_looseEquations f_looseVariables f_blockCount f_firstSingular a_kinds a_given a_found a_constants a_coefficients a_oldCoefficients f a_goodReach a_blockEquations a_blockVariables a_grid a_solvedBy a_rests hc hc1 _ ?_
    refine nm_r (md_shl1 i hi8) ⟨2 ^ i + 1, ?_⟩
    exact xs_rea_in (nI (md_mk 8 (md_Em m))) f_stale (nI (md_mk 8 (md_Vk kd))) f_pairs f_excessEquations f_excessVariables f_looseEquations f_looseVariables f_blockCount f_firstSingular a_kinds a_given a_found a_constants a_coefficients a_oldCoefficients  a_goodReach a_blockEquations a_blockVariables a_grid a_solvedBy a_rests hi8 post _ (fun f' hf' => ih (i + 1) f' (by omega) hf') (2 ^ i) 0 f (by omega) hf
theorem xs_rea {kd cf : Nat → Nat} {m : Nat} (f_stale f_pairs f_excessEquations f_excessVariables f_looseEquations f_looseVariables f_blockCount f_firstSingular : Int32) (a_kinds a_given a_found a_constants a_coefficients a_oldCoefficients a_reach a_goodReach a_blockEquations a_blockVariables a_grid a_solvedBy a_rests : Nat → Int32) (hc : ∀ j, a_coefficients j = nI (cf j)) (hc1 : ∀ j, cf j < 101) (post : SX → Prop) (h : ∀ f, md_rx (md_Ak kd cf m) 256 f → post ((nI (md_mk 8 (md_Em m))), f_stale, (nI (md_mk 8 (md_Vk kd))), f_pairs, f_excessEquations, f_excessVariables, f_looseEquations, f_looseVariables, f_blockCount, f_firstSingular, a_kinds, a_given, a_found, a_constants, a_coefficients, a_oldCoefficients, f, a_goodReach, a_blockEquations, a_blockVariables, a_grid, a_solvedBy, a_rests)) : wpX_findReach post ((nI (md_mk 8 (md_Em m))), f_stale, (nI (md_mk 8 (md_Vk kd))), f_pairs, f_excessEquations, f_excessVariables, f_looseEquations, f_looseVariables, f_blockCount, f_firstSingular, a_kinds, a_given, a_found, a_constants, a_coefficients, a_oldCoefficients, a_reach, a_goodReach, a_blockEquations, a_blockVariables, a_grid, a_solvedBy, a_rests) := by
  unfold wpX_findReach
  exact nm_e ⟨9, xs_rea_out  f_stale  f_pairs f_excessEquations f_excessVariables f_looseEquations f_looseVariables f_blockCount f_firstSingular a_kinds a_given a_found a_constants a_coefficients a_oldCoefficients  a_goodReach a_blockEquations a_blockVariables a_grid a_solvedBy a_rests hc hc1 post h 8 0 _ rfl (md_rx_0 _ _)⟩
theorem xs_exc_l {A : Nat → Nat → Bool} {E V : Nat → Bool} (f_stale f_excessVariables f_looseEquations f_looseVariables f_blockCount f_firstSingular : Int32) (a_kinds a_given a_found a_constants a_coefficients a_oldCoefficients a_reach a_goodReach a_blockEquations a_blockVariables a_grid a_solvedBy a_rests : Nat → Int32) (hre : md_rx A 256 a_reach) (post : SX → Prop) (h : post ((nI (md_mk 8 E)), f_stale, (nI (md_mk 8 V)), (nI (md_tau A E V)), (nI (md_mk 8 (md_exc A E V))), (nI (md_mk 8 (md_exv A E V))), f_looseEquations, f_looseVariables, f_blockCount, f_firstSingular, a_kinds, a_given, a_found, a_constants, a_coefficients, a_oldCoefficients, a_reach, a_goodReach, a_blockEquations, a_blockVariables, a_grid, a_solvedBy, a_rests)) : ∀ d i, i + d = 8 → wX_findExcess_7 post (nI (md_mk 8 E)) f_stale (nI (md_mk 8 V)) (nI (md_tau A E V)) f_excessVariables f_looseEquations f_looseVariables f_blockCount f_firstSingular a_kinds a_given a_found a_constants a_coefficients a_oldCoefficients a_reach a_goodReach a_blockEquations a_blockVariables a_grid a_solvedBy a_rests (d + 1) (nI i) (nI (md_mk 8 (fun v => md_exc A E V v && decide (v < i)))) := by
  intro d
  induction d with
  | zero =>
    intro i hi
    rw [show i = 8 by omega, ni_full]
    refine br_t (nI_le (a := 8) (b := 8) (by omega) (by decide)) ⟨vp_in_nI (md_mk8 _) (by decide), nm_r (md_reaP hre _) h⟩
  | succ d ih =>
    intro i hi
    have hi8 : i < 8 := by omega
    refine br_f (nI_ge (b := 8) hi8 (by decide)) (xs_has E hi8 (fun hE => ?_) (fun hE => nm_r (nI_1 i) ?_))
    · rw [ni_shl hi8, ni_sd]
      refine xs_great (nI (md_mk 8 E)) f_stale (nI (md_mk 8 V)) (nI (md_tau A E V)) _ f_excessVariables f_looseEquations f_looseVariables f_blockCount f_firstSingular a_kinds a_given a_found a_constants a_coefficients a_oldCoefficients a_reach a_goodReach a_blockEquations a_blockVariables a_grid a_solvedBy a_rests hre _ ?_
      refine br_c (fun hh => ?_) (fun hh => nm_r (nI_1 i) ?_)
      · rw [← ni_shl hi8]
        refine nm_r (ni_push (P := md_exc A E V) hi8 ?_) (nm_r (nI_1 i) (ih (i + 1) (by omega)))
        have hh2 : nI (md_tau A (md_rm E i) V) = nI (md_tau A E V) := hh
        rw [nI_eq (by have := md_tau_le A (md_rm E i) V; omega) (by have := md_tau_le A E V; omega)] at hh2
        unfold md_exc
        rw [hE, hh2]; simp
      · rw [ni_keep (P := md_exc A E V) (by
          unfold md_exc
          rw [hE, Bool.true_and, beq_eq_false_iff_ne]
          exact fun e => hh (congrArg nI e))]
        exact ih (i + 1) (by omega)
    · rw [ni_keep (P := md_exc A E V) (by unfold md_exc; rw [hE]; rfl)]
      exact ih (i + 1) (by omega)
theorem xs_exc {A : Nat → Nat → Bool} {E V : Nat → Bool} (f_stale f_excessEquations f_excessVariables f_looseEquations f_looseVariables f_blockCount f_firstSingular : Int32) (a_kinds a_given a_found a_constants a_coefficients a_oldCoefficients a_reach a_goodReach a_blockEquations a_blockVariables a_grid a_solvedBy a_rests : Nat → Int32) (hre : md_rx A 256 a_reach) (post : SX → Prop) (h : post ((nI (md_mk 8 E)), f_stale, (nI (md_mk 8 V)), (nI (md_tau A E V)), (nI (md_mk 8 (md_exc A E V))), (nI (md_mk 8 (md_exv A E V))), f_looseEquations, f_looseVariables, f_blockCount, f_firstSingular, a_kinds, a_given, a_found, a_constants, a_coefficients, a_oldCoefficients, a_reach, a_goodReach, a_blockEquations, a_blockVariables, a_grid, a_solvedBy, a_rests)) : wpX_findExcess post ((nI (md_mk 8 E)), f_stale, (nI (md_mk 8 V)), (nI (md_tau A E V)), f_excessEquations, f_excessVariables, f_looseEquations, f_looseVariables, f_blockCount, f_firstSingular, a_kinds, a_given, a_found, a_constants, a_coefficients, a_oldCoefficients, a_reach, a_goodReach, a_blockEquations, a_blockVariables, a_grid, a_solvedBy, a_rests) := by
  unfold wpX_findExcess
  have h1 := xs_exc_l  f_stale    f_excessVariables f_looseEquations f_looseVariables f_blockCount f_firstSingular a_kinds a_given a_found a_constants a_coefficients a_oldCoefficients a_reach a_goodReach a_blockEquations a_blockVariables a_grid a_solvedBy a_rests hre post h 8 0 rfl
  rw [← ni_none] at h1
  exact ⟨9, h1⟩
theorem xs_loo_e {A : Nat → Nat → Bool} {E V : Nat → Bool} (f_equationsThere f_stale f_unknowns f_pairs f_excessEquations f_excessVariables f_blockCount f_firstSingular : Int32) (a_kinds a_given a_found a_constants a_coefficients a_oldCoefficients a_reach a_goodReach a_blockEquations a_blockVariables a_grid a_solvedBy a_rests : Nat → Int32) (hre : md_rx A 256 a_reach) (post : SX → Prop) (h : post (f_equationsThere, f_stale, f_unknowns, f_pairs, f_excessEquations, f_excessVariables, (nI (md_mk 8 (md_loe A E V))), (nI (md_mk 8 (md_loo A E V))), f_blockCount, f_firstSingular, a_kinds, a_given, a_found, a_constants, a_coefficients, a_oldCoefficients, a_reach, a_goodReach, a_blockEquations, a_blockVariables, a_grid, a_solvedBy, a_rests)) : ∀ d i, i + d = 8 → wX_findLoose_74 post f_equationsThere f_stale f_unknowns f_pairs f_excessEquations f_excessVariables (nI (md_mk 8 (md_loo A E V))) f_blockCount f_firstSingular a_kinds a_given a_found a_constants a_coefficients a_oldCoefficients a_reach a_goodReach a_blockEquations a_blockVariables a_grid a_solvedBy a_rests (d + 1) (nI i) (nI (md_mk 8 (fun v => md_loe A E V v && decide (v < i)))) := by
  intro d
  induction d with
  | zero =>
    intro i hi
    rw [show i = 8 by omega, ni_full]
    exact br_t (nI_le (a := 8) (b := 8) (by omega) (by decide)) h
  | succ d ih =>
    intro i hi
    have hi8 : i < 8 := by omega
    refine br_f (nI_ge (b := 8) hi8 (by decide)) ⟨md_ixin hi8, ?_⟩
    rw [md_rea1 hre hi8, ni_and]
    refine br_c (fun hh => nm_r (nI_1 i) ?_) (fun hh => nm_r (ni_push (P := md_loe A E V) hi8 ?_) (nm_r (nI_1 i) (ih (i + 1) (by omega))))
    · rw [ni_keep (P := md_loe A E V) (by
        unfold md_loe
        rw [← Bool.not_eq_true, md_an_iff]
        rintro ⟨v, hv, hb⟩
        rw [ni_z.mp hh v hv] at hb
        simp at hb)]
      exact ih (i + 1) (by omega)
    · unfold md_loe
      rw [md_an_iff]
      exact ni_nz.mp hh
theorem xs_loo_l {A : Nat → Nat → Bool} {E V : Nat → Bool} (f_stale f_excessEquations f_excessVariables f_looseEquations f_blockCount f_firstSingular : Int32) (a_kinds a_given a_found a_constants a_coefficients a_oldCoefficients a_reach a_goodReach a_blockEquations a_blockVariables a_grid a_solvedBy a_rests : Nat → Int32) (hre : md_rx A 256 a_reach) (post : SX → Prop) (h : post ((nI (md_mk 8 E)), f_stale, (nI (md_mk 8 V)), (nI (md_tau A E V)), f_excessEquations, f_excessVariables, (nI (md_mk 8 (md_loe A E V))), (nI (md_mk 8 (md_loo A E V))), f_blockCount, f_firstSingular, a_kinds, a_given, a_found, a_constants, a_coefficients, a_oldCoefficients, a_reach, a_goodReach, a_blockEquations, a_blockVariables, a_grid, a_solvedBy, a_rests)) : ∀ d i, i + d = 8 → wX_findLoose_7 post (nI (md_mk 8 E)) f_stale (nI (md_mk 8 V)) (nI (md_tau A E V)) f_excessEquations f_excessVariables f_looseEquations f_blockCount f_firstSingular a_kinds a_given a_found a_constants a_coefficients a_oldCoefficients a_reach a_goodReach a_blockEquations a_blockVariables a_grid a_solvedBy a_rests (d + 1) (nI i) (nI (md_mk 8 (fun v => md_loo A E V v && decide (v < i)))) := by
  intro d
  induction d with
  | zero =>
    intro i hi
    rw [show i = 8 by omega, ni_full]
    refine br_t (nI_le (a := 8) (b := 8) (by omega) (by decide)) ⟨9, ?_⟩
    have h1 := xs_loo_e (A := A) (E := E) (V := V) (nI (md_mk 8 E)) f_stale (nI (md_mk 8 V)) (nI (md_tau A E V)) f_excessEquations f_excessVariables   f_blockCount f_firstSingular a_kinds a_given a_found a_constants a_coefficients a_oldCoefficients a_reach a_goodReach a_blockEquations a_blockVariables a_grid a_solvedBy a_rests hre post h 8 0 rfl
    rw [← ni_none] at h1
    exact h1
  | succ d ih =>
    intro i hi
    have hi8 : i < 8 := by omega
    refine br_f (nI_ge (b := 8) hi8 (by decide)) (xs_has V hi8 (fun hV => ?_) (fun hV => nm_r (nI_1 i) ?_))
    · rw [ni_shl hi8, ni_sd]
      refine xs_great (nI (md_mk 8 E)) f_stale (nI (md_mk 8 V)) (nI (md_tau A E V)) f_excessEquations f_excessVariables f_looseEquations _ f_blockCount f_firstSingular a_kinds a_given a_found a_constants a_coefficients a_oldCoefficients a_reach a_goodReach a_blockEquations a_blockVariables a_grid a_solvedBy a_rests hre _ ?_
      refine br_c (fun hh => ?_) (fun hh => nm_r (nI_1 i) ?_)
      · rw [← ni_shl hi8]
        refine nm_r (ni_push (P := md_loo A E V) hi8 ?_) (nm_r (nI_1 i) (ih (i + 1) (by omega)))
        have hh2 : nI (md_tau A E (md_rm V i)) = nI (md_tau A E V) := hh
        rw [nI_eq (by have := md_tau_le A E (md_rm V i); omega) (by have := md_tau_le A E V; omega)] at hh2
        unfold md_loo
        rw [hV, hh2]; simp
      · rw [ni_keep (P := md_loo A E V) (by
          unfold md_loo
          rw [hV, Bool.true_and, beq_eq_false_iff_ne]
          exact fun e => hh (congrArg nI e))]
        exact ih (i + 1) (by omega)
    · rw [ni_keep (P := md_loo A E V) (by unfold md_loo; rw [hV]; rfl)]
      exact ih (i + 1) (by omega)
theorem xs_loo {A : Nat → Nat → Bool} {E V : Nat → Bool} (f_stale f_excessEquations f_excessVariables f_looseEquations f_looseVariables f_blockCount f_firstSingular : Int32) (a_kinds a_given a_found a_constants a_coefficients a_oldCoefficients a_reach a_goodReach a_blockEquations a_blockVariables a_grid a_solvedBy a_rests : Nat → Int32) (hre : md_rx A 256 a_reach) (post : SX → Prop) (h : post ((nI (md_mk 8 E)), f_stale, (nI (md_mk 8 V)), (nI (md_tau A E V)), f_excessEquations, f_excessVariables, (nI (md_mk 8 (md_loe A E V))), (nI (md_mk 8 (md_loo A E V))), f_blockCount, f_firstSingular, a_kinds, a_given, a_found, a_constants, a_coefficients, a_oldCoefficients, a_reach, a_goodReach, a_blockEquations, a_blockVariables, a_grid, a_solvedBy, a_rests)) : wpX_findLoose post ((nI (md_mk 8 E)), f_stale, (nI (md_mk 8 V)), (nI (md_tau A E V)), f_excessEquations, f_excessVariables, f_looseEquations, f_looseVariables, f_blockCount, f_firstSingular, a_kinds, a_given, a_found, a_constants, a_coefficients, a_oldCoefficients, a_reach, a_goodReach, a_blockEquations, a_blockVariables, a_grid, a_solvedBy, a_rests) := by
  unfold wpX_findLoose
  have h1 := xs_loo_l  f_stale   f_excessEquations f_excessVariables f_looseEquations  f_blockCount f_firstSingular a_kinds a_given a_found a_constants a_coefficients a_oldCoefficients a_reach a_goodReach a_blockEquations a_blockVariables a_grid a_solvedBy a_rests hre post h 8 0 rfl
  rw [← ni_none] at h1
  exact ⟨9, h1⟩
theorem xs_god_l {A : Nat → Nat → Bool} {E V : Nat → Bool} {e : Nat} (he : e < 8) (f_stale f_excessEquations f_excessVariables f_looseEquations f_looseVariables f_blockCount f_firstSingular : Int32) (a_kinds a_given a_found a_constants a_coefficients a_oldCoefficients a_reach a_goodReach a_blockEquations a_blockVariables a_grid a_solvedBy a_rests : Nat → Int32) (hre : md_rx A 256 a_reach) (post : Int32 → Prop) (h : post (nI (md_mk 8 (md_god A E V e)))) : ∀ d i, i + d = 8 → wX_goodWith_4 post (nI e) (nI (md_mk 8 E)) f_stale (nI (md_mk 8 V)) (nI (md_tau A E V)) f_excessEquations f_excessVariables f_looseEquations f_looseVariables f_blockCount f_firstSingular a_kinds a_given a_found a_constants a_coefficients a_oldCoefficients a_reach a_goodReach a_blockEquations a_blockVariables a_grid a_solvedBy a_rests (d + 1) (nI (md_mk 8 (fun v => md_god A E V e v && decide (v < i)))) (nI i) := by
  intro d
  induction d with
  | zero =>
    intro i hi
    rw [show i = 8 by omega, ni_full]
    exact br_t (nI_le (a := 8) (b := 8) (by omega) (by decide)) h
  | succ d ih =>
    intro i hi
    have hi8 : i < 8 := by omega
    refine br_f (nI_ge (b := 8) hi8 (by decide)) ⟨md_ixin he, ?_⟩
    rw [md_rea1 hre he]
    refine xs_has (A e) hi8 (fun hA => ?_) (fun hA => nm_r (nI_1 i) ?_)
    · rw [ni_shl he, ni_sd, ni_shl hi8, ni_sd]
      refine xs_great (nI (md_mk 8 E)) f_stale (nI (md_mk 8 V)) (nI (md_tau A E V)) f_excessEquations f_excessVariables f_looseEquations f_looseVariables f_blockCount f_firstSingular a_kinds a_given a_found a_constants a_coefficients a_oldCoefficients a_reach a_goodReach a_blockEquations a_blockVariables a_grid a_solvedBy a_rests hre _ ?_
      have t1 := md_tau_le A (md_rm E e) (md_rm V i)
      have t2 := md_tau_le A E V
      rw [nI_1]
      refine br_c (fun hh => ?_) (fun hh => ?_)
      · rw [← ni_shl hi8]
        refine nm_r (ni_push (P := md_god A E V e) hi8 ?_) (nm_r (nI_1 i) (ih (i + 1) (by omega)))
        have hh2 : nI (md_tau A (md_rm E e) (md_rm V i) + 1) = nI (md_tau A E V) := hh
        rw [nI_eq (by omega) (by omega)] at hh2
        unfold md_god
        rw [hA, hh2]; simp
      · refine nm_r (e' := nI (md_mk 8 (fun v => md_god A E V e v && decide (v < i + 1)))) ?_ (nm_r (nI_1 i) (ih (i + 1) (by omega)))
        rw [← ni_keep (P := md_god A E V e) (by
          unfold md_god
          rw [hA, Bool.true_and, beq_eq_false_iff_ne]
          exact fun e => hh (congrArg nI e))]
        rw [ni_0, ni_or]
        exact ni_cg (fun v _ => Bool.or_false _)
    · rw [ni_keep (P := md_god A E V e) (by unfold md_god; rw [hA]; rfl)]
      exact ih (i + 1) (by omega)
theorem xs_god {A : Nat → Nat → Bool} {E V : Nat → Bool} {e : Nat} (he : e < 8) (f_stale f_excessEquations f_excessVariables f_looseEquations f_looseVariables f_blockCount f_firstSingular : Int32) (a_kinds a_given a_found a_constants a_coefficients a_oldCoefficients a_reach a_goodReach a_blockEquations a_blockVariables a_grid a_solvedBy a_rests : Nat → Int32) (hre : md_rx A 256 a_reach) (post : Int32 → Prop) (h : post (nI (md_mk 8 (md_god A E V e)))) : wpX_goodWith post ((nI (md_mk 8 E)), f_stale, (nI (md_mk 8 V)), (nI (md_tau A E V)), f_excessEquations, f_excessVariables, f_looseEquations, f_looseVariables, f_blockCount, f_firstSingular, a_kinds, a_given, a_found, a_constants, a_coefficients, a_oldCoefficients, a_reach, a_goodReach, a_blockEquations, a_blockVariables, a_grid, a_solvedBy, a_rests) (nI e) := by
  unfold wpX_goodWith
  have h1 := xs_god_l he  f_stale   f_excessEquations f_excessVariables f_looseEquations f_looseVariables f_blockCount f_firstSingular a_kinds a_given a_found a_constants a_coefficients a_oldCoefficients a_reach a_goodReach a_blockEquations a_blockVariables a_grid a_solvedBy a_rests hre post h 8 0 rfl
  rw [← ni_none] at h1
  exact ⟨9, h1⟩
theorem xs_gp_in {A : Nat → Nat → Bool} (f_equationsThere f_stale f_unknowns f_pairs f_excessEquations f_excessVariables f_looseEquations f_looseVariables f_blockCount f_firstSingular : Int32) (a_kinds a_given a_found a_constants a_coefficients a_oldCoefficients a_reach a_blockEquations a_blockVariables a_grid a_solvedBy a_rests : Nat → Int32) {i : Nat} (hi : i < 8) (post : SX → Prop) (J : Int32 → (Nat → Int32) → (Nat → Int32) → (Nat → Int32) → (Nat → Int32) → (Nat → Int32) → (Nat → Int32) → (Nat → Int32) → (Nat → Int32) → (Nat → Int32) → (Nat → Int32) → (Nat → Int32) → (Nat → Int32) → (Nat → Int32) → Prop) (hJ : ∀ f, md_rx A (2 ^ (i + 1)) f → J (nI (i + 1)) a_kinds a_given a_found a_constants a_coefficients a_oldCoefficients a_reach f a_blockEquations a_blockVariables a_grid a_solvedBy a_rests) : ∀ d k f, k + d = 2 ^ i → md_rx A (2 ^ i + k) f → wX_findGoodPairs_28 post J (nI i) (nI (md_mk 8 (A i))) (nI (2 ^ i)) f_equationsThere f_stale f_unknowns f_pairs f_excessEquations f_excessVariables f_looseEquations f_looseVariables f_blockCount f_firstSingular (d + 1) (nI k) a_kinds a_given a_found a_constants a_coefficients a_oldCoefficients a_reach f a_blockEquations a_blockVariables a_grid a_solvedBy a_rests := by
  obtain ⟨p1, p2, p3⟩ := md_p256 i hi
  intro d
  induction d with
  | zero =>
    intro k f hk hf
    rw [show k = 2 ^ i by omega] at hf ⊢
    rw [p1] at hf
    exact br_t (nI_le (Nat.le_refl _) (by omega)) (nm_r (nI_1 i) (hJ f hf))
  | succ d ih =>
    intro k f hk hf
    have e1 : nI (2 ^ i) ||| nI k = nI (2 ^ i + k) := by rw [nx_or, md_orp (by omega)]
    refine br_f (nI_ge (by omega) (by omega)) ⟨vp_in_nI (by omega) (by decide), ?_⟩
    rw [e1, nI_clamp (n := 2 ^ i + k) (by omega), nI_clamp (n := k) (by omega)]
    exact ⟨vp_in_nI (by omega) (by decide), nm_e (nm_r (nI_1 k) (ih (k + 1) _ (by omega) (md_rx_put hi (by omega) hf)))⟩
theorem xs_gp_out {A : Nat → Nat → Bool} {E V : Nat → Bool} (f_stale f_excessEquations f_excessVariables f_looseEquations f_looseVariables f_blockCount f_firstSingular : Int32) (a_kinds a_given a_found a_constants a_coefficients a_oldCoefficients a_reach a_blockEquations a_blockVariables a_grid a_solvedBy a_rests : Nat → Int32) (hre : md_rx A 256 a_reach) (post : SX → Prop) (h : ∀ f, md_rx (md_god A E V) 256 f → post ((nI (md_mk 8 E)), f_stale, (nI (md_mk 8 V)), (nI (md_tau A E V)), f_excessEquations, f_excessVariables, f_looseEquations, f_looseVariables, f_blockCount, f_firstSingular, a_kinds, a_given, a_found, a_constants, a_coefficients, a_oldCoefficients, a_reach, f, a_blockEquations, a_blockVariables, a_grid, a_solvedBy, a_rests)) : ∀ d i f, i + d = 8 → md_rx (md_god A E V) (2 ^ i) f → wX_findGoodPairs_9 post (nI (md_mk 8 E)) f_stale (nI (md_mk 8 V)) (nI (md_tau A E V)) f_excessEquations f_excessVariables f_looseEquations f_looseVariables f_blockCount f_firstSingular (d + 1) (nI i) a_kinds a_given a_found a_constants a_coefficients a_oldCoefficients a_reach f a_blockEquations a_blockVariables a_grid a_solvedBy a_rests := by
  intro d
  induction d with
  | zero =>
    intro i f hi hf
    rw [show i = 8 by omega] at hf ⊢
    exact br_t (nI_le (a := 8) (b := 8) (by omega) (by decide)) (h f hf)
  | succ d ih =>
    intro i f hi hf
    have hi8 : i < 8 := by omega
    refine br_f (nI_ge (b := 8) hi8 (by decide)) ?_
    refine xs_god hi8  f_stale   f_excessEquations f_excessVariables f_looseEquations f_looseVariables f_blockCount f_firstSingular a_kinds a_given a_found a_constants a_coefficients a_oldCoefficients a_reach f a_blockEquations a_blockVariables a_grid a_solvedBy a_rests hre _ ?_
    refine nm_r (md_shl1 i hi8) ⟨2 ^ i + 1, ?_⟩
    exact xs_gp_in (nI (md_mk 8 E)) f_stale (nI (md_mk 8 V)) (nI (md_tau A E V)) f_excessEquations f_excessVariables f_looseEquations f_looseVariables f_blockCount f_firstSingular a_kinds a_given a_found a_constants a_coefficients a_oldCoefficients a_reach  a_blockEquations a_blockVariables a_grid a_solvedBy a_rests hi8 post _ (fun f' hf' => ih (i + 1) f' (by omega) hf') (2 ^ i) 0 f (by omega) hf
theorem xs_gp {A : Nat → Nat → Bool} {E V : Nat → Bool} (f_stale f_excessEquations f_excessVariables f_looseEquations f_looseVariables f_blockCount f_firstSingular : Int32) (a_kinds a_given a_found a_constants a_coefficients a_oldCoefficients a_reach a_goodReach a_blockEquations a_blockVariables a_grid a_solvedBy a_rests : Nat → Int32) (hre : md_rx A 256 a_reach) (post : SX → Prop) (h : ∀ f, md_rx (md_god A E V) 256 f → post ((nI (md_mk 8 E)), f_stale, (nI (md_mk 8 V)), (nI (md_tau A E V)), f_excessEquations, f_excessVariables, f_looseEquations, f_looseVariables, f_blockCount, f_firstSingular, a_kinds, a_given, a_found, a_constants, a_coefficients, a_oldCoefficients, a_reach, f, a_blockEquations, a_blockVariables, a_grid, a_solvedBy, a_rests)) : wpX_findGoodPairs post ((nI (md_mk 8 E)), f_stale, (nI (md_mk 8 V)), (nI (md_tau A E V)), f_excessEquations, f_excessVariables, f_looseEquations, f_looseVariables, f_blockCount, f_firstSingular, a_kinds, a_given, a_found, a_constants, a_coefficients, a_oldCoefficients, a_reach, a_goodReach, a_blockEquations, a_blockVariables, a_grid, a_solvedBy, a_rests) := by
  unfold wpX_findGoodPairs
  exact nm_e ⟨9, xs_gp_out  f_stale   f_excessEquations f_excessVariables f_looseEquations f_looseVariables f_blockCount f_firstSingular a_kinds a_given a_found a_constants a_coefficients a_oldCoefficients a_reach  a_blockEquations a_blockVariables a_grid a_solvedBy a_rests hre post h 8 0 _ rfl (md_rx_0 _ _)⟩
