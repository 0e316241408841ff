theorem md_ne1 {r : Nat} (h : r < 2 ^ 31) : ¬ nI r = -1 := by
  intro hh
  have h1 := congrArg Int32.toInt hh
  rw [nI_toInt h] at h1
  have h2 : (-1 : Int32).toInt = -1 := rfl
  rw [h2] at h1
  omega
theorem xs_el_l {cf : Nat → Nat} {R W : Nat → Bool} (hW8 : ∀ j, W j = true → j < 8) (f_equationsThere f_stale f_unknowns f_pairs f_excessEquations f_excessVariables f_looseEquations f_looseVariables f_blockCount f_firstSingular : Int32) (a_kinds a_given a_found a_constants a_coefficients a_oldCoefficients a_reach a_goodReach a_blockEquations a_blockVariables a_rests : Nat → Int32) (post : Int32 → SX → Prop) (h1 : ∀ f sb g ro, md_gN g f → (∀ v, v < 8 → W v = true → sb v = nI (ro v)) → md_ns (md_Kq cf) R W → md_un R W ro (md_gx g) → md_cb (md_Kq cf) (md_gx g) → md_sp R (md_gx g) → post 1 (f_equationsThere, f_stale, f_unknowns, f_pairs, f_excessEquations, f_excessVariables, f_looseEquations, f_looseVariables, f_blockCount, f_firstSingular, a_kinds, a_given, a_found, a_constants, a_coefficients, a_oldCoefficients, a_reach, a_goodReach, a_blockEquations, a_blockVariables, f, sb, a_rests)) (h0 : ∀ f sb, ¬ md_ns (md_Kq cf) R W → post 0 (f_equationsThere, f_stale, f_unknowns, f_pairs, f_excessEquations, f_excessVariables, f_looseEquations, f_looseVariables, f_blockCount, f_firstSingular, a_kinds, a_given, a_found, a_constants, a_coefficients, a_oldCoefficients, a_reach, a_goodReach, a_blockEquations, a_blockVariables, f, sb, a_rests)) : ∀ d v f sb g ro U, v + d = 8 → md_gN g f → (∀ j, j < 8 → W j = true → j < v → sb j = nI (ro j)) → md_XE (md_Kq cf) R W v g ro U → wX_eliminate_9 post (nI (md_mk 8 W)) (d + 1) (nI (md_mk 8 U)) (nI v) f_equationsThere f_stale f_unknowns f_pairs f_excessEquations f_excessVariables f_looseEquations f_looseVariables f_blockCount f_firstSingular a_kinds a_given a_found a_constants a_coefficients a_oldCoefficients a_reach a_goodReach a_blockEquations a_blockVariables f sb a_rests := by
  intro d
  induction d with
  | zero =>
    intro v f sb g ro U hv hg hsb hx
    rw [show v = 8 by omega] at hx hsb ⊢
    obtain ⟨a1, a2, a3, a4⟩ := md_XE_ok hx hW8
    exact br_t (nI_le (a := 8) (b := 8) (by omega) (by decide)) (h1 f sb g ro hg (fun j hj hw => hsb j hj hw hj) a1 a2 a3 a4)
  | succ d ih =>
    intro v f sb g ro U hv hg hsb hx
    have hv8 : v < 8 := by omega
    refine br_f (nI_ge (b := 8) hv8 (by decide)) (xs_has W hv8 (fun hW => ?_) (fun hW => nm_r (nI_1 v) ?_))
    · refine xs_us hv8 f_equationsThere f_stale f_unknowns f_pairs f_excessEquations f_excessVariables f_looseEquations f_looseVariables f_blockCount f_firstSingular a_kinds a_given a_found a_constants a_coefficients a_oldCoefficients a_reach a_goodReach a_blockEquations a_blockVariables f sb a_rests hg _ (fun r hr hu => ?_) (fun hn => ?_)
      · have hu2 : U r = true ∧ g (r * 16 + v) ≠ 0 := by
          unfold md_us at hu
          simp at hu
          exact hu
        refine br_f (md_ne1 (by omega)) ⟨vp_in_nI hv8 (by decide), nm_e ?_⟩
        rw [nI_clamp (by omega), ni_shl hr, ni_sd]
        refine nm_e ?_
        refine xs_sc hr hv8 f_equationsThere f_stale f_unknowns f_pairs f_excessEquations f_excessVariables f_looseEquations f_looseVariables f_blockCount f_firstSingular a_kinds a_given a_found a_constants a_coefficients a_oldCoefficients a_reach a_goodReach a_blockEquations a_blockVariables f (upd sb v (nI r)) a_rests hg hu2.2 _ (fun f1 g1 b1 b2 b3 => ?_)
        show wpX_clearColumn _ (f_equationsThere, f_stale, f_unknowns, f_pairs, f_excessEquations, f_excessVariables, f_looseEquations, f_looseVariables, f_blockCount, f_firstSingular, a_kinds, a_given, a_found, a_constants, a_coefficients, a_oldCoefficients, a_reach, a_goodReach, a_blockEquations, a_blockVariables, f1, (upd sb v (nI r)), a_rests) _ _
        refine xs_cl hr hv8 f_equationsThere f_stale f_unknowns f_pairs f_excessEquations f_excessVariables f_looseEquations f_looseVariables f_blockCount f_firstSingular a_kinds a_given a_found a_constants a_coefficients a_oldCoefficients a_reach a_goodReach a_blockEquations a_blockVariables f1 (upd sb v (nI r)) a_rests b1 _ (fun f2 g2 c1 c2 => ?_)
        refine nm_r (nI_1 v) ?_
        have hp : md_pv (fun _ => true) 16 r v (md_gx g) (md_gx g2) := by
          refine md_pv_X hr hv8 (md_iv_q (hg _ (by omega)).2 hu2.2) (fun e he => (hg _ (by omega)).2) b2 b3 (fun c hc => ?_) (fun e he hne c hc => ?_)
          · rw [c2 r hr c hc, if_neg (by omega)]
          · rw [c2 e he c hc, if_pos ⟨he, hne⟩]
        refine ih (v + 1) f2 (upd sb v (nI r)) g2 (fun j => if j = v then r else ro j) (fun e => U e && !(e == r)) (by omega) c1 (fun j hj hw hlt => ?_) (md_XE_piv hx hv8 hW hr hu2.1 (fun j hj => (c1 j hj).2) hp)
        by_cases e : j = v
        · rw [e, pk_us, if_pos rfl]
        · rw [pk_un e, if_neg e]; exact hsb j hj hw (by omega)
      · refine br_t rfl (h0 f sb (md_XE_fail hx hv8 hW hW8 (fun e he hU => ?_)))
        have := hn e he
        unfold md_us at this
        rw [hU] at this
        simpa using this
    · exact ih (v + 1) f sb g ro U (by omega) hg (fun j hj hw hlt => by
        by_cases e : j = v
        · rw [e, hW] at hw; simp at hw
        · exact hsb j hj hw (by omega)) (md_XE_skip hx hW)
theorem md_fg_g {cf : Nat → Nat} {f : Nat → Int32} (hc1 : ∀ j, cf j < 101) (h : md_fg cf 8 0 f) : ∃ g, md_gN g f ∧ (∀ e i, e < 8 → i < 8 → g (e * 16 + i) = cf (e * 8 + i)) ∧ ∀ e i, e < 8 → i < 8 → g (e * 16 + (8 + i)) = if e = i then 1 else 0 := by
  refine ⟨fun j => if j % 16 < 8 then cf (j / 16 * 8 + j % 16) else if j / 16 = j % 16 - 8 then 1 else 0, fun j hj => ?_, fun e i he hi => ?_, fun e i he hi => ?_⟩
  · dsimp only
    by_cases h1 : j % 16 < 8
    · rw [if_pos h1]
      have h2 := (h (j / 16) (j % 16) (by omega) h1 (by omega)).1
      rw [show j / 16 * 16 + j % 16 = j by omega] at h2
      exact ⟨h2, hc1 _⟩
    · rw [if_neg h1]
      have h2 := (h (j / 16) (j % 16 - 8) (by omega) (by omega) (by omega)).2
      rw [show j / 16 * 16 + (8 + (j % 16 - 8)) = j by omega] at h2
      refine ⟨h2, ?_⟩
      split <;> decide
  · dsimp only
    rw [show (e * 16 + i) % 16 = i by omega, show (e * 16 + i) / 16 = e by omega, if_pos hi]
  · dsimp only
    rw [show (e * 16 + (8 + i)) % 16 = 8 + i by omega, show (e * 16 + (8 + i)) / 16 = e by omega, if_neg (by omega), show 8 + i - 8 = i by omega]
theorem xs_el {cf : Nat → Nat} {R W : Nat → Bool} (hW8 : ∀ j, W j = true → j < 8) (f_equationsThere f_stale f_unknowns f_pairs f_excessEquations f_excessVariables f_looseEquations f_looseVariables f_blockCount f_firstSingular : Int32) (a_kinds a_given a_found a_constants a_coefficients a_oldCoefficients a_reach a_goodReach a_blockEquations a_blockVariables a_grid a_solvedBy a_rests : Nat → Int32) (hc : ∀ j, a_coefficients j = nI (cf j)) (hc1 : ∀ j, cf j < 101) (post : Int32 → SX → Prop) (h1 : ∀ f sb g ro, md_gN g f → (∀ v, v < 8 → W v = true → sb v = nI (ro v)) → md_ns (md_Kq cf) R W → md_un R W ro (md_gx g) → md_cb (md_Kq cf) (md_gx g) → md_sp R (md_gx g) → post 1 (f_equationsThere, f_stale, f_unknowns, f_pairs, f_excessEquations, f_excessVariables, f_looseEquations, f_looseVariables, f_blockCount, f_firstSingular, a_kinds, a_given, a_found, a_constants, a_coefficients, a_oldCoefficients, a_reach, a_goodReach, a_blockEquations, a_blockVariables, f, sb, a_rests)) (h0 : ∀ f sb, ¬ md_ns (md_Kq cf) R W → post 0 (f_equationsThere, f_stale, f_unknowns, f_pairs, f_excessEquations, f_excessVariables, f_looseEquations, f_looseVariables, f_blockCount, f_firstSingular, a_kinds, a_given, a_found, a_constants, a_coefficients, a_oldCoefficients, a_reach, a_goodReach, a_blockEquations, a_blockVariables, f, sb, a_rests)) : wpX_eliminate post (f_equationsThere, f_stale, f_unknowns, f_pairs, f_excessEquations, f_excessVariables, f_looseEquations, f_looseVariables, f_blockCount, f_firstSingular, a_kinds, a_given, a_found, a_constants, a_coefficients, a_oldCoefficients, a_reach, a_goodReach, a_blockEquations, a_blockVariables, a_grid, a_solvedBy, a_rests) (nI (md_mk 8 R)) (nI (md_mk 8 W)) := by
  unfold wpX_eliminate
  refine xs_fg f_equationsThere f_stale f_unknowns f_pairs f_excessEquations f_excessVariables f_looseEquations f_looseVariables f_blockCount f_firstSingular a_kinds a_given a_found a_constants a_coefficients a_oldCoefficients a_reach a_goodReach a_blockEquations a_blockVariables a_grid a_solvedBy a_rests hc _ (fun f hf => ⟨9, ?_⟩)
  obtain ⟨g, g1, g2, g3⟩ := md_fg_g hc1 hf
  exact xs_el_l hW8 f_equationsThere f_stale f_unknowns f_pairs f_excessEquations f_excessVariables f_looseEquations f_looseVariables f_blockCount f_firstSingular a_kinds a_given a_found a_constants a_coefficients a_oldCoefficients a_reach a_goodReach a_blockEquations a_blockVariables   a_rests post h1 h0 8 0 f a_solvedBy g (fun _ => 0) R rfl g1 (fun j _ _ hlt => by omega) (md_XE_0 _ hc1 g2 g3)
theorem xs_bal {A : Nat → Nat → Bool} {E V : Nat → Bool} {P Q : Prop} (f_equationsThere f_stale f_unknowns f_pairs f_blockCount f_firstSingular : Int32) (a_kinds a_given a_found a_constants a_coefficients a_oldCoefficients a_reach a_goodReach a_blockEquations a_blockVariables a_grid a_solvedBy a_rests : Nat → Int32) (h1 : md_balb A E V = true → Q) (h0 : md_balb A E V = false → P) : wpX_isBalanced (fun r => (r = 0 → P) ∧ (¬ r = 0 → Q)) (f_equationsThere, f_stale, f_unknowns, f_pairs, (nI (md_mk 8 (md_exc A E V))), (nI (md_mk 8 (md_exv A E V))), (nI (md_mk 8 (md_loe A E V))), (nI (md_mk 8 (md_loo A E V))), f_blockCount, f_firstSingular, a_kinds, a_given, a_found, a_constants, a_coefficients, a_oldCoefficients, a_reach, a_goodReach, a_blockEquations, a_blockVariables, a_grid, a_solvedBy, a_rests) := by
  unfold wpX_isBalanced
  dsimp only
  rw [ni_or, ni_or, ni_or]
  cases hb : md_balb A E V with
  | true =>
    refine br_t ?_ (br_f (by decide) (h1 hb))
    rw [ni_z]
    intro i hi
    have hbal := md_balb_iff.mp hb
    have e1 : md_exv A E V i = false := by
      unfold md_exv
      rw [← Bool.not_eq_true, md_an_iff]
      rintro ⟨e, he, hh⟩
      rw [Bool.and_eq_true, hbal.1 e he] at hh
      simp at hh
    have e2 : md_loe A E V i = false := by
      unfold md_loe
      rw [← Bool.not_eq_true, md_an_iff]
      rintro ⟨v, hv, hh⟩
      rw [Bool.and_eq_true, hbal.2 v hv] at hh
      simp at hh
    rw [hbal.1 i hi, hbal.2 i hi, e1, e2]; rfl
  | false =>
    refine br_f (fun hz => ?_) (br_t rfl (h0 hb))
    rw [ni_z] at hz
    have : md_balb A E V = true := md_balb_iff.mpr ⟨fun e he => by
      have := hz e he
      simp at this
      exact this.1.1.1, fun v hv => by
      have := hz v hv
      simp at this
      exact this.2⟩
    rw [hb] at this
    simp at this
theorem md_fi_at {p : Nat → Bool} {b : Nat} (hb : b < 8) (h1 : p b = true) (h2 : ∀ j, j < b → p j = false) : md_fi p 8 0 = b := by
  have hlt : md_fi p 8 0 < 8 := by
    apply Classical.byContradiction
    intro hn
    have := md_fi_none 8 0 rfl hn b (by omega) hb
    rw [h1] at this
    simp at this
  obtain ⟨_, h3⟩ := md_fi_some (p := p) 8 0 rfl hlt
  apply Classical.byContradiction
  intro hne
  by_cases h4 : md_fi p 8 0 < b
  · rw [h2 _ h4] at h3; simp at h3
  · have := md_fi_bf (p := p) 8 0 rfl b (by omega) (by omega)
    rw [h1] at this
    simp at this
theorem md_fs_at {K : Nat → Nat → Fin 101} {A : Nat → Nat → Bool} {E V : Nat → Bool} {b : Nat} (hb : b < md_Q A E V) (h1 : ¬ md_ns K (md_B A E V b) (md_gr (md_god A E V) (md_B A E V b))) (h2 : ∀ j, j < b → md_ns K (md_B A E V j) (md_gr (md_god A E V) (md_B A E V j))) : md_fs K A E V = b := by
  have hq := md_Q_le A E V
  refine md_fi_at (by omega) ?_ (fun j hj => ?_)
  · have : md_nsb K (md_B A E V b) (md_gr (md_god A E V) (md_B A E V b)) = false := by
      cases hn : md_nsb K (md_B A E V b) (md_gr (md_god A E V) (md_B A E V b)) with
      | false => rfl
      | true => exact absurd (md_nsb_t.mp hn) h1
    rw [this, decide_eq_true hb]; rfl
  · rw [md_nsb_t.mpr (h2 j hj)]; simp
theorem md_fs_8 {K : Nat → Nat → Fin 101} {A : Nat → Nat → Bool} {E V : Nat → Bool} (h : ∀ j, j < md_Q A E V → md_ns K (md_B A E V j) (md_gr (md_god A E V) (md_B A E V j))) : ¬ md_fs K A E V < 8 := by
  intro hlt
  obtain ⟨_, h3⟩ := md_fi_some (p := fun b => decide (b < md_Q A E V) && !md_nsb K (md_B A E V b) (md_gr (md_god A E V) (md_B A E V b))) 8 0 rfl hlt
  rw [Bool.and_eq_true] at h3
  have h4 := h _ (of_decide_eq_true h3.1)
  rw [md_nsb_t.mpr h4] at h3
  simp at h3
theorem md_B_8 {A : Nat → Nat → Bool} {E V : Nat → Bool} (hA8 : ∀ e v, A e v = true → v < 8) (H : Nat → Bool) : ∀ j, md_gr (md_god A E V) H j = true → j < 8 := by
  intro j h
  obtain ⟨k, _, _, g⟩ := md_gr_iff.mp h
  exact hA8 k j (md_god_A g)
theorem xs_fs_l {cf : Nat → Nat} {A : Nat → Nat → Bool} {E V : Nat → Bool} (hA8 : ∀ e v, A e v = true → v < 8) (hb : md_balb A E V = true) (f_equationsThere f_stale f_unknowns f_pairs f_excessEquations f_excessVariables f_looseEquations f_looseVariables : Int32) (a_kinds a_given a_found a_constants a_coefficients a_oldCoefficients a_reach a_goodReach a_blockEquations a_blockVariables a_rests : Nat → Int32) (hc : ∀ j, a_coefficients j = nI (cf j)) (hc1 : ∀ j, cf j < 101) (hB : md_bx2 A E V (md_Q A E V) a_blockEquations a_blockVariables) (post : SX → Prop) (h : ∀ f sb, post (f_equationsThere, f_stale, f_unknowns, f_pairs, f_excessEquations, f_excessVariables, f_looseEquations, f_looseVariables, (nI (md_Q A E V)), (md_FS (md_Kq cf) A E V), a_kinds, a_given, a_found, a_constants, a_coefficients, a_oldCoefficients, a_reach, a_goodReach, a_blockEquations, a_blockVariables, f, sb, a_rests)) : ∀ d b f sb, b + d = md_Q A E V → (∀ j, j < b → md_ns (md_Kq cf) (md_B A E V j) (md_gr (md_god A E V) (md_B A E V j))) → wX_findFirstSingular_15 post (d + 2) (nI b) f_equationsThere f_stale f_unknowns f_pairs f_excessEquations f_excessVariables f_looseEquations f_looseVariables (nI (md_Q A E V)) (-1) a_kinds a_given a_found a_constants a_coefficients a_oldCoefficients a_reach a_goodReach a_blockEquations a_blockVariables f sb a_rests := by
  have hq := md_Q_le A E V
  intro d
  induction d with
  | zero =>
    intro b f sb hbd hns
    have e1 : md_FS (md_Kq cf) A E V = -1 := by
      unfold md_FS
      rw [if_neg]
      intro hh
      exact md_fs_8 (fun j hj => hns j (by omega)) hh.2
    have h2 := h f sb
    rw [e1] at h2
    exact br_t (nI_le (by omega) (by omega)) h2
  | succ d ih =>
    intro b f sb hbd hns
    have hb8 : b < 8 := by omega
    obtain ⟨b1, b2⟩ := hB b (by omega)
    refine br_f (nI_ge (by omega) (by omega)) (br_t rfl ⟨vp_in_nI hb8 (by decide), vp_in_nI hb8 (by decide), ?_⟩)
    rw [nI_clamp (by omega), b1, b2]
    refine xs_el (md_B_8 hA8 _) f_equationsThere f_stale f_unknowns f_pairs f_excessEquations f_excessVariables f_looseEquations f_looseVariables _ _ a_kinds a_given a_found a_constants a_coefficients a_oldCoefficients a_reach a_goodReach a_blockEquations a_blockVariables f sb a_rests hc hc1 _ (fun f' sb' g ro a1 a2 a3 a4 a5 a6 => ?_) (fun f' sb' a => ?_)
    · refine br_f (by decide) (nm_r (nI_1 b) (ih (b + 1) f' sb' (by omega) (fun j hj => ?_)))
      by_cases e : j = b
      · rw [e]; exact a3
      · exact hns j (by omega)
    · have e0 := md_fs_at (b := b) (by omega) a hns
      have e1 : md_FS (md_Kq cf) A E V = nI b := by
        unfold md_FS
        rw [e0, if_pos ⟨hb, hb8⟩]
      have h2 := h f' sb'
      rw [e1] at h2
      refine br_t rfl (nm_r (nI_1 b) (br_c (fun _ => h2) (fun _ => br_f (md_ne1 (by omega)) h2)))
theorem xs_fs {cf : Nat → Nat} {A : Nat → Nat → Bool} {E V : Nat → Bool} (hA8 : ∀ e v, A e v = true → v < 8) (f_equationsThere f_stale f_unknowns f_pairs f_firstSingular : Int32) (a_kinds a_given a_found a_constants a_coefficients a_oldCoefficients a_reach a_goodReach a_blockEquations a_blockVariables a_grid a_solvedBy a_rests : Nat → Int32) (hc : ∀ j, a_coefficients j = nI (cf j)) (hc1 : ∀ j, cf j < 101) (hB : md_bx2 A E V (md_Q A E V) a_blockEquations a_blockVariables) (post : SX → Prop) (h : ∀ f sb, post (f_equationsThere, f_stale, f_unknowns, f_pairs, (nI (md_mk 8 (md_exc A E V))), (nI (md_mk 8 (md_exv A E V))), (nI (md_mk 8 (md_loe A E V))), (nI (md_mk 8 (md_loo A E V))), (nI (md_Q A E V)), (md_FS (md_Kq cf) A E V), a_kinds, a_given, a_found, a_constants, a_coefficients, a_oldCoefficients, a_reach, a_goodReach, a_blockEquations, a_blockVariables, f, sb, a_rests)) : wpX_findFirstSingular post (f_equationsThere, f_stale, f_unknowns, f_pairs, (nI (md_mk 8 (md_exc A E V))), (nI (md_mk 8 (md_exv A E V))), (nI (md_mk 8 (md_loe A E V))), (nI (md_mk 8 (md_loo A E V))), (nI (md_Q A E V)), f_firstSingular, a_kinds, a_given, a_found, a_constants, a_coefficients, a_oldCoefficients, a_reach, a_goodReach, a_blockEquations, a_blockVariables, a_grid, a_solvedBy, a_rests) := by
  unfold wpX_findFirstSingular
  refine xs_bal f_equationsThere f_stale f_unknowns f_pairs     _ _ a_kinds a_given a_found a_constants a_coefficients a_oldCoefficients a_reach a_goodReach a_blockEquations a_blockVariables a_grid a_solvedBy a_rests (fun hb => ⟨md_Q A E V + 2, ?_⟩) (fun hb => ?_)
  · exact xs_fs_l hA8 hb f_equationsThere f_stale f_unknowns f_pairs _ _ _ _   a_kinds a_given a_found a_constants a_coefficients a_oldCoefficients a_reach a_goodReach a_blockEquations a_blockVariables   a_rests hc hc1 hB post h (md_Q A E V) 0 a_grid a_solvedBy (by omega) (fun j hj => by omega)
  · have h2 := h a_grid a_solvedBy
    have e1 : md_FS (md_Kq cf) A E V = -1 := by
      unfold md_FS
      rw [if_neg]
      intro hh
      rw [hb] at hh
      simp at hh
    rw [e1] at h2
    exact h2
def md_XL (kd cf : Nat → Nat) (m : Nat) (unk prs exE exV loE loV bc fs : Int32) (rea goo bE bV grid sol : Nat → Int32) : Prop := md_XA (md_Ak kd cf m) (md_Em m) (md_Vk kd) unk prs exE exV loE loV bc rea goo bE bV ∧ fs = md_FS (md_Kq cf) (md_Ak kd cf m) (md_Em m) (md_Vk kd) ∧ (md_balb (md_Ak kd cf m) (md_Em m) (md_Vk kd) = true → ¬ md_fs (md_Kq cf) (md_Ak kd cf m) (md_Em m) (md_Vk kd) < 8 → md_XG (md_Kq cf) (md_Em m) (md_Vk kd) grid sol)
theorem md_Ak_8 {kd cf : Nat → Nat} {m : Nat} : ∀ e v, md_Ak kd cf m e v = true → v < 8 := by
  intro e v h
  unfold md_Ak at h
  simp at h
  exact md_Vk_8 h.1.2
theorem md_FS_m1 {K : Nat → Nat → Fin 101} {A : Nat → Nat → Bool} {E V : Nat → Bool} (hb : md_balb A E V = true) : md_FS K A E V = -1 ↔ ¬ md_fs K A E V < 8 := by
  unfold md_FS
  constructor
  · intro h hlt
    rw [if_pos ⟨hb, hlt⟩] at h
    exact md_ne1 (by omega) h
  · intro h
    rw [if_neg (fun hh => h hh.2)]
theorem xs_ref {kd cf : Nat → Nat} {m : Nat} (f_stale f_unknowns f_pairs f_excessEquations f_excessVariables f_looseEquations f_looseVariables f_blockCount f_firstSingular : Int32) (a_kinds a_given a_found a_constants a_coefficients a_oldCoefficients a_reach a_goodReach a_blockEquations a_blockVariables a_grid a_solvedBy a_rests : Nat → Int32) (hk : ∀ j, a_kinds j = nI (kd j)) (hk4 : ∀ j, kd j < 4) (hc : ∀ j, a_coefficients j = nI (cf j)) (hc1 : ∀ j, cf j < 101) (hst : f_stale = 0 → md_XL kd cf m f_unknowns f_pairs f_excessEquations f_excessVariables f_looseEquations f_looseVariables f_blockCount f_firstSingular a_reach a_goodReach a_blockEquations a_blockVariables a_grid a_solvedBy) (post : SX → Prop) (h : ∀ unk prs exE exV loE loV bc fs rea goo bE bV grid sol, md_XL kd cf m unk prs exE exV loE loV bc fs rea goo bE bV grid sol → post ((nI (md_mk 8 (md_Em m))), 0, unk, prs, exE, exV, loE, loV, bc, fs, a_kinds, a_given, a_found, a_constants, a_coefficients, a_oldCoefficients, rea, goo, bE, bV, grid, sol, a_rests)) : wpX_refresh post ((nI (md_mk 8 (md_Em m))), f_stale, f_unknowns, f_pairs, f_excessEquations, f_excessVariables, f_looseEquations, f_looseVariables, f_blockCount, f_firstSingular, a_kinds, a_given, a_found, a_constants, a_coefficients, a_oldCoefficients, a_reach, a_goodReach, a_blockEquations, a_blockVariables, a_grid, a_solvedBy, a_rests) := by
  unfold wpX_refresh
  refine br_c (fun h0 => ?_) (fun h0 => ?_)
  · rw [h0]
    exact h _ _ _ _ _ _ _ _ _ _ _ _ _ _ (hst h0)
  · refine xs_unks _ f_stale f_unknowns f_pairs f_excessEquations f_excessVariables f_looseEquations f_looseVariables f_blockCount f_firstSingular a_kinds a_given a_found a_constants a_coefficients a_oldCoefficients a_reach a_goodReach a_blockEquations a_blockVariables a_grid a_solvedBy a_rests hk hk4 _ ?_
    show wpX_findReach _ ((nI (md_mk 8 (md_Em m))), f_stale, (nI (md_mk 8 (md_Vk kd))), f_pairs, f_excessEquations, f_excessVariables, f_looseEquations, f_looseVariables, f_blockCount, f_firstSingular, a_kinds, a_given, a_found, a_constants, a_coefficients, a_oldCoefficients, a_reach, a_goodReach, a_blockEquations, a_blockVariables, a_grid, a_solvedBy, a_rests)
    refine xs_rea  f_stale  f_pairs f_excessEquations f_excessVariables f_looseEquations f_looseVariables f_blockCount f_firstSingular a_kinds a_given a_found a_constants a_coefficients a_oldCoefficients a_reach a_goodReach a_blockEquations a_blockVariables a_grid a_solvedBy a_rests hc hc1 _ (fun rea hre => ?_)
    show wpX_greatest _ ((nI (md_mk 8 (md_Em m))), f_stale, (nI (md_mk 8 (md_Vk kd))), f_pairs, f_excessEquations, f_excessVariables, f_looseEquations, f_looseVariables, f_blockCount, f_firstSingular, a_kinds, a_given, a_found, a_constants, a_coefficients, a_oldCoefficients, rea, a_goodReach, a_blockEquations, a_blockVariables, a_grid, a_solvedBy, a_rests) _ _
    refine xs_great _ f_stale _ f_pairs f_excessEquations f_excessVariables f_looseEquations f_looseVariables f_blockCount f_firstSingular a_kinds a_given a_found a_constants a_coefficients a_oldCoefficients rea a_goodReach a_blockEquations a_blockVariables a_grid a_solvedBy a_rests hre _ ?_
    refine xs_exc  f_stale   f_excessEquations f_excessVariables f_looseEquations f_looseVariables f_blockCount f_firstSingular a_kinds a_given a_found a_constants a_coefficients a_oldCoefficients rea a_goodReach a_blockEquations a_blockVariables a_grid a_solvedBy a_rests hre _ ?_
    show wpX_findLoose _ _
    refine xs_loo  f_stale   _ _ f_looseEquations f_looseVariables f_blockCount f_firstSingular a_kinds a_given a_found a_constants a_coefficients a_oldCoefficients rea a_goodReach a_blockEquations a_blockVariables a_grid a_solvedBy a_rests hre _ ?_
    show wpX_findGoodPairs _ _
    refine xs_gp  f_stale   _ _ _ _ f_blockCount f_firstSingular a_kinds a_given a_found a_constants a_coefficients a_oldCoefficients rea a_goodReach a_blockEquations a_blockVariables a_grid a_solvedBy a_rests hre _ (fun goo hgo => ?_)
    show wpX_findBlocks _ _
    refine xs_fb (md_Ak_in kd cf m)  f_stale  _     f_blockCount f_firstSingular a_kinds a_given a_found a_constants a_coefficients a_oldCoefficients rea goo a_blockEquations a_blockVariables a_grid a_solvedBy a_rests hre hgo _ (fun bE bV hB => ?_)
    show wpX_findFirstSingular _ _
    refine xs_fs md_Ak_8 _ f_stale _ _      f_firstSingular a_kinds a_given a_found a_constants a_coefficients a_oldCoefficients rea goo bE bV a_grid a_solvedBy a_rests hc hc1 hB _ (fun f sb => ?_)
    show wpX_isBalanced _ _
    have hXA : md_XA (md_Ak kd cf m) (md_Em m) (md_Vk kd) _ _ _ _ _ _ _ rea goo bE bV := ⟨rfl, rfl, rfl, rfl, rfl, rfl, rfl, hre, hgo, hB⟩
    refine xs_bal _ f_stale _ _     _ _ a_kinds a_given a_found a_constants a_coefficients a_oldCoefficients rea goo bE bV f sb a_rests (fun hb => ?_) (fun hb => ?_)
    · refine br_c (fun hf => ?_) (fun hf => ?_)
      · have hfs := (md_FS_m1 hb).mp hf
        have hns := md_whole_ns hb hfs
        refine xs_el (fun j hj => md_Vk_8 hj) _ f_stale _ _ _ _ _ _ _ _ a_kinds a_given a_found a_constants a_coefficients a_oldCoefficients rea goo bE bV f sb a_rests hc hc1 _ (fun f' sb' g ro a1 a2 a3 a4 a5 a6 => ?_) (fun f' sb' a => absurd hns a)
        exact h _ _ _ _ _ _ _ _ _ _ _ _ _ _ ⟨hXA, rfl, fun _ _ => ⟨g, ro, a1, a2, a4, a5, a6⟩⟩
      · exact h _ _ _ _ _ _ _ _ _ _ _ _ _ _ ⟨hXA, rfl, fun _ hfs => absurd ((md_FS_m1 hb).mpr hfs) hf⟩
    · exact h _ _ _ _ _ _ _ _ _ _ _ _ _ _ ⟨hXA, rfl, fun hb' => by rw [hb] at hb'; simp at hb'⟩
