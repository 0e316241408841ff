theorem md_sd_or {bv g o : Nat} (hv : bv < 256) (hg : g < 256) (ho : o < 256) : md_sd (md_sd bv g) o = md_sd bv (g ||| o) := by
  refine md_tb_ext (md_sd_lt _ (md_sd_lt _ hv)) (md_sd_lt _ hv) (fun i hi => ?_)
  rw [md_sd_tb hi, md_sd_tb hi, md_sd_tb hi, Nat.testBit_or]
  cases bv.testBit i <;> cases g.testBit i <;> cases o.testBit i <;> rfl
theorem md_and_sd (a bv g : Nat) : a &&& md_sd bv g = md_sd (a &&& bv) g := by
  unfold md_sd
  rw [Nat.and_assoc]
theorem md_sd_full {bv f : Nat} (hv : bv < 256) (hf : f < 256) (hs : ∀ i, i < 8 → f.testBit i = true → bv.testBit i = true) : md_sd bv f = 0 ↔ f = bv := by
  constructor
  · intro h
    refine md_tb_ext hf hv (fun i hi => ?_)
    rw [Bool.eq_iff_iff]
    exact ⟨hs i hi, md_sub0 h i hi⟩
  · intro h
    rw [h]
    refine md_tb_ext (md_sd_lt _ hv) (by decide) (fun k hk => ?_)
    rw [md_sd_tb hk]
    cases bv.testBit k <;> simp
theorem xs_at24 {A : Nat → Nat → Bool} {B : Nat → Bool} {b bv f r : Nat} (hb : b < 8) (hv : bv < 256) (hf : f < 256) (f_equationsThere f_stale f_unknowns f_pairs f_excessEquations f_excessVariables f_looseEquations f_looseVariables f_blockCount f_firstSingular : Int32) (a_kinds a_given a_found a_constants a_coefficients a_oldCoefficients a_reach a_goodReach a_blockEquations a_blockVariables a_grid a_solvedBy a_rests : Nat → Int32) (hre : md_rx A 256 a_reach) (hE : a_blockEquations b = nI (md_mk 8 B)) (post : Int32 → Prop) (J : Int32 → Int32 → Prop) (hJ : J (nI (md_sd bv (md_tr (fun e => md_mk 8 (A e)) (md_mk 8 B) bv 8 f))) (nI (r + 1))) : ∀ d k, k + d = 8 → wX_areTears_24 post J (nI b) (nI r) f_equationsThere f_stale f_unknowns f_pairs f_excessEquations f_excessVariables f_looseEquations f_looseVariables f_blockCount f_firstSingular a_kinds a_given a_found a_constants a_coefficients a_oldCoefficients a_reach a_goodReach a_blockEquations a_blockVariables a_grid a_solvedBy a_rests (d + 1) (nI (md_sd bv (md_tr (fun e => md_mk 8 (A e)) (md_mk 8 B) bv k f))) (nI k) := by
  intro d
  induction d with
  | zero =>
    intro k hk
    rw [show k = 8 by omega]
    exact br_t (nI_le (a := 8) (b := 8) (by omega) (by decide)) (nm_r (nI_1 r) hJ)
  | succ d ih =>
    intro k hk
    have hk8 : k < 8 := by omega
    have hg := md_tr_lt (ins := fun e => md_mk 8 (A e)) (be := md_mk 8 B) hv hf k
    have e0 : md_tr (fun e => md_mk 8 (A e)) (md_mk 8 B) bv (k + 1) f = if (md_mk 8 B).testBit k = true ∧ md_sz (md_sd (md_mk 8 (A k) &&& bv) (md_tr (fun e => md_mk 8 (A e)) (md_mk 8 B) bv k f)) = 1 then md_tr (fun e => md_mk 8 (A e)) (md_mk 8 B) bv k f ||| md_sd (md_mk 8 (A k) &&& bv) (md_tr (fun e => md_mk 8 (A e)) (md_mk 8 B) bv k f) else md_tr (fun e => md_mk 8 (A e)) (md_mk 8 B) bv k f := rfl
    rw [mk_tb hk8] at e0
    have hih := ih (k + 1) (by omega)
    generalize hgd : md_tr (fun e => md_mk 8 (A e)) (md_mk 8 B) bv k f = g at e0 hg ⊢
    have ho : md_sd (md_mk 8 (A k) &&& bv) g < 256 := md_sd_lt _ (md_and_lt _ (md_mk8 _))
    refine br_f (nI_ge (b := 8) hk8 (by decide)) ⟨md_ixin hk8, ?_⟩
    rw [md_rea1 hre hk8, nx_and, md_and_sd]
    refine nm_e ⟨vp_in_nI hb (by decide), ?_⟩
    rw [nI_clamp (n := b) (by omega), hE]
    refine xs_has B hk8 (fun hB => ?_) (fun hB => nm_r (nI_1 k) ?_)
    · rw [ni_of ho]
      refine xs_size _ _ ?_
      rw [← ni_of ho]
      show ((nI (md_sz (md_sd (md_mk 8 (A k) &&& bv) g)) = 1 → _) ∧ (¬ nI (md_sz (md_sd (md_mk 8 (A k) &&& bv) g)) = 1 → _))
      have h8 := md_sz8 (md_sd (md_mk 8 (A k) &&& bv) g)
      by_cases h1 : md_sz (md_sd (md_mk 8 (A k) &&& bv) g) = 1
      · refine br_t (by rw [h1]; rfl) (nm_r (e' := nI (md_sd bv (g ||| md_sd (md_mk 8 (A k) &&& bv) g))) ?_ (nm_r (nI_1 k) ?_))
        · rw [md_andn (md_sd_lt _ hv), md_sd_or hv hg ho]
        · rw [if_pos ⟨hB, h1⟩] at e0
          rw [← e0]; exact hih
      · refine br_f (fun hh => h1 ((nI_eq (by omega) (by decide)).mp (hh : _ = nI 1))) (nm_r (nI_1 k) ?_)
        rw [if_neg (fun hh => h1 hh.2)] at e0
        rw [← e0]; exact hih
    · rw [if_neg (fun hh => by rw [hB] at hh; simp at hh)] at e0
      rw [← e0]; exact hih
theorem xs_at {A : Nat → Nat → Bool} {B W : Nat → Bool} {b t : Nat} (hb : b < 8) (ht : t < 256) (hs : ∀ i, i < 8 → t.testBit i = true → (md_mk 8 W).testBit i = true) (f_equationsThere f_stale f_unknowns f_pairs f_excessEquations f_excessVariables f_looseEquations f_looseVariables f_blockCount f_firstSingular : Int32) (a_kinds a_given a_found a_constants a_coefficients a_oldCoefficients a_reach a_goodReach a_blockEquations a_blockVariables a_grid a_solvedBy a_rests : Nat → Int32) (hre : md_rx A 256 a_reach) (hE : a_blockEquations b = nI (md_mk 8 B)) (hW : a_blockVariables b = nI (md_mk 8 W)) {P Q : Prop} (h1 : md_tt (fun e => md_mk 8 (A e)) (md_mk 8 B) (md_mk 8 W) t = true → Q) (h0 : md_tt (fun e => md_mk 8 (A e)) (md_mk 8 B) (md_mk 8 W) t = false → P) : wpX_areTears (fun r => (r = 0 → P) ∧ (¬ r = 0 → Q)) (f_equationsThere, f_stale, f_unknowns, f_pairs, f_excessEquations, f_excessVariables, f_looseEquations, f_looseVariables, f_blockCount, f_firstSingular, a_kinds, a_given, a_found, a_constants, a_coefficients, a_oldCoefficients, a_reach, a_goodReach, a_blockEquations, a_blockVariables, a_grid, a_solvedBy, a_rests) (nI t) (nI b) := by
  have hv := md_mk8 W
  have key : ∀ d n, n + d = 8 → wX_areTears_14 (fun r => (r = 0 → P) ∧ (¬ r = 0 → Q)) (nI b) f_equationsThere f_stale f_unknowns f_pairs f_excessEquations f_excessVariables f_looseEquations f_looseVariables f_blockCount f_firstSingular a_kinds a_given a_found a_constants a_coefficients a_oldCoefficients a_reach a_goodReach a_blockEquations a_blockVariables a_grid a_solvedBy a_rests (d + 1) (nI (md_sd (md_mk 8 W) (md_ti (fun e => md_mk 8 (A e)) (md_mk 8 B) (md_mk 8 W) t n))) (nI n) := by
    intro d
    induction d with
    | zero =>
      intro n hn
      rw [show n = 8 by omega]
      refine br_t (nI_le (a := 8) (b := 8) (by omega) (by decide)) ?_
      have hfull := md_sd_full hv (md_ti_lt (ins := fun e => md_mk 8 (A e)) (be := md_mk 8 B) hv ht 8) (md_ti_su (ins := fun e => md_mk 8 (A e)) (be := md_mk 8 B) hs 8)
      have hz : nI (md_sd (md_mk 8 W) (md_ti (fun e => md_mk 8 (A e)) (md_mk 8 B) (md_mk 8 W) t 8)) = 0 ↔ md_ti (fun e => md_mk 8 (A e)) (md_mk 8 B) (md_mk 8 W) t 8 = md_mk 8 W := by
        rw [md_z0 (Nat.lt_trans (md_sd_lt _ hv) (by decide))]; exact hfull
      refine br_c (fun hh => br_f (by decide) (h1 ?_)) (fun hh => br_t rfl (h0 ?_))
      · unfold md_tt
        rw [hz.mp hh]; simp
      · unfold md_tt
        rw [beq_eq_false_iff_ne]
        exact fun e => hh (hz.mpr e)
    | succ d ih =>
      intro n hn
      refine br_f (nI_ge (b := 8) (by omega) (by decide)) ⟨9, ?_⟩
      exact xs_at24 hb hv (md_ti_lt hv ht n) f_equationsThere f_stale f_unknowns f_pairs f_excessEquations f_excessVariables f_looseEquations f_looseVariables f_blockCount f_firstSingular a_kinds a_given a_found a_constants a_coefficients a_oldCoefficients a_reach a_goodReach a_blockEquations a_blockVariables a_grid a_solvedBy a_rests hre hE _ _ (ih (n + 1) (by omega)) 8 0 rfl
  unfold wpX_areTears
  refine ⟨vp_in_nI hb (by decide), ?_⟩
  rw [nI_clamp (by omega), hW]
  exact nm_r (md_andn hv t) ⟨9, key 8 0 rfl⟩
theorem md_bx_lt {ins : Nat → Nat} {be bv : Nat} (hv : bv < 256) : ∀ i, i ≤ 256 → md_bx ins be bv i < 256 := by
  intro i
  induction i with
  | zero => intro _; exact hv
  | succ i ih =>
    intro hi
    show (if md_sd i bv = 0 ∧ md_sz i < md_sz (md_bx ins be bv i) ∧ md_tt ins be bv i = true then i else md_bx ins be bv i) < 256
    split
    · omega
    · exact ih (by omega)
theorem md_iz {i bv : Nat} (hi : i < 256) : nI i &&& (nI bv ^^^ (-1)) = 0 ↔ md_sd i bv = 0 := by
  rw [md_andn hi, md_z0 (Nat.lt_trans (md_sd_lt _ hi) (by decide))]
theorem xs_szm (post : Int32 → Prop) {m : Nat} (hm : m < 256) (h : post (nI (md_sz m))) : wpX_size post (nI m) := by
  rw [ni_of hm]; exact xs_size _ _ h
theorem ys_szm (post : Int32 → Prop) {m : Nat} (hm : m < 256) (h : post (nI (md_sz m))) : wpY_size post (nI m) := by
  rw [ni_of hm]; exact ys_size _ _ h
theorem xs_te {A : Nat → Nat → Bool} {B W : Nat → Bool} {b : Nat} (hb : b < 8) (f_equationsThere f_stale f_unknowns f_pairs f_excessEquations f_excessVariables f_looseEquations f_looseVariables f_blockCount f_firstSingular : Int32) (a_kinds a_given a_found a_constants a_coefficients a_oldCoefficients a_reach a_goodReach a_blockEquations a_blockVariables a_grid a_solvedBy a_rests : Nat → Int32) (hre : md_rx A 256 a_reach) (hE : a_blockEquations b = nI (md_mk 8 B)) (hW : a_blockVariables b = nI (md_mk 8 W)) (post : Int32 → SX → Prop) (h : post (nI (md_bx (fun e => md_mk 8 (A e)) (md_mk 8 B) (md_mk 8 W) 256)) (f_equationsThere, f_stale, f_unknowns, f_pairs, f_excessEquations, f_excessVariables, f_looseEquations, f_looseVariables, f_blockCount, f_firstSingular, a_kinds, a_given, a_found, a_constants, a_coefficients, a_oldCoefficients, a_reach, a_goodReach, a_blockEquations, a_blockVariables, a_grid, a_solvedBy, a_rests)) : ∀ d i, i + d = 256 → wX_tears_27 post (nI b) f_equationsThere f_stale f_unknowns f_pairs f_excessEquations f_excessVariables f_looseEquations f_looseVariables f_blockCount f_firstSingular a_kinds a_given a_found a_constants a_coefficients a_oldCoefficients a_reach a_goodReach a_blockEquations a_blockVariables a_grid a_solvedBy a_rests (d + 1) (nI (md_bx (fun e => md_mk 8 (A e)) (md_mk 8 B) (md_mk 8 W) i)) (nI i) := by
  intro d
  induction d with
  | zero =>
    intro i hi
    rw [show i = 256 by omega]
    exact br_t (nI_le (a := 256) (b := 256) (by omega) (by decide)) h
  | succ d ih =>
    intro i hi
    have hi8 : i < 256 := by omega
    have hbl := md_bx_lt (ins := fun e => md_mk 8 (A e)) (be := md_mk 8 B) (md_mk8 W) i (by omega)
    have ex : md_bx (fun e => md_mk 8 (A e)) (md_mk 8 B) (md_mk 8 W) (i + 1) = if md_sd i (md_mk 8 W) = 0 ∧ md_sz i < md_sz (md_bx (fun e => md_mk 8 (A e)) (md_mk 8 B) (md_mk 8 W) i) ∧ md_tt (fun e => md_mk 8 (A e)) (md_mk 8 B) (md_mk 8 W) i = true then i else md_bx (fun e => md_mk 8 (A e)) (md_mk 8 B) (md_mk 8 W) i := rfl
    have hih := ih (i + 1) (by omega)
    have s1 := md_sz8 i
    have s2 := md_sz8 (md_bx (fun e => md_mk 8 (A e)) (md_mk 8 B) (md_mk 8 W) i)
    refine br_f (nI_ge (b := 256) hi8 (by decide)) ⟨vp_in_nI hb (by decide), ?_⟩
    rw [nI_clamp (n := b) (by omega), hW]
    refine br_c (fun hz => ?_) (fun hz => ?_)
    · have hz2 := (md_iz hi8).mp hz
      refine br_f (by decide) (xs_szm _ hi8 (xs_szm _ hbl (br_c (fun hh => nm_r (nI_1 i) ?_) (fun hh => ?_))))
      · rw [nI_leI (by omega) (by omega)] at hh
        rw [if_neg (fun h => by omega)] at ex
        rw [← ex]; exact hih
      · rw [nI_leI (by omega) (by omega)] at hh
        refine xs_at hb hi8 (md_sub0 hz2) f_equationsThere f_stale f_unknowns f_pairs f_excessEquations f_excessVariables f_looseEquations f_looseVariables f_blockCount f_firstSingular a_kinds a_given a_found a_constants a_coefficients a_oldCoefficients a_reach a_goodReach a_blockEquations a_blockVariables a_grid a_solvedBy a_rests hre hE hW (fun ht => nm_r (nI_1 i) ?_) (fun ht => nm_r (nI_1 i) ?_)
        · rw [if_pos ⟨hz2, by omega, ht⟩] at ex
          rw [ex] at hih
          exact hih
        · rw [if_neg (fun h => by rw [ht] at h; simp at h)] at ex
          rw [← ex]; exact hih
    · have hz2 : ¬ md_sd i (md_mk 8 W) = 0 := fun h => hz ((md_iz hi8).mpr h)
      rw [if_neg (fun h => hz2 h.1)] at ex
      refine br_t rfl (nm_r (nI_1 i) ?_)
      rw [← ex]; exact hih
theorem ys_fa17 {A : Nat → Nat → Bool} {B : Nat → Bool} {b bv f : Nat} (hb : b < 8) (hv : bv < 256) (hf : f < 256) (old : Int32) (f_equations f_variables f_greatest f_excess f_loose f_excessOnes f_looseOnes f_known f_blocks : Int32) (a_kind a_value a_before a_constant a_latest a_there a_shown a_coefficient a_old a_inside a_most a_more a_blockEquations a_blockVariables a_goodPairs a_matrix : Nat → Int32) (hin : ∀ e, e < 8 → a_inside e = nI (md_mk 8 (A e))) (hE : a_blockEquations b = nI (md_mk 8 B)) (hW : a_blockVariables b = nI bv) (post : Int32 → Prop) (J : Int32 → Int32 → Prop) (hJ : J (nI (md_tr (fun e => md_mk 8 (A e)) (md_mk 8 B) bv 8 f)) old) : ∀ d k, k + d = 8 → wY_findsAll_17 post J (nI b) old f_equations f_variables f_greatest f_excess f_loose f_excessOnes f_looseOnes f_known f_blocks a_kind a_value a_before a_constant a_latest a_there a_shown a_coefficient a_old a_inside a_most a_more a_blockEquations a_blockVariables a_goodPairs a_matrix (d + 1) (nI (md_tr (fun e => md_mk 8 (A e)) (md_mk 8 B) bv k f)) (nI k) := by
  intro d
  induction d with
  | zero =>
    intro k hk
    rw [show k = 8 by omega]
    exact br_t (nI_le (a := 8) (b := 8) (by omega) (by decide)) hJ
  | succ d ih =>
    intro k hk
    have hk8 : k < 8 := by omega
    have hg := md_tr_lt (ins := fun e => md_mk 8 (A e)) (be := md_mk 8 B) hv hf k
    have e0 : md_tr (fun e => md_mk 8 (A e)) (md_mk 8 B) bv (k + 1) f = if (md_mk 8 B).testBit k = true ∧ md_sz (md_sd (md_mk 8 (A k) &&& bv) (md_tr (fun e => md_mk 8 (A e)) (md_mk 8 B) bv k f)) = 1 then md_tr (fun e => md_mk 8 (A e)) (md_mk 8 B) bv k f ||| md_sd (md_mk 8 (A k) &&& bv) (md_tr (fun e => md_mk 8 (A e)) (md_mk 8 B) bv k f) else md_tr (fun e => md_mk 8 (A e)) (md_mk 8 B) bv k f := rfl
    rw [mk_tb hk8] at e0
    have hih := ih (k + 1) (by omega)
    generalize hgd : md_tr (fun e => md_mk 8 (A e)) (md_mk 8 B) bv k f = g at e0 hg ⊢
    have ho : md_sd (md_mk 8 (A k) &&& bv) g < 256 := md_sd_lt _ (md_and_lt _ (md_mk8 _))
    refine br_f (nI_ge (b := 8) hk8 (by decide)) ⟨vp_in_nI hk8 (by decide), vp_in_nI hb (by decide), ?_⟩
    rw [nI_clamp (n := k) (by omega), nI_clamp (n := b) (by omega), hin k hk8, hW, hE, nx_and, md_andn (md_and_lt _ (md_mk8 _))]
    refine nm_e ⟨vp_in_nI hb (by decide), ?_⟩
    cases hB : B k with
    | true =>
      refine br_t (md_b1 hk8 hB) (ys_szm _ ho ?_)
      have h8 := md_sz8 (md_sd (md_mk 8 (A k) &&& bv) g)
      by_cases h1 : md_sz (md_sd (md_mk 8 (A k) &&& bv) g) = 1
      · refine br_t (by rw [h1]; rfl) (nm_r (nx_or _ _) (nm_r (nI_1 k) ?_))
        rw [if_pos ⟨hB, h1⟩] at e0
        rw [← e0]; exact hih
      · refine br_f (fun hh => h1 ((nI_eq (by omega) (by decide)).mp (hh : _ = nI 1))) (nm_r (nI_1 k) ?_)
        rw [if_neg (fun hh => h1 hh.2)] at e0
        rw [← e0]; exact hih
    | false =>
      refine br_f (md_b1n hk8 hB) (nm_r (nI_1 k) ?_)
      rw [if_neg (fun hh => by rw [hB] at hh; simp at hh)] at e0
      rw [← e0]; exact hih
theorem ys_fa {A : Nat → Nat → Bool} {B W : Nat → Bool} {b t : Nat} (hb : b < 8) (ht : t < 256) (f_equations f_variables f_greatest f_excess f_loose f_excessOnes f_looseOnes f_known f_blocks : Int32) (a_kind a_value a_before a_constant a_latest a_there a_shown a_coefficient a_old a_inside a_most a_more a_blockEquations a_blockVariables a_goodPairs a_matrix : Nat → Int32) (hin : ∀ e, e < 8 → a_inside e = nI (md_mk 8 (A e))) (hE : a_blockEquations b = nI (md_mk 8 B)) (hW : a_blockVariables b = nI (md_mk 8 W)) {P Q : Prop} (h1 : md_tt (fun e => md_mk 8 (A e)) (md_mk 8 B) (md_mk 8 W) t = true → Q) (h0 : md_tt (fun e => md_mk 8 (A e)) (md_mk 8 B) (md_mk 8 W) t = false → P) : wpY_findsAll (fun r => (r = 0 → P) ∧ (¬ r = 0 → Q)) (f_equations, f_variables, f_greatest, f_excess, f_loose, f_excessOnes, f_looseOnes, f_known, f_blocks, a_kind, a_value, a_before, a_constant, a_latest, a_there, a_shown, a_coefficient, a_old, a_inside, a_most, a_more, a_blockEquations, a_blockVariables, a_goodPairs, a_matrix) (nI b) (nI t) := by
  have hv := md_mk8 W
  have hlt := fun n => md_ti_lt (ins := fun e => md_mk 8 (A e)) (be := md_mk 8 B) hv ht n
  have hend : ∀ n old, (old = if n = 0 then -1 else nI (md_ti (fun e => md_mk 8 (A e)) (md_mk 8 B) (md_mk 8 W) t (n - 1))) → nI (md_ti (fun e => md_mk 8 (A e)) (md_mk 8 B) (md_mk 8 W) t n) = old → vp_in (nI b) 8 ∧ ((nI (md_ti (fun e => md_mk 8 (A e)) (md_mk 8 B) (md_mk 8 W) t n) = a_blockVariables (nI b).toNatClampNeg → ((1 : Int32) = 0 → P) ∧ (¬ (1 : Int32) = 0 → Q)) ∧ (¬ nI (md_ti (fun e => md_mk 8 (A e)) (md_mk 8 B) (md_mk 8 W) t n) = a_blockVariables (nI b).toNatClampNeg → ((0 : Int32) = 0 → P) ∧ (¬ (0 : Int32) = 0 → Q))) := by
    intro n old ho heq
    refine ⟨vp_in_nI hb (by decide), ?_⟩
    rw [nI_clamp (by omega), hW]
    have h8 : md_ti (fun e => md_mk 8 (A e)) (md_mk 8 B) (md_mk 8 W) t n = md_ti (fun e => md_mk 8 (A e)) (md_mk 8 B) (md_mk 8 W) t 8 := by
      by_cases hn : n = 0
      · exfalso
        rw [if_pos hn] at ho
        rw [ho] at heq
        exact md_ne1 (Nat.lt_trans (hlt n) (by decide)) heq
      · rw [if_neg hn] at ho
        rw [ho, nI_eq (Nat.lt_trans (hlt n) (by decide)) (Nat.lt_trans (hlt (n - 1)) (by decide))] at heq
        obtain ⟨n', rfl⟩ : ∃ n', n = n' + 1 := ⟨n - 1, by omega⟩
        rw [Nat.add_sub_cancel] at heq
        rw [heq]
        exact md_ti_of hv ht heq
    rw [h8, nI_eq (Nat.lt_trans (hlt 8) (by decide)) (mk_sm W)]
    refine br_c (fun hh => br_f (by decide) (h1 ?_)) (fun hh => br_t rfl (h0 ?_))
    · unfold md_tt; rw [hh]; simp
    · unfold md_tt; rw [beq_eq_false_iff_ne]; exact hh
  have key : ∀ d n, n + d = 9 → ∀ old, (old = if n = 0 then -1 else nI (md_ti (fun e => md_mk 8 (A e)) (md_mk 8 B) (md_mk 8 W) t (n - 1))) → wY_findsAll_5 (fun r => (r = 0 → P) ∧ (¬ r = 0 → Q)) (nI b) f_equations f_variables f_greatest f_excess f_loose f_excessOnes f_looseOnes f_known f_blocks a_kind a_value a_before a_constant a_latest a_there a_shown a_coefficient a_old a_inside a_most a_more a_blockEquations a_blockVariables a_goodPairs a_matrix (d + 1) (nI (md_ti (fun e => md_mk 8 (A e)) (md_mk 8 B) (md_mk 8 W) t n)) old := by
    intro d
    induction d with
    | zero =>
      intro n hn old ho
      have heq : nI (md_ti (fun e => md_mk 8 (A e)) (md_mk 8 B) (md_mk 8 W) t n) = old := by
        rw [ho, if_neg (by omega), show n = 9 by omega]
        exact congrArg nI (md_ti_8 hv ht)
      exact br_t heq (hend n old ho heq)
    | succ d ih =>
      intro n hn old ho
      refine br_c (fun heq => hend n old ho heq) (fun _ => ⟨9, ?_⟩)
      exact ys_fa17 hb hv (hlt n) _ f_equations f_variables f_greatest f_excess f_loose f_excessOnes f_looseOnes f_known f_blocks a_kind a_value a_before a_constant a_latest a_there a_shown a_coefficient a_old a_inside a_most a_more a_blockEquations a_blockVariables a_goodPairs a_matrix hin hE hW _ _ (ih (n + 1) (by omega) _ (by rw [if_neg (by omega), Nat.add_sub_cancel])) 8 0 rfl
  unfold wpY_findsAll
  exact ⟨10, key 9 0 rfl (-1) (by rw [if_pos rfl])⟩
def md_bo (x : Option Nat) : Int32 := match x with
  | none => -1
  | some m => nI m
theorem ys_te {A : Nat → Nat → Bool} {B W : Nat → Bool} {b : Nat} (hb : b < 8) (f_equations f_variables f_greatest f_excess f_loose f_excessOnes f_looseOnes f_known f_blocks : Int32) (a_kind a_value a_before a_constant a_latest a_there a_shown a_coefficient a_old a_inside a_most a_more a_blockEquations a_blockVariables a_goodPairs a_matrix : Nat → Int32) (hin : ∀ e, e < 8 → a_inside e = nI (md_mk 8 (A e))) (hE : a_blockEquations b = nI (md_mk 8 B)) (hW : a_blockVariables b = nI (md_mk 8 W)) (post : Int32 → SY → Prop) (h : post (md_bo (md_by (fun e => md_mk 8 (A e)) (md_mk 8 B) (md_mk 8 W) 256)) (f_equations, f_variables, f_greatest, f_excess, f_loose, f_excessOnes, f_looseOnes, f_known, f_blocks, a_kind, a_value, a_before, a_constant, a_latest, a_there, a_shown, a_coefficient, a_old, a_inside, a_most, a_more, a_blockEquations, a_blockVariables, a_goodPairs, a_matrix)) : ∀ d i, i + d = 256 → wY_tears_22 post (nI b) f_equations f_variables f_greatest f_excess f_loose f_excessOnes f_looseOnes f_known f_blocks a_kind a_value a_before a_constant a_latest a_there a_shown a_coefficient a_old a_inside a_most a_more a_blockEquations a_blockVariables a_goodPairs a_matrix (d + 1) (md_bo (md_by (fun e => md_mk 8 (A e)) (md_mk 8 B) (md_mk 8 W) i)) (nI i) := by
  intro d
  induction d with
  | zero =>
    intro i hi
    rw [show i = 256 by omega]
    exact br_t (nI_le (a := 256) (b := 256) (by omega) (by decide)) h
  | succ d ih =>
    intro i hi
    have hi8 : i < 256 := by omega
    have ey : md_by (fun e => md_mk 8 (A e)) (md_mk 8 B) (md_mk 8 W) (i + 1) = if md_sd i (md_mk 8 W) = 0 ∧ md_lo (md_by (fun e => md_mk 8 (A e)) (md_mk 8 B) (md_mk 8 W) i) i = true ∧ md_tt (fun e => md_mk 8 (A e)) (md_mk 8 B) (md_mk 8 W) i = true then some i else md_by (fun e => md_mk 8 (A e)) (md_mk 8 B) (md_mk 8 W) i := rfl
    have hih := ih (i + 1) (by omega)
    have s1 := md_sz8 i
    have hxy := (md_bxy (ins := fun e => md_mk 8 (A e)) (be := md_mk 8 B) (md_mk8 W) i (by omega)).2
    generalize hgd : md_by (fun e => md_mk 8 (A e)) (md_mk 8 B) (md_mk 8 W) i = o at ey hxy ⊢
    refine br_f (nI_ge (b := 256) hi8 (by decide)) ⟨vp_in_nI hb (by decide), ?_⟩
    rw [nI_clamp (n := b) (by omega), hW]
    refine br_c (fun hz => ?_) (fun hz => nm_r (nI_1 i) ?_)
    · have hz2 := (md_iz hi8).mp hz
      have h60 : md_lo o i = true → wY_tears_60 post (wY_tears_22 post (nI b) f_equations f_variables f_greatest f_excess f_loose f_excessOnes f_looseOnes f_known f_blocks a_kind a_value a_before a_constant a_latest a_there a_shown a_coefficient a_old a_inside a_most a_more a_blockEquations a_blockVariables a_goodPairs a_matrix (d + 1)) (nI b) (md_bo o) (nI i) f_equations f_variables f_greatest f_excess f_loose f_excessOnes f_looseOnes f_known f_blocks a_kind a_value a_before a_constant a_latest a_there a_shown a_coefficient a_old a_inside a_most a_more a_blockEquations a_blockVariables a_goodPairs a_matrix := by
        intro hlo
        refine ys_fa hb hi8 f_equations f_variables f_greatest f_excess f_loose f_excessOnes f_looseOnes f_known f_blocks a_kind a_value a_before a_constant a_latest a_there a_shown a_coefficient a_old a_inside a_most a_more a_blockEquations a_blockVariables a_goodPairs a_matrix hin hE hW (fun ht => nm_r (nI_1 i) ?_) (fun ht => nm_r (nI_1 i) ?_)
        · rw [if_pos ⟨hz2, hlo, ht⟩] at ey
          rw [ey] at hih
          exact hih
        · rw [if_neg (fun h => by rw [ht] at h; simp at h)] at ey
          rw [← ey]; exact hih
      cases o with
      | none => exact br_t (by decide) (h60 rfl)
      | some m =>
        obtain ⟨_, hm, _⟩ := hxy m rfl
        have s2 := md_sz8 m
        refine br_f (nI_pos (by omega)) (ys_szm _ hi8 (ys_szm _ (by omega) ?_))
        by_cases hc : md_sz i < md_sz m
        · exact br_t (nI_lt hc (by omega)) (h60 (decide_eq_true hc))
        · refine br_f (nI_nlt (by omega) (by omega)) (nm_r (nI_1 i) ?_)
          rw [if_neg (fun h => hc (of_decide_eq_true h.2.1))] at ey
          rw [← ey]; exact hih
    · have hz2 : ¬ md_sd i (md_mk 8 W) = 0 := fun h => hz ((md_iz hi8).mpr h)
      rw [if_neg (fun h => hz2 h.1)] at ey
      rw [← ey]; exact hih
theorem i_vc_tears {k : Nat} {u : SX} {v : SY} (I : i_Rel k u v) (hk : k + 5 ≤ 2560) (v1 : Int32) : wpX_tears (fun r u' => wpY_tears (fun r' v' => r' = r ∧ i_Rel (k + 5) u' v') v v1) u v1 := by
  obtain ⟨f_equationsThere, f_stale, f_unknowns, f_pairs, f_excessEquations, f_excessVariables, f_looseEquations, f_looseVariables, f_blockCount, f_firstSingular, a_kinds, a_given, a_found, a_constants, a_coefficients, a_oldCoefficients, a_reach, a_goodReach, a_blockEquations, a_blockVariables, a_grid, a_solvedBy, a_rests⟩ := u
  obtain ⟨f_equations, f_variables, f_greatest, f_excess, f_loose, f_excessOnes, f_looseOnes, f_known, f_blocks, a_kind, a_value, a_before, a_constant, a_latest, a_there, a_shown, a_coefficient, a_old, a_inside, a_most, a_more, b_E, b_V, a_goodPairs, a_matrix⟩ := v
  obtain ⟨kd, cf, ol, co, gv, m, mm, ⟨hm8, heq, hkx, hky, hk4, hcx, hcy, hc1, hox, hoy, ho1, hnx, hny, hn1, hgx, hg1, hth, hv2, hv3, hsh⟩, hmm, hX, hY⟩ := I
  subst heq
  unfold wpX_tears
  refine xs_ref  f_stale f_unknowns f_pairs f_excessEquations f_excessVariables f_looseEquations f_looseVariables f_blockCount f_firstSingular a_kinds a_given a_found a_constants a_coefficients a_oldCoefficients a_reach a_goodReach a_blockEquations a_blockVariables a_grid a_solvedBy a_rests hkx hk4 hcx hc1 hX _ (fun unk prs exE exV loE loV bc fs rea goo bE bV grid sol hXL => ?_)
  have hXL2 := hXL
  obtain ⟨⟨rfl, rfl, rfl, rfl, rfl, rfl, rfl, hre, hgo, hB⟩, rfl, hG⟩ := hXL
  have hq := md_Q_le (md_Ak kd cf m) (md_Em m) (md_Vk kd)
  have hno : v1 < 0 ∨ nI (md_Q (md_Ak kd cf m) (md_Em m) (md_Vk kd)) ≤ v1 → wpY_tears (fun r' v' => r' = -1 ∧ i_Rel (k + 5) ((nI (md_mk 8 (md_Em m))), 0, (nI (md_mk 8 (md_Vk kd))), (nI (md_tau (md_Ak kd cf m) (md_Em m) (md_Vk kd))), (nI (md_mk 8 (md_exc (md_Ak kd cf m) (md_Em m) (md_Vk kd)))), (nI (md_mk 8 (md_exv (md_Ak kd cf m) (md_Em m) (md_Vk kd)))), (nI (md_mk 8 (md_loe (md_Ak kd cf m) (md_Em m) (md_Vk kd)))), (nI (md_mk 8 (md_loo (md_Ak kd cf m) (md_Em m) (md_Vk kd)))), (nI (md_Q (md_Ak kd cf m) (md_Em m) (md_Vk kd))), (md_FS (md_Kq cf) (md_Ak kd cf m) (md_Em m) (md_Vk kd)), a_kinds, a_given, a_found, a_constants, a_coefficients, a_oldCoefficients, rea, goo, bE, bV, grid, sol, a_rests) v') (f_equations, f_variables, f_greatest, f_excess, f_loose, f_excessOnes, f_looseOnes, f_known, f_blocks, a_kind, a_value, a_before, a_constant, a_latest, a_there, a_shown, a_coefficient, a_old, a_inside, a_most, a_more, b_E, b_V, a_goodPairs, a_matrix) v1 := by
    intro hx
    unfold wpY_tears
    refine ys_know f_equations f_variables f_greatest f_excess f_loose f_excessOnes f_looseOnes f_known f_blocks a_kind a_value a_before a_constant a_latest a_there a_shown a_coefficient a_old a_inside a_most a_more b_E b_V a_goodPairs a_matrix hky hk4 hth hcy hc1 hY _ (fun eqs vrs gre xE lE xV lV kn blk ins mo me yE yV god hkn hYA => ?_)
    have hYA2 := hYA
    obtain ⟨rfl, rfl, rfl, rfl, rfl, rfl, rfl, rfl, hin, hgd, hYB⟩ := hYA
    exact ys_in_f hx ⟨rfl, kd, cf, ol, co, gv, m, mm, ⟨hm8, rfl, hkx, hky, hk4, hcx, hcy, hc1, hox, hoy, ho1, hnx, hny, hn1, hgx, hg1, hth, hv2, hv3, hsh⟩, hmm, fun _ => hXL2, fun _ => hYA2⟩
  rcases pk_ix v1 (n := md_Q (md_Ak kd cf m) (md_Em m) (md_Vk kd)) (by omega) with hx | hx | ⟨b, hb, rfl⟩
  · exact br_t hx (hno (Or.inl hx))
  · have hn : ¬ v1 < nI (md_Q (md_Ak kd cf m) (md_Em m) (md_Vk kd)) := fun h => Int32.not_lt.mpr hx h
    refine br_c (fun _ => hno (Or.inr hx)) (fun _ => br_f hn (hno (Or.inr hx)))
  · obtain ⟨b1, b2⟩ := hB b hb
    refine br_f (nI_pos (by omega)) (br_t (nI_lt hb (by omega)) ⟨vp_in_nI (by omega) (by decide), ?_⟩)
    rw [nI_clamp (by omega), b2]
    refine nm_e ⟨257, xs_te (by omega) _ _ _ _ _ _ _ _ _ _ a_kinds a_given a_found a_constants a_coefficients a_oldCoefficients rea goo bE bV grid sol a_rests hre b1 b2 _ ?_ 256 0 rfl⟩
    unfold wpY_tears
    refine ys_know f_equations f_variables f_greatest f_excess f_loose f_excessOnes f_looseOnes f_known f_blocks a_kind a_value a_before a_constant a_latest a_there a_shown a_coefficient a_old a_inside a_most a_more b_E b_V a_goodPairs a_matrix hky hk4 hth hcy hc1 hY _ (fun eqs vrs gre xE lE xV lV kn blk ins mo me yE yV god hkn hYA => ?_)
    have hYA2 := hYA
    obtain ⟨rfl, rfl, rfl, rfl, rfl, rfl, rfl, rfl, hin, hgd, hYB⟩ := hYA
    obtain ⟨b3, b4⟩ := hYB b hb
    refine ys_in_t (a := 0) (Nat.zero_le _) hb (by omega) ⟨257, ys_te (by omega) _ _ _ _ _ _ _ kn _ a_kind a_value a_before a_constant a_latest a_there a_shown a_coefficient a_old ins mo me yE yV god a_matrix hin b3 b4 _ ?_ 256 0 rfl⟩
    have hxy := md_bxy (ins := fun e => md_mk 8 (md_Ak kd cf m e)) (be := md_mk 8 (md_B (md_Ak kd cf m) (md_Em m) (md_Vk kd) b)) (md_mk8 (md_gr (md_god (md_Ak kd cf m) (md_Em m) (md_Vk kd)) (md_B (md_Ak kd cf m) (md_Em m) (md_Vk kd) b))) 256 (Nat.le_refl _)
    refine ⟨?_, kd, cf, ol, co, gv, m, mm, ⟨hm8, rfl, hkx, hky, hk4, hcx, hcy, hc1, hox, hoy, ho1, hnx, hny, hn1, hgx, hg1, hth, hv2, hv3, hsh⟩, hmm, fun _ => hXL2, fun _ => hYA2⟩
    cases ho : md_by (fun e => md_mk 8 (md_Ak kd cf m e)) (md_mk 8 (md_B (md_Ak kd cf m) (md_Em m) (md_Vk kd) b)) (md_mk 8 (md_gr (md_god (md_Ak kd cf m) (md_Em m) (md_Vk kd)) (md_B (md_Ak kd cf m) (md_Em m) (md_Vk kd) b))) 256 with
    | none =>
      have h1 := (hxy.1 ho).2
      have h2 := md_mk8 (md_gr (md_god (md_Ak kd cf m) (md_Em m) (md_Vk kd)) (md_B (md_Ak kd cf m) (md_Em m) (md_Vk kd) b))
      omega
    | some m0 =>
      rw [(hxy.2 m0 ho).1]; rfl
