theorem md_val_gen {cf g ro rv rs g1 g2 : Nat → Nat} {E V : Nat → Bool} {n : Nat} (hV8 : ∀ j, V j = true → j < 8) (hu : md_un E V ro (md_gx g)) (hc : md_cb (md_Kq cf) (md_gx g)) (hs : md_sp E (md_gx g)) (hp : md_pk (md_Kq cf) (md_gy g1) E V) (hE : md_ct 8 E = n) (hVn : md_ct 8 V = n) (hY : md_YE (md_gy g1) n n g2) (hb : ∀ e, e < 8 → E e = true → md_q (g1 (9 * md_ct e E + 8)) = -md_q (rs e)) {v : Nat} (hv : v < 8) (hVv : V v = true) {N : Nat} (hN : md_q N = md_sm 8 (fun f => if E f = true then md_gx g (ro v) (8 + f) * md_q (rs f) else 0)) : md_q (g2 (9 * md_ct v V + 8)) = -md_q N := by
  have h1 := md_YE_sol (b := fun e => md_q (g1 (9 * md_ct e E + 8))) hE hVn hp hY (fun e _ _ => rfl)
  exact md_value (M := md_gy g2) hV8 hu hc hs h1 hb hv hVv hN
theorem md_sf_q (E : Nat → Bool) (g rs : Nat → Nat) (r : Nat) : md_q (md_sn 8 (md_sf E g r rs)) = md_sm 8 (fun f => if E f = true then md_gx g r (8 + f) * md_q (rs f) else 0) := by
  rw [md_sn_q]
  refine md_sm_cg (fun f _ => ?_)
  show md_q (if E f = true then g (r * 16 + (8 + f)) * rs f else 0) = _
  by_cases h : E f = true
  · rw [if_pos h, if_pos h, md_q_mul]
  · rw [if_neg h, if_neg h]; rfl
theorem md_sf_le {E : Nat → Bool} {g rs : Nat → Nat} {r : Nat} (hr : r < 8) (hg : ∀ j, j < 128 → g j < 101) (hrs : ∀ e, rs e < 101) : md_sn 8 (md_sf E g r rs) < 2 ^ 30 := by
  have h := md_sn_le (f := md_sf E g r rs) (c := 10000) (n := 8) (fun i hi => by
    show (if E i = true then g (r * 16 + (8 + i)) * rs i else 0) ≤ 10000
    split
    · exact md_mul100 (hg _ (by omega)) (hrs i)
    · exact Nat.zero_le _)
  omega
theorem md_os_le {kd cf ol co gv : Nat → Nat} (hc : ∀ j, cf j < 101) (ho : ∀ j, ol j < 101) (hn : ∀ j, co j < 101) (hg : ∀ j, gv j < 101) (e : Nat) : md_os kd cf ol co gv e < 2 ^ 30 := by
  have h := md_sn_le (f := fun v => (if kd v = 2 then cf (e * 8 + v) * gv v else 0) + (if kd v = 3 then ol (e * 8 + v) * gv v else 0)) (c := 20000) (n := 8) (fun i _ => by
    have a := md_mul100 (hc (e * 8 + i)) (hg i)
    have b := md_mul100 (ho (e * 8 + i)) (hg i)
    split <;> split <;> omega)
  have h2 := hn e
  show co e + md_sn 8 (fun v => (if kd v = 2 then cf (e * 8 + v) * gv v else 0) + (if kd v = 3 then ol (e * 8 + v) * gv v else 0)) < 2 ^ 30
  omega
def md_sv (kd cf ol co g ro : Nat → Nat) (E : Nat → Bool) (gv : Nat → Nat) (v : Nat) : Nat := md_md (0 - nI (md_sn 8 (md_sf E g (ro v) (fun e => md_md (nI (md_os kd cf ol co gv e))))))
theorem md_val_step {kd cf ol co gv g ro rv g1 g2 : Nat → Nat} {E V : Nat → Bool} {n : Nat} (hV8 : ∀ j, V j = true → j < 8) (hu : md_un E V ro (md_gx g)) (hc : md_cb (md_Kq cf) (md_gx g)) (hs : md_sp E (md_gx g)) (hgb : ∀ j, j < 128 → g j < 101) (h1 : md_fl cf rv E V 8 0 g1) (hrv : ∀ e, rv e = md_md (-(nI (md_os kd cf ol co gv e)))) (hos : ∀ e, md_os kd cf ol co gv e < 2 ^ 30) (hE : md_ct 8 E = n) (hVn : md_ct 8 V = n) (hY : md_YE (md_gy g1) n n g2) {v : Nat} (hv : v < 8) (hVv : V v = true) : g2 (9 * md_ct v V + 8) = md_sv kd cf ol co g ro E gv v := by
  have hro := (hu.1 v hv hVv).1
  have h2 := md_val_gen (rv := rv) (rs := fun e => md_md (nI (md_os kd cf ol co gv e))) hV8 hu hc hs (md_fl_pk h1) hE hVn hY (fun e he hEe => by
    rw [h1.2 e he hEe he, hrv e, md_neg_md (md_neg_ti2 (hos e))]
    rw [md_pos_md (Nat.lt_trans (hos e) (by decide)), md_q_mod]) hv hVv (md_sf_q E g _ (ro v))
  have hle := md_sf_le (E := E) (rs := fun e => md_md (nI (md_os kd cf ol co gv e))) hro hgb (fun e => md_md_lt _)
  refine md_q_inj (hY.1 _) (md_md_lt _) ?_
  rw [h2]
  unfold md_sv
  rw [md_neg_md (md_neg_ti hle)]
def md_gi (kd cf ol co g ro : Nat → Nat) (E : Nat → Bool) (gv : Nat → Nat) : Nat → (Nat → Nat)
  | 0 => gv
  | i + 1 => fun v => if v < 8 ∧ kd v = 3 then md_sv kd cf ol co g ro E (md_gi kd cf ol co g ro E gv i) v else md_gi kd cf ol co g ro E gv i v
theorem md_gi_lt {kd cf ol co g ro : Nat → Nat} {E : Nat → Bool} {gv : Nat → Nat} (h : ∀ j, gv j < 101) : ∀ i j, md_gi kd cf ol co g ro E gv i j < 101 := by
  intro i
  induction i with
  | zero => exact h
  | succ i ih =>
    intro j
    show (if j < 8 ∧ kd j = 3 then md_sv kd cf ol co g ro E (md_gi kd cf ol co g ro E gv i) j else md_gi kd cf ol co g ro E gv i j) < 101
    split
    · exact md_md_lt _
    · exact ih j
theorem md_gi_n {kd cf ol co g ro : Nat → Nat} {E : Nat → Bool} {gv : Nat → Nat} {j : Nat} (h : kd j ≠ 3) : ∀ i, md_gi kd cf ol co g ro E gv i j = gv j := by
  intro i
  induction i with
  | zero => rfl
  | succ i ih =>
    show (if j < 8 ∧ kd j = 3 then md_sv kd cf ol co g ro E (md_gi kd cf ol co g ro E gv i) j else md_gi kd cf ol co g ro E gv i j) = gv j
    rw [if_neg (fun hh => h hh.2)]; exact ih
theorem xs_st39 {kd cf ol co gv g ro : Nat → Nat} {E : Nat → Bool} {n : Nat} (hn : n < 2000) (f_stale f_pairs f_excessEquations f_excessVariables f_looseEquations f_looseVariables f_blockCount f_firstSingular : Int32) (a_kinds a_constants a_coefficients a_oldCoefficients a_reach a_goodReach a_blockEquations a_blockVariables a_grid a_solvedBy : Nat → Int32) (hk : ∀ j, a_kinds j = nI (kd j)) (hk4 : ∀ j, kd j < 4) (hc : ∀ j, a_coefficients j = nI (cf j)) (ho : ∀ j, a_oldCoefficients j = nI (ol j)) (hco : ∀ j, a_constants j = nI (co j)) (hro : ∀ v, v < 8 → md_Vk kd v = true → ro v < 8 ∧ a_solvedBy v = nI (ro v)) (hg : md_gN g a_grid) (post : Int32 → SX → Prop) (h : ∀ gi fo re, (∀ j, gi j = nI (md_gi kd cf ol co g ro E gv n j)) → (∀ v, v < 8 → md_Vk kd v = true → fo v = nI (md_sv kd cf ol co g ro E (md_gi kd cf ol co g ro E gv (n - 1)) v)) → post 0 ((nI (md_mk 8 E)), f_stale, (nI (md_mk 8 (md_Vk kd))), f_pairs, f_excessEquations, f_excessVariables, f_looseEquations, f_looseVariables, f_blockCount, f_firstSingular, a_kinds, gi, fo, a_constants, a_coefficients, a_oldCoefficients, a_reach, a_goodReach, a_blockEquations, a_blockVariables, a_grid, a_solvedBy, re)) : ∀ d i gi fo re, i + d = n → (∀ j, gi j = nI (md_gi kd cf ol co g ro E gv i j)) → (i = 0 → 0 < d) → (0 < i → ∀ v, v < 8 → md_Vk kd v = true → fo v = nI (md_sv kd cf ol co g ro E (md_gi kd cf ol co g ro E gv (i - 1)) v)) → wX_step_39 post (nI n) (d + 1) (nI i) (nI (md_mk 8 E)) f_stale (nI (md_mk 8 (md_Vk kd))) f_pairs f_excessEquations f_excessVariables f_looseEquations f_looseVariables f_blockCount f_firstSingular a_kinds gi fo a_constants a_coefficients a_oldCoefficients a_reach a_goodReach a_blockEquations a_blockVariables a_grid a_solvedBy re := by
  intro d
  induction d with
  | zero =>
    intro i gi fo re hi h1 h2 h3
    have hi0 : 0 < i := by
      apply Classical.byContradiction
      intro hh
      have := h2 (by omega)
      omega
    rw [show i = n by omega] at h1 h3 hi0 ⊢
    exact br_t (nI_le (Nat.le_refl _) (by omega)) (h gi fo re h1 (h3 hi0))
  | succ d ih =>
    intro i gi fo re hi h1 h2 h3
    refine br_f (nI_ge (by omega) (by omega)) ?_
    refine xs_so (gv := md_gi kd cf ol co g ro E gv i)  f_stale  f_pairs f_excessEquations f_excessVariables f_looseEquations f_looseVariables f_blockCount f_firstSingular a_kinds gi fo a_constants a_coefficients a_oldCoefficients a_reach a_goodReach a_blockEquations a_blockVariables a_grid a_solvedBy re hk hk4 hc ho hco h1 hro hg _ (fun gi' fo' re' hs => ?_)
    refine nm_r (nI_1 i) (ih (i + 1) gi' fo' re' (by omega) (fun j => ?_) (fun hh => by omega) (fun _ v hv hV => ?_))
    · show gi' j = nI (if j < 8 ∧ kd j = 3 then md_sv kd cf ol co g ro E (md_gi kd cf ol co g ro E gv i) j else md_gi kd cf ol co g ro E gv i j)
      by_cases hj : j < 8 ∧ kd j = 3
      · rw [if_pos hj]
        exact (hs.1 j hj.1).2.1 hj.1 hj.2
      · rw [if_neg hj, hs.2 j (by omega)]
        exact h1 j
    · rw [Nat.add_sub_cancel]
      exact (hs.1 v hv).1 hv hV
def md_ya (V : Nat → Bool) (g : Nat → Nat) (i : Nat) (la sh la' sh' : Nat → Int32) : Prop := ∀ v, v < 8 → (v < i → V v = true → la' v = nI (g (9 * md_ct v V + 8)) ∧ sh' v = 1) ∧ (i ≤ v ∨ V v = false → la' v = la v ∧ sh' v = sh v)
theorem ys_s130 {kd : Nat → Nat} (x1 : Int32) (kk : Nat) (f_equations f_variables f_greatest f_excess f_loose f_excessOnes f_looseOnes f_known f_blocks : Int32) (a_kind a_value a_constant a_latest a_there a_shown a_coefficient a_old a_inside a_most a_more a_blockEquations a_blockVariables a_goodPairs a_matrix : Nat → Int32) (bf : Nat → Int32) (hk : ∀ j, a_kind j = nI (kd j)) (hk4 : ∀ j, kd j < 4) (post : Int32 → SY → Prop) (J : Int32 → Int32 → Int32 → Int32 → Int32 → Int32 → Int32 → Int32 → Int32 → Int32 → (Nat → Int32) → (Nat → Int32) → (Nat → Int32) → (Nat → Int32) → (Nat → Int32) → (Nat → Int32) → (Nat → Int32) → (Nat → Int32) → (Nat → Int32) → (Nat → Int32) → (Nat → Int32) → (Nat → Int32) → (Nat → Int32) → (Nat → Int32) → (Nat → Int32) → (Nat → Int32) → Prop) (hJ : ∀ bf', (∀ v, v < 8 → kd v = 3 → bf' v = a_latest v) → J (nI (kk + 1)) f_equations f_variables f_greatest f_excess f_loose f_excessOnes f_looseOnes f_known f_blocks a_kind a_value bf' a_constant a_latest a_there a_shown a_coefficient a_old a_inside a_most a_more a_blockEquations a_blockVariables a_goodPairs a_matrix) : ∀ d i bf', i + d = 8 → (∀ v, v < i → kd v = 3 → bf' v = a_latest v) → wY_step_130 post J x1 (nI kk) f_equations f_variables f_greatest f_excess f_loose f_excessOnes f_looseOnes f_known f_blocks (d + 1) (nI i) a_kind a_value bf' a_constant a_latest a_there a_shown a_coefficient a_old a_inside a_most a_more a_blockEquations a_blockVariables a_goodPairs a_matrix := by
  intro d
  induction d with
  | zero =>
    intro i bf' hi h1
    rw [show i = 8 by omega] at h1 ⊢
    exact br_t (nI_le (a := 8) (b := 8) (by omega) (by decide)) (nm_r (nI_1 kk) (hJ bf' h1))
  | succ d ih =>
    intro i bf' hi h1
    have hi8 : i < 8 := by omega
    have hkk := hk4 i
    have hin : vp_in (nI i) 8 := vp_in_nI hi8 (by decide)
    refine br_f (nI_ge (b := 8) hi8 (by decide)) ⟨hin, ?_⟩
    rw [nI_clamp (by omega), hk]
    by_cases c3 : kd i = 3
    · refine br_t (by rw [c3]; rfl) ⟨hin, hin, nm_e (nm_r (nI_1 i) (ih (i + 1) _ (by omega) (fun v hv h3 => ?_)))⟩
      by_cases e : v = i
      · rw [e, pk_us]
      · rw [pk_un e]; exact h1 v (by omega) h3
    · refine br_f (fun hh => c3 ((nI_eq (by omega) (by decide)).mp (hh : nI (kd i) = nI 3))) (nm_r (nI_1 i) (ih (i + 1) bf' (by omega) (fun v hv h3 => ?_)))
      by_cases e : v = i
      · rw [e] at h3; exact absurd h3 c3
      · exact h1 v (by omega) h3
theorem ys_s72 {kd g : Nat → Nat} (x1 : Int32) (kk : Nat) (f_equations f_variables f_greatest f_excess f_loose f_excessOnes f_looseOnes f_known f_blocks : Int32) (a_kind a_value a_before a_constant a_there a_coefficient a_old a_inside a_most a_more a_blockEquations a_blockVariables a_goodPairs a_matrix : Nat → Int32) (la sh : Nat → Int32) (hk : ∀ j, a_kind j = nI (kd j)) (hk4 : ∀ j, kd j < 4) (hg : md_mN g a_matrix) (post : Int32 → SY → Prop) (J : Int32 → Int32 → Int32 → Int32 → Int32 → Int32 → Int32 → Int32 → Int32 → Int32 → (Nat → Int32) → (Nat → Int32) → (Nat → Int32) → (Nat → Int32) → (Nat → Int32) → (Nat → Int32) → (Nat → Int32) → (Nat → Int32) → (Nat → Int32) → (Nat → Int32) → (Nat → Int32) → (Nat → Int32) → (Nat → Int32) → (Nat → Int32) → (Nat → Int32) → (Nat → Int32) → Prop) (hJ : ∀ la' sh' bf', md_ya (md_Vk kd) g 8 la sh la' sh' → (∀ v, v < 8 → kd v = 3 → bf' v = la' v) → J (nI (kk + 1)) f_equations f_variables f_greatest f_excess f_loose f_excessOnes f_looseOnes f_known f_blocks a_kind a_value bf' a_constant la' a_there sh' a_coefficient a_old a_inside a_most a_more a_blockEquations a_blockVariables a_goodPairs a_matrix) : ∀ d i la' sh', i + d = 8 → md_ya (md_Vk kd) g i la sh la' sh' → wY_step_72 post J x1 (nI kk) f_equations f_variables f_greatest f_excess f_loose f_excessOnes f_looseOnes f_known f_blocks (d + 1) (nI (md_ct i (md_Vk kd))) (nI i) a_kind a_value a_before a_constant la' a_there sh' a_coefficient a_old a_inside a_most a_more a_blockEquations a_blockVariables a_goodPairs a_matrix := by
  intro d
  induction d with
  | zero =>
    intro i la' sh' hi h1
    rw [show i = 8 by omega] at h1 ⊢
    refine br_t (nI_le (a := 8) (b := 8) (by omega) (by decide)) ⟨9, ?_⟩
    exact ys_s130 x1 kk f_equations f_variables f_greatest f_excess f_loose f_excessOnes f_looseOnes f_known f_blocks a_kind a_value  a_constant la' a_there sh' a_coefficient a_old a_inside a_most a_more a_blockEquations a_blockVariables a_goodPairs a_matrix a_before hk hk4 post J (fun bf' hb => hJ la' sh' bf' h1 hb) 8 0 a_before rfl (fun v hv => by omega)
  | succ d ih =>
    intro i la' sh' hi h1
    have hi8 : i < 8 := by omega
    have hci := md_ct_le (md_Vk kd) i
    refine br_f (nI_ge (b := 8) hi8 (by decide)) (ys_open hi8 f_equations f_variables f_greatest f_excess f_loose f_excessOnes f_looseOnes f_known f_blocks a_kind a_value a_before a_constant la' a_there sh' a_coefficient a_old a_inside a_most a_more a_blockEquations a_blockVariables a_goodPairs a_matrix hk hk4 (fun hV => ?_) (fun hV => nm_r (nI_1 i) ?_))
    · rw [md_ix98]
      refine ⟨vp_in_nI (by omega) (by decide), vp_in_nI hi8 (by decide), nm_e ⟨vp_in_nI hi8 (by decide), nm_e ?_⟩⟩
      rw [nI_clamp (n := 9 * md_ct i (md_Vk kd) + 8) (by omega), nI_clamp (n := i) (by omega), (hg _).1, nb_1]
      refine nm_r (by rw [nI_1, ← md_ct_s1 hV]) (nm_r (nI_1 i) (ih (i + 1) _ _ (by omega) (fun v hv => ⟨fun hlt hVv => ?_, fun hh => ?_⟩)))
      · by_cases e : v = i
        · rw [e, pk_us, pk_us]; exact ⟨rfl, rfl⟩
        · rw [pk_un e, pk_un e]; exact (h1 v hv).1 (by omega) hVv
      · have e : v ≠ i := by
          rintro rfl
          rcases hh with hh | hh
          · omega
          · rw [hV] at hh; simp at hh
        rw [pk_un e, pk_un e]
        exact (h1 v hv).2 (hh.imp (fun h => by omega) (fun h => h))
    · rw [← md_ct_s0 hV]
      refine ih (i + 1) la' sh' (by omega) (fun v hv => ⟨fun hlt hVv => ?_, fun hh => ?_⟩)
      · by_cases e : v = i
        · rw [e, hV] at hVv; simp at hVv
        · exact (h1 v hv).1 (by omega) hVv
      · exact (h1 v hv).2 (hh.imp (fun h => by omega) (fun h => h))
theorem ys_st37 {kd cf ol co gv g ro : Nat → Nat} {E : Nat → Bool} {n : Nat} (hn : n < 2000) (hg1 : ∀ j, gv j < 101) (hc1 : ∀ j, cf j < 101) (ho1 : ∀ j, ol j < 101) (hn1 : ∀ j, co j < 101) (hu : md_un E (md_Vk kd) ro (md_gx g)) (hcb : md_cb (md_Kq cf) (md_gx g)) (hsp : md_sp E (md_gx g)) (hgb : ∀ j, j < 128 → g j < 101) (hct : md_ct 8 (md_Vk kd) = md_ct 8 E) (hns : md_ns (md_Kq cf) E (md_Vk kd)) (f_greatest f_excess f_loose f_excessOnes f_looseOnes f_known f_blocks : Int32) (a_kind a_value a_constant a_there a_coefficient a_old a_inside a_most a_more a_blockEquations a_blockVariables a_goodPairs : Nat → Int32) (hk : ∀ j, a_kind j = nI (kd j)) (hk4 : ∀ j, kd j < 4) (hc : ∀ j, a_coefficient j = nI (cf j)) (ho : ∀ j, a_old j = nI (ol j)) (hco : ∀ j, a_constant j = nI (co j)) (hv2 : ∀ v, v < 8 → kd v = 2 → a_value v = nI (gv v)) (post : Int32 → SY → Prop) (h : ∀ la sh bf mat mm, md_mN mm mat → (∀ v, v < 8 → kd v = 3 → bf v = nI (md_gi kd cf ol co g ro E gv n v)) → (∀ v, v < 8 → md_Vk kd v = true → la v = nI (md_sv kd cf ol co g ro E (md_gi kd cf ol co g ro E gv (n - 1)) v) ∧ ¬ sh v = 0) → post 0 ((nI (md_mk 8 E)), (nI (md_mk 8 (md_Vk kd))), f_greatest, f_excess, f_loose, f_excessOnes, f_looseOnes, f_known, f_blocks, a_kind, a_value, bf, a_constant, la, a_there, sh, a_coefficient, a_old, a_inside, a_most, a_more, a_blockEquations, a_blockVariables, a_goodPairs, mat)) : ∀ d i la sh bf mat mm, i + d = n → md_mN mm mat → (i = 0 → 0 < d) → (∀ v, v < 8 → kd v = 3 → bf v = nI (md_gi kd cf ol co g ro E gv i v)) → (0 < i → ∀ v, v < 8 → md_Vk kd v = true → la v = nI (md_sv kd cf ol co g ro E (md_gi kd cf ol co g ro E gv (i - 1)) v) ∧ ¬ sh v = 0) → wY_step_37 post (nI n) (d + 1) (nI i) (nI (md_mk 8 E)) (nI (md_mk 8 (md_Vk kd))) f_greatest f_excess f_loose f_excessOnes f_looseOnes f_known f_blocks a_kind a_value bf a_constant la a_there sh a_coefficient a_old a_inside a_most a_more a_blockEquations a_blockVariables a_goodPairs mat := by
  intro d
  induction d with
  | zero =>
    intro i la sh bf mat mm hi hm h2 h3 h4
    have hi0 : 0 < i := by
      apply Classical.byContradiction
      intro hh
      have := h2 (by omega)
      omega
    rw [show i = n by omega] at h3 h4 hi0 ⊢
    exact br_t (nI_le (Nat.le_refl _) (by omega)) (h la sh bf mat mm hm h3 (h4 hi0))
  | succ d ih =>
    intro i la sh bf mat mm hi hm h2 h3 h4
    refine br_f (nI_ge (by omega) (by omega)) ?_
    have hos := md_os_le (kd := kd) hc1 ho1 hn1 (md_gi_lt (kd := kd) (cf := cf) (ol := ol) (co := co) (g := g) (ro := ro) (E := E) hg1 i)
    refine ys_fill (rv := fun e => md_md (-(nI (md_os kd cf ol co (md_gi kd cf ol co g ro E gv i) e)))) (os := fun e => md_os kd cf ol co (md_gi kd cf ol co g ro E gv i) e) 1 _ _ f_greatest f_excess f_loose f_excessOnes f_looseOnes f_known f_blocks a_kind a_value bf a_constant la a_there sh a_coefficient a_old a_inside a_most a_more a_blockEquations a_blockVariables a_goodPairs mat hc hc1 hm (fun _ e he f P hP => ?_) (fun h0 => absurd h0 (by decide)) (fun _ _ => rfl) _ (fun f1 g1 c1 c2 => ?_)
    · refine ys_oth he _ _ f_greatest f_excess f_loose f_excessOnes f_looseOnes f_known f_blocks a_kind a_value bf a_constant la a_there sh a_coefficient a_old a_inside a_most a_more a_blockEquations a_blockVariables a_goodPairs f hk hk4 hc ho hco (fun v hv hkv => ?_) h3 P hP
      rw [md_gi_n (by omega) i]
      exact hv2 v hv hkv
    · refine ys_size _ _ ?_
      refine ys_el (md_ct_le _ 8) _ _ f_greatest f_excess f_loose f_excessOnes f_looseOnes f_known f_blocks a_kind a_value bf a_constant la a_there sh a_coefficient a_old a_inside a_most a_more a_blockEquations a_blockVariables a_goodPairs f1 c1 _ (fun f2 g2 c3 c4 => ⟨9, ?_⟩) (fun f2 g2 k2 c3 c4 c5 c6 => ?_)
      · refine ys_s72 (g := g2) (nI n) i _ _ f_greatest f_excess f_loose f_excessOnes f_looseOnes f_known f_blocks a_kind a_value bf a_constant  a_there  a_coefficient a_old a_inside a_most a_more a_blockEquations a_blockVariables a_goodPairs f2 la sh hk hk4 c3 post _ (fun la' sh' bf' w1 w2 => ?_) 8 0 la sh rfl (fun v hv => ⟨fun hlt => by omega, fun _ => ⟨rfl, rfl⟩⟩)
        have hval : ∀ v, v < 8 → md_Vk kd v = true → la' v = nI (md_sv kd cf ol co g ro E (md_gi kd cf ol co g ro E gv i) v) ∧ ¬ sh' v = 0 := by
          intro v hv hV
          obtain ⟨w3, w4⟩ := (w1 v hv).1 hv hV
          refine ⟨?_, by rw [w4]; decide⟩
          rw [w3, md_val_step (gv := md_gi kd cf ol co g ro E gv i) (fun j hj => md_Vk_8 hj) hu hcb hsp hgb c2 (fun e => rfl) hos rfl hct c4 hv hV]
        refine ih (i + 1) la' sh' bf' f2 g2 (by omega) c3 (fun hh => by omega) (fun v hv h3v => ?_) (fun _ => by rw [Nat.add_sub_cancel]; exact hval)
        have hV : md_Vk kd v = true := by unfold md_Vk; simp [hv, h3v]
        rw [w2 v hv h3v, (hval v hv hV).1]
        show _ = nI (if v < 8 ∧ kd v = 3 then md_sv kd cf ol co g ro E (md_gi kd cf ol co g ro E gv i) v else md_gi kd cf ol co g ro E gv i v)
        rw [if_pos ⟨hv, h3v⟩]
      · exact absurd hns (md_YE_no rfl hct (md_fl_pk c2) c5 c4 c6)
theorem i_vc_step {k : Nat} {u : SX} {v : SY} (I : i_Rel k u v) (hk : k + 5 ≤ 2560) (v1 : Int32) : wpX_step (fun r u' => wpY_step (fun r' v' => r' = r ∧ i_Rel (k + 5) u' v') v v1) u v1 := by
  obtain ⟨f_equationsThere, f_stale, f_unknowns, f_pairs, f_excessEquations, f_excessVariables, f_looseEquations, f_looseVariables, f_blockCount, f_firstSingular, a_kinds, a_given, a_found, a_constants, a_coefficients, a_oldCoefficients, a_reach, a_goodReach, a_blockEquations, a_blockVariables, a_grid, a_solvedBy, a_rests⟩ := u
  obtain ⟨f_equations, f_variables, f_greatest, f_excess, f_loose, f_excessOnes, f_looseOnes, f_known, f_blocks, a_kind, a_value, a_before, a_constant, a_latest, a_there, a_shown, a_coefficient, a_old, a_inside, a_most, a_more, b_E, b_V, a_goodPairs, a_matrix⟩ := v
  obtain ⟨kd, cf, ol, co, gv, m, mm, ⟨hm8, heq, hkx, hky, hk4, hcx, hcy, hc1, hox, hoy, ho1, hnx, hny, hn1, hgx, hg1, hth, hv2, hv3, hsh⟩, hmm, hX, hY⟩ := I
  subst heq
  have hR : i_Rel (k + 5) ((nI (md_mk 8 (md_Em m))), f_stale, f_unknowns, f_pairs, f_excessEquations, f_excessVariables, f_looseEquations, f_looseVariables, f_blockCount, f_firstSingular, a_kinds, a_given, a_found, a_constants, a_coefficients, a_oldCoefficients, a_reach, a_goodReach, a_blockEquations, a_blockVariables, a_grid, a_solvedBy, a_rests) (f_equations, f_variables, f_greatest, f_excess, f_loose, f_excessOnes, f_looseOnes, f_known, f_blocks, a_kind, a_value, a_before, a_constant, a_latest, a_there, a_shown, a_coefficient, a_old, a_inside, a_most, a_more, b_E, b_V, a_goodPairs, a_matrix) := ⟨kd, cf, ol, co, gv, m, mm, ⟨hm8, rfl, hkx, hky, hk4, hcx, hcy, hc1, hox, hoy, ho1, hnx, hny, hn1, hgx, hg1, hth, hv2, hv3, hsh⟩, hmm, hX, hY⟩
  unfold wpX_step
  by_cases hlo : v1 < 1
  · refine br_t hlo ?_
    unfold wpY_step
    exact ys_in_f (Or.inl hlo) ⟨rfl, hR⟩
  by_cases hhi : v1 ≤ 1000
  · have hnn : ¬ v1 < 0 := fun h => hlo (Int32.lt_trans h (by decide))
    obtain ⟨n, hn, rfl⟩ := nI_of2 (M := 1000) (n := 1000) rfl hnn hhi
    have hn1' : 1 ≤ n := by
      apply Classical.byContradiction
      intro hh
      apply hlo
      rw [show n = 0 by omega]; decide
    refine br_f hlo (br_t hhi ?_)
    refine xs_ref  f_stale f_unknowns f_pairs f_excessEquations f_excessVariables f_looseEquations f_looseVariables f_blockCount f_firstSingular a_kinds a_given a_found a_constants a_coefficients a_oldCoefficients a_reach a_goodReach a_blockEquations a_blockVariables a_grid a_solvedBy a_rests hkx hk4 hcx hc1 hX _ (fun unk prs exE exV loE loV bc fs rea goo bE bV grid sol hXL => ?_)
    have hXL2 := hXL
    obtain ⟨⟨rfl, rfl, rfl, rfl, rfl, rfl, rfl, hre, hgo, hB⟩, rfl, hG⟩ := hXL
    refine xs_bal _ _ _ _     _ _ a_kinds a_given a_found a_constants a_coefficients a_oldCoefficients rea goo bE bV grid sol a_rests (fun hb => ?_) (fun hb => ?_)
    · refine br_c (fun hf => ?_) (fun hf => ?_)
      · have hfs := (md_FS_m1 hb).mp hf
        have hns := md_whole_ns hb hfs
        have hbal := md_balb_iff.mp hb
        have hct : md_ct 8 (md_Vk kd) = md_ct 8 (md_Em m) := by rw [md_bal_E hbal, md_bal_V hbal]
        obtain ⟨g, ro, x1, x2, x3, x4, x5⟩ := hG hb hfs
        refine ⟨n + 1, ?_⟩
        refine xs_st39 (co := co) (gv := gv) (g := g) (ro := ro) (E := md_Em m) (n := n) (by omega)  _  _ _ _ _ _ _ _ a_kinds   a_constants a_coefficients a_oldCoefficients rea goo bE bV grid sol  hkx hk4 hcx hox hnx (fun v hv hV => ⟨(x3.1 v hv hV).1, x2 v hv hV⟩) x1 _ (fun gi fo re w1 w2 => ?_) n 0 a_given a_found a_rests (by omega) hgx (fun _ => by omega) (fun hh => by omega)
        unfold wpY_step
        refine ys_in_t (a := 1) (b := 1001) hn1' (by omega) (by decide) ?_
        refine ys_know f_equations f_variables f_greatest f_excess f_loose f_excessOnes f_looseOnes f_known f_blocks a_kind a_value a_before a_constant a_latest a_there a_shown a_coefficient a_old a_inside a_most a_more b_E b_V a_goodPairs a_matrix hky hk4 hth hcy hc1 hY _ (fun eqs vrs gre xE lE xV lV kn blk ins mo me yE yV god hkn hYA => ?_)
        have hYA2 := hYA
        obtain ⟨rfl, rfl, rfl, rfl, rfl, rfl, rfl, rfl, hin, hgd, hYB⟩ := hYA
        refine ys_bal _ _ _     kn _ a_kind a_value a_before a_constant a_latest a_there a_shown a_coefficient a_old ins mo me yE yV god a_matrix (fun _ => ?_) (fun hb0 => by rw [hb] at hb0; simp at hb0)
        refine ys_fs (md_Ak_in kd cf m) _ _ _     kn  a_kind a_value a_before a_constant a_latest a_there a_shown a_coefficient a_old ins mo me yE yV god a_matrix hcy hc1 hmm hYB _ (fun f gg hgg => ?_)
        refine br_t (by rw [hf]; decide) ⟨n + 1, ?_⟩
        refine ys_st37 (gv := gv) (g := g) (ro := ro) (E := md_Em m) (n := n) (by omega) hg1 hc1 ho1 hn1 x3 x4 x5 (fun j hj => (x1 j hj).2) hct hns   _ _ _ _ _ kn _ a_kind a_value  a_constant  a_there  a_coefficient a_old ins mo me yE yV god  hky hk4 hcy hoy hny hv2 _ (fun la sh bf mat m2 z1 z2 z3 => ?_) n 0 a_latest a_shown a_before f gg (by omega) hgg (fun _ => by omega) hv3 (fun hh => by omega)
        refine ⟨rfl, kd, cf, ol, co, md_gi kd cf ol co g ro (md_Em m) gv n, m, m2, ⟨hm8, rfl, hkx, hky, hk4, hcx, hcy, hc1, hox, hoy, ho1, hnx, hny, hn1, w1, md_gi_lt hg1 n, hth, fun j hj h2 => ?_, z2, fun j hj hV => ?_⟩, z1, fun _ => hXL2, fun _ => hYA2⟩
        · rw [md_gi_n (by omega) n]; exact hv2 j hj h2
        · obtain ⟨q1, q2⟩ := z3 j hj hV
          exact ⟨fun h => absurd h q2, fun _ => by rw [w2 j hj hV, q1]⟩
      · unfold wpY_step
        refine ys_in_t (a := 1) (b := 1001) hn1' (by omega) (by decide) ?_
        refine ys_know f_equations f_variables f_greatest f_excess f_loose f_excessOnes f_looseOnes f_known f_blocks a_kind a_value a_before a_constant a_latest a_there a_shown a_coefficient a_old a_inside a_most a_more b_E b_V a_goodPairs a_matrix hky hk4 hth hcy hc1 hY _ (fun eqs vrs gre xE lE xV lV kn blk ins mo me yE yV god hkn hYA => ?_)
        have hYA2 := hYA
        obtain ⟨rfl, rfl, rfl, rfl, rfl, rfl, rfl, rfl, hin, hgd, hYB⟩ := hYA
        refine ys_bal _ _ _     kn _ a_kind a_value a_before a_constant a_latest a_there a_shown a_coefficient a_old ins mo me yE yV god a_matrix (fun _ => ?_) (fun hb0 => by rw [hb] at hb0; simp at hb0)
        refine ys_fs (md_Ak_in kd cf m) _ _ _     kn  a_kind a_value a_before a_constant a_latest a_there a_shown a_coefficient a_old ins mo me yE yV god a_matrix hcy hc1 hmm hYB _ (fun f gg hgg => ?_)
        have hlt : md_fs (md_Kq cf) (md_Ak kd cf m) (md_Em m) (md_Vk kd) < 8 := by
          apply Classical.byContradiction
          intro hh
          exact hf ((md_FS_m1 hb).mpr hh)
        have e1 : md_FS (md_Kq cf) (md_Ak kd cf m) (md_Em m) (md_Vk kd) = nI (md_fs (md_Kq cf) (md_Ak kd cf m) (md_Em m) (md_Vk kd)) := by
          unfold md_FS
          rw [if_pos ⟨hb, hlt⟩]
        refine br_f (by rw [e1]; exact nI_pos (by omega)) ?_
        exact ⟨rfl, kd, cf, ol, co, gv, m, gg, ⟨hm8, rfl, hkx, hky, hk4, hcx, hcy, hc1, hox, hoy, ho1, hnx, hny, hn1, hgx, hg1, hth, hv2, hv3, hsh⟩, hgg, fun _ => hXL2, fun _ => hYA2⟩
    · unfold wpY_step
      refine ys_in_t (a := 1) (b := 1001) hn1' (by omega) (by decide) ?_
      refine ys_know f_equations f_variables f_greatest f_excess f_loose f_excessOnes f_looseOnes f_known f_blocks a_kind a_value a_before a_constant a_latest a_there a_shown a_coefficient a_old a_inside a_most a_more b_E b_V a_goodPairs a_matrix hky hk4 hth hcy hc1 hY _ (fun eqs vrs gre xE lE xV lV kn blk ins mo me yE yV god hkn hYA => ?_)
      have hYA2 := hYA
      obtain ⟨rfl, rfl, rfl, rfl, rfl, rfl, rfl, rfl, hin, hgd, hYB⟩ := hYA
      exact ys_bal _ _ _     kn _ a_kind a_value a_before a_constant a_latest a_there a_shown a_coefficient a_old ins mo me yE yV god a_matrix (fun hb1 => by rw [hb] at hb1; simp at hb1) (fun _ => ⟨rfl, kd, cf, ol, co, gv, m, mm, ⟨hm8, rfl, hkx, hky, hk4, hcx, hcy, hc1, hox, hoy, ho1, hnx, hny, hn1, hgx, hg1, hth, hv2, hv3, hsh⟩, hmm, fun _ => hXL2, fun _ => hYA2⟩)
  · have h1001 : nI 1001 ≤ v1 := by
      rw [Int32.le_iff_toInt_le] at hhi ⊢
      have a1 : (1000 : Int32).toInt = 1000 := rfl
      have a2 : (nI 1001).toInt = 1001 := rfl
      omega
    refine br_f hlo (br_f hhi ?_)
    unfold wpY_step
    exact ys_in_f (Or.inr h1001) ⟨rfl, hR⟩
