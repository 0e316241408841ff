theorem xs_hg_in {G : Nat → Nat → Bool} {S : Nat → Bool} (f_equationsThere f_stale f_unknowns f_pairs f_excessEquations f_excessVariables f_looseEquations f_looseVariables f_blockCount f_firstSingular : Int32) (a_kinds a_given a_found a_constants a_coefficients a_oldCoefficients a_reach a_goodReach a_blockEquations a_blockVariables a_grid a_solvedBy a_rests : Nat → Int32) (hgo : md_rx G 256 a_goodReach) (post : Int32 → Prop) (J : Int32 → Int32 → Prop) {r : Nat} (hJ : J (nI (md_mk 8 (md_rd G S))) (nI (r + 1))) : ∀ d i, i + d = 8 → wX_hangingTogether_23 post J (nI r) (nI (md_mk 8 (md_gr G S))) f_equationsThere f_stale f_unknowns f_pairs f_excessEquations f_excessVariables f_looseEquations f_looseVariables f_blockCount f_firstSingular a_kinds a_given a_found a_constants a_coefficients a_oldCoefficients a_reach a_goodReach a_blockEquations a_blockVariables a_grid a_solvedBy a_rests (d + 1) (nI (md_mk 8 (fun k => S k || (md_rd G S k && decide (k < i))))) (nI i) := by
  intro d
  induction d with
  | zero =>
    intro i hi
    rw [show i = 8 by omega]
    have e1 : nI (md_mk 8 (fun k => S k || (md_rd G S k && decide (k < 8)))) = nI (md_mk 8 (md_rd G S)) := ni_cg (fun k hk => by
      cases hs : S k with
      | true => rw [show md_rd G S k = true from md_rd_iff.mpr (Or.inl hs)]; rfl
      | false => simp [hk])
    rw [e1]
    exact br_t (nI_le (a := 8) (b := 8) (by omega) (by decide)) (nm_r (nI_1 r) hJ)
  | succ d ih =>
    intro i hi
    have hi8 : i < 8 := by omega
    refine br_f (nI_ge (b := 8) hi8 (by decide)) ⟨md_ixin hi8, ?_⟩
    rw [md_rea1 hgo hi8, ni_and]
    refine br_c (fun hh => nm_r (nI_1 i) ?_) (fun hh => nm_r (e' := nI (md_mk 8 (fun k => S k || (md_rd G S k && decide (k < i + 1))))) ?_ (nm_r (nI_1 i) (ih (i + 1) (by omega))))
    · have e1 : nI (md_mk 8 (fun k => S k || (md_rd G S k && decide (k < i)))) = nI (md_mk 8 (fun k => S k || (md_rd G S k && decide (k < i + 1)))) := ni_cg (fun k hk => by
        rw [md_pre]
        by_cases e : k = i
        · cases hs : S k with
          | true => rfl
          | false =>
            have hr : md_rd G S k = false := by
              rw [← Bool.not_eq_true, md_rd_iff]
              rintro (h1 | ⟨v, hv, g, e2, he2, h1, h2⟩)
              · rw [hs] at h1; simp at h1
              · have h3 := ni_z.mp hh v hv
                rw [e] at g
                rw [g, md_gr_iff.mpr ⟨e2, he2, h1, h2⟩] at h3
                simp at h3
            rw [hr]; simp
        · have h2 : (k == i) = false := by simp [e]
          rw [h2]; simp)
      rw [e1]
      exact ih (i + 1) (by omega)
    · rw [ni_shl hi8, ni_or]
      refine ni_cg (fun k hk => ?_)
      rw [md_pre]
      by_cases e : k = i
      · have hr : md_rd G S k = true := by
          obtain ⟨v, hv, h1⟩ := ni_nz.mp hh
          rw [Bool.and_eq_true] at h1
          obtain ⟨e2, he2, h2, h3⟩ := md_gr_iff.mp h1.2
          rw [e]
          exact md_rd_iff.mpr (Or.inr ⟨v, hv, h1.1, e2, he2, h2, h3⟩)
        rw [hr, e]; simp
      · have h2 : (k == i) = false := by simp [e]
        rw [h2]; simp
theorem xs_hg_out {G : Nat → Nat → Bool} {S : Nat → Bool} (f_equationsThere f_stale f_unknowns f_pairs f_excessEquations f_excessVariables f_looseEquations f_looseVariables f_blockCount f_firstSingular : Int32) (a_kinds a_given a_found a_constants a_coefficients a_oldCoefficients a_reach a_goodReach a_blockEquations a_blockVariables a_grid a_solvedBy a_rests : Nat → Int32) (hgo : md_rx G 256 a_goodReach) (post : Int32 → Prop) (h : post (nI (md_mk 8 (md_it G S 8)))) : ∀ d i, i + d = 8 → wX_hangingTogether_6 post f_equationsThere f_stale f_unknowns f_pairs f_excessEquations f_excessVariables f_looseEquations f_looseVariables f_blockCount f_firstSingular a_kinds a_given a_found a_constants a_coefficients a_oldCoefficients a_reach a_goodReach a_blockEquations a_blockVariables a_grid a_solvedBy a_rests (d + 1) (nI (md_mk 8 (md_it G S i))) (nI i) := by
  intro d
  induction d with
  | zero =>
    intro i hi
    rw [show i = 8 by omega]
    exact br_t (nI_le (a := 8) (b := 8) (by omega) (by decide)) h
  | succ d ih =>
    intro i hi
    refine br_f (nI_ge (b := 8) (by omega) (by decide)) ⟨vp_in_nI (md_mk8 _) (by decide), nm_r (md_reaP hgo _) ⟨9, ?_⟩⟩
    have h1 := xs_hg_in (S := md_it G S i) f_equationsThere f_stale f_unknowns f_pairs f_excessEquations f_excessVariables f_looseEquations f_looseVariables f_blockCount f_firstSingular a_kinds a_given a_found a_constants a_coefficients a_oldCoefficients a_reach a_goodReach a_blockEquations a_blockVariables a_grid a_solvedBy a_rests hgo post (wX_hangingTogether_6 post f_equationsThere f_stale f_unknowns f_pairs f_excessEquations f_excessVariables f_looseEquations f_looseVariables f_blockCount f_firstSingular a_kinds a_given a_found a_constants a_coefficients a_oldCoefficients a_reach a_goodReach a_blockEquations a_blockVariables a_grid a_solvedBy a_rests (d + 1)) (r := i) (ih (i + 1) (by omega)) 8 0 rfl
    have e1 : nI (md_mk 8 (fun k => md_it G S i k || (md_rd G (md_it G S i) k && decide (k < 0)))) = nI (md_mk 8 (md_it G S i)) := ni_cg (fun k _ => by simp)
    rw [e1] at h1
    exact h1
theorem xs_hg {G : Nat → Nat → Bool} {e : Nat} (he : e < 8) (f_equationsThere f_stale f_unknowns f_pairs f_excessEquations f_excessVariables f_looseEquations f_looseVariables f_blockCount f_firstSingular : Int32) (a_kinds a_given a_found a_constants a_coefficients a_oldCoefficients a_reach a_goodReach a_blockEquations a_blockVariables a_grid a_solvedBy a_rests : Nat → Int32) (hgo : md_rx G 256 a_goodReach) (post : Int32 → Prop) (h : post (nI (md_mk 8 (md_hg G e)))) : wpX_hangingTogether post (f_equationsThere, f_stale, f_unknowns, f_pairs, f_excessEquations, f_excessVariables, f_looseEquations, f_looseVariables, f_blockCount, f_firstSingular, a_kinds, a_given, a_found, a_constants, a_coefficients, a_oldCoefficients, a_reach, a_goodReach, a_blockEquations, a_blockVariables, a_grid, a_solvedBy, a_rests) (nI e) := by
  unfold wpX_hangingTogether
  exact nm_r (ni_shl he) ⟨9, xs_hg_out (S := fun k => k == e) f_equationsThere f_stale f_unknowns f_pairs f_excessEquations f_excessVariables f_looseEquations f_looseVariables f_blockCount f_firstSingular a_kinds a_given a_found a_constants a_coefficients a_oldCoefficients a_reach a_goodReach a_blockEquations a_blockVariables a_grid a_solvedBy a_rests hgo post h 8 0 rfl⟩
def md_nbl (A : Nat → Nat → Bool) (E V C : Nat → Bool) (f i : Nat) : Int32 := if md_fi (md_ok A E V C) f i < 8 then nI (md_mk 8 (md_hg (md_god A E V) (md_fi (md_ok A E V C) f i))) else 0
theorem xs_nb_l {A : Nat → Nat → Bool} {E V C : Nat → Bool} (f_equationsThere f_stale f_unknowns f_pairs f_excessEquations f_excessVariables f_looseEquations f_looseVariables f_blockCount f_firstSingular : Int32) (a_kinds a_given a_found a_constants a_coefficients a_oldCoefficients a_reach a_goodReach a_blockEquations a_blockVariables a_grid a_solvedBy a_rests : Nat → Int32) (hre : md_rx A 256 a_reach) (hgo : md_rx (md_god A E V) 256 a_goodReach) (post : Int32 → Prop) : ∀ d i, i + d = 8 → post (md_nbl A E V C d i) → wX_nextBlock_2 post (nI (md_mk 8 (fun e => md_eve A E V e && !C e))) (nI (md_mk 8 (fun v => md_evv A E V v && !md_gr (md_god A E V) C v))) f_equationsThere f_stale f_unknowns f_pairs f_excessEquations f_excessVariables f_looseEquations f_looseVariables f_blockCount f_firstSingular a_kinds a_given a_found a_constants a_coefficients a_oldCoefficients a_reach a_goodReach a_blockEquations a_blockVariables a_grid a_solvedBy a_rests (d + 1) (nI i) := by
  intro d
  induction d with
  | zero =>
    intro i hi h
    rw [show i = 8 by omega]
    exact br_t (nI_le (a := 8) (b := 8) (by omega) (by decide)) h
  | succ d ih =>
    intro i hi h
    have hi8 : i < 8 := by omega
    have e0 : md_fi (md_ok A E V C) (d + 1) i = if md_ok A E V C i = true then i else md_fi (md_ok A E V C) d (i + 1) := rfl
    have hskip : md_ok A E V C i = false → wX_nextBlock_2 post (nI (md_mk 8 (fun e => md_eve A E V e && !C e))) (nI (md_mk 8 (fun v => md_evv A E V v && !md_gr (md_god A E V) C v))) f_equationsThere f_stale f_unknowns f_pairs f_excessEquations f_excessVariables f_looseEquations f_looseVariables f_blockCount f_firstSingular a_kinds a_given a_found a_constants a_coefficients a_oldCoefficients a_reach a_goodReach a_blockEquations a_blockVariables a_grid a_solvedBy a_rests (d + 1) (nI (i + 1)) := by
      intro hn
      refine ih (i + 1) (by omega) ?_
      unfold md_nbl at h ⊢
      rw [if_neg (by rw [hn]; simp)] at e0
      rw [e0] at h
      exact h
    refine br_f (nI_ge (b := 8) hi8 (by decide)) (xs_has (fun e => md_eve A E V e && !C e) hi8 (fun hE => ?_) (fun hE => nm_r (nI_1 i) (hskip ?_)))
    · refine xs_hg hi8 f_equationsThere f_stale f_unknowns f_pairs f_excessEquations f_excessVariables f_looseEquations f_looseVariables f_blockCount f_firstSingular a_kinds a_given a_found a_constants a_coefficients a_oldCoefficients a_reach a_goodReach a_blockEquations a_blockVariables a_grid a_solvedBy a_rests hgo _ ⟨vp_in_nI (md_mk8 _) (by decide), vp_in_nI (md_mk8 _) (by decide), ?_⟩
      rw [md_reaP hre, md_reaP hgo, ni_sd]
      refine nm_e ?_
      rw [ni_and]
      have hE2 : md_eve A E V i = true ∧ C i = false := by
        rw [Bool.and_eq_true] at hE
        exact ⟨hE.1, by simpa using hE.2⟩
      refine br_c (fun hh => ?_) (fun hh => nm_r (nI_1 i) (hskip ?_))
      · have hok : md_ok A E V C i = true := by
          rw [md_ok_iff]
          refine ⟨hE2.1, hE2.2, fun v hv a b => ?_⟩
          have h3 := ni_z.mp hh v hv
          rw [a, b] at h3
          cases hg : md_gr (md_god A E V) (md_hg (md_god A E V) i) v with
          | true => exact Or.inl rfl
          | false =>
            rw [hg] at h3
            exact Or.inr (by simpa using h3)
        rw [if_pos hok] at e0
        unfold md_nbl at h
        rw [e0, if_pos hi8] at h
        exact h
      · rw [← Bool.not_eq_true, md_ok_iff]
        rintro ⟨_, _, h3⟩
        obtain ⟨v, hv, h4⟩ := ni_nz.mp hh
        simp at h4
        obtain ⟨⟨a, b⟩, c, d2⟩ := h4
        rcases h3 v hv a c with h5 | h5
        · rw [h5] at b; simp at b
        · rw [h5] at d2; simp at d2
    · rw [← Bool.not_eq_true, md_ok_iff]
      rintro ⟨h1, h2, _⟩
      rw [h1, h2] at hE
      simp at hE
theorem xs_nb {A : Nat → Nat → Bool} {E V C : Nat → Bool} (f_equationsThere f_stale f_unknowns f_pairs f_excessEquations f_excessVariables f_looseEquations f_looseVariables f_blockCount f_firstSingular : Int32) (a_kinds a_given a_found a_constants a_coefficients a_oldCoefficients a_reach a_goodReach a_blockEquations a_blockVariables a_grid a_solvedBy a_rests : Nat → Int32) (hre : md_rx A 256 a_reach) (hgo : md_rx (md_god A E V) 256 a_goodReach) (post : Int32 → Prop) (h1 : md_nx A E V C < 8 → post (nI (md_mk 8 (md_hg (md_god A E V) (md_nx A E V C))))) (h0 : ¬ md_nx A E V C < 8 → post 0) : wpX_nextBlock post (f_equationsThere, f_stale, f_unknowns, f_pairs, f_excessEquations, f_excessVariables, f_looseEquations, f_looseVariables, f_blockCount, f_firstSingular, a_kinds, a_given, a_found, a_constants, a_coefficients, a_oldCoefficients, a_reach, a_goodReach, a_blockEquations, a_blockVariables, a_grid, a_solvedBy, a_rests) (nI (md_mk 8 (fun e => md_eve A E V e && !C e))) (nI (md_mk 8 (fun v => md_evv A E V v && !md_gr (md_god A E V) C v))) := by
  unfold wpX_nextBlock
  refine ⟨9, xs_nb_l f_equationsThere f_stale f_unknowns f_pairs f_excessEquations f_excessVariables f_looseEquations f_looseVariables f_blockCount f_firstSingular a_kinds a_given a_found a_constants a_coefficients a_oldCoefficients a_reach a_goodReach a_blockEquations a_blockVariables a_grid a_solvedBy a_rests hre hgo post 8 0 rfl ?_⟩
  unfold md_nbl
  split
  · next h => exact h1 h
  · next h => exact h0 h
def md_bx2 (A : Nat → Nat → Bool) (E V : Nat → Bool) (q : Nat) (f g : Nat → Int32) : Prop := ∀ b, b < q → f b = nI (md_mk 8 (md_B A E V b)) ∧ g b = nI (md_mk 8 (md_gr (md_god A E V) (md_B A E V b)))
theorem md_bx2_put {A : Nat → Nat → Bool} {E V : Nat → Bool} {q : Nat} {f g : Nat → Int32} (h : md_bx2 A E V q f g) : md_bx2 A E V (q + 1) (upd f q (nI (md_mk 8 (md_B A E V q)))) (upd g q (nI (md_mk 8 (md_gr (md_god A E V) (md_B A E V q))))) := by
  intro b hb
  by_cases e : b = q
  · rw [e, pk_us, pk_us]; exact ⟨rfl, rfl⟩
  · rw [pk_un e, pk_un e]; exact h b (by omega)
def md_min (a b : Nat) : Nat := if a ≤ b then a else b
theorem xs_fb_l {A : Nat → Nat → Bool} {E V : Nat → Bool} (hA : md_in A E V) (f_equationsThere f_stale f_unknowns f_pairs f_excessEquations f_excessVariables f_looseEquations f_looseVariables f_firstSingular : Int32) (a_kinds a_given a_found a_constants a_coefficients a_oldCoefficients a_reach a_goodReach a_grid a_solvedBy a_rests : Nat → Int32) (hre : md_rx A 256 a_reach) (hgo : md_rx (md_god A E V) 256 a_goodReach) (post : SX → Prop) (h : ∀ f g, md_bx2 A E V (md_Q A E V) f g → post (f_equationsThere, f_stale, f_unknowns, f_pairs, f_excessEquations, f_excessVariables, f_looseEquations, f_looseVariables, (nI (md_Q A E V)), f_firstSingular, a_kinds, a_given, a_found, a_constants, a_coefficients, a_oldCoefficients, a_reach, a_goodReach, f, g, a_grid, a_solvedBy, a_rests)) : ∀ d i, i + d = 8 → ∀ f g, md_bx2 A E V (md_min i (md_Q A E V)) f g → wX_findBlocks_45 post f_equationsThere f_stale f_unknowns f_pairs f_excessEquations f_excessVariables f_looseEquations f_looseVariables f_firstSingular (d + 1) (nI (md_mk 8 (fun e => md_eve A E V e && !md_C A E V i e))) (nI (md_mk 8 (fun v => md_evv A E V v && !md_gr (md_god A E V) (md_C A E V i) v))) (nI i) (nI (md_min i (md_Q A E V))) a_kinds a_given a_found a_constants a_coefficients a_oldCoefficients a_reach a_goodReach f g a_grid a_solvedBy a_rests := by
  intro d
  induction d with
  | zero =>
    intro i hi f g hfg
    have hq := md_Q_le A E V
    have e1 : md_min i (md_Q A E V) = md_Q A E V := by
      unfold md_min
      split
      · omega
      · rfl
    rw [e1] at hfg ⊢
    rw [show i = 8 by omega]
    exact br_t (nI_le (a := 8) (b := 8) (by omega) (by decide)) (h f g hfg)
  | succ d ih =>
    intro i hi f g hfg
    have hi8 : i < 8 := by omega
    have hq := md_Q_le A E V
    refine br_f (nI_ge (b := 8) hi8 (by decide)) (xs_nb (C := md_C A E V i) f_equationsThere f_stale f_unknowns f_pairs f_excessEquations f_excessVariables f_looseEquations f_looseVariables _ f_firstSingular a_kinds a_given a_found a_constants a_coefficients a_oldCoefficients a_reach a_goodReach f g a_grid a_solvedBy a_rests hre hgo _ (fun hn => ?_) (fun hn => ?_))
    · have hiq : i < md_Q A E V := by
        apply Classical.byContradiction
        intro hge
        have e2 : i = md_Q A E V + (i - md_Q A E V) := by omega
        rw [e2, md_C_stop hA] at hn
        exact md_nx_ge (md_Q_em hA) hn
      have e1 : md_min i (md_Q A E V) = i := by unfold md_min; rw [if_pos (by omega)]
      have e2 : md_min (i + 1) (md_Q A E V) = i + 1 := by unfold md_min; rw [if_pos (by omega)]
      rw [e1] at hfg ⊢
      have hnz : ¬ nI (md_mk 8 (md_hg (md_god A E V) (md_nx A E V (md_C A E V i)))) = 0 := ni_nz.mpr ⟨_, hn, md_hg_self _ _⟩
      refine br_f hnz ⟨vp_in_nI (md_mk8 _) (by decide), nm_r (md_reaP hgo _) ⟨vp_in_nI hi8 (by decide), nm_e ⟨vp_in_nI hi8 (by decide), nm_e ?_⟩⟩⟩
      rw [nI_clamp (by omega)]
      refine nm_r (nI_1 i) (nm_e (nm_e (nm_r (nI_1 i) ?_)))
      rw [ni_sd, ni_sd]
      have h1 := ih (i + 1) (by omega) _ _ (by rw [e2]; exact md_bx2_put hfg)
      rw [e2] at h1
      have c1 : nI (md_mk 8 (fun e => md_eve A E V e && !md_C A E V (i + 1) e)) = nI (md_mk 8 (fun e => (md_eve A E V e && !md_C A E V i e) && !md_hg (md_god A E V) (md_nx A E V (md_C A E V i)) e)) := ni_cg (fun e _ => by
        rw [md_C_step hA hiq]
        show (md_eve A E V e && !(md_C A E V i e || md_B A E V i e)) = ((md_eve A E V e && !md_C A E V i e) && !md_B A E V i e)
        cases md_eve A E V e <;> cases md_C A E V i e <;> cases md_B A E V i e <;> rfl)
      have c2 : nI (md_mk 8 (fun v => md_evv A E V v && !md_gr (md_god A E V) (md_C A E V (i + 1)) v)) = nI (md_mk 8 (fun v => (md_evv A E V v && !md_gr (md_god A E V) (md_C A E V i) v) && !md_gr (md_god A E V) (md_hg (md_god A E V) (md_nx A E V (md_C A E V i))) v)) := ni_cg (fun v _ => by
        have c3 : md_gr (md_god A E V) (md_C A E V (i + 1)) v = (md_gr (md_god A E V) (md_C A E V i) v || md_gr (md_god A E V) (md_B A E V i) v) := by
          rw [md_C_step hA hiq, Bool.eq_iff_iff, Bool.or_eq_true, md_gr_iff, md_gr_iff, md_gr_iff]
          constructor
          · rintro ⟨k, hk, a, b⟩
            rw [Bool.or_eq_true] at a
            rcases a with a | a
            · exact Or.inl ⟨k, hk, a, b⟩
            · exact Or.inr ⟨k, hk, a, b⟩
          · rintro (⟨k, hk, a, b⟩ | ⟨k, hk, a, b⟩)
            · exact ⟨k, hk, by rw [a]; rfl, b⟩
            · exact ⟨k, hk, by rw [a]; simp, b⟩
        rw [c3]
        show _ = ((md_evv A E V v && !md_gr (md_god A E V) (md_C A E V i) v) && !md_gr (md_god A E V) (md_B A E V i) v)
        cases md_evv A E V v <;> cases md_gr (md_god A E V) (md_C A E V i) v <;> cases md_gr (md_god A E V) (md_B A E V i) v <;> rfl)
      rw [c1, c2] at h1
      exact h1
    · have hiq : ¬ i < md_Q A E V := fun hlt => hn (md_Q_nx hA hlt)
      have e1 : md_min i (md_Q A E V) = md_Q A E V := by
        unfold md_min
        split
        · omega
        · rfl
      have e2 : md_min (i + 1) (md_Q A E V) = md_Q A E V := by
        unfold md_min
        rw [if_neg (by omega)]
      have e3 : md_C A E V (i + 1) = md_C A E V i := by
        have a1 := md_C_stop hA (i - md_Q A E V)
        have a2 := md_C_stop hA (i + 1 - md_Q A E V)
        rw [show md_Q A E V + (i - md_Q A E V) = i by omega] at a1
        rw [show md_Q A E V + (i + 1 - md_Q A E V) = i + 1 by omega] at a2
        rw [a1, a2]
      refine br_t rfl (nm_r (nI_1 i) ?_)
      rw [e1] at hfg ⊢
      have h1 := ih (i + 1) (by omega) f g (by rw [e2]; exact hfg)
      rw [e2, e3] at h1
      exact h1
theorem xs_fb {A : Nat → Nat → Bool} {E V : Nat → Bool} (hA : md_in A E V) (f_stale f_pairs f_blockCount f_firstSingular : Int32) (a_kinds a_given a_found a_constants a_coefficients a_oldCoefficients a_reach a_goodReach a_blockEquations a_blockVariables a_grid a_solvedBy a_rests : Nat → Int32) (hre : md_rx A 256 a_reach) (hgo : md_rx (md_god A E V) 256 a_goodReach) (post : SX → Prop) (h : ∀ f g, md_bx2 A E V (md_Q A E V) f g → post ((nI (md_mk 8 E)), f_stale, (nI (md_mk 8 V)), f_pairs, (nI (md_mk 8 (md_exc A E V))), (nI (md_mk 8 (md_exv A E V))), (nI (md_mk 8 (md_loe A E V))), (nI (md_mk 8 (md_loo A E V))), (nI (md_Q A E V)), f_firstSingular, a_kinds, a_given, a_found, a_constants, a_coefficients, a_oldCoefficients, a_reach, a_goodReach, f, g, a_grid, a_solvedBy, a_rests)) : wpX_findBlocks post ((nI (md_mk 8 E)), f_stale, (nI (md_mk 8 V)), f_pairs, (nI (md_mk 8 (md_exc A E V))), (nI (md_mk 8 (md_exv A E V))), (nI (md_mk 8 (md_loe A E V))), (nI (md_mk 8 (md_loo A E V))), f_blockCount, f_firstSingular, a_kinds, a_given, a_found, a_constants, a_coefficients, a_oldCoefficients, a_reach, a_goodReach, a_blockEquations, a_blockVariables, a_grid, a_solvedBy, a_rests) := by
  unfold wpX_findBlocks
  refine nm_e (nm_e ⟨9, ?_⟩)
  rw [ni_sd, ni_sd, ni_sd, ni_sd]
  have h1 := xs_fb_l hA _ f_stale _ f_pairs _ _ _ _  f_firstSingular a_kinds a_given a_found a_constants a_coefficients a_oldCoefficients a_reach a_goodReach   a_grid a_solvedBy a_rests hre hgo post h 8 0 rfl a_blockEquations a_blockVariables (fun b hb => by
    have : md_min 0 (md_Q A E V) = 0 := by unfold md_min; rw [if_pos (Nat.zero_le _)]
    omega)
  have c0 : md_min 0 (md_Q A E V) = 0 := by unfold md_min; rw [if_pos (Nat.zero_le _)]
  rw [c0] at h1
  have c1 : nI (md_mk 8 (fun e => md_eve A E V e && !md_C A E V 0 e)) = nI (md_mk 8 (fun e => (E e && !md_exc A E V e) && !md_loe A E V e)) := ni_cg (fun e _ => by
    show (md_eve A E V e && !false) = _
    rw [Bool.not_false, Bool.and_true]; rfl)
  have c2 : nI (md_mk 8 (fun v => md_evv A E V v && !md_gr (md_god A E V) (md_C A E V 0) v)) = nI (md_mk 8 (fun v => (V v && !md_exv A E V v) && !md_loo A E V v)) := ni_cg (fun v _ => by
    have : md_gr (md_god A E V) (md_C A E V 0) v = false := by
      rw [← Bool.not_eq_true, md_gr_iff]
      rintro ⟨k, _, a, _⟩
      simp [md_C] at a
    rw [this, Bool.not_false, Bool.and_true]; rfl)
  rw [c1, c2] at h1
  exact h1
