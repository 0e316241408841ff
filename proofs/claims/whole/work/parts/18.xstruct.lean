theorem md_pre (P : Nat → Bool) (i : Nat) : ∀ v, (P v && decide (v < i + 1)) = ((P v && decide (v < i)) || (P v && (v == i))) := by
  intro v
  by_cases e : v = i
  · subst e
    cases P v <;> simp
  · have h1 : decide (v < i + 1) = decide (v < i) := decide_eq_decide.mpr (by omega)
    have h2 : (v == i) = false := by simp [e]
    rw [h1, h2]
    cases P v <;> simp
theorem ni_push {P : Nat → Bool} {i : Nat} (hi : i < 8) (h : P i = true) : nI (md_mk 8 (fun v => P v && decide (v < i))) ||| ((1 : Int32) <<< (nI i &&& 31)) = nI (md_mk 8 (fun v => P v && decide (v < i + 1))) := by
  rw [ni_shl hi, ni_or]
  refine ni_cg (fun v _ => ?_)
  rw [md_pre]
  by_cases e : v = i
  · rw [e, h]; simp
  · have h2 : (v == i) = false := by simp [e]
    rw [h2]; simp
theorem ni_keep {P : Nat → Bool} {i : Nat} (h : P i = false) : nI (md_mk 8 (fun v => P v && decide (v < i))) = nI (md_mk 8 (fun v => P v && decide (v < i + 1))) := by
  refine ni_cg (fun v _ => ?_)
  rw [md_pre]
  by_cases e : v = i
  · rw [e, h]; simp
  · have h2 : (v == i) = false := by simp [e]
    rw [h2]; simp
theorem ni_full (P : Nat → Bool) : nI (md_mk 8 (fun v => P v && decide (v < 8))) = nI (md_mk 8 P) := ni_cg (fun v hv => by simp [hv])
theorem ni_none (P : Nat → Bool) : (0 : Int32) = nI (md_mk 8 (fun v => P v && decide (v < 0))) := by
  rw [ni_0]; exact ni_cg (fun v _ => by simp)
theorem md_mn_8 (A : Nat → Nat → Bool) (E V : Nat → Bool) : ∀ n, md_mn A E V n ≤ 8 := by
  intro n
  induction n with
  | zero => exact Nat.le_refl 8
  | succ n ih =>
    show (if md_s8 n E = true then (if md_bd A E V (fun i => n.testBit i) < md_mn A E V n then md_bd A E V (fun i => n.testBit i) else md_mn A E V n) else md_mn A E V n) ≤ 8
    split
    · split <;> omega
    · exact ih
theorem md_bd_16 (A : Nat → Nat → Bool) (E V S : Nat → Bool) : md_bd A E V S ≤ 16 := by
  have h1 := md_ct_le (fun e => E e && !S e) 8
  have h2 := md_ct_le (md_nb A S V) 8
  unfold md_bd
  omega
theorem xs_great_l {A : Nat → Nat → Bool} {E V : Nat → Bool} (f_equationsThere f_stale f_unknowns f_pairs f_excessEquations f_excessVariables f_looseEquations f_looseVariables f_blockCount f_firstSingular : Int32) (a_kinds a_given a_found a_constants a_coefficients a_oldCoefficients a_reach a_goodReach a_blockEquations a_blockVariables a_grid a_solvedBy a_rests : Nat → Int32) (hre : ∀ s, s < 256 → a_reach s = nI (md_mk 8 (md_gr A (fun i => s.testBit i)))) (post : Int32 → Prop) (h : post (nI (md_tau A E V))) : ∀ d i, i + d = 256 → wX_greatest_6 post (nI (md_mk 8 E)) (nI (md_mk 8 V)) f_equationsThere f_stale f_unknowns f_pairs f_excessEquations f_excessVariables f_looseEquations f_looseVariables f_blockCount f_firstSingular a_kinds a_given a_found a_constants a_coefficients a_oldCoefficients a_reach a_goodReach a_blockEquations a_blockVariables a_grid a_solvedBy a_rests (d + 1) (nI (md_mn A E V i)) (nI i) := by
  intro d
  induction d with
  | zero =>
    intro i hi
    rw [show i = 256 by omega]
    exact br_t (nI_le (a := 256) (b := 256) (by omega) (by decide)) h
  | succ d ih =>
    intro i hi
    have hi8 : i < 256 := by omega
    have ew : nI i = nI (md_mk 8 (fun k => i.testBit k)) := ni_of hi8
    have e1 : nI i &&& (nI (md_mk 8 E) ^^^ (-1)) = nI (md_mk 8 (fun k => i.testBit k && !E k)) := by rw [ew, ni_sd]
    have e2 : nI (md_mk 8 E) &&& (nI i ^^^ (-1)) = nI (md_mk 8 (fun k => E k && !i.testBit k)) := by rw [ew, ni_sd]
    have emn : md_mn A E V (i + 1) = if md_s8 i E = true then (if md_bd A E V (fun k => i.testBit k) < md_mn A E V i then md_bd A E V (fun k => i.testBit k) else md_mn A E V i) else md_mn A E V i := rfl
    have hm8 := md_mn_8 A E V i
    have hb16 := md_bd_16 A E V (fun k => i.testBit k)
    refine br_f (nI_ge (b := 256) hi8 (by decide)) ?_
    by_cases hs : md_s8 i E = true
    · refine br_t ?_ ?_
      · rw [e1, ni_z]
        intro k hk
        have := md_s8_iff.mp hs k hk
        cases hb : i.testBit k with
        | false => rfl
        | true => rw [this hb]; rfl
      · rw [e2]
        refine xs_size _ _ ⟨vp_in_nI hi8 (by decide), ?_⟩
        rw [nI_clamp (by omega), hre i hi8, ni_and]
        refine xs_size _ _ (nm_r (e' := nI (md_bd A E V (fun k => i.testBit k))) ?_ ?_)
        · rw [nI_add]
          congr 1
          unfold md_bd
          congr 1
          exact md_ct_cg (fun v _ => Bool.and_comm _ _)
        · refine br_c (fun hle => ?_) (fun hle => ?_)
          · rw [nI_leI (by omega) (by omega)] at hle
            refine nm_r (nI_1 i) ?_
            have := ih (i + 1) (by omega)
            rw [emn, if_pos hs, if_neg (by omega)] at this
            exact this
          · rw [nI_leI (by omega) (by omega)] at hle
            refine nm_r (nI_1 i) ?_
            have := ih (i + 1) (by omega)
            rw [emn, if_pos hs, if_pos (by omega)] at this
            exact this
    · refine br_f ?_ (nm_r (nI_1 i) ?_)
      · rw [e1, ni_z]
        intro hh
        apply hs
        rw [md_s8_iff]
        intro k hk hb
        have := hh k hk
        have hb' : i.testBit k = true := hb
        rw [hb'] at this
        simpa using this
      · have := ih (i + 1) (by omega)
        rw [emn, if_neg hs] at this
        exact this
theorem xs_great {A : Nat → Nat → Bool} {E V : Nat → Bool} (f_equationsThere f_stale f_unknowns f_pairs f_excessEquations f_excessVariables f_looseEquations f_looseVariables f_blockCount f_firstSingular : Int32) (a_kinds a_given a_found a_constants a_coefficients a_oldCoefficients a_reach a_goodReach a_blockEquations a_blockVariables a_grid a_solvedBy a_rests : Nat → Int32) (hre : ∀ s, s < 256 → a_reach s = nI (md_mk 8 (md_gr A (fun i => s.testBit i)))) (post : Int32 → Prop) (h : post (nI (md_tau A E V))) : wpX_greatest post (f_equationsThere, f_stale, f_unknowns, f_pairs, f_excessEquations, f_excessVariables, f_looseEquations, f_looseVariables, f_blockCount, f_firstSingular, a_kinds, a_given, a_found, a_constants, a_coefficients, a_oldCoefficients, a_reach, a_goodReach, a_blockEquations, a_blockVariables, a_grid, a_solvedBy, a_rests) (nI (md_mk 8 E)) (nI (md_mk 8 V)) := by
  unfold wpX_greatest
  exact ⟨257, xs_great_l f_equationsThere f_stale f_unknowns f_pairs f_excessEquations f_excessVariables f_looseEquations f_looseVariables f_blockCount f_firstSingular a_kinds a_given a_found a_constants a_coefficients a_oldCoefficients a_reach a_goodReach a_blockEquations a_blockVariables a_grid a_solvedBy a_rests hre post h 256 0 rfl⟩
theorem xs_unks_l {kd : Nat → Nat} (f_equationsThere f_stale f_pairs f_excessEquations f_excessVariables f_looseEquations f_looseVariables f_blockCount f_firstSingular : Int32) (a_kinds a_given a_found a_constants a_coefficients a_oldCoefficients a_reach a_goodReach a_blockEquations a_blockVariables a_grid a_solvedBy a_rests : Nat → Int32) (hk : ∀ j, a_kinds j = nI (kd j)) (hk4 : ∀ j, kd j < 4) (post : SX → Prop) (h : post (f_equationsThere, f_stale, nI (md_mk 8 (md_Vk kd)), f_pairs, f_excessEquations, f_excessVariables, f_looseEquations, f_looseVariables, f_blockCount, f_firstSingular, a_kinds, a_given, a_found, a_constants, a_coefficients, a_oldCoefficients, a_reach, a_goodReach, a_blockEquations, a_blockVariables, a_grid, a_solvedBy, a_rests)) : ∀ d i, i + d = 8 → wX_findUnknowns_7 post f_equationsThere f_stale f_pairs f_excessEquations f_excessVariables f_looseEquations f_looseVariables f_blockCount f_firstSingular a_kinds a_given a_found a_constants a_coefficients a_oldCoefficients a_reach a_goodReach a_blockEquations a_blockVariables a_grid a_solvedBy a_rests (d + 1) (nI i) (nI (md_mk 8 (fun v => md_Vk kd v && decide (v < i)))) := by
  intro d
  induction d with
  | zero =>
    intro i hi
    rw [show i = 8 by omega, ni_full]
    exact br_t (nI_le (a := 8) (b := 8) (by omega) (by decide)) h
  | succ d ih =>
    intro i hi
    have hi8 : i < 8 := by omega
    have hin : vp_in (nI i) 8 := vp_in_nI hi8 (by decide)
    have hkk := hk4 i
    have e1 : a_kinds (nI i).toNatClampNeg = nI (kd i) := by rw [nI_clamp (by omega), hk]
    refine br_f (nI_ge (b := 8) hi8 (by decide)) ⟨hin, ?_⟩
    rw [e1]
    have hput : md_Vk kd i = true → wX_findUnknowns_33 post (wX_findUnknowns_7 post f_equationsThere f_stale f_pairs f_excessEquations f_excessVariables f_looseEquations f_looseVariables f_blockCount f_firstSingular a_kinds a_given a_found a_constants a_coefficients a_oldCoefficients a_reach a_goodReach a_blockEquations a_blockVariables a_grid a_solvedBy a_rests (d + 1)) (nI i) f_equationsThere f_stale (nI (md_mk 8 (fun v => md_Vk kd v && decide (v < i)))) f_pairs f_excessEquations f_excessVariables f_looseEquations f_looseVariables f_blockCount f_firstSingular a_kinds a_given a_found a_constants a_coefficients a_oldCoefficients a_reach a_goodReach a_blockEquations a_blockVariables a_grid a_solvedBy a_rests := by
      intro hv
      exact nm_r (ni_push hi8 hv) (nm_r (nI_1 i) (ih (i + 1) (by omega)))
    by_cases h1 : kd i = 1
    · refine br_t (by rw [h1]; rfl) (hput ?_)
      unfold md_Vk; simp [hi8, h1]
    · refine br_f (fun hh => h1 ((nI_eq (by omega) (by decide)).mp (hh : nI (kd i) = nI 1))) ⟨hin, ?_⟩
      by_cases h3 : kd i = 3
      · refine br_t (by rw [h3]; rfl) (hput ?_)
        unfold md_Vk; simp [hi8, h3]
      · refine br_f (fun hh => h3 ((nI_eq (by omega) (by decide)).mp (hh : nI (kd i) = nI 3))) (nm_r (nI_1 i) ?_)
        rw [ni_keep (P := md_Vk kd) (by unfold md_Vk; simp [h1, h3])]
        exact ih (i + 1) (by omega)
theorem xs_unks {kd : Nat → Nat} (f_equationsThere f_stale f_unknowns f_pairs f_excessEquations f_excessVariables f_looseEquations f_looseVariables f_blockCount f_firstSingular : Int32) (a_kinds a_given a_found a_constants a_coefficients a_oldCoefficients a_reach a_goodReach a_blockEquations a_blockVariables a_grid a_solvedBy a_rests : Nat → Int32) (hk : ∀ j, a_kinds j = nI (kd j)) (hk4 : ∀ j, kd j < 4) (post : SX → Prop) (h : post (f_equationsThere, f_stale, nI (md_mk 8 (md_Vk kd)), f_pairs, f_excessEquations, f_excessVariables, f_looseEquations, f_looseVariables, f_blockCount, f_firstSingular, a_kinds, a_given, a_found, a_constants, a_coefficients, a_oldCoefficients, a_reach, a_goodReach, a_blockEquations, a_blockVariables, a_grid, a_solvedBy, a_rests)) : wpX_findUnknowns post (f_equationsThere, f_stale, f_unknowns, f_pairs, f_excessEquations, f_excessVariables, f_looseEquations, f_looseVariables, f_blockCount, f_firstSingular, a_kinds, a_given, a_found, a_constants, a_coefficients, a_oldCoefficients, a_reach, a_goodReach, a_blockEquations, a_blockVariables, a_grid, a_solvedBy, a_rests) := by
  unfold wpX_findUnknowns
  have h1 := xs_unks_l f_equationsThere f_stale  f_pairs f_excessEquations f_excessVariables f_looseEquations f_looseVariables f_blockCount f_firstSingular a_kinds a_given a_found a_constants a_coefficients a_oldCoefficients a_reach a_goodReach a_blockEquations a_blockVariables a_grid a_solvedBy a_rests hk hk4 post h 8 0 rfl
  rw [← ni_none] at h1
  exact ⟨9, h1⟩
theorem xs_uin_l {kd cf : Nat → Nat} {m e : Nat} (he : e < 8) (f_stale f_pairs f_excessEquations f_excessVariables f_looseEquations f_looseVariables f_blockCount f_firstSingular : Int32) (a_kinds a_given a_found a_constants a_coefficients a_oldCoefficients a_reach a_goodReach a_blockEquations a_blockVariables a_grid a_solvedBy a_rests : Nat → Int32) (hc : ∀ j, a_coefficients j = nI (cf j)) (hc1 : ∀ j, cf j < 101) (post : Int32 → Prop) (h : post (nI (md_mk 8 (md_Ak kd cf m e)))) : ∀ d i, i + d = 8 → wX_unknownsIn_4 post (nI e) (nI (md_mk 8 (md_Em m))) f_stale (nI (md_mk 8 (md_Vk kd))) f_pairs f_excessEquations f_excessVariables f_looseEquations f_looseVariables f_blockCount f_firstSingular a_kinds a_given a_found a_constants a_coefficients a_oldCoefficients a_reach a_goodReach a_blockEquations a_blockVariables a_grid a_solvedBy a_rests (d + 1) (nI (md_mk 8 (fun v => md_Ak kd cf m e v && decide (v < i)))) (nI i) := by
  intro d
  induction d with
  | zero =>
    intro i hi
    rw [show i = 8 by omega, ni_full]
    exact br_t (nI_le (a := 8) (b := 8) (by omega) (by decide)) h
  | succ d ih =>
    intro i hi
    have hi8 : i < 8 := by omega
    have hno : md_Ak kd cf m e i = false → wX_unknownsIn_4 post (nI e) (nI (md_mk 8 (md_Em m))) f_stale (nI (md_mk 8 (md_Vk kd))) f_pairs f_excessEquations f_excessVariables f_looseEquations f_looseVariables f_blockCount f_firstSingular a_kinds a_given a_found a_constants a_coefficients a_oldCoefficients a_reach a_goodReach a_blockEquations a_blockVariables a_grid a_solvedBy a_rests (d + 1) (nI (md_mk 8 (fun v => md_Ak kd cf m e v && decide (v < i)))) (nI (i + 1)) := by
      intro hn
      rw [ni_keep hn]
      exact ih (i + 1) (by omega)
    have e1 : (nI e * 8) + nI i = nI (e * 8 + i) := by
      show nI e * nI 8 + nI i = _
      rw [pk_mul, nI_add]
    refine br_f (nI_ge (b := 8) hi8 (by decide)) (xs_has (md_Em m) he (fun hE => ?_) (fun hE => nm_r (nI_1 i) (hno ?_)))
    · refine xs_has (md_Vk kd) hi8 (fun hV => ?_) (fun hV => nm_r (nI_1 i) (hno ?_))
      · have hcc := hc1 (e * 8 + i)
        rw [e1]
        refine ⟨vp_in_nI (by omega) (by decide), ?_⟩
        rw [nI_clamp (by omega), hc]
        by_cases hz : cf (e * 8 + i) = 0
        · refine br_t (by rw [hz]; rfl) (nm_r (nI_1 i) (hno ?_))
          unfold md_Ak; simp [hz]
        · refine br_f (fun hh => hz ((md_z0 (by omega)).mp hh)) (nm_r (ni_push hi8 ?_) (nm_r (nI_1 i) (ih (i + 1) (by omega))))
          unfold md_Ak
          have hE' : m.testBit e = true := hE
          simp [hE', hV, hz]
      · unfold md_Ak; simp [hV]
    · unfold md_Ak
      have hE' : m.testBit e = false := hE
      simp [hE']
theorem xs_uin {kd cf : Nat → Nat} {m e : Nat} (he : e < 8) (f_stale f_pairs f_excessEquations f_excessVariables f_looseEquations f_looseVariables f_blockCount f_firstSingular : Int32) (a_kinds a_given a_found a_constants a_coefficients a_oldCoefficients a_reach a_goodReach a_blockEquations a_blockVariables a_grid a_solvedBy a_rests : Nat → Int32) (hc : ∀ j, a_coefficients j = nI (cf j)) (hc1 : ∀ j, cf j < 101) (post : Int32 → Prop) (h : post (nI (md_mk 8 (md_Ak kd cf m e)))) : wpX_unknownsIn post ((nI (md_mk 8 (md_Em m))), f_stale, (nI (md_mk 8 (md_Vk kd))), f_pairs, f_excessEquations, f_excessVariables, f_looseEquations, f_looseVariables, f_blockCount, f_firstSingular, a_kinds, a_given, a_found, a_constants, a_coefficients, a_oldCoefficients, a_reach, a_goodReach, a_blockEquations, a_blockVariables, a_grid, a_solvedBy, a_rests) (nI e) := by
  unfold wpX_unknownsIn
  have h1 := xs_uin_l he  f_stale  f_pairs f_excessEquations f_excessVariables f_looseEquations f_looseVariables f_blockCount f_firstSingular a_kinds a_given a_found a_constants a_coefficients a_oldCoefficients a_reach a_goodReach a_blockEquations a_blockVariables a_grid a_solvedBy a_rests hc hc1 post h 8 0 rfl
  rw [← ni_none] at h1
  exact ⟨9, h1⟩
