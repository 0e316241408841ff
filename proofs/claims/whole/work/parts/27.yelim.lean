theorem md_ix9 (r c : Nat) : (9 * nI r) + nI c = nI (9 * r + c) := by
  show nI 9 * nI r + nI c = _
  rw [pk_mul, nI_add]
theorem md_ix98 (r : Nat) : (9 * nI r) + 8 = nI (9 * r + 8) := md_ix9 r 8
def md_mN (g : Nat → Nat) (f : Nat → Int32) : Prop := ∀ j, f j = nI (g j) ∧ g j < 101
theorem md_mN_up {g : Nat → Nat} {f : Nat → Int32} (h : md_mN g f) {k x : Nat} (hx : x < 101) : md_mN (md_up g k x) (upd f k (nI x)) := by
  intro j
  by_cases e : j = k
  · rw [e, pk_us, md_up_s]; exact ⟨rfl, hx⟩
  · rw [pk_un e, md_up_n e]; exact h j
def md_fl (cf rv : Nat → Nat) (es vs : Nat → Bool) (k i : Nat) (g : Nat → Nat) : Prop := (∀ e v, e < 8 → v < 8 → es e = true → vs v = true → (e < k ∨ (e = k ∧ v < i)) → g (9 * md_ct e es + md_ct v vs) = cf (e * 8 + v)) ∧ ∀ e, e < 8 → es e = true → e < k → g (9 * md_ct e es + 8) = rv e
theorem md_ct_s1 {P : Nat → Bool} {k : Nat} (h : P k = true) : md_ct (k + 1) P = md_ct k P + 1 := by
  show md_ct k P + (P k).toNat = _
  rw [h]; rfl
theorem md_ct_s0 {P : Nat → Bool} {k : Nat} (h : P k = false) : md_ct (k + 1) P = md_ct k P := by
  show md_ct k P + (P k).toNat = _
  rw [h]; rfl
theorem ys_fl_in {cf rv os : Nat → Nat} {es vs : Nat → Bool} {k : Nat} (hk : k < 8) (hek : es k = true) (x3 : Int32) (f_equations f_variables f_greatest f_excess f_loose f_excessOnes f_looseOnes f_known f_blocks : Int32) (a_kind a_value a_before a_constant a_latest a_there a_shown a_coefficient a_old a_inside a_most a_more a_blockEquations a_blockVariables a_goodPairs : Nat → Int32) (hc : ∀ j, a_coefficient j = nI (cf j)) (hc1 : ∀ j, cf j < 101) (hoth : ¬ x3 = 0 → ∀ f (P : Int32 → Prop), P (nI (os k)) → wpY_others P (f_equations, f_variables, f_greatest, f_excess, f_loose, f_excessOnes, f_looseOnes, f_known, f_blocks, a_kind, a_value, a_before, a_constant, a_latest, a_there, a_shown, a_coefficient, a_old, a_inside, a_most, a_more, a_blockEquations, a_blockVariables, a_goodPairs, f) (nI k)) (hr0 : x3 = 0 → rv k = 0) (hr1 : ¬ x3 = 0 → rv k = md_md (-(nI (os k)))) (post : SY → Prop) (J : Int32 → Int32 → (Nat → Int32) → (Nat → Int32) → (Nat → Int32) → (Nat → Int32) → (Nat → Int32) → (Nat → Int32) → (Nat → Int32) → (Nat → Int32) → (Nat → Int32) → (Nat → Int32) → (Nat → Int32) → (Nat → Int32) → (Nat → Int32) → (Nat → Int32) → (Nat → Int32) → (Nat → Int32) → Prop) (x1 : Int32) (hJ : ∀ f g, md_mN g f → md_fl cf rv es vs (k + 1) 0 g → J (nI (md_ct (k + 1) es)) (nI (k + 1)) a_kind a_value a_before a_constant a_latest a_there a_shown a_coefficient a_old a_inside a_most a_more a_blockEquations a_blockVariables a_goodPairs f) : ∀ d v f g, v + d = 8 → md_mN g f → md_fl cf rv es vs k v g → wY_fill_31 post J x1 (nI (md_mk 8 vs)) x3 (nI (md_ct k es)) (nI k) f_equations f_variables f_greatest f_excess f_loose f_excessOnes f_looseOnes f_known f_blocks (d + 1) (nI (md_ct v vs)) (nI v) a_kind a_value a_before a_constant a_latest a_there a_shown a_coefficient a_old a_inside a_most a_more a_blockEquations a_blockVariables a_goodPairs f := by
  have hck := md_ct_le es k
  have hrow : ∀ e, e < k → es e = true → md_ct e es < md_ct k es := fun e h1 h2 => md_rk_lt es h1 h2
  intro d
  induction d with
  | zero =>
    intro v f g hv hg hf
    rw [show v = 8 by omega] at hf ⊢
    have hfin : ∀ x, x = rv k → x < 101 → J (nI (md_ct (k + 1) es)) (nI (k + 1)) a_kind a_value a_before a_constant a_latest a_there a_shown a_coefficient a_old a_inside a_most a_more a_blockEquations a_blockVariables a_goodPairs (upd f (9 * md_ct k es + 8) (nI x)) := by
      intro x hx hx1
      refine hJ _ _ (md_mN_up hg hx1) ⟨fun e v he hv hes hvs hh => ?_, fun e he hes hh => ?_⟩
      · have hcv := md_ct_le vs v
        rw [md_up_n (by omega)]
        exact hf.1 e v he hv hes hvs (by omega)
      · by_cases e1 : e = k
        · rw [e1, md_up_s]; exact hx
        · have := hrow e (by omega) hes
          rw [md_up_n (by omega)]
          exact hf.2 e he hes (by omega)
    refine br_t (nI_le (a := 8) (b := 8) (by omega) (by decide)) ?_
    rw [md_ix98]
    refine br_c (fun h0 => ⟨vp_in_nI (by omega) (by decide), nm_e ?_⟩) (fun h0 => ?_)
    · rw [nI_clamp (by omega)]
      refine nm_r (by rw [nI_1, ← md_ct_s1 hek]) (nm_r (nI_1 k) ?_)
      exact hfin 0 (hr0 h0).symm (by decide)
    · refine hoth h0 f _ (ys_mod _ _ ⟨vp_in_nI (by omega) (by decide), nm_e ?_⟩)
      rw [nI_clamp (by omega)]
      refine nm_r (by rw [nI_1, ← md_ct_s1 hek]) (nm_r (nI_1 k) ?_)
      exact hfin _ (hr1 h0).symm (md_md_lt _)
  | succ d ih =>
    intro v f g hv hg hf
    have hv8 : v < 8 := by omega
    have hcv := md_ct_le vs v
    refine br_f (nI_ge (b := 8) hv8 (by decide)) ?_
    cases hvs : vs v with
    | false =>
      refine br_t (md_b0 hv8 hvs) (nm_r (nI_1 v) ?_)
      rw [← md_ct_s0 hvs]
      refine ih (v + 1) f g (by omega) hg ⟨fun e w he hw hes hws hh => ?_, hf.2⟩
      by_cases e1 : e = k ∧ w = v
      · rw [e1.2, hvs] at hws; simp at hws
      · exact hf.1 e w he hw hes hws (by omega)
    | true =>
      refine br_f (md_b0n hv8 hvs) ?_
      rw [md_ix8', md_ix9]
      refine ⟨vp_in_nI (by omega) (by decide), vp_in_nI (by omega) (by decide), nm_e ?_⟩
      rw [nI_clamp (n := k * 8 + v) (by omega), nI_clamp (n := 9 * md_ct k es + md_ct v vs) (by omega), hc]
      refine nm_r (by rw [nI_1, ← md_ct_s1 hvs]) (nm_r (nI_1 v) ?_)
      refine ih (v + 1) _ _ (by omega) (md_mN_up hg (hc1 _)) ⟨fun e w he hw hes hws hh => ?_, fun e he hes hh => ?_⟩
      · have hcw := md_ct_le vs w
        by_cases e1 : e = k
        · by_cases e2 : w = v
          · rw [e1, e2, md_up_s]
          · have := md_rk_lt vs (show w < v by omega) hws
            rw [e1, md_up_n (by omega)]
            exact hf.1 k w hk hw hek hws (by omega)
        · have := hrow e (by omega) hes
          rw [md_up_n (by omega)]
          exact hf.1 e w he hw hes hws (by omega)
      · have := hrow e (by omega) hes
        rw [md_up_n (by omega)]
        exact hf.2 e he hes hh
theorem ys_fl_out {cf rv os : Nat → Nat} {es vs : Nat → Bool} (x3 : Int32) (f_equations f_variables f_greatest f_excess f_loose f_excessOnes f_looseOnes f_known f_blocks : Int32) (a_kind a_value a_before a_constant a_latest a_there a_shown a_coefficient a_old a_inside a_most a_more a_blockEquations a_blockVariables a_goodPairs : Nat → Int32) (hc : ∀ j, a_coefficient j = nI (cf j)) (hc1 : ∀ j, cf j < 101) (hoth : ¬ x3 = 0 → ∀ k, k < 8 → ∀ f (P : Int32 → Prop), P (nI (os k)) → wpY_others P (f_equations, f_variables, f_greatest, f_excess, f_loose, f_excessOnes, f_looseOnes, f_known, f_blocks, a_kind, a_value, a_before, a_constant, a_latest, a_there, a_shown, a_coefficient, a_old, a_inside, a_most, a_more, a_blockEquations, a_blockVariables, a_goodPairs, f) (nI k)) (hr0 : x3 = 0 → ∀ k, rv k = 0) (hr1 : ¬ x3 = 0 → ∀ k, rv k = md_md (-(nI (os k)))) (post : SY → Prop) (h : ∀ f g, md_mN g f → md_fl cf rv es vs 8 0 g → post (f_equations, f_variables, f_greatest, f_excess, f_loose, f_excessOnes, f_looseOnes, f_known, f_blocks, a_kind, a_value, a_before, a_constant, a_latest, a_there, a_shown, a_coefficient, a_old, a_inside, a_most, a_more, a_blockEquations, a_blockVariables, a_goodPairs, f)) : ∀ d k f g, k + d = 8 → md_mN g f → md_fl cf rv es vs k 0 g → wY_fill_6 post (nI (md_mk 8 es)) (nI (md_mk 8 vs)) x3 f_equations f_variables f_greatest f_excess f_loose f_excessOnes f_looseOnes f_known f_blocks (d + 1) (nI (md_ct k es)) (nI k) a_kind a_value a_before a_constant a_latest a_there a_shown a_coefficient a_old a_inside a_most a_more a_blockEquations a_blockVariables a_goodPairs f := by
  intro d
  induction d with
  | zero =>
    intro k f g hk hg hf
    rw [show k = 8 by omega] at hf ⊢
    exact br_t (nI_le (a := 8) (b := 8) (by omega) (by decide)) (h f g hg hf)
  | succ d ih =>
    intro k f g hk hg hf
    have hk8 : k < 8 := by omega
    refine br_f (nI_ge (b := 8) hk8 (by decide)) ?_
    cases hes : es k with
    | false =>
      refine br_t (md_b0 hk8 hes) (nm_r (nI_1 k) ?_)
      rw [← md_ct_s0 hes]
      refine ih (k + 1) f g (by omega) hg ⟨fun e w he hw he2 hws hh => ?_, fun e he he2 hh => ?_⟩
      · by_cases e1 : e = k
        · rw [e1, hes] at he2; simp at he2
        · exact hf.1 e w he hw he2 hws (by omega)
      · by_cases e1 : e = k
        · rw [e1, hes] at he2; simp at he2
        · exact hf.2 e he he2 (by omega)
    | true =>
      refine br_f (md_b0n hk8 hes) ⟨9, ?_⟩
      exact ys_fl_in (os := os) hk8 hes x3 f_equations f_variables f_greatest f_excess f_loose f_excessOnes f_looseOnes f_known f_blocks a_kind a_value a_before a_constant a_latest a_there a_shown a_coefficient a_old a_inside a_most a_more a_blockEquations a_blockVariables a_goodPairs  hc hc1 (fun h0 => hoth h0 k hk8) (fun h0 => hr0 h0 k) (fun h0 => hr1 h0 k) post _ _ (fun f' g' hg' hf' => ih (k + 1) f' g' (by omega) hg' hf') 8 0 f g rfl hg hf
theorem ys_fill {cf rv os g0 : Nat → Nat} {es vs : Nat → Bool} (x3 : Int32) (f_equations f_variables f_greatest f_excess f_loose f_excessOnes f_looseOnes f_known f_blocks : Int32) (a_kind a_value a_before a_constant a_latest a_there a_shown a_coefficient a_old a_inside a_most a_more a_blockEquations a_blockVariables a_goodPairs a_matrix : Nat → Int32) (hc : ∀ j, a_coefficient j = nI (cf j)) (hc1 : ∀ j, cf j < 101) (hm : md_mN g0 a_matrix) (hoth : ¬ x3 = 0 → ∀ k, k < 8 → ∀ f (P : Int32 → Prop), P (nI (os k)) → wpY_others P (f_equations, f_variables, f_greatest, f_excess, f_loose, f_excessOnes, f_looseOnes, f_known, f_blocks, a_kind, a_value, a_before, a_constant, a_latest, a_there, a_shown, a_coefficient, a_old, a_inside, a_most, a_more, a_blockEquations, a_blockVariables, a_goodPairs, f) (nI k)) (hr0 : x3 = 0 → ∀ k, rv k = 0) (hr1 : ¬ x3 = 0 → ∀ k, rv k = md_md (-(nI (os k)))) (post : SY → Prop) (h : ∀ f g, md_mN g f → md_fl cf rv es vs 8 0 g → post (f_equations, f_variables, f_greatest, f_excess, f_loose, f_excessOnes, f_looseOnes, f_known, f_blocks, a_kind, a_value, a_before, a_constant, a_latest, a_there, a_shown, a_coefficient, a_old, a_inside, a_most, a_more, a_blockEquations, a_blockVariables, a_goodPairs, f)) : wpY_fill post (f_equations, f_variables, f_greatest, f_excess, f_loose, f_excessOnes, f_looseOnes, f_known, f_blocks, a_kind, a_value, a_before, a_constant, a_latest, a_there, a_shown, a_coefficient, a_old, a_inside, a_most, a_more, a_blockEquations, a_blockVariables, a_goodPairs, a_matrix) (nI (md_mk 8 es)) (nI (md_mk 8 vs)) x3 := by
  unfold wpY_fill
  exact ⟨9, ys_fl_out x3 f_equations f_variables f_greatest f_excess f_loose f_excessOnes f_looseOnes f_known f_blocks a_kind a_value a_before a_constant a_latest a_there a_shown a_coefficient a_old a_inside a_most a_more a_blockEquations a_blockVariables a_goodPairs  hc hc1 hoth hr0 hr1 post h 8 0 a_matrix g0 rfl hm ⟨fun e v _ _ _ _ hh => by omega, fun e _ _ hh => by omega⟩⟩
theorem ys_cl_l {g : Nat → Nat} {r k : Nat} (hr : r < 8) (hk : k < 8) (hrk : r ≠ k) (hgb : ∀ j, g j < 101) (f_equations f_variables f_greatest f_excess f_loose f_excessOnes f_looseOnes f_known f_blocks : Int32) (a_kind a_value a_before a_constant a_latest a_there a_shown a_coefficient a_old a_inside a_most a_more a_blockEquations a_blockVariables a_goodPairs : Nat → Int32) (post : SY → Prop) (h : ∀ f g', md_mN g' f → (∀ c, c < 9 → g' (9 * r + c) = (g (9 * r + c) + g (9 * r + k) * (101 - g (9 * k + c))) % 101) → (∀ e, e < 8 → e ≠ r → ∀ c, c < 9 → g' (9 * e + c) = g (9 * e + c)) → post (f_equations, f_variables, f_greatest, f_excess, f_loose, f_excessOnes, f_looseOnes, f_known, f_blocks, a_kind, a_value, a_before, a_constant, a_latest, a_there, a_shown, a_coefficient, a_old, a_inside, a_most, a_more, a_blockEquations, a_blockVariables, a_goodPairs, f)) : ∀ d i f g', i + d = 9 → md_mN g' f → (∀ c, c < i → g' (9 * r + c) = (g (9 * r + c) + g (9 * r + k) * (101 - g (9 * k + c))) % 101) → (∀ c, i ≤ c → c < 9 → g' (9 * r + c) = g (9 * r + c)) → (∀ e, e < 8 → e ≠ r → ∀ c, c < 9 → g' (9 * e + c) = g (9 * e + c)) → wY_clear_15 post (nI r) (nI k) (nI (g (9 * r + k))) f_equations f_variables f_greatest f_excess f_loose f_excessOnes f_looseOnes f_known f_blocks (d + 1) (nI i) a_kind a_value a_before a_constant a_latest a_there a_shown a_coefficient a_old a_inside a_most a_more a_blockEquations a_blockVariables a_goodPairs f := by
  intro d
  induction d with
  | zero =>
    intro i f g' hi h1 h2 h3 h4
    rw [show i = 9 by omega] at h2 ⊢
    exact br_t (nI_le (a := 9) (b := 9) (by omega) (by decide)) (h f g' h1 h2 h4)
  | succ d ih =>
    intro i f g' hi h1 h2 h3 h4
    have hi9 : i < 9 := by omega
    obtain ⟨g1, g2⟩ := h1 (9 * r + i)
    obtain ⟨g3, g4⟩ := h1 (9 * k + i)
    refine br_f (nI_ge (b := 9) hi9 (by decide)) ?_
    rw [md_ix9, md_ix9]
    refine ⟨vp_in_nI (by omega) (by decide), vp_in_nI (by omega) (by decide), ?_⟩
    rw [nI_clamp (n := 9 * r + i) (by omega), nI_clamp (n := 9 * k + i) (by omega), g1, g3]
    refine ys_mod _ _ ⟨vp_in_nI (by omega) (by decide), nm_e (nm_r (nI_1 i) ?_)⟩
    rw [md_sub_mul g2 (hgb _) g4]
    refine ih (i + 1) _ _ (by omega) (md_mN_up h1 (Nat.mod_lt _ (by decide))) (fun c hc => ?_) (fun c hc1 hc2 => ?_) (fun e he hne c hc => ?_)
    · by_cases e : c = i
      · rw [e, md_up_s, h3 i (Nat.le_refl i) hi9, h4 k hk (fun h => hrk h.symm) i hi9]
      · rw [md_up_n (by omega)]; exact h2 c (by omega)
    · rw [md_up_n (by omega)]; exact h3 c (by omega) hc2
    · rw [md_up_n (by omega)]; exact h4 e he hne c hc
theorem ys_cl {g : Nat → Nat} {r k : Nat} (hr : r < 8) (hk : k < 8) (hrk : r ≠ k) (f_equations f_variables f_greatest f_excess f_loose f_excessOnes f_looseOnes f_known f_blocks : Int32) (a_kind a_value a_before a_constant a_latest a_there a_shown a_coefficient a_old a_inside a_most a_more a_blockEquations a_blockVariables a_goodPairs a_matrix : Nat → Int32) (hg : md_mN g a_matrix) (post : SY → Prop) (h : ∀ f g', md_mN g' f → (∀ c, c < 9 → g' (9 * r + c) = (g (9 * r + c) + g (9 * r + k) * (101 - g (9 * k + c))) % 101) → (∀ e, e < 8 → e ≠ r → ∀ c, c < 9 → g' (9 * e + c) = g (9 * e + c)) → post (f_equations, f_variables, f_greatest, f_excess, f_loose, f_excessOnes, f_looseOnes, f_known, f_blocks, a_kind, a_value, a_before, a_constant, a_latest, a_there, a_shown, a_coefficient, a_old, a_inside, a_most, a_more, a_blockEquations, a_blockVariables, a_goodPairs, f)) : wpY_clear post (f_equations, f_variables, f_greatest, f_excess, f_loose, f_excessOnes, f_looseOnes, f_known, f_blocks, a_kind, a_value, a_before, a_constant, a_latest, a_there, a_shown, a_coefficient, a_old, a_inside, a_most, a_more, a_blockEquations, a_blockVariables, a_goodPairs, a_matrix) (nI r) (nI k) := by
  unfold wpY_clear
  dsimp only
  rw [md_ix9]
  refine ⟨vp_in_nI (by omega) (by decide), ?_⟩
  rw [nI_clamp (by omega), (hg _).1]
  refine nm_e ⟨10, ?_⟩
  exact ys_cl_l hr hk hrk (fun j => (hg j).2) f_equations f_variables f_greatest f_excess f_loose f_excessOnes f_looseOnes f_known f_blocks a_kind a_value a_before a_constant a_latest a_there a_shown a_coefficient a_old a_inside a_most a_more a_blockEquations a_blockVariables a_goodPairs  post h 9 0 a_matrix g rfl hg (fun c hc => by omega) (fun c _ _ => rfl) (fun e _ _ c _ => rfl)
def md_cy (g : Nat → Nat) (k r : Nat) (g' : Nat → Nat) : Prop := ∀ e, e < 8 → ∀ c, c < 9 → g' (9 * e + c) = if e < r ∧ e ≠ k then (g (9 * e + c) + g (9 * e + k) * (101 - g (9 * k + c))) % 101 else g (9 * e + c)
theorem ys_el174 {g : Nat → Nat} {n k : Nat} (hk : k < n) (hn : n ≤ 8) (f_equations f_variables f_greatest f_excess f_loose f_excessOnes f_looseOnes f_known f_blocks : Int32) (a_kind a_value a_before a_constant a_latest a_there a_shown a_coefficient a_old a_inside a_most a_more a_blockEquations a_blockVariables a_goodPairs : Nat → Int32) (post : Int32 → SY → Prop) (J : Int32 → Int32 → Int32 → Int32 → Int32 → Int32 → Int32 → Int32 → Int32 → Int32 → (Nat → Int32) → (Nat → Int32) → (Nat → Int32) → (Nat → Int32) → (Nat → Int32) → (Nat → Int32) → (Nat → Int32) → (Nat → Int32) → (Nat → Int32) → (Nat → Int32) → (Nat → Int32) → (Nat → Int32) → (Nat → Int32) → (Nat → Int32) → (Nat → Int32) → (Nat → Int32) → Prop) (hJ : ∀ f g', md_mN g' f → md_cy g k n g' → J (nI (k + 1)) f_equations f_variables f_greatest f_excess f_loose f_excessOnes f_looseOnes f_known f_blocks a_kind a_value a_before a_constant a_latest a_there a_shown a_coefficient a_old a_inside a_most a_more a_blockEquations a_blockVariables a_goodPairs f) : ∀ d r f g', r + d = n → md_mN g' f → md_cy g k r g' → wY_eliminate_174 post J (nI n) (nI k) (d + 1) (nI r) f_equations f_variables f_greatest f_excess f_loose f_excessOnes f_looseOnes f_known f_blocks a_kind a_value a_before a_constant a_latest a_there a_shown a_coefficient a_old a_inside a_most a_more a_blockEquations a_blockVariables a_goodPairs f := by
  intro d
  induction d with
  | zero =>
    intro r f g' hr h1 h2
    rw [show r = n by omega] at h2 ⊢
    exact br_t (nI_le (Nat.le_refl _) (by omega)) (nm_r (nI_1 k) (hJ f g' h1 h2))
  | succ d ih =>
    intro r f g' hr h1 h2
    have hr8 : r < 8 := by omega
    refine br_f (nI_ge (by omega) (by omega)) ?_
    by_cases e : r = k
    · refine br_t (by rw [e]) (nm_r (nI_1 r) (ih (r + 1) f g' (by omega) h1 (fun a ha c hc => ?_)))
      rw [h2 a ha c hc]
      by_cases e2 : a < r ∧ a ≠ k
      · rw [if_pos e2, if_pos (by omega)]
      · rw [if_neg e2, if_neg (by omega)]
    · refine br_f (fun hh => e ((nI_eq (by omega) (by omega)).mp hh)) ?_
      refine ys_cl hr8 (by omega) e f_equations f_variables f_greatest f_excess f_loose f_excessOnes f_looseOnes f_known f_blocks a_kind a_value a_before a_constant a_latest a_there a_shown a_coefficient a_old a_inside a_most a_more a_blockEquations a_blockVariables a_goodPairs f h1 _ (fun f2 g2 h3 h4 h5 => ?_)
      refine nm_r (nI_1 r) (ih (r + 1) f2 g2 (by omega) h3 (fun a ha c hc => ?_))
      have hrow : ∀ c, c < 9 → g' (9 * k + c) = g (9 * k + c) := fun c hc => by
        rw [h2 k (by omega) c hc, if_neg (by omega)]
      by_cases e3 : a = r
      · rw [e3, h4 c hc, if_pos (by omega), hrow c hc, h2 r hr8 c hc, if_neg (by omega), h2 r hr8 k (by omega), if_neg (by omega)]
      · rw [h5 a ha e3 c hc, h2 a ha c hc]
        by_cases e2 : a < r ∧ a ≠ k
        · rw [if_pos e2, if_pos (by omega)]
        · rw [if_neg e2, if_neg (by omega)]
theorem ys_el128 {g : Nat → Nat} {n k fc : Nat} (hk : k < n) (hn : n ≤ 8) (hfc : fc < 101) (f_equations f_variables f_greatest f_excess f_loose f_excessOnes f_looseOnes f_known f_blocks : Int32) (a_kind a_value a_before a_constant a_latest a_there a_shown a_coefficient a_old a_inside a_most a_more a_blockEquations a_blockVariables a_goodPairs : Nat → Int32) (post : Int32 → SY → Prop) (J : Int32 → Int32 → Int32 → Int32 → Int32 → Int32 → Int32 → Int32 → Int32 → Int32 → (Nat → Int32) → (Nat → Int32) → (Nat → Int32) → (Nat → Int32) → (Nat → Int32) → (Nat → Int32) → (Nat → Int32) → (Nat → Int32) → (Nat → Int32) → (Nat → Int32) → (Nat → Int32) → (Nat → Int32) → (Nat → Int32) → (Nat → Int32) → (Nat → Int32) → (Nat → Int32) → Prop) (hJ : ∀ f g' g2, md_mN g' f → md_mN g2 (fun j => nI (g2 j)) → (∀ c, c < 9 → g2 (9 * k + c) = g (9 * k + c) * fc % 101) → (∀ e, e < 8 → e ≠ k → ∀ c, c < 9 → g2 (9 * e + c) = g (9 * e + c)) → md_cy g2 k n g' → J (nI (k + 1)) f_equations f_variables f_greatest f_excess f_loose f_excessOnes f_looseOnes f_known f_blocks a_kind a_value a_before a_constant a_latest a_there a_shown a_coefficient a_old a_inside a_most a_more a_blockEquations a_blockVariables a_goodPairs f) : ∀ d i f g', i + d = 9 → md_mN g' f → (∀ c, c < i → g' (9 * k + c) = g (9 * k + c) * fc % 101) → (∀ c, i ≤ c → c < 9 → g' (9 * k + c) = g (9 * k + c)) → (∀ e, e < 8 → e ≠ k → ∀ c, c < 9 → g' (9 * e + c) = g (9 * e + c)) → wY_eliminate_128 post J (nI n) (nI k) (nI fc) f_equations f_variables f_greatest f_excess f_loose f_excessOnes f_looseOnes f_known f_blocks (d + 1) (nI i) a_kind a_value a_before a_constant a_latest a_there a_shown a_coefficient a_old a_inside a_most a_more a_blockEquations a_blockVariables a_goodPairs f := by
  intro d
  induction d with
  | zero =>
    intro i f g' hi h1 h2 h3 h4
    rw [show i = 9 by omega] at h2 ⊢
    refine br_t (nI_le (a := 9) (b := 9) (by omega) (by decide)) ⟨n + 1, ?_⟩
    exact ys_el174 hk hn f_equations f_variables f_greatest f_excess f_loose f_excessOnes f_looseOnes f_known f_blocks a_kind a_value a_before a_constant a_latest a_there a_shown a_coefficient a_old a_inside a_most a_more a_blockEquations a_blockVariables a_goodPairs  post J (fun f2 g2 b1 b2 => hJ f2 g2 g' b1 (fun j => ⟨rfl, (h1 j).2⟩) h2 h4 b2) n 0 f g' (by omega) h1 (fun e _ c _ => by rw [if_neg (by omega)])
  | succ d ih =>
    intro i f g' hi h1 h2 h3 h4
    have hi9 : i < 9 := by omega
    obtain ⟨g1, g2⟩ := h1 (9 * k + i)
    have hm := md_mul100 g2 hfc
    refine br_f (nI_ge (b := 9) hi9 (by decide)) ?_
    rw [md_ix9]
    refine ⟨vp_in_nI (by omega) (by decide), by decide, vp_in_nI (by omega) (by decide), nm_e (nm_r (nI_1 i) ?_)⟩
    rw [nI_clamp (by omega), g1, pk_mul, md_rem (by omega)]
    refine ih (i + 1) _ _ (by omega) (md_mN_up h1 (Nat.mod_lt _ (by decide))) (fun c hc => ?_) (fun c hc1 hc2 => ?_) (fun e he hne c hc => ?_)
    · by_cases e : c = i
      · rw [e, md_up_s, h3 i (Nat.le_refl i) hi9]
      · rw [md_up_n (by omega)]; exact h2 c (by omega)
    · rw [md_up_n (by omega)]; exact h3 c (by omega) hc2
    · rw [md_up_n (by omega)]; exact h4 e he hne c hc
def md_sy (g : Nat → Nat) (p k i : Nat) (g' : Nat → Nat) : Prop := (∀ c, c < i → g' (9 * p + c) = g (9 * k + c) ∧ g' (9 * k + c) = g (9 * p + c)) ∧ (∀ c, i ≤ c → c < 9 → g' (9 * p + c) = g (9 * p + c) ∧ g' (9 * k + c) = g (9 * k + c)) ∧ ∀ r, r < 8 → r ≠ p → r ≠ k → ∀ c, c < 9 → g' (9 * r + c) = g (9 * r + c)
theorem ys_el44 {M0 : Nat → Nat → Fin 101} {g : Nat → Nat} {n k p : Nat} (hkp : k ≤ p) (hp : p < n) (hn : n ≤ 8) (hE : md_YE M0 n k g) (hnz : g (9 * p + k) ≠ 0) (f_equations f_variables f_greatest f_excess f_loose f_excessOnes f_looseOnes f_known f_blocks : Int32) (a_kind a_value a_before a_constant a_latest a_there a_shown a_coefficient a_old a_inside a_most a_more a_blockEquations a_blockVariables a_goodPairs : Nat → Int32) (post : Int32 → SY → Prop) (J : Int32 → Int32 → Int32 → Int32 → Int32 → Int32 → Int32 → Int32 → Int32 → Int32 → (Nat → Int32) → (Nat → Int32) → (Nat → Int32) → (Nat → Int32) → (Nat → Int32) → (Nat → Int32) → (Nat → Int32) → (Nat → Int32) → (Nat → Int32) → (Nat → Int32) → (Nat → Int32) → (Nat → Int32) → (Nat → Int32) → (Nat → Int32) → (Nat → Int32) → (Nat → Int32) → Prop) (hJ : ∀ f g', md_mN g' f → md_YE M0 n (k + 1) g' → J (nI (k + 1)) f_equations f_variables f_greatest f_excess f_loose f_excessOnes f_looseOnes f_known f_blocks a_kind a_value a_before a_constant a_latest a_there a_shown a_coefficient a_old a_inside a_most a_more a_blockEquations a_blockVariables a_goodPairs f) : ∀ d i f g', i + d = 9 → md_mN g' f → md_sy g p k i g' → wY_eliminate_44 post J (nI n) (nI k) (nI p) f_equations f_variables f_greatest f_excess f_loose f_excessOnes f_looseOnes f_known f_blocks (d + 1) (nI i) a_kind a_value a_before a_constant a_latest a_there a_shown a_coefficient a_old a_inside a_most a_more a_blockEquations a_blockVariables a_goodPairs f := by
  intro d
  induction d with
  | zero =>
    intro i f g' hi h1 h2
    rw [show i = 9 by omega] at h2 ⊢
    obtain ⟨s1, _, s3⟩ := h2
    have hkk : g' (9 * k + k) = g (9 * p + k) := (s1 k (by omega)).2
    refine br_t (nI_le (a := 9) (b := 9) (by omega) (by decide)) ?_
    rw [md_ix9]
    refine ⟨vp_in_nI (by omega) (by decide), ?_⟩
    rw [nI_clamp (by omega), (h1 _).1]
    have hb := (h1 (9 * k + k)).2
    have hz : g' (9 * k + k) ≠ 0 := by rw [hkk]; exact hnz
    refine ys_inv hb hz _ ⟨10, ?_⟩
    refine ys_el128 (g := g') (by omega) hn (md_iv_ok _ hb hz).1 f_equations f_variables f_greatest f_excess f_loose f_excessOnes f_looseOnes f_known f_blocks a_kind a_value a_before a_constant a_latest a_there a_shown a_coefficient a_old a_inside a_most a_more a_blockEquations a_blockVariables a_goodPairs  post J (fun f2 g3 g2 b1 b2 b3 b4 b5 => ?_) 9 0 f g' rfl h1 (fun c hc => by omega) (fun c _ _ => rfl) (fun e _ _ c _ => rfl)
    refine hJ f2 g3 b1 (md_YE_step (g1 := g') (g2 := g2) hE hkp hp hnz s1 s3 (fun j => (b2 j).2) (fun j => (b1 j).2) b3 (fun r hr hne c hc => b4 r (by omega) hne c hc) (fun c hc => ?_) (fun r hr hne c hc => ?_))
    · rw [b5 k (by omega) c hc, if_neg (by omega)]
    · rw [b5 r (by omega) c hc, if_pos ⟨hr, hne⟩]
  | succ d ih =>
    intro i f g' hi h1 h2
    have hi9 : i < 9 := by omega
    obtain ⟨s1, s2, s3⟩ := h2
    obtain ⟨c1, c2⟩ := s2 i (Nat.le_refl i) hi9
    refine br_f (nI_ge (b := 9) hi9 (by decide)) ?_
    rw [md_ix9, md_ix9]
    refine ⟨vp_in_nI (by omega) (by decide), nm_e ⟨vp_in_nI (by omega) (by decide), vp_in_nI (by omega) (by decide), nm_e ⟨vp_in_nI (by omega) (by decide), nm_e (nm_r (nI_1 i) ?_)⟩⟩⟩
    rw [nI_clamp (n := 9 * p + i) (by omega), nI_clamp (n := 9 * k + i) (by omega), (h1 (9 * p + i)).1, (h1 (9 * k + i)).1]
    refine ih (i + 1) _ _ (by omega) (md_mN_up (md_mN_up h1 (h1 (9 * k + i)).2) (h1 (9 * p + i)).2) ⟨fun c hc => ?_, fun c hc hc9 => ?_, fun r hr hrp hrk c hc => ?_⟩
    · by_cases e : c = i
      · rw [e, md_up_s, c1]
        refine ⟨?_, rfl⟩
        by_cases e2 : p = k
        · rw [e2, md_up_s]
        · rw [md_up_n (by omega), md_up_s, c2]
      · rw [md_up_n (by omega), md_up_n (by omega), md_up_n (by omega), md_up_n (by omega)]
        exact s1 c (by omega)
    · rw [md_up_n (by omega), md_up_n (by omega), md_up_n (by omega), md_up_n (by omega)]
      exact s2 c (by omega) hc9
    · rw [md_up_n (by omega), md_up_n (by omega)]
      exact s3 r hr hrp hrk c hc
theorem ys_el9 {M0 : Nat → Nat → Fin 101} {g : Nat → Nat} {n k : Nat} (hk : k < n) (hn : n ≤ 8) (hE : md_YE M0 n k g) (f_equations f_variables f_greatest f_excess f_loose f_excessOnes f_looseOnes f_known f_blocks : Int32) (a_kind a_value a_before a_constant a_latest a_there a_shown a_coefficient a_old a_inside a_most a_more a_blockEquations a_blockVariables a_goodPairs a_matrix : Nat → Int32) (hg : md_mN g a_matrix) (post : Int32 → SY → Prop) (J : Int32 → Int32 → Int32 → Int32 → Int32 → Int32 → Int32 → Int32 → Int32 → Int32 → (Nat → Int32) → (Nat → Int32) → (Nat → Int32) → (Nat → Int32) → (Nat → Int32) → (Nat → Int32) → (Nat → Int32) → (Nat → Int32) → (Nat → Int32) → (Nat → Int32) → (Nat → Int32) → (Nat → Int32) → (Nat → Int32) → (Nat → Int32) → (Nat → Int32) → (Nat → Int32) → Prop) (hJ : ∀ f g', md_mN g' f → md_YE M0 n (k + 1) g' → J (nI (k + 1)) f_equations f_variables f_greatest f_excess f_loose f_excessOnes f_looseOnes f_known f_blocks a_kind a_value a_before a_constant a_latest a_there a_shown a_coefficient a_old a_inside a_most a_more a_blockEquations a_blockVariables a_goodPairs f) (h0 : (∀ r, k ≤ r → r < n → g (9 * r + k) = 0) → post 0 (f_equations, f_variables, f_greatest, f_excess, f_loose, f_excessOnes, f_looseOnes, f_known, f_blocks, a_kind, a_value, a_before, a_constant, a_latest, a_there, a_shown, a_coefficient, a_old, a_inside, a_most, a_more, a_blockEquations, a_blockVariables, a_goodPairs, a_matrix)) : ∀ d p, p + d = n → k ≤ p → (∀ r, k ≤ r → r < p → g (9 * r + k) = 0) → wY_eliminate_9 post J (nI n) (nI k) f_equations f_variables f_greatest f_excess f_loose f_excessOnes f_looseOnes f_known f_blocks a_kind a_value a_before a_constant a_latest a_there a_shown a_coefficient a_old a_inside a_most a_more a_blockEquations a_blockVariables a_goodPairs a_matrix (d + 1) (nI p) := by
  intro d
  induction d with
  | zero =>
    intro p hp hkp hz
    rw [show p = n by omega] at hz ⊢
    exact br_t (nI_le (Nat.le_refl _) (by omega)) (br_t rfl (h0 hz))
  | succ d ih =>
    intro p hp hkp hz
    refine br_f (nI_ge (by omega) (by omega)) ?_
    rw [md_ix9]
    refine ⟨vp_in_nI (by omega) (by decide), ?_⟩
    have hb := (hg (9 * p + k)).2
    rw [nI_clamp (by omega), (hg _).1]
    by_cases hpz : g (9 * p + k) = 0
    · refine br_t (by rw [hpz]; rfl) (nm_r (nI_1 p) (ih (p + 1) (by omega) (by omega) (fun r h1 h2 => ?_)))
      by_cases e : r = p
      · rw [e]; exact hpz
      · exact hz r h1 (by omega)
    · refine br_f (fun hh => hpz ((md_z0 (by omega)).mp hh)) ?_
      refine br_f (fun hh => ?_) ⟨10, ?_⟩
      · rw [nI_eq (by omega) (by omega)] at hh
        omega
      · exact ys_el44 hkp (by omega) hn hE hpz f_equations f_variables f_greatest f_excess f_loose f_excessOnes f_looseOnes f_known f_blocks a_kind a_value a_before a_constant a_latest a_there a_shown a_coefficient a_old a_inside a_most a_more a_blockEquations a_blockVariables a_goodPairs  post J hJ 9 0 a_matrix g rfl hg ⟨fun c hc => by omega, fun c _ _ => ⟨rfl, rfl⟩, fun r _ _ _ c _ => rfl⟩
theorem ys_el2 {M0 : Nat → Nat → Fin 101} {n : Nat} (hn : n ≤ 8) (f_equations f_variables f_greatest f_excess f_loose f_excessOnes f_looseOnes f_known f_blocks : Int32) (a_kind a_value a_before a_constant a_latest a_there a_shown a_coefficient a_old a_inside a_most a_more a_blockEquations a_blockVariables a_goodPairs : Nat → Int32) (post : Int32 → SY → Prop) (h1 : ∀ f g, md_mN g f → md_YE M0 n n g → post 1 (f_equations, f_variables, f_greatest, f_excess, f_loose, f_excessOnes, f_looseOnes, f_known, f_blocks, a_kind, a_value, a_before, a_constant, a_latest, a_there, a_shown, a_coefficient, a_old, a_inside, a_most, a_more, a_blockEquations, a_blockVariables, a_goodPairs, f)) (h0 : ∀ f g k, md_mN g f → k < n → md_YE M0 n k g → (∀ r, k ≤ r → r < n → g (9 * r + k) = 0) → post 0 (f_equations, f_variables, f_greatest, f_excess, f_loose, f_excessOnes, f_looseOnes, f_known, f_blocks, a_kind, a_value, a_before, a_constant, a_latest, a_there, a_shown, a_coefficient, a_old, a_inside, a_most, a_more, a_blockEquations, a_blockVariables, a_goodPairs, f)) : ∀ d k f g, k + d = n → md_mN g f → md_YE M0 n k g → wY_eliminate_2 post (nI n) (d + 1) (nI k) f_equations f_variables f_greatest f_excess f_loose f_excessOnes f_looseOnes f_known f_blocks a_kind a_value a_before a_constant a_latest a_there a_shown a_coefficient a_old a_inside a_most a_more a_blockEquations a_blockVariables a_goodPairs f := by
  intro d
  induction d with
  | zero =>
    intro k f g hk hg hE
    rw [show k = n by omega] at hE ⊢
    exact br_t (nI_le (Nat.le_refl _) (by omega)) (h1 f g hg hE)
  | succ d ih =>
    intro k f g hk hg hE
    refine br_f (nI_ge (by omega) (by omega)) ⟨n - k + 1, ?_⟩
    exact ys_el9 (by omega) hn hE f_equations f_variables f_greatest f_excess f_loose f_excessOnes f_looseOnes f_known f_blocks a_kind a_value a_before a_constant a_latest a_there a_shown a_coefficient a_old a_inside a_most a_more a_blockEquations a_blockVariables a_goodPairs f hg post _ (fun f' g' hg' hE' => ih (k + 1) f' g' (by omega) hg' hE') (fun hz => h0 f g k hg (by omega) hE hz) (n - k) k (by omega) (Nat.le_refl k) (fun r h1 h2 => by omega)
theorem ys_el {g0 : Nat → Nat} {n : Nat} (hn : n ≤ 8) (f_equations f_variables f_greatest f_excess f_loose f_excessOnes f_looseOnes f_known f_blocks : Int32) (a_kind a_value a_before a_constant a_latest a_there a_shown a_coefficient a_old a_inside a_most a_more a_blockEquations a_blockVariables a_goodPairs a_matrix : Nat → Int32) (hg : md_mN g0 a_matrix) (post : Int32 → SY → Prop) (h1 : ∀ f g, md_mN g f → md_YE (md_gy g0) n n g → post 1 (f_equations, f_variables, f_greatest, f_excess, f_loose, f_excessOnes, f_looseOnes, f_known, f_blocks, a_kind, a_value, a_before, a_constant, a_latest, a_there, a_shown, a_coefficient, a_old, a_inside, a_most, a_more, a_blockEquations, a_blockVariables, a_goodPairs, f)) (h0 : ∀ f g k, md_mN g f → k < n → md_YE (md_gy g0) n k g → (∀ r, k ≤ r → r < n → g (9 * r + k) = 0) → post 0 (f_equations, f_variables, f_greatest, f_excess, f_loose, f_excessOnes, f_looseOnes, f_known, f_blocks, a_kind, a_value, a_before, a_constant, a_latest, a_there, a_shown, a_coefficient, a_old, a_inside, a_most, a_more, a_blockEquations, a_blockVariables, a_goodPairs, f)) : wpY_eliminate post (f_equations, f_variables, f_greatest, f_excess, f_loose, f_excessOnes, f_looseOnes, f_known, f_blocks, a_kind, a_value, a_before, a_constant, a_latest, a_there, a_shown, a_coefficient, a_old, a_inside, a_most, a_more, a_blockEquations, a_blockVariables, a_goodPairs, a_matrix) (nI n) := by
  unfold wpY_eliminate
  exact ⟨n + 1, ys_el2 hn f_equations f_variables f_greatest f_excess f_loose f_excessOnes f_looseOnes f_known f_blocks a_kind a_value a_before a_constant a_latest a_there a_shown a_coefficient a_old a_inside a_most a_more a_blockEquations a_blockVariables a_goodPairs  post h1 h0 n 0 a_matrix g0 (by omega) hg (md_YE_0 (fun j => (hg j).2) hn)⟩
