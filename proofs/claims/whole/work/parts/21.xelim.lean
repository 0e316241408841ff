theorem md_ix16 (e i : Nat) : (nI e * 16) + nI i = nI (e * 16 + i) := by
  show nI e * nI 16 + nI i = _
  rw [pk_mul, nI_add]
theorem md_ix168 (e i : Nat) : ((nI e * 16) + 8) + nI i = nI (e * 16 + (8 + i)) := by
  show (nI e * nI 16 + nI 8) + nI i = _
  rw [pk_mul, nI_add, nI_add, Nat.add_assoc]
theorem md_ix8 (e i : Nat) : (nI e * 8) + nI i = nI (e * 8 + i) := by
  show nI e * nI 8 + nI i = _
  rw [pk_mul, nI_add]
def md_fg (cf : Nat → Nat) (k i : Nat) (f : Nat → Int32) : Prop := ∀ e c, e < 8 → c < 8 → (e < k ∨ (e = k ∧ c < i)) → f (e * 16 + c) = nI (cf (e * 8 + c)) ∧ f (e * 16 + (8 + c)) = nI (if e = c then 1 else 0)
theorem md_fg_put {cf : Nat → Nat} {k i : Nat} {f : Nat → Int32} (hi : i < 8) (h : md_fg cf k i f) {x : Nat} (hx : x = if k = i then 1 else 0) : md_fg cf k (i + 1) (upd (upd f (k * 16 + i) (nI (cf (k * 8 + i)))) (k * 16 + (8 + i)) (nI x)) := by
  intro e c he hc hh
  by_cases e1 : e = k ∧ c = i
  · rw [e1.1, e1.2, pk_un (by omega), pk_us, pk_us, hx]; exact ⟨rfl, rfl⟩
  · have h1 := h e c he hc (by omega)
    rw [pk_un (by omega), pk_un (by omega), pk_un (by omega), pk_un (by omega)]; exact h1
theorem xs_fg_in {cf : Nat → Nat} (f_equationsThere f_stale f_unknowns f_pairs f_excessEquations f_excessVariables f_looseEquations f_looseVariables f_blockCount f_firstSingular : Int32) (a_kinds a_given a_found a_constants a_coefficients a_oldCoefficients a_reach a_goodReach a_blockEquations a_blockVariables a_solvedBy a_rests : Nat → Int32) (hc : ∀ j, a_coefficients j = nI (cf j)) {k : Nat} (hk : k < 8) (post : SX → Prop) (J : Int32 → (Nat → Int32) → (Nat → Int32) → (Nat → Int32) → (Nat → Int32) → (Nat → Int32) → (Nat → Int32) → (Nat → Int32) → (Nat → Int32) → (Nat → Int32) → (Nat → Int32) → (Nat → Int32) → (Nat → Int32) → (Nat → Int32) → Prop) (hJ : ∀ f, md_fg cf (k + 1) 0 f → J (nI (k + 1)) a_kinds a_given a_found a_constants a_coefficients a_oldCoefficients a_reach a_goodReach a_blockEquations a_blockVariables f a_solvedBy a_rests) : ∀ d i f, i + d = 8 → md_fg cf k i f → wX_fillGrid_10 post J (nI k) f_equationsThere f_stale f_unknowns f_pairs f_excessEquations f_excessVariables f_looseEquations f_looseVariables f_blockCount f_firstSingular (d + 1) (nI i) a_kinds a_given a_found a_constants a_coefficients a_oldCoefficients a_reach a_goodReach a_blockEquations a_blockVariables f a_solvedBy a_rests := by
  intro d
  induction d with
  | zero =>
    intro i f hi hf
    rw [show i = 8 by omega] at hf ⊢
    exact br_t (nI_le (a := 8) (b := 8) (by omega) (by decide)) (nm_r (nI_1 k) (hJ f (fun e c he hc hh => hf e c he hc (by omega))))
  | succ d ih =>
    intro i f hi hf
    have hi8 : i < 8 := by omega
    refine br_f (nI_ge (b := 8) hi8 (by decide)) ?_
    rw [md_ix8, md_ix16, md_ix168]
    refine ⟨vp_in_nI (by omega) (by decide), vp_in_nI (by omega) (by decide), nm_e ?_⟩
    rw [nI_clamp (n := k * 8 + i) (by omega), nI_clamp (n := k * 16 + i) (by omega), nI_clamp (n := k * 16 + (8 + i)) (by omega), hc]
    refine br_c (fun hh => ⟨vp_in_nI (by omega) (by decide), nm_e (nm_r (nI_1 i) (ih (i + 1) _ (by omega) (md_fg_put (x := 1) hi8 hf ?_)))⟩) (fun hh => ⟨vp_in_nI (by omega) (by decide), nm_e (nm_r (nI_1 i) (ih (i + 1) _ (by omega) (md_fg_put (x := 0) hi8 hf ?_)))⟩)
    · rw [nI_eq (by omega) (by omega)] at hh
      rw [if_pos hh]
    · rw [nI_eq (by omega) (by omega)] at hh
      rw [if_neg hh]
theorem xs_fg_out {cf : Nat → Nat} (f_equationsThere f_stale f_unknowns f_pairs f_excessEquations f_excessVariables f_looseEquations f_looseVariables f_blockCount f_firstSingular : Int32) (a_kinds a_given a_found a_constants a_coefficients a_oldCoefficients a_reach a_goodReach a_blockEquations a_blockVariables a_solvedBy a_rests : Nat → Int32) (hc : ∀ j, a_coefficients j = nI (cf j)) (post : SX → Prop) (h : ∀ f, md_fg cf 8 0 f → post (f_equationsThere, f_stale, f_unknowns, f_pairs, f_excessEquations, f_excessVariables, f_looseEquations, f_looseVariables, f_blockCount, f_firstSingular, a_kinds, a_given, a_found, a_constants, a_coefficients, a_oldCoefficients, a_reach, a_goodReach, a_blockEquations, a_blockVariables, f, a_solvedBy, a_rests)) : ∀ d k f, k + d = 8 → md_fg cf k 0 f → wX_fillGrid_2 post f_equationsThere f_stale f_unknowns f_pairs f_excessEquations f_excessVariables f_looseEquations f_looseVariables f_blockCount f_firstSingular (d + 1) (nI k) a_kinds a_given a_found a_constants a_coefficients a_oldCoefficients a_reach a_goodReach a_blockEquations a_blockVariables f a_solvedBy a_rests := by
  intro d
  induction d with
  | zero =>
    intro k f hk hf
    rw [show k = 8 by omega] at hf ⊢
    exact br_t (nI_le (a := 8) (b := 8) (by omega) (by decide)) (h f hf)
  | succ d ih =>
    intro k f hk hf
    refine br_f (nI_ge (b := 8) (by omega) (by decide)) ⟨9, ?_⟩
    exact xs_fg_in f_equationsThere f_stale f_unknowns f_pairs f_excessEquations f_excessVariables f_looseEquations f_looseVariables f_blockCount f_firstSingular a_kinds a_given a_found a_constants a_coefficients a_oldCoefficients a_reach a_goodReach a_blockEquations a_blockVariables  a_solvedBy a_rests hc (by omega) post _ (fun f' hf' => ih (k + 1) f' (by omega) hf') 8 0 f rfl hf
theorem xs_fg {cf : Nat → Nat} (f_equationsThere f_stale f_unknowns f_pairs f_excessEquations f_excessVariables f_looseEquations f_looseVariables f_blockCount f_firstSingular : Int32) (a_kinds a_given a_found a_constants a_coefficients a_oldCoefficients a_reach a_goodReach a_blockEquations a_blockVariables a_grid a_solvedBy a_rests : Nat → Int32) (hc : ∀ j, a_coefficients j = nI (cf j)) (post : SX → Prop) (h : ∀ f, md_fg cf 8 0 f → post (f_equationsThere, f_stale, f_unknowns, f_pairs, f_excessEquations, f_excessVariables, f_looseEquations, f_looseVariables, f_blockCount, f_firstSingular, a_kinds, a_given, a_found, a_constants, a_coefficients, a_oldCoefficients, a_reach, a_goodReach, a_blockEquations, a_blockVariables, f, a_solvedBy, a_rests)) : wpX_fillGrid post (f_equationsThere, f_stale, f_unknowns, f_pairs, f_excessEquations, f_excessVariables, f_looseEquations, f_looseVariables, f_blockCount, f_firstSingular, a_kinds, a_given, a_found, a_constants, a_coefficients, a_oldCoefficients, a_reach, a_goodReach, a_blockEquations, a_blockVariables, a_grid, a_solvedBy, a_rests) := by
  unfold wpX_fillGrid
  exact ⟨9, xs_fg_out f_equationsThere f_stale f_unknowns f_pairs f_excessEquations f_excessVariables f_looseEquations f_looseVariables f_blockCount f_firstSingular a_kinds a_given a_found a_constants a_coefficients a_oldCoefficients a_reach a_goodReach a_blockEquations a_blockVariables  a_solvedBy a_rests hc post h 8 0 a_grid rfl (fun e c _ _ hh => by omega)⟩
def md_gN (g : Nat → Nat) (f : Nat → Int32) : Prop := ∀ j, j < 128 → f j = nI (g j) ∧ g j < 101
def md_us (U : Nat → Bool) (g : Nat → Nat) (v : Nat) : Nat → Bool := fun e => U e && !(g (e * 16 + v) == 0)
theorem xs_us_l {U : Nat → Bool} {g : Nat → Nat} {v : Nat} (hv : v < 8) (f_equationsThere f_stale f_unknowns f_pairs f_excessEquations f_excessVariables f_looseEquations f_looseVariables f_blockCount f_firstSingular : Int32) (a_kinds a_given a_found a_constants a_coefficients a_oldCoefficients a_reach a_goodReach a_blockEquations a_blockVariables a_grid a_solvedBy a_rests : Nat → Int32) (hg : md_gN g a_grid) (post : Int32 → Prop) (h1 : ∀ r, r < 8 → md_us U g v r = true → post (nI r)) (h0 : (∀ r, r < 8 → md_us U g v r = false) → post (-1)) : ∀ d i, i + d = 8 → (∀ r, r < i → md_us U g v r = false) → wX_usableRow_2 post (nI (md_mk 8 U)) (nI v) f_equationsThere f_stale f_unknowns f_pairs f_excessEquations f_excessVariables f_looseEquations f_looseVariables f_blockCount f_firstSingular a_kinds a_given a_found a_constants a_coefficients a_oldCoefficients a_reach a_goodReach a_blockEquations a_blockVariables a_grid a_solvedBy a_rests (d + 1) (nI i) := by
  intro d
  induction d with
  | zero =>
    intro i hi hn
    rw [show i = 8 by omega] at hn ⊢
    exact br_t (nI_le (a := 8) (b := 8) (by omega) (by decide)) (h0 hn)
  | succ d ih =>
    intro i hi hn
    have hi8 : i < 8 := by omega
    have hs : md_us U g v i = false → wX_usableRow_2 post (nI (md_mk 8 U)) (nI v) f_equationsThere f_stale f_unknowns f_pairs f_excessEquations f_excessVariables f_looseEquations f_looseVariables f_blockCount f_firstSingular a_kinds a_given a_found a_constants a_coefficients a_oldCoefficients a_reach a_goodReach a_blockEquations a_blockVariables a_grid a_solvedBy a_rests (d + 1) (nI (i + 1)) := fun hh => ih (i + 1) (by omega) (fun r hr => by
      by_cases e : r = i
      · rw [e]; exact hh
      · exact hn r (by omega))
    refine br_f (nI_ge (b := 8) hi8 (by decide)) (xs_has U hi8 (fun hU => ?_) (fun hU => nm_r (nI_1 i) (hs ?_)))
    · rw [md_ix16]
      refine ⟨vp_in_nI (by omega) (by decide), ?_⟩
      obtain ⟨g1, g2⟩ := hg (i * 16 + v) (by omega)
      rw [nI_clamp (by omega), g1]
      by_cases hz : g (i * 16 + v) = 0
      · refine br_t (by rw [hz]; rfl) (nm_r (nI_1 i) (hs ?_))
        unfold md_us; simp [hz]
      · refine br_f (fun hh => hz ((md_z0 (by omega)).mp hh)) (h1 i hi8 ?_)
        unfold md_us; simp [hU, hz]
    · unfold md_us; rw [hU]; rfl
theorem xs_us {U : Nat → Bool} {g : Nat → Nat} {v : Nat} (hv : v < 8) (f_equationsThere f_stale f_unknowns f_pairs f_excessEquations f_excessVariables f_looseEquations f_looseVariables f_blockCount f_firstSingular : Int32) (a_kinds a_given a_found a_constants a_coefficients a_oldCoefficients a_reach a_goodReach a_blockEquations a_blockVariables a_grid a_solvedBy a_rests : Nat → Int32) (hg : md_gN g a_grid) (post : Int32 → Prop) (h1 : ∀ r, r < 8 → md_us U g v r = true → post (nI r)) (h0 : (∀ r, r < 8 → md_us U g v r = false) → post (-1)) : wpX_usableRow post (f_equationsThere, f_stale, f_unknowns, f_pairs, f_excessEquations, f_excessVariables, f_looseEquations, f_looseVariables, f_blockCount, f_firstSingular, a_kinds, a_given, a_found, a_constants, a_coefficients, a_oldCoefficients, a_reach, a_goodReach, a_blockEquations, a_blockVariables, a_grid, a_solvedBy, a_rests) (nI (md_mk 8 U)) (nI v) := by
  unfold wpX_usableRow
  exact ⟨9, xs_us_l hv f_equationsThere f_stale f_unknowns f_pairs f_excessEquations f_excessVariables f_looseEquations f_looseVariables f_blockCount f_firstSingular a_kinds a_given a_found a_constants a_coefficients a_oldCoefficients a_reach a_goodReach a_blockEquations a_blockVariables a_grid a_solvedBy a_rests hg post h1 h0 8 0 rfl (fun r hr => by omega)⟩
theorem xs_sc_l {g : Nat → Nat} {row fc : Nat} (hr : row < 8) (hfc : fc < 101) (f_equationsThere f_stale f_unknowns f_pairs f_excessEquations f_excessVariables f_looseEquations f_looseVariables f_blockCount f_firstSingular : Int32) (a_kinds a_given a_found a_constants a_coefficients a_oldCoefficients a_reach a_goodReach a_blockEquations a_blockVariables a_solvedBy a_rests : Nat → Int32) (post : SX → Prop) (h : ∀ f g', md_gN g' f → (∀ c, c < 16 → g' (row * 16 + c) = g (row * 16 + c) * fc % 101) → (∀ e, e < 8 → e ≠ row → ∀ c, c < 16 → g' (e * 16 + c) = g (e * 16 + c)) → post (f_equationsThere, f_stale, f_unknowns, f_pairs, f_excessEquations, f_excessVariables, f_looseEquations, f_looseVariables, f_blockCount, f_firstSingular, a_kinds, a_given, a_found, a_constants, a_coefficients, a_oldCoefficients, a_reach, a_goodReach, a_blockEquations, a_blockVariables, f, a_solvedBy, a_rests)) : ∀ d i f g', i + d = 16 → md_gN g' f → (∀ c, c < i → g' (row * 16 + c) = g (row * 16 + c) * fc % 101) → (∀ c, i ≤ c → c < 16 → g' (row * 16 + c) = g (row * 16 + c)) → (∀ e, e < 8 → e ≠ row → ∀ c, c < 16 → g' (e * 16 + c) = g (e * 16 + c)) → wX_scaleRow_18 post (nI row) (nI fc) f_equationsThere f_stale f_unknowns f_pairs f_excessEquations f_excessVariables f_looseEquations f_looseVariables f_blockCount f_firstSingular (d + 1) (nI i) a_kinds a_given a_found a_constants a_coefficients a_oldCoefficients a_reach a_goodReach a_blockEquations a_blockVariables f a_solvedBy a_rests := by
  intro d
  induction d with
  | zero =>
    intro i f g' hi h1 h2 h3 h4
    rw [show i = 16 by omega] at h2 ⊢
    exact br_t (nI_le (a := 16) (b := 16) (by omega) (by decide)) (h f g' h1 h2 h4)
  | succ d ih =>
    intro i f g' hi h1 h2 h3 h4
    have hi16 : i < 16 := by omega
    obtain ⟨g1, g2⟩ := h1 (row * 16 + i) (by omega)
    have hm := md_mul100 g2 hfc
    refine br_f (nI_ge (b := 16) hi16 (by decide)) ?_
    rw [md_ix16]
    refine ⟨vp_in_nI (by omega) (by decide), by decide, vp_in_nI (by omega) (by decide), nm_e (nm_r (nI_1 i) ?_)⟩
    rw [nI_clamp (by omega), g1, pk_mul, md_rem (by omega)]
    refine ih (i + 1) _ (md_up g' (row * 16 + i) (g' (row * 16 + i) * fc % 101)) (by omega) (fun j hj => ?_) (fun c hc => ?_) (fun c hc1 hc2 => ?_) (fun e he hne c hc => ?_)
    · by_cases e : j = row * 16 + i
      · rw [e, pk_us, md_up_s]; exact ⟨rfl, Nat.mod_lt _ (by decide)⟩
      · rw [pk_un e, md_up_n e]; exact h1 j hj
    · by_cases e : c = i
      · rw [e, md_up_s, h3 i (Nat.le_refl i) hi16]
      · rw [md_up_n (by omega)]; exact h2 c (by omega)
    · rw [md_up_n (by omega)]; exact h3 c (by omega) hc2
    · rw [md_up_n (by omega)]; exact h4 e he hne c hc
theorem xs_sc {g : Nat → Nat} {row v : Nat} (hr : row < 8) (hv : v < 8) (f_equationsThere f_stale f_unknowns f_pairs f_excessEquations f_excessVariables f_looseEquations f_looseVariables f_blockCount f_firstSingular : Int32) (a_kinds a_given a_found a_constants a_coefficients a_oldCoefficients a_reach a_goodReach a_blockEquations a_blockVariables a_grid a_solvedBy a_rests : Nat → Int32) (hg : md_gN g a_grid) (hnz : g (row * 16 + v) ≠ 0) (post : SX → Prop) (h : ∀ f g', md_gN g' f → (∀ c, c < 16 → g' (row * 16 + c) = g (row * 16 + c) * md_iv (g (row * 16 + v)) % 101) → (∀ e, e < 8 → e ≠ row → ∀ c, c < 16 → g' (e * 16 + c) = g (e * 16 + c)) → post (f_equationsThere, f_stale, f_unknowns, f_pairs, f_excessEquations, f_excessVariables, f_looseEquations, f_looseVariables, f_blockCount, f_firstSingular, a_kinds, a_given, a_found, a_constants, a_coefficients, a_oldCoefficients, a_reach, a_goodReach, a_blockEquations, a_blockVariables, f, a_solvedBy, a_rests)) : wpX_scaleRow post (f_equationsThere, f_stale, f_unknowns, f_pairs, f_excessEquations, f_excessVariables, f_looseEquations, f_looseVariables, f_blockCount, f_firstSingular, a_kinds, a_given, a_found, a_constants, a_coefficients, a_oldCoefficients, a_reach, a_goodReach, a_blockEquations, a_blockVariables, a_grid, a_solvedBy, a_rests) (nI row) (nI v) := by
  obtain ⟨g1, g2⟩ := hg (row * 16 + v) (by omega)
  unfold wpX_scaleRow
  dsimp only
  rw [md_ix16]
  refine ⟨vp_in_nI (by omega) (by decide), ?_⟩
  rw [nI_clamp (by omega), g1]
  refine xs_inv g2 hnz _ ⟨17, ?_⟩
  exact xs_sc_l hr (md_iv_ok _ g2 hnz).1 f_equationsThere f_stale f_unknowns f_pairs f_excessEquations f_excessVariables f_looseEquations f_looseVariables f_blockCount f_firstSingular a_kinds a_given a_found a_constants a_coefficients a_oldCoefficients a_reach a_goodReach a_blockEquations a_blockVariables  a_solvedBy a_rests post h 16 0 a_grid g rfl hg (fun c hc => by omega) (fun c _ _ => rfl) (fun e _ _ c _ => rfl)
theorem xs_cl_in {g : Nat → Nat} {row v k : Nat} (hr : row < 8) (hv : v < 8) (hk : k < 8) (hkr : k ≠ row) (hgb : ∀ j, j < 128 → g j < 101) (f_equationsThere f_stale f_unknowns f_pairs f_excessEquations f_excessVariables f_looseEquations f_looseVariables f_blockCount f_firstSingular : Int32) (a_kinds a_given a_found a_constants a_coefficients a_oldCoefficients a_reach a_goodReach a_blockEquations a_blockVariables a_solvedBy a_rests : Nat → Int32) (post : SX → Prop) (J : Int32 → (Nat → Int32) → (Nat → Int32) → (Nat → Int32) → (Nat → Int32) → (Nat → Int32) → (Nat → Int32) → (Nat → Int32) → (Nat → Int32) → (Nat → Int32) → (Nat → Int32) → (Nat → Int32) → (Nat → Int32) → (Nat → Int32) → Prop) (hJ : ∀ f g', md_gN g' f → (∀ c, c < 16 → g' (k * 16 + c) = (g (k * 16 + c) + (101 - g (k * 16 + v)) * g (row * 16 + c)) % 101) → (∀ e, e < 8 → e ≠ k → ∀ c, c < 16 → g' (e * 16 + c) = g (e * 16 + c)) → J (nI (k + 1)) a_kinds a_given a_found a_constants a_coefficients a_oldCoefficients a_reach a_goodReach a_blockEquations a_blockVariables f a_solvedBy a_rests) : ∀ d i f g', i + d = 16 → md_gN g' f → (∀ c, c < i → g' (k * 16 + c) = (g (k * 16 + c) + (101 - g (k * 16 + v)) * g (row * 16 + c)) % 101) → (∀ c, i ≤ c → c < 16 → g' (k * 16 + c) = g (k * 16 + c)) → (∀ e, e < 8 → e ≠ k → ∀ c, c < 16 → g' (e * 16 + c) = g (e * 16 + c)) → wX_clearColumn_32 post J (nI row) (nI v) (nI k) (nI (101 - g (k * 16 + v))) f_equationsThere f_stale f_unknowns f_pairs f_excessEquations f_excessVariables f_looseEquations f_looseVariables f_blockCount f_firstSingular (d + 1) (nI i) a_kinds a_given a_found a_constants a_coefficients a_oldCoefficients a_reach a_goodReach a_blockEquations a_blockVariables f a_solvedBy a_rests := by
  intro d
  induction d with
  | zero =>
    intro i f g' hi h1 h2 h3 h4
    rw [show i = 16 by omega] at h2 ⊢
    exact br_t (nI_le (a := 16) (b := 16) (by omega) (by decide)) (nm_r (nI_1 k) (hJ f g' h1 h2 h4))
  | succ d ih =>
    intro i f g' hi h1 h2 h3 h4
    have hi16 : i < 16 := by omega
    obtain ⟨g1, g2⟩ := h1 (k * 16 + i) (by omega)
    obtain ⟨g3, g4⟩ := h1 (row * 16 + i) (by omega)
    have hm : (101 - g (k * 16 + v)) * g' (row * 16 + i) ≤ 101 * 100 := Nat.mul_le_mul (by omega) (by omega)
    refine br_f (nI_ge (b := 16) hi16 (by decide)) ?_
    rw [md_ix16, md_ix16]
    refine ⟨vp_in_nI (by omega) (by decide), vp_in_nI (by omega) (by decide), ?_⟩
    rw [nI_clamp (n := k * 16 + i) (by omega), nI_clamp (n := row * 16 + i) (by omega), g1, g3]
    refine nm_r (e' := nI (g' (k * 16 + i) + (101 - g (k * 16 + v)) * g' (row * 16 + i))) (by rw [pk_mul, nI_add]) ⟨by decide, vp_in_nI (by omega) (by decide), nm_e (nm_r (nI_1 i) ?_)⟩
    rw [md_rem (by omega)]
    refine ih (i + 1) _ (md_up g' (k * 16 + i) ((g' (k * 16 + i) + (101 - g (k * 16 + v)) * g' (row * 16 + i)) % 101)) (by omega) (fun j hj => ?_) (fun c hc => ?_) (fun c hc1 hc2 => ?_) (fun e he hne c hc => ?_)
    · by_cases e : j = k * 16 + i
      · rw [e, pk_us, md_up_s]; exact ⟨rfl, Nat.mod_lt _ (by decide)⟩
      · rw [pk_un e, md_up_n e]; exact h1 j hj
    · by_cases e : c = i
      · rw [e, md_up_s, h3 i (Nat.le_refl i) hi16, h4 row hr (fun h => hkr h.symm) i hi16]
      · rw [md_up_n (by omega)]; exact h2 c (by omega)
    · rw [md_up_n (by omega)]; exact h3 c (by omega) hc2
    · rw [md_up_n (by omega)]; exact h4 e he hne c hc
def md_cc (g : Nat → Nat) (row v k : Nat) (g' : Nat → Nat) : Prop := ∀ e, e < 8 → ∀ c, c < 16 → g' (e * 16 + c) = if e < k ∧ e ≠ row then (g (e * 16 + c) + (101 - g (e * 16 + v)) * g (row * 16 + c)) % 101 else g (e * 16 + c)
theorem xs_cl_out {g : Nat → Nat} {row v : Nat} (hr : row < 8) (hv : v < 8) (f_equationsThere f_stale f_unknowns f_pairs f_excessEquations f_excessVariables f_looseEquations f_looseVariables f_blockCount f_firstSingular : Int32) (a_kinds a_given a_found a_constants a_coefficients a_oldCoefficients a_reach a_goodReach a_blockEquations a_blockVariables a_solvedBy a_rests : Nat → Int32) (post : SX → Prop) (h : ∀ f g', md_gN g' f → md_cc g row v 8 g' → post (f_equationsThere, f_stale, f_unknowns, f_pairs, f_excessEquations, f_excessVariables, f_looseEquations, f_looseVariables, f_blockCount, f_firstSingular, a_kinds, a_given, a_found, a_constants, a_coefficients, a_oldCoefficients, a_reach, a_goodReach, a_blockEquations, a_blockVariables, f, a_solvedBy, a_rests)) : ∀ d k f g', k + d = 8 → md_gN g' f → md_cc g row v k g' → wX_clearColumn_2 post (nI row) (nI v) f_equationsThere f_stale f_unknowns f_pairs f_excessEquations f_excessVariables f_looseEquations f_looseVariables f_blockCount f_firstSingular (d + 1) (nI k) a_kinds a_given a_found a_constants a_coefficients a_oldCoefficients a_reach a_goodReach a_blockEquations a_blockVariables f a_solvedBy a_rests := by
  intro d
  induction d with
  | zero =>
    intro k f g' hk h1 h2
    rw [show k = 8 by omega] at h2 ⊢
    exact br_t (nI_le (a := 8) (b := 8) (by omega) (by decide)) (h f g' h1 h2)
  | succ d ih =>
    intro k f g' hk h1 h2
    have hk8 : k < 8 := by omega
    refine br_f (nI_ge (b := 8) hk8 (by decide)) ?_
    by_cases e : k = row
    · refine br_t (by rw [e]) (nm_r (nI_1 k) (ih (k + 1) f g' (by omega) h1 (fun a ha c hc => ?_)))
      rw [h2 a ha c hc]
      by_cases e2 : a < k ∧ a ≠ row
      · rw [if_pos e2, if_pos (by omega)]
      · rw [if_neg e2, if_neg (by omega)]
    · refine br_f (fun hh => e ((nI_eq (by omega) (by omega)).mp hh)) ?_
      rw [md_ix16]
      refine ⟨vp_in_nI (by omega) (by decide), ?_⟩
      obtain ⟨g1, g2⟩ := h1 (k * 16 + v) (by omega)
      rw [nI_clamp (by omega), g1]
      refine nm_r (e' := nI (101 - g' (k * 16 + v))) (by show nI 101 - _ = _; rw [pk_sub (by omega)]) ⟨17, ?_⟩
      refine xs_cl_in (g := g') hr hv hk8 e (fun j hj => (h1 j hj).2) f_equationsThere f_stale f_unknowns f_pairs f_excessEquations f_excessVariables f_looseEquations f_looseVariables f_blockCount f_firstSingular a_kinds a_given a_found a_constants a_coefficients a_oldCoefficients a_reach a_goodReach a_blockEquations a_blockVariables  a_solvedBy a_rests post _ (fun f2 g2' h3 h4 h5 => ?_) 16 0 f g' rfl h1 (fun c hc => by omega) (fun c _ _ => rfl) (fun _ _ _ c _ => rfl)
      refine ih (k + 1) f2 g2' (by omega) h3 (fun a ha c hc => ?_)
      have hrow : ∀ c, c < 16 → g' (row * 16 + c) = g (row * 16 + c) := fun c hc => by
        rw [h2 row hr c hc, if_neg (by omega)]
      by_cases e3 : a = k
      · rw [e3, h4 c hc, if_pos (by omega), hrow c hc, h2 k hk8 c hc, if_neg (by omega), h2 k hk8 v (by omega), if_neg (by omega)]
      · rw [h5 a ha e3 c hc, h2 a ha c hc]
        by_cases e2 : a < k ∧ a ≠ row
        · rw [if_pos e2, if_pos (by omega)]
        · rw [if_neg e2, if_neg (by omega)]
theorem xs_cl {g : Nat → Nat} {row v : Nat} (hr : row < 8) (hv : v < 8) (f_equationsThere f_stale f_unknowns f_pairs f_excessEquations f_excessVariables f_looseEquations f_looseVariables f_blockCount f_firstSingular : Int32) (a_kinds a_given a_found a_constants a_coefficients a_oldCoefficients a_reach a_goodReach a_blockEquations a_blockVariables a_grid a_solvedBy a_rests : Nat → Int32) (hg : md_gN g a_grid) (post : SX → Prop) (h : ∀ f g', md_gN g' f → md_cc g row v 8 g' → post (f_equationsThere, f_stale, f_unknowns, f_pairs, f_excessEquations, f_excessVariables, f_looseEquations, f_looseVariables, f_blockCount, f_firstSingular, a_kinds, a_given, a_found, a_constants, a_coefficients, a_oldCoefficients, a_reach, a_goodReach, a_blockEquations, a_blockVariables, f, a_solvedBy, a_rests)) : wpX_clearColumn post (f_equationsThere, f_stale, f_unknowns, f_pairs, f_excessEquations, f_excessVariables, f_looseEquations, f_looseVariables, f_blockCount, f_firstSingular, a_kinds, a_given, a_found, a_constants, a_coefficients, a_oldCoefficients, a_reach, a_goodReach, a_blockEquations, a_blockVariables, a_grid, a_solvedBy, a_rests) (nI row) (nI v) := by
  unfold wpX_clearColumn
  exact ⟨9, xs_cl_out hr hv f_equationsThere f_stale f_unknowns f_pairs f_excessEquations f_excessVariables f_looseEquations f_looseVariables f_blockCount f_firstSingular a_kinds a_given a_found a_constants a_coefficients a_oldCoefficients a_reach a_goodReach a_blockEquations a_blockVariables  a_solvedBy a_rests post h 8 0 a_grid g rfl hg (fun e _ c _ => by rw [if_neg (by omega)])⟩
