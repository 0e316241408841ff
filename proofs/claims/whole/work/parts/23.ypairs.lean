theorem md_ix2 {s v : Nat} (hv : v < 8) : nI s ||| ((1 : Int32) <<< (nI v &&& 31)) = nI (s ||| 2 ^ v) := by
  rw [md_shl1 v hv, nx_or]
theorem md_m1le {n : Nat} (h : n < 2 ^ 31) : (-1 : Int32) ≤ nI n := by
  rw [Int32.le_iff_toInt_le, nI_toInt h]
  have h2 : (-1 : Int32).toInt = -1 := rfl
  omega
theorem md_m1nle {n : Nat} (h : n < 2 ^ 31) : ¬ nI n ≤ (-1 : Int32) := by
  rw [Int32.le_iff_toInt_le, nI_toInt h]
  have h2 : (-1 : Int32).toInt = -1 := rfl
  omega
theorem md_sz8 (s : Nat) : md_sz s ≤ 8 := md_ct_le _ 8
theorem ys_w_back {A : Nat → Nat → Bool} {E V : Nat → Bool} {k : Nat} (f_equations f_variables f_greatest f_excess f_loose f_excessOnes f_looseOnes f_known f_blocks : Int32) (a_kind a_value a_before a_constant a_latest a_there a_shown a_coefficient a_old a_inside a_more a_blockEquations a_blockVariables a_goodPairs a_matrix : Nat → Int32) (hm : md_TB A E V (k + 1) a_more) (post : SY → Prop) (h : ∀ f, md_TB A E V (k + 1) f → post (f_equations, f_variables, f_greatest, f_excess, f_loose, f_excessOnes, f_looseOnes, f_known, f_blocks, a_kind, a_value, a_before, a_constant, a_latest, a_there, a_shown, a_coefficient, a_old, a_inside, f, a_more, a_blockEquations, a_blockVariables, a_goodPairs, a_matrix)) : ∀ d i f, i + d = 256 → (∀ s, s < i → f s = a_more s) → wY_with_142 post f_equations f_variables f_greatest f_excess f_loose f_excessOnes f_looseOnes f_known f_blocks (d + 1) (nI i) a_kind a_value a_before a_constant a_latest a_there a_shown a_coefficient a_old a_inside f a_more a_blockEquations a_blockVariables a_goodPairs a_matrix := by
  intro d
  induction d with
  | zero =>
    intro i f hi hf
    rw [show i = 256 by omega] at hf ⊢
    exact br_t (nI_le (a := 256) (b := 256) (by omega) (by decide)) (h f (fun s hs => by rw [hf s hs]; exact hm s hs))
  | succ d ih =>
    intro i f hi hf
    have hi8 : i < 256 := by omega
    refine br_f (nI_ge (b := 256) hi8 (by decide)) ⟨vp_in_nI hi8 (by decide), vp_in_nI hi8 (by decide), nm_e (nm_r (nI_1 i) ?_)⟩
    rw [nI_clamp (by omega)]
    refine ih (i + 1) _ (by omega) (fun s hs => ?_)
    by_cases e : s = i
    · rw [e, pk_us]
    · rw [pk_un e]; exact hf s (by omega)
theorem ys_w_v {A : Nat → Nat → Bool} {E V : Nat → Bool} {k s : Nat} (hk : k < 8) (hs : s < 256) (hE : E k = true) (f_equations f_variables f_greatest f_excess f_loose f_excessOnes f_looseOnes f_known f_blocks : Int32) (a_kind a_value a_before a_constant a_latest a_there a_shown a_coefficient a_old a_inside a_most a_blockEquations a_blockVariables a_goodPairs a_matrix : Nat → Int32) (hin : ∀ e, e < 8 → a_inside e = nI (md_mk 8 (A e))) (hm : md_TB A E V k a_most) (post : SY → Prop) (J : Int32 → (Nat → Int32) → (Nat → Int32) → (Nat → Int32) → (Nat → Int32) → (Nat → Int32) → (Nat → Int32) → (Nat → Int32) → (Nat → Int32) → (Nat → Int32) → (Nat → Int32) → (Nat → Int32) → (Nat → Int32) → (Nat → Int32) → (Nat → Int32) → (Nat → Int32) → (Nat → Int32) → Prop) (hJ : ∀ g, md_TM A E V k (s + 1) 0 g → J (nI (s + 1)) a_kind a_value a_before a_constant a_latest a_there a_shown a_coefficient a_old a_inside a_most g a_blockEquations a_blockVariables a_goodPairs a_matrix) : ∀ d v g, v + d = 8 → md_TM A E V k s v g → wY_with_39 post J (nI k) (nI (md_mk 8 V)) (nI s) f_equations f_variables f_greatest f_excess f_loose f_excessOnes f_looseOnes f_known f_blocks (d + 1) (nI v) a_kind a_value a_before a_constant a_latest a_there a_shown a_coefficient a_old a_inside a_most g a_blockEquations a_blockVariables a_goodPairs a_matrix := by
  intro d
  induction d with
  | zero =>
    intro v g hv hg
    rw [show v = 8 by omega] at hg ⊢
    exact br_t (nI_le (a := 8) (b := 8) (by omega) (by decide)) (nm_r (nI_1 s) (hJ g (md_TM_row hg)))
  | succ d ih =>
    intro v g hv hg
    have hv8 : v < 8 := by omega
    have hms := hm s hs
    refine br_f (nI_ge (b := 8) hv8 (by decide)) ⟨vp_in_nI hs (by decide), ?_⟩
    rw [nI_clamp (n := s) (by omega)]
    by_cases hmb : md_mb A E V k s = true
    · rw [if_pos hmb] at hms
      have h8 := md_sz8 s
      rw [hms]
      refine br_f (nI_pos (by omega)) ⟨vp_in_nI hk (by decide), ?_⟩
      rw [nI_clamp (n := k) (by omega), hin k hk]
      have e1 : ((nI (md_mk 8 (A k)) &&& nI (md_mk 8 V)) &&& (nI s ^^^ (-1))) &&& ((1 : Int32) <<< (nI v &&& 31)) = nI (md_mk 8 (fun i => ((A k i && V i) && !s.testBit i) && (i == v))) := by
        rw [ni_of hs, ni_and, ni_sd, ni_shl hv8, ni_and]
      rw [e1]
      refine br_c (fun hz => ?_) (fun hz => ?_)
      · refine br_t rfl (nm_r (nI_1 v) (ih (v + 1) g (by omega) (md_TM_no hg (Or.inl ?_))))
        rintro ⟨a, b, c⟩
        have := ni_z.mp hz v hv8
        rw [a, b, c] at this
        simp at this
      · obtain ⟨i, hi, hh⟩ := ni_nz.mp hz
        simp at hh
        obtain ⟨⟨⟨c, b⟩, a⟩, e⟩ := hh
        rw [e] at a b c
        have hlt := md_or_lt hs (md_pow_lt v hv8)
        have h9 := md_sz8 (s ||| 2 ^ v)
        refine br_f (by decide) ?_
        rw [md_ix2 hv8]
        refine ⟨vp_in_nI hlt (by decide), vp_in_nI hs (by decide), ?_⟩
        rw [nI_clamp (n := s) (by omega), nI_clamp (n := s ||| 2 ^ v) (by omega), hms, nI_1, ← md_sz_or hv8 a]
        rcases hg.1 _ hlt with hg1 | hg1
        · rw [hg1]
          refine br_f (md_m1nle (by omega)) ⟨vp_in_nI hs (by decide), vp_in_nI hlt (by decide), nm_e (nm_r (nI_1 v) (ih (v + 1) _ (by omega) (md_TM_put hg hs hv8 hE hmb a b c)))⟩
        · rw [hg1.1]
          exact br_t (nI_le (Nat.le_refl _) (by omega)) (nm_r (nI_1 v) (ih (v + 1) g (by omega) (md_TM_no hg (Or.inr hg1.1))))
    · rw [if_neg hmb] at hms
      rw [hms]
      exact br_t (by decide) (nm_r (nI_1 s) (hJ g (md_TM_skip hg hmb)))
theorem ys_w_s {A : Nat → Nat → Bool} {E V : Nat → Bool} {k : Nat} (hk : k < 8) (hE : E k = true) (f_equations f_variables f_greatest f_excess f_loose f_excessOnes f_looseOnes f_known f_blocks : Int32) (a_kind a_value a_before a_constant a_latest a_there a_shown a_coefficient a_old a_inside a_most a_blockEquations a_blockVariables a_goodPairs a_matrix : Nat → Int32) (hin : ∀ e, e < 8 → a_inside e = nI (md_mk 8 (A e))) (hm : md_TB A E V k a_most) (post : SY → Prop) (h : ∀ f g, md_TB A E V (k + 1) f → post (f_equations, f_variables, f_greatest, f_excess, f_loose, f_excessOnes, f_looseOnes, f_known, f_blocks, a_kind, a_value, a_before, a_constant, a_latest, a_there, a_shown, a_coefficient, a_old, a_inside, f, g, a_blockEquations, a_blockVariables, a_goodPairs, a_matrix)) : ∀ d s g, s + d = 256 → md_TM A E V k s 0 g → wY_with_29 post (nI k) (nI (md_mk 8 V)) f_equations f_variables f_greatest f_excess f_loose f_excessOnes f_looseOnes f_known f_blocks (d + 1) (nI s) a_kind a_value a_before a_constant a_latest a_there a_shown a_coefficient a_old a_inside a_most g a_blockEquations a_blockVariables a_goodPairs a_matrix := by
  intro d
  induction d with
  | zero =>
    intro s g hs hg
    rw [show s = 256 by omega] at hg ⊢
    refine br_t (nI_le (a := 256) (b := 256) (by omega) (by decide)) ⟨257, ?_⟩
    exact ys_w_back f_equations f_variables f_greatest f_excess f_loose f_excessOnes f_looseOnes f_known f_blocks a_kind a_value a_before a_constant a_latest a_there a_shown a_coefficient a_old a_inside  g a_blockEquations a_blockVariables a_goodPairs a_matrix (md_TM_end hg) post (fun f hf => h f g hf) 256 0 a_most rfl (fun s hs => by omega)
  | succ d ih =>
    intro s g hs hg
    refine br_f (nI_ge (b := 256) (by omega) (by decide)) ⟨9, ?_⟩
    exact ys_w_v hk (by omega) hE f_equations f_variables f_greatest f_excess f_loose f_excessOnes f_looseOnes f_known f_blocks a_kind a_value a_before a_constant a_latest a_there a_shown a_coefficient a_old a_inside a_most  a_blockEquations a_blockVariables a_goodPairs a_matrix hin hm post _ (fun g' hg' => ih (s + 1) g' (by omega) hg') 8 0 g rfl hg
theorem ys_w_0 {A : Nat → Nat → Bool} {E V : Nat → Bool} {k : Nat} (hk : k < 8) (hE : E k = true) (f_equations f_variables f_greatest f_excess f_loose f_excessOnes f_looseOnes f_known f_blocks : Int32) (a_kind a_value a_before a_constant a_latest a_there a_shown a_coefficient a_old a_inside a_most a_blockEquations a_blockVariables a_goodPairs a_matrix : Nat → Int32) (hin : ∀ e, e < 8 → a_inside e = nI (md_mk 8 (A e))) (hm : md_TB A E V k a_most) (post : SY → Prop) (h : ∀ f g, md_TB A E V (k + 1) f → post (f_equations, f_variables, f_greatest, f_excess, f_loose, f_excessOnes, f_looseOnes, f_known, f_blocks, a_kind, a_value, a_before, a_constant, a_latest, a_there, a_shown, a_coefficient, a_old, a_inside, f, g, a_blockEquations, a_blockVariables, a_goodPairs, a_matrix)) : ∀ d i g, i + d = 256 → (∀ s, s < i → g s = a_most s) → wY_with_2 post (nI k) (nI (md_mk 8 V)) f_equations f_variables f_greatest f_excess f_loose f_excessOnes f_looseOnes f_known f_blocks (d + 1) (nI i) a_kind a_value a_before a_constant a_latest a_there a_shown a_coefficient a_old a_inside a_most g a_blockEquations a_blockVariables a_goodPairs a_matrix := by
  intro d
  induction d with
  | zero =>
    intro i g hi hg
    rw [show i = 256 by omega] at hg ⊢
    refine br_t (nI_le (a := 256) (b := 256) (by omega) (by decide)) ⟨257, ?_⟩
    exact ys_w_s hk hE f_equations f_variables f_greatest f_excess f_loose f_excessOnes f_looseOnes f_known f_blocks a_kind a_value a_before a_constant a_latest a_there a_shown a_coefficient a_old a_inside a_most  a_blockEquations a_blockVariables a_goodPairs a_matrix hin hm post h 256 0 g rfl (md_TM_0 (fun s hs => by rw [hg s hs]; exact hm s hs))
  | succ d ih =>
    intro i g hi hg
    have hi8 : i < 256 := by omega
    refine br_f (nI_ge (b := 256) hi8 (by decide)) ⟨vp_in_nI hi8 (by decide), vp_in_nI hi8 (by decide), nm_e (nm_r (nI_1 i) ?_)⟩
    rw [nI_clamp (by omega)]
    refine ih (i + 1) _ (by omega) (fun s hs => ?_)
    by_cases e : s = i
    · rw [e, pk_us]
    · rw [pk_un e]; exact hg s (by omega)
theorem ys_with {A : Nat → Nat → Bool} {E V : Nat → Bool} {k : Nat} (hk : k < 8) (hE : E k = true) (f_equations f_variables f_greatest f_excess f_loose f_excessOnes f_looseOnes f_known f_blocks : Int32) (a_kind a_value a_before a_constant a_latest a_there a_shown a_coefficient a_old a_inside a_most a_more a_blockEquations a_blockVariables a_goodPairs a_matrix : Nat → Int32) (hin : ∀ e, e < 8 → a_inside e = nI (md_mk 8 (A e))) (hm : md_TB A E V k a_most) (post : SY → Prop) (h : ∀ f g, md_TB A E V (k + 1) f → post (f_equations, f_variables, f_greatest, f_excess, f_loose, f_excessOnes, f_looseOnes, f_known, f_blocks, a_kind, a_value, a_before, a_constant, a_latest, a_there, a_shown, a_coefficient, a_old, a_inside, f, g, a_blockEquations, a_blockVariables, a_goodPairs, a_matrix)) : wpY_with post (f_equations, f_variables, f_greatest, f_excess, f_loose, f_excessOnes, f_looseOnes, f_known, f_blocks, a_kind, a_value, a_before, a_constant, a_latest, a_there, a_shown, a_coefficient, a_old, a_inside, a_most, a_more, a_blockEquations, a_blockVariables, a_goodPairs, a_matrix) (nI k) (nI (md_mk 8 V)) := by
  unfold wpY_with
  exact ⟨257, ys_w_0 hk hE f_equations f_variables f_greatest f_excess f_loose f_excessOnes f_looseOnes f_known f_blocks a_kind a_value a_before a_constant a_latest a_there a_shown a_coefficient a_old a_inside a_most  a_blockEquations a_blockVariables a_goodPairs a_matrix hin hm post h 256 0 a_more rfl (fun s hs => by omega)⟩
theorem ys_p_best {A : Nat → Nat → Bool} {E V : Nat → Bool} (f_equations f_variables f_greatest f_excess f_loose f_excessOnes f_looseOnes f_known f_blocks : Int32) (a_kind a_value a_before a_constant a_latest a_there a_shown a_coefficient a_old a_inside a_most a_more a_blockEquations a_blockVariables a_goodPairs a_matrix : Nat → Int32) (hm : md_TB A E V 8 a_most) (post : Int32 → SY → Prop) (h : post (nI (md_tau A E V)) (f_equations, f_variables, f_greatest, f_excess, f_loose, f_excessOnes, f_looseOnes, f_known, f_blocks, a_kind, a_value, a_before, a_constant, a_latest, a_there, a_shown, a_coefficient, a_old, a_inside, a_most, a_more, a_blockEquations, a_blockVariables, a_goodPairs, a_matrix)) : ∀ d i b, i + d = 256 → b ≤ md_tau A E V → (∀ s, s < i → md_mb A E V 8 s = true → md_sz s ≤ b) → wY_pairs_72 post f_equations f_variables f_greatest f_excess f_loose f_excessOnes f_looseOnes f_known f_blocks a_kind a_value a_before a_constant a_latest a_there a_shown a_coefficient a_old a_inside a_most a_more a_blockEquations a_blockVariables a_goodPairs a_matrix (d + 1) (nI b) (nI i) := by
  have ht := md_tau_le A E V
  intro d
  induction d with
  | zero =>
    intro i b hi hb hs
    rw [show i = 256 by omega] at hs ⊢
    obtain ⟨s, s1, s2, s3⟩ := md_mb_at A E V
    have h1 := hs s s1 s2
    rw [show b = md_tau A E V by omega]
    exact br_t (nI_le (a := 256) (b := 256) (by omega) (by decide)) h
  | succ d ih =>
    intro i b hi hb hs
    have hi8 : i < 256 := by omega
    have hmi := hm i hi8
    have h8 := md_sz8 i
    refine br_f (nI_ge (b := 256) hi8 (by decide)) ⟨vp_in_nI hi8 (by decide), ?_⟩
    rw [nI_clamp (by omega)]
    by_cases hmb : md_mb A E V 8 i = true
    · rw [if_pos hmb] at hmi
      have hle := md_mb_le hi8 hmb
      rw [hmi]
      refine br_c (fun hc => ?_) (fun hc => ?_)
      · rw [nI_leI (by omega) (by omega)] at hc
        refine nm_r (nI_1 i) (ih (i + 1) b (by omega) hb (fun s hs2 hm2 => ?_))
        by_cases e : s = i
        · rw [e]; exact hc
        · exact hs s (by omega) hm2
      · rw [nI_leI (by omega) (by omega)] at hc
        refine ⟨vp_in_nI hi8 (by decide), nm_e (nm_r (nI_1 i) (ih (i + 1) (md_sz i) (by omega) hle (fun s hs2 hm2 => ?_)))⟩
        by_cases e : s = i
        · rw [e]; exact Nat.le_refl _
        · have := hs s (by omega) hm2
          omega
    · rw [if_neg hmb] at hmi
      rw [hmi]
      refine br_t (md_m1le (by omega)) (nm_r (nI_1 i) (ih (i + 1) b (by omega) hb (fun s hs2 hm2 => ?_)))
      by_cases e : s = i
      · rw [e] at hm2; exact absurd hm2 hmb
      · exact hs s (by omega) hm2
theorem ys_p_e {A : Nat → Nat → Bool} {E V : Nat → Bool} (f_equations f_variables f_greatest f_excess f_loose f_excessOnes f_looseOnes f_known f_blocks : Int32) (a_kind a_value a_before a_constant a_latest a_there a_shown a_coefficient a_old a_inside a_blockEquations a_blockVariables a_goodPairs a_matrix : Nat → Int32) (hin : ∀ e, e < 8 → a_inside e = nI (md_mk 8 (A e))) (post : Int32 → SY → Prop) (h : ∀ f g, post (nI (md_tau A E V)) (f_equations, f_variables, f_greatest, f_excess, f_loose, f_excessOnes, f_looseOnes, f_known, f_blocks, a_kind, a_value, a_before, a_constant, a_latest, a_there, a_shown, a_coefficient, a_old, a_inside, f, g, a_blockEquations, a_blockVariables, a_goodPairs, a_matrix)) : ∀ d k f g, k + d = 8 → md_TB A E V k f → wY_pairs_39 post (nI (md_mk 8 E)) (nI (md_mk 8 V)) 0 (d + 1) (nI k) f_equations f_variables f_greatest f_excess f_loose f_excessOnes f_looseOnes f_known f_blocks a_kind a_value a_before a_constant a_latest a_there a_shown a_coefficient a_old a_inside f g a_blockEquations a_blockVariables a_goodPairs a_matrix := by
  intro d
  induction d with
  | zero =>
    intro k f g hk hf
    rw [show k = 8 by omega] at hf ⊢
    refine br_t (nI_le (a := 8) (b := 8) (by omega) (by decide)) ⟨257, ?_⟩
    exact ys_p_best f_equations f_variables f_greatest f_excess f_loose f_excessOnes f_looseOnes f_known f_blocks a_kind a_value a_before a_constant a_latest a_there a_shown a_coefficient a_old a_inside f g a_blockEquations a_blockVariables a_goodPairs a_matrix hf post (h f g) 256 0 0 rfl (Nat.zero_le _) (fun s hs => by omega)
  | succ d ih =>
    intro k f g hk hf
    have hk8 : k < 8 := by omega
    refine br_f (nI_ge (b := 8) hk8 (by decide)) ?_
    cases hE : E k with
    | true =>
      refine br_t (md_b1 hk8 hE) ?_
      refine ys_with hk8 hE f_equations f_variables f_greatest f_excess f_loose f_excessOnes f_looseOnes f_known f_blocks a_kind a_value a_before a_constant a_latest a_there a_shown a_coefficient a_old a_inside f g a_blockEquations a_blockVariables a_goodPairs a_matrix hin hf _ (fun f' g' hf' => ?_)
      exact nm_r (nI_1 k) (ih (k + 1) f' g' (by omega) hf')
    | false =>
      refine br_f (md_b1n hk8 hE) (nm_r (nI_1 k) (ih (k + 1) f g (by omega) (fun s hs => ?_)))
      rw [md_mb_no hE]; exact hf s hs
theorem ys_p_0 {A : Nat → Nat → Bool} {E V : Nat → Bool} (f_equations f_variables f_greatest f_excess f_loose f_excessOnes f_looseOnes f_known f_blocks : Int32) (a_kind a_value a_before a_constant a_latest a_there a_shown a_coefficient a_old a_inside a_blockEquations a_blockVariables a_goodPairs a_matrix : Nat → Int32) (hin : ∀ e, e < 8 → a_inside e = nI (md_mk 8 (A e))) (post : Int32 → SY → Prop) (h : ∀ f g, post (nI (md_tau A E V)) (f_equations, f_variables, f_greatest, f_excess, f_loose, f_excessOnes, f_looseOnes, f_known, f_blocks, a_kind, a_value, a_before, a_constant, a_latest, a_there, a_shown, a_coefficient, a_old, a_inside, f, g, a_blockEquations, a_blockVariables, a_goodPairs, a_matrix)) : ∀ d i f g, i + d = 256 → (∀ s, s < i → f s = if s = 0 then 0 else -1) → wY_pairs_5 post (nI (md_mk 8 E)) (nI (md_mk 8 V)) 0 f_equations f_variables f_greatest f_excess f_loose f_excessOnes f_looseOnes f_known f_blocks (d + 1) (nI i) a_kind a_value a_before a_constant a_latest a_there a_shown a_coefficient a_old a_inside f g a_blockEquations a_blockVariables a_goodPairs a_matrix := by
  intro d
  induction d with
  | zero =>
    intro i f g hi hf
    rw [show i = 256 by omega] at hf ⊢
    refine br_t (nI_le (a := 256) (b := 256) (by omega) (by decide)) ⟨9, ?_⟩
    refine ys_p_e f_equations f_variables f_greatest f_excess f_loose f_excessOnes f_looseOnes f_known f_blocks a_kind a_value a_before a_constant a_latest a_there a_shown a_coefficient a_old a_inside   a_blockEquations a_blockVariables a_goodPairs a_matrix hin post h 8 0 f g rfl (fun s hs => ?_)
    rw [hf s hs]
    show _ = if (s == 0) = true then nI (md_sz s) else -1
    by_cases e : s = 0
    · rw [if_pos e, if_pos (by simp [e]), e]; decide
    · rw [if_neg e, if_neg (by simp [e])]
  | succ d ih =>
    intro i f g hi hf
    have hi8 : i < 256 := by omega
    refine br_f (nI_ge (b := 256) hi8 (by decide)) ?_
    rw [nI_clamp (by omega)]
    refine br_c (fun hz => ⟨vp_in_nI hi8 (by decide), nm_e (nm_r (nI_1 i) (ih (i + 1) _ g (by omega) (fun s hs => ?_)))⟩) (fun hz => ⟨vp_in_nI hi8 (by decide), nm_e (nm_r (nI_1 i) (ih (i + 1) _ g (by omega) (fun s hs => ?_)))⟩)
    · have hi0 : i = 0 := (md_z0 (by omega)).mp hz
      by_cases e : s = i
      · rw [e, pk_us, if_pos hi0]
      · rw [pk_un e]; exact hf s (by omega)
    · have hi0 : ¬ i = 0 := fun h => hz ((md_z0 (by omega)).mpr h)
      by_cases e : s = i
      · rw [e, pk_us, if_neg hi0]
      · rw [pk_un e]; exact hf s (by omega)
theorem ys_pairs {A : Nat → Nat → Bool} {E V : Nat → Bool} (f_equations f_variables f_greatest f_excess f_loose f_excessOnes f_looseOnes f_known f_blocks : Int32) (a_kind a_value a_before a_constant a_latest a_there a_shown a_coefficient a_old a_inside a_most a_more a_blockEquations a_blockVariables a_goodPairs a_matrix : Nat → Int32) (hin : ∀ e, e < 8 → a_inside e = nI (md_mk 8 (A e))) (post : Int32 → SY → Prop) (h : ∀ f g, post (nI (md_tau A E V)) (f_equations, f_variables, f_greatest, f_excess, f_loose, f_excessOnes, f_looseOnes, f_known, f_blocks, a_kind, a_value, a_before, a_constant, a_latest, a_there, a_shown, a_coefficient, a_old, a_inside, f, g, a_blockEquations, a_blockVariables, a_goodPairs, a_matrix)) : wpY_pairs post (f_equations, f_variables, f_greatest, f_excess, f_loose, f_excessOnes, f_looseOnes, f_known, f_blocks, a_kind, a_value, a_before, a_constant, a_latest, a_there, a_shown, a_coefficient, a_old, a_inside, a_most, a_more, a_blockEquations, a_blockVariables, a_goodPairs, a_matrix) (nI (md_mk 8 E)) (nI (md_mk 8 V)) := by
  unfold wpY_pairs
  exact ⟨257, ys_p_0 f_equations f_variables f_greatest f_excess f_loose f_excessOnes f_looseOnes f_known f_blocks a_kind a_value a_before a_constant a_latest a_there a_shown a_coefficient a_old a_inside   a_blockEquations a_blockVariables a_goodPairs a_matrix hin post h 256 0 a_most a_more rfl (fun s hs => by omega)⟩
