def md_mb (A : Nat → Nat → Bool) (E V : Nat → Bool) : Nat → Nat → Bool
  | 0, s => s == 0
  | k + 1, s => md_mb A E V k s || (E k && md_an 8 (fun v => (s.testBit v && V v) && (A k v && md_mb A E V k (md_sd s (2 ^ v)))))
theorem md_rmb {s v : Nat} : ∀ w, w < 8 → (md_sd s (2 ^ v)).testBit w = (s.testBit w && !(w == v)) := by
  intro w hw
  rw [md_sd_tb hw, Nat.testBit_two_pow]
  by_cases e : v = w
  · rw [e]; simp
  · have h1 : (w == v) = false := by simp; omega
    rw [h1]; simp [e]
theorem md_mb_iff {A : Nat → Nat → Bool} {E V : Nat → Bool} : ∀ k s, s < 256 → (md_mb A E V k s = true ↔ md_Mt A E V k (fun i => s.testBit i)) := by
  intro k
  induction k with
  | zero =>
    intro s hs
    show (s == 0) = true ↔ ∀ v, v < 8 → s.testBit v = false
    constructor
    · intro h v _
      have : s = 0 := by simpa using h
      rw [this]; simp
    · intro h
      have : s = 0 := md_tb_ext hs (by decide) (fun i hi => by rw [h i hi]; simp)
      simp [this]
  | succ k ih =>
    intro s hs
    show (md_mb A E V k s || (E k && md_an 8 (fun v => (s.testBit v && V v) && (A k v && md_mb A E V k (md_sd s (2 ^ v)))))) = true ↔ _
    rw [Bool.or_eq_true, ih s hs, Bool.and_eq_true, md_an_iff]
    constructor
    · rintro (h | ⟨hE, v, hv, h⟩)
      · exact Or.inl h
      · rw [Bool.and_eq_true, Bool.and_eq_true, Bool.and_eq_true, ih _ (md_sd_lt _ hs)] at h
        exact Or.inr ⟨hE, v, hv, h.1.1, h.1.2, h.2.1, md_Mt_cg md_rmb h.2.2⟩
    · rintro (h | ⟨hE, v, hv, h1, h2, h3, h4⟩)
      · exact Or.inl h
      · refine Or.inr ⟨hE, v, hv, ?_⟩
        rw [Bool.and_eq_true, Bool.and_eq_true, Bool.and_eq_true, ih _ (md_sd_lt _ hs)]
        exact ⟨⟨h1, h2⟩, h3, md_Mt_cg (fun w hw => (md_rmb w hw).symm) h4⟩
theorem md_mb_le {A : Nat → Nat → Bool} {E V : Nat → Bool} {s : Nat} (hs : s < 256) (h : md_mb A E V 8 s = true) : md_sz s ≤ md_tau A E V := (md_match A E V).1 _ ((md_mb_iff 8 s hs).mp h)
theorem md_mb_at (A : Nat → Nat → Bool) (E V : Nat → Bool) : ∃ s, s < 256 ∧ md_mb A E V 8 s = true ∧ md_sz s = md_tau A E V := by
  obtain ⟨s, m, _, c⟩ := (md_match A E V).2
  have he : ∀ i, i < 8 → s i = (md_mk 8 s).testBit i := fun i hi => by rw [md_mk_tb]; simp [hi]
  refine ⟨md_mk 8 s, md_mk8 s, (md_mb_iff 8 _ (md_mk8 s)).mpr (md_Mt_cg he m), ?_⟩
  rw [← c]
  exact md_ct_cg (fun i hi => (he i hi).symm)
theorem md_tau_le (A : Nat → Nat → Bool) (E V : Nat → Bool) : md_tau A E V ≤ 8 := by
  obtain ⟨s, _, _, h⟩ := md_mb_at A E V
  rw [← h]; exact md_ct_le _ 8
theorem md_or_rm {s v : Nat} (hs : s < 256) (hv : v < 8) (h : s.testBit v = false) : md_sd (s ||| 2 ^ v) (2 ^ v) = s := by
  refine md_tb_ext (md_sd_lt _ (md_or_lt hs (md_pow_lt v hv))) hs (fun i hi => ?_)
  rw [md_rmb i hi, Nat.testBit_or, Nat.testBit_two_pow]
  by_cases e : i = v
  · rw [e, h]; simp
  · have h1 : (i == v) = false := by simp [e]
    have h2 : ¬ v = i := fun h => e h.symm
    simp [h1, h2]
theorem md_rm_or {s v : Nat} (hs : s < 256) (hv : v < 8) (h : s.testBit v = true) : md_sd s (2 ^ v) ||| 2 ^ v = s := by
  refine md_tb_ext (md_or_lt (md_sd_lt _ hs) (md_pow_lt v hv)) hs (fun i hi => ?_)
  rw [Nat.testBit_or, md_rmb i hi, Nat.testBit_two_pow]
  by_cases e : i = v
  · rw [e, h]; simp
  · have h1 : (i == v) = false := by simp [e]
    have h2 : ¬ v = i := fun h => e h.symm
    simp [h1, h2]
theorem md_sz_or {s v : Nat} (hv : v < 8) (h : s.testBit v = false) : md_sz (s ||| 2 ^ v) = md_sz s + 1 := by
  unfold md_sz
  rw [← md_ct_add1 (s := fun i => s.testBit i) hv h]
  refine md_ct_cg (fun i _ => ?_)
  rw [Nat.testBit_or, Nat.testBit_two_pow]
  by_cases e : i = v
  · rw [e]; simp
  · have h1 : (i == v) = false := by simp [e]
    have h2 : ¬ v = i := fun h => e h.symm
    simp [h1, h2]
theorem md_mb_s {A : Nat → Nat → Bool} {E V : Nat → Bool} {k s v : Nat} (hs : s < 256) (hv : v < 8) (hE : E k = true) (h1 : s.testBit v = false) (h2 : V v = true) (h3 : A k v = true) (h4 : md_mb A E V k s = true) : md_mb A E V (k + 1) (s ||| 2 ^ v) = true := by
  show (md_mb A E V k (s ||| 2 ^ v) || (E k && md_an 8 (fun w => ((s ||| 2 ^ v).testBit w && V w) && (A k w && md_mb A E V k (md_sd (s ||| 2 ^ v) (2 ^ w)))))) = true
  rw [Bool.or_eq_true, Bool.and_eq_true, md_an_iff]
  refine Or.inr ⟨hE, v, hv, ?_⟩
  rw [md_or_rm hs hv h1, h2, h3, h4, Nat.testBit_or, Nat.testBit_two_pow_self]
  simp
theorem md_mb_c {A : Nat → Nat → Bool} {E V : Nat → Bool} {k s : Nat} (h : md_mb A E V (k + 1) s = true) : md_mb A E V k s = true ∨ (E k = true ∧ ∃ v, v < 8 ∧ s.testBit v = true ∧ V v = true ∧ A k v = true ∧ md_mb A E V k (md_sd s (2 ^ v)) = true) := by
  have h' : (md_mb A E V k s || (E k && md_an 8 (fun v => (s.testBit v && V v) && (A k v && md_mb A E V k (md_sd s (2 ^ v)))))) = true := h
  rw [Bool.or_eq_true, Bool.and_eq_true, md_an_iff] at h'
  rcases h' with h' | ⟨hE, v, hv, h'⟩
  · exact Or.inl h'
  · rw [Bool.and_eq_true, Bool.and_eq_true, Bool.and_eq_true] at h'
    exact Or.inr ⟨hE, v, hv, h'.1.1, h'.1.2, h'.2.1, h'.2.2⟩
theorem md_mb_up {A : Nat → Nat → Bool} {E V : Nat → Bool} {k s : Nat} (h : md_mb A E V k s = true) : md_mb A E V (k + 1) s = true := by
  show (md_mb A E V k s || _) = true
  rw [h]; rfl
theorem md_mb_no {A : Nat → Nat → Bool} {E V : Nat → Bool} {k : Nat} (hE : E k = false) (s : Nat) : md_mb A E V (k + 1) s = md_mb A E V k s := by
  show (md_mb A E V k s || (E k && _)) = _
  rw [hE]; simp
def md_TB (A : Nat → Nat → Bool) (E V : Nat → Bool) (k : Nat) (f : Nat → Int32) : Prop := ∀ s, s < 256 → f s = if md_mb A E V k s = true then nI (md_sz s) else -1
def md_TM (A : Nat → Nat → Bool) (E V : Nat → Bool) (k s0 v0 : Nat) (f : Nat → Int32) : Prop := (∀ s, s < 256 → f s = -1 ∨ (f s = nI (md_sz s) ∧ md_mb A E V (k + 1) s = true)) ∧ (∀ s, s < 256 → md_mb A E V k s = true → f s = nI (md_sz s)) ∧ ∀ s v, s < 256 → v < 8 → (s < s0 ∨ (s = s0 ∧ v < v0)) → md_mb A E V k s = true → s.testBit v = false → V v = true → A k v = true → f (s ||| 2 ^ v) = nI (md_sz (s ||| 2 ^ v))
theorem md_TM_0 {A : Nat → Nat → Bool} {E V : Nat → Bool} {k : Nat} {f : Nat → Int32} (h : md_TB A E V k f) : md_TM A E V k 0 0 f := by
  refine ⟨fun s hs => ?_, fun s hs hm => ?_, fun s v _ _ hh => by omega⟩
  · have := h s hs
    by_cases hm : md_mb A E V k s = true
    · rw [if_pos hm] at this; exact Or.inr ⟨this, md_mb_up hm⟩
    · rw [if_neg hm] at this; exact Or.inl this
  · have := h s hs
    rw [if_pos hm] at this; exact this
theorem md_TM_end {A : Nat → Nat → Bool} {E V : Nat → Bool} {k : Nat} {f : Nat → Int32} (h : md_TM A E V k 256 0 f) : md_TB A E V (k + 1) f := by
  intro s hs
  by_cases hm : md_mb A E V (k + 1) s = true
  · rw [if_pos hm]
    rcases md_mb_c hm with h1 | ⟨hE, v, hv, h1, h2, h3, h4⟩
    · exact h.2.1 s hs h1
    · have h5 := h.2.2 (md_sd s (2 ^ v)) v (md_sd_lt _ hs) hv (Or.inl (md_sd_lt _ hs)) h4 (by rw [md_rmb v hv]; simp) h2 h3
      rw [md_rm_or hs hv h1] at h5
      exact h5
  · rw [if_neg hm]
    rcases h.1 s hs with h1 | ⟨_, h1⟩
    · exact h1
    · exact absurd h1 hm
theorem md_TM_row {A : Nat → Nat → Bool} {E V : Nat → Bool} {k s0 : Nat} {f : Nat → Int32} (h : md_TM A E V k s0 8 f) : md_TM A E V k (s0 + 1) 0 f := ⟨h.1, h.2.1, fun s v hs hv hh => h.2.2 s v hs hv (by omega)⟩
theorem md_TM_skip {A : Nat → Nat → Bool} {E V : Nat → Bool} {k s0 v0 : Nat} {f : Nat → Int32} (h : md_TM A E V k s0 v0 f) (hn : ¬ md_mb A E V k s0 = true) : md_TM A E V k (s0 + 1) 0 f := ⟨h.1, h.2.1, fun s v hs hv hh hm => by
  by_cases e : s = s0
  · rw [e] at hm; exact absurd hm hn
  · exact h.2.2 s v hs hv (by omega) hm⟩
theorem md_TM_no {A : Nat → Nat → Bool} {E V : Nat → Bool} {k s0 v0 : Nat} {f : Nat → Int32} (h : md_TM A E V k s0 v0 f) (hn : ¬ (s0.testBit v0 = false ∧ V v0 = true ∧ A k v0 = true) ∨ f (s0 ||| 2 ^ v0) = nI (md_sz (s0 ||| 2 ^ v0))) : md_TM A E V k s0 (v0 + 1) f := ⟨h.1, h.2.1, fun s v hs hv hh hm h1 h2 h3 => by
  by_cases e : s = s0 ∧ v = v0
  · rw [e.1, e.2] at h1
    rw [e.2] at h2 h3
    rw [e.1, e.2]
    rcases hn with hn | hn
    · exact absurd ⟨h1, h2, h3⟩ hn
    · exact hn
  · exact h.2.2 s v hs hv (by omega) hm h1 h2 h3⟩
theorem md_TM_put {A : Nat → Nat → Bool} {E V : Nat → Bool} {k s0 v0 : Nat} {f : Nat → Int32} (h : md_TM A E V k s0 v0 f) (hs : s0 < 256) (hv : v0 < 8) (hE : E k = true) (hm : md_mb A E V k s0 = true) (h1 : s0.testBit v0 = false) (h2 : V v0 = true) (h3 : A k v0 = true) : md_TM A E V k s0 (v0 + 1) (upd f (s0 ||| 2 ^ v0) (nI (md_sz (s0 ||| 2 ^ v0)))) := by
  have hu : ∀ s, upd f (s0 ||| 2 ^ v0) (nI (md_sz (s0 ||| 2 ^ v0))) s = if s = s0 ||| 2 ^ v0 then nI (md_sz (s0 ||| 2 ^ v0)) else f s := fun _ => rfl
  refine ⟨fun s hs' => ?_, fun s hs' hm' => ?_, fun s v hs' hv' hh hm' g1 g2 g3 => ?_⟩
  · rw [hu]
    by_cases e : s = s0 ||| 2 ^ v0
    · rw [if_pos e, e]; exact Or.inr ⟨rfl, md_mb_s hs hv hE h1 h2 h3 hm⟩
    · rw [if_neg e]; exact h.1 s hs'
  · rw [hu]
    by_cases e : s = s0 ||| 2 ^ v0
    · rw [if_pos e, e]
    · rw [if_neg e]; exact h.2.1 s hs' hm'
  · rw [hu]
    by_cases e : s ||| 2 ^ v = s0 ||| 2 ^ v0
    · rw [if_pos e, e]
    · rw [if_neg e]
      by_cases e2 : s = s0 ∧ v = v0
      · rw [e2.1, e2.2] at e; exact absurd rfl e
      · exact h.2.2 s v hs' hv' (by omega) hm' g1 g2 g3
