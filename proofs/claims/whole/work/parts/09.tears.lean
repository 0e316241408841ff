def md_sz (m : Nat) : Nat := md_ct 8 (fun i => m.testBit i)
def md_tr (ins : Nat → Nat) (be bv : Nat) : Nat → Nat → Nat
  | 0, f => f
  | k + 1, f => if be.testBit k = true ∧ md_sz (md_sd (ins k &&& bv) (md_tr ins be bv k f)) = 1 then md_tr ins be bv k f ||| md_sd (ins k &&& bv) (md_tr ins be bv k f) else md_tr ins be bv k f
def md_ti (ins : Nat → Nat) (be bv t : Nat) : Nat → Nat
  | 0 => t
  | n + 1 => md_tr ins be bv 8 (md_ti ins be bv t n)
theorem md_tr_lt {ins : Nat → Nat} {be bv f : Nat} (hv : bv < 256) (hf : f < 256) : ∀ k, md_tr ins be bv k f < 256 := by
  intro k
  induction k with
  | zero => exact hf
  | succ k ih =>
    show (if be.testBit k = true ∧ md_sz (md_sd (ins k &&& bv) (md_tr ins be bv k f)) = 1 then md_tr ins be bv k f ||| md_sd (ins k &&& bv) (md_tr ins be bv k f) else md_tr ins be bv k f) < 256
    split
    · exact md_or_lt ih (md_sd_lt _ (Nat.lt_of_le_of_lt Nat.and_le_right hv))
    · exact ih
theorem md_tr_in {ins : Nat → Nat} {be bv f i : Nat} (h : f.testBit i = true) : ∀ k, (md_tr ins be bv k f).testBit i = true := by
  intro k
  induction k with
  | zero => exact h
  | succ k ih =>
    show (if be.testBit k = true ∧ md_sz (md_sd (ins k &&& bv) (md_tr ins be bv k f)) = 1 then md_tr ins be bv k f ||| md_sd (ins k &&& bv) (md_tr ins be bv k f) else md_tr ins be bv k f).testBit i = true
    split
    · rw [Nat.testBit_or, ih]; rfl
    · exact ih
theorem md_tr_su {ins : Nat → Nat} {be bv f : Nat} (h : ∀ i, i < 8 → f.testBit i = true → bv.testBit i = true) : ∀ k i, i < 8 → (md_tr ins be bv k f).testBit i = true → bv.testBit i = true := by
  intro k
  induction k with
  | zero => exact h
  | succ k ih =>
    intro i hi
    show (if be.testBit k = true ∧ md_sz (md_sd (ins k &&& bv) (md_tr ins be bv k f)) = 1 then md_tr ins be bv k f ||| md_sd (ins k &&& bv) (md_tr ins be bv k f) else md_tr ins be bv k f).testBit i = true → _
    split
    · rw [Nat.testBit_or, Bool.or_eq_true]
      rintro (a | a)
      · exact ih i hi a
      · rw [md_sd_tb hi, Nat.testBit_and] at a
        simp at a
        exact a.1.2
    · exact ih i hi
theorem md_ti_lt {ins : Nat → Nat} {be bv t : Nat} (hv : bv < 256) (ht : t < 256) : ∀ n, md_ti ins be bv t n < 256 := by
  intro n
  induction n with
  | zero => exact ht
  | succ n ih => exact md_tr_lt hv ih 8
theorem md_ti_su {ins : Nat → Nat} {be bv t : Nat} (h : ∀ i, i < 8 → t.testBit i = true → bv.testBit i = true) : ∀ n i, i < 8 → (md_ti ins be bv t n).testBit i = true → bv.testBit i = true := by
  intro n
  induction n with
  | zero => exact h
  | succ n ih => exact md_tr_su ih 8
theorem md_ti_fix {ins : Nat → Nat} {be bv t : Nat} (hv : bv < 256) (ht : t < 256) : ∀ n, md_ti ins be bv t (n + 1) = md_ti ins be bv t n ∨ n + 1 ≤ md_sz (md_ti ins be bv t (n + 1)) := by
  intro n
  induction n with
  | zero =>
    by_cases h : md_ti ins be bv t 1 = md_ti ins be bv t 0
    · exact Or.inl h
    · right
      apply Classical.byContradiction
      intro hn
      apply h
      have hs : ∀ i, i < 8 → (md_ti ins be bv t 0).testBit i = true → (md_ti ins be bv t 1).testBit i = true := fun i _ a => md_tr_in a 8
      have h1 := md_ct_sub (p := fun i => (md_ti ins be bv t 0).testBit i) (q := fun i => (md_ti ins be bv t (0 + 1)).testBit i) hs (by unfold md_sz at hn; omega)
      refine md_tb_ext (md_ti_lt hv ht 1) (md_ti_lt hv ht 0) (fun i hi => ?_)
      rw [Bool.eq_iff_iff]
      exact ⟨h1 i hi, hs i hi⟩
  | succ n ih =>
    by_cases h : md_ti ins be bv t (n + 2) = md_ti ins be bv t (n + 1)
    · exact Or.inl h
    · right
      rcases ih with ih | ih
      · exfalso
        apply h
        show md_tr ins be bv 8 (md_ti ins be bv t (n + 1)) = md_tr ins be bv 8 (md_ti ins be bv t n)
        rw [ih]
      · apply Classical.byContradiction
        intro hn
        apply h
        have hs : ∀ i, i < 8 → (md_ti ins be bv t (n + 1)).testBit i = true → (md_ti ins be bv t (n + 2)).testBit i = true := fun i _ a => md_tr_in a 8
        have h1 := md_ct_sub (p := fun i => (md_ti ins be bv t (n + 1)).testBit i) (q := fun i => (md_ti ins be bv t (n + 1 + 1)).testBit i) hs (by unfold md_sz at hn ih; omega)
        refine md_tb_ext (md_ti_lt hv ht _) (md_ti_lt hv ht _) (fun i hi => ?_)
        rw [Bool.eq_iff_iff]
        exact ⟨h1 i hi, hs i hi⟩
theorem md_ti_8 {ins : Nat → Nat} {be bv t : Nat} (hv : bv < 256) (ht : t < 256) : md_ti ins be bv t 9 = md_ti ins be bv t 8 := by
  rcases md_ti_fix (ins := ins) (be := be) hv ht 7 with h | h
  · show md_tr ins be bv 8 (md_ti ins be bv t 8) = md_tr ins be bv 8 (md_ti ins be bv t 7)
    rw [h]
  · refine md_tb_ext (md_ti_lt hv ht _) (md_ti_lt hv ht _) (fun i hi => ?_)
    have h1 := md_ct_sub (p := fun i => (md_ti ins be bv t 8).testBit i) (q := fun _ => true) (n := 8) (fun _ _ _ => rfl) (Nat.le_trans (md_ct_le _ 8) h) i hi rfl
    rw [h1]
    exact md_tr_in h1 8
theorem md_ti_far {ins : Nat → Nat} {be bv t n : Nat} (h : md_ti ins be bv t (n + 1) = md_ti ins be bv t n) : ∀ m, md_ti ins be bv t (n + m) = md_ti ins be bv t n := by
  intro m
  induction m with
  | zero => rfl
  | succ m ih =>
    show md_tr ins be bv 8 (md_ti ins be bv t (n + m)) = _
    rw [ih]; exact h
theorem md_ti_of {ins : Nat → Nat} {be bv t n : Nat} (hv : bv < 256) (ht : t < 256) (h : md_ti ins be bv t (n + 1) = md_ti ins be bv t n) : md_ti ins be bv t n = md_ti ins be bv t 8 := by
  rw [← md_ti_far h 8, Nat.add_comm, md_ti_far (md_ti_8 hv ht)]
def md_tt (ins : Nat → Nat) (be bv t : Nat) : Bool := md_ti ins be bv t 8 == bv
theorem md_tr_id {ins : Nat → Nat} {be bv : Nat} : ∀ k, md_tr ins be bv k bv = bv := by
  intro k
  induction k with
  | zero => rfl
  | succ k ih =>
    show (if be.testBit k = true ∧ md_sz (md_sd (ins k &&& bv) (md_tr ins be bv k bv)) = 1 then md_tr ins be bv k bv ||| md_sd (ins k &&& bv) (md_tr ins be bv k bv) else md_tr ins be bv k bv) = bv
    rw [ih]
    have hz : md_sz (md_sd (ins k &&& bv) bv) = 0 := md_ct_z (fun i hi => by
      rw [md_sd_tb hi, Nat.testBit_and]
      cases (ins k).testBit i <;> cases bv.testBit i <;> rfl)
    rw [hz, if_neg (by simp)]
theorem md_tt_full {ins : Nat → Nat} {be bv : Nat} : md_tt ins be bv bv = true := by
  have h : ∀ n, md_ti ins be bv bv n = bv := by
    intro n
    induction n with
    | zero => rfl
    | succ n ih =>
      show md_tr ins be bv 8 (md_ti ins be bv bv n) = bv
      rw [ih]; exact md_tr_id 8
  unfold md_tt
  rw [h 8]; simp
def md_bx (ins : Nat → Nat) (be bv : Nat) : Nat → Nat
  | 0 => bv
  | i + 1 => if md_sd i bv = 0 ∧ md_sz i < md_sz (md_bx ins be bv i) ∧ md_tt ins be bv i = true then i else md_bx ins be bv i
def md_lo (x : Option Nat) (i : Nat) : Bool := match x with
  | none => true
  | some m => decide (md_sz i < md_sz m)
def md_by (ins : Nat → Nat) (be bv : Nat) : Nat → Option Nat
  | 0 => none
  | i + 1 => if md_sd i bv = 0 ∧ md_lo (md_by ins be bv i) i = true ∧ md_tt ins be bv i = true then some i else md_by ins be bv i
theorem md_sub0 {i bv : Nat} (h : md_sd i bv = 0) : ∀ k, k < 8 → i.testBit k = true → bv.testBit k = true := by
  intro k hk hb
  have h1 := md_sd_tb (a := i) (b := bv) hk
  rw [h, hb] at h1
  simpa using h1
theorem md_sub_le {i bv : Nat} (hi : i < 256) (hv : bv < 256) (h : md_sd i bv = 0) : i ≤ bv := by
  have h1 : i &&& bv = i := by
    refine md_tb_ext (md_and_lt _ hi) hi (fun k hk => ?_)
    rw [Nat.testBit_and]
    have := md_sub0 h k hk
    cases e : i.testBit k with
    | false => rfl
    | true => rw [this e]; rfl
  rw [← h1]; exact Nat.and_le_right
theorem md_sub_sz {i bv : Nat} (hi : i < 256) (hv : bv < 256) (h : md_sd i bv = 0) (hne : i ≠ bv) : md_sz i < md_sz bv := by
  have hs := md_sub0 h
  have h1 : md_sz i ≤ md_sz bv := md_ct_mono hs
  apply Nat.lt_of_le_of_ne h1
  intro he
  apply hne
  have h2 := md_ct_sub (p := fun k => i.testBit k) (q := fun k => bv.testBit k) hs (by unfold md_sz at he; omega)
  refine md_tb_ext hi hv (fun k hk => ?_)
  rw [Bool.eq_iff_iff]
  exact ⟨hs k hk, h2 k hk⟩
theorem md_bxy {ins : Nat → Nat} {be bv : Nat} (hv : bv < 256) : ∀ i, i ≤ 256 → (md_by ins be bv i = none → md_bx ins be bv i = bv ∧ i ≤ bv) ∧ (∀ m, md_by ins be bv i = some m → md_bx ins be bv i = m ∧ m < i ∧ md_sd m bv = 0) := by
  intro i
  induction i with
  | zero => intro _; exact ⟨fun _ => ⟨rfl, Nat.zero_le _⟩, fun m h => by simp [md_by] at h⟩
  | succ i ih =>
    intro hi
    obtain ⟨h1, h2⟩ := ih (by omega)
    have ex : md_bx ins be bv (i + 1) = if md_sd i bv = 0 ∧ md_sz i < md_sz (md_bx ins be bv i) ∧ md_tt ins be bv i = true then i else md_bx ins be bv i := rfl
    have ey : md_by ins be bv (i + 1) = if md_sd i bv = 0 ∧ md_lo (md_by ins be bv i) i = true ∧ md_tt ins be bv i = true then some i else md_by ins be bv i := rfl
    cases hy : md_by ins be bv i with
    | none =>
      obtain ⟨h3, h4⟩ := h1 hy
      rw [h3] at ex
      rw [hy] at ey
      by_cases hc : md_sd i bv = 0 ∧ md_tt ins be bv i = true
      · rw [if_pos ⟨hc.1, rfl, hc.2⟩] at ey
        refine ⟨fun hh => (by rw [ey] at hh; simp at hh), fun m hm => ?_⟩
        rw [ey] at hm
        have hmi : i = m := by simpa using hm
        rw [← hmi]
        refine ⟨?_, by omega, hc.1⟩
        by_cases e : i = bv
        · rw [ex, e]; split <;> rfl
        · rw [ex, if_pos ⟨hc.1, md_sub_sz (by omega) hv hc.1 e, hc.2⟩]
      · rw [if_neg (fun hh => hc ⟨hh.1, hh.2.2⟩)] at ey
        rw [if_neg (fun hh => hc ⟨hh.1, hh.2.2⟩)] at ex
        refine ⟨fun _ => ⟨ex, ?_⟩, fun m hm => by rw [ey] at hm; simp at hm⟩
        apply Nat.lt_of_le_of_ne h4
        intro e
        apply hc
        rw [e]
        refine ⟨?_, md_tt_full⟩
        refine md_tb_ext (md_sd_lt _ hv) (by decide) (fun k hk => ?_)
        rw [md_sd_tb hk]
        cases bv.testBit k <;> simp
    | some m0 =>
      obtain ⟨h3, h4, h5⟩ := h2 m0 hy
      rw [h3] at ex
      rw [hy] at ey
      by_cases hc : md_sd i bv = 0 ∧ md_sz i < md_sz m0 ∧ md_tt ins be bv i = true
      · rw [if_pos ⟨hc.1, decide_eq_true hc.2.1, hc.2.2⟩] at ey
        rw [if_pos hc] at ex
        refine ⟨fun hh => by rw [ey] at hh; simp at hh, fun m hm => ?_⟩
        rw [ey] at hm
        have hmi : i = m := by simpa using hm
        rw [← hmi]
        exact ⟨ex, by omega, hc.1⟩
      · rw [if_neg (fun hh => hc ⟨hh.1, of_decide_eq_true hh.2.1, hh.2.2⟩)] at ey
        rw [if_neg hc] at ex
        refine ⟨fun hh => by rw [ey] at hh; simp at hh, fun m hm => ?_⟩
        rw [ey] at hm
        have hmi : m0 = m := by simpa using hm
        rw [← hmi]
        exact ⟨ex, by omega, h5⟩
