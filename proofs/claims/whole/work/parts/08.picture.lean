def md_fi (p : Nat → Bool) : Nat → Nat → Nat
  | 0, _ => 8
  | f + 1, i => if p i = true then i else md_fi p f (i + 1)
theorem md_fi_some {p : Nat → Bool} : ∀ f i, f + i = 8 → md_fi p f i < 8 → i ≤ md_fi p f i ∧ p (md_fi p f i) = true := by
  intro f
  induction f with
  | zero => intro i _ h; exact absurd h (by simp [md_fi])
  | succ f ih =>
    intro i hf h
    have e0 : md_fi p (f + 1) i = if p i = true then i else md_fi p f (i + 1) := rfl
    by_cases hp : p i = true
    · rw [if_pos hp] at e0
      rw [e0]; exact ⟨Nat.le_refl _, hp⟩
    · rw [if_neg hp] at e0
      rw [e0] at h ⊢
      obtain ⟨a, b⟩ := ih (i + 1) (by omega) h
      exact ⟨by omega, b⟩
theorem md_fi_none {p : Nat → Bool} : ∀ f i, f + i = 8 → ¬ md_fi p f i < 8 → ∀ j, i ≤ j → j < 8 → p j = false := by
  intro f
  induction f with
  | zero => intro i hi _ j h1 h2; omega
  | succ f ih =>
    intro i hf h j h1 h2
    have e0 : md_fi p (f + 1) i = if p i = true then i else md_fi p f (i + 1) := rfl
    by_cases hp : p i = true
    · rw [if_pos hp] at e0
      rw [e0] at h
      omega
    · rw [if_neg hp] at e0
      rw [e0] at h
      by_cases e : j = i
      · rw [e]; simpa using hp
      · exact ih (i + 1) (by omega) h j (by omega) h2
theorem md_fi_cg {p q : Nat → Bool} : ∀ f i, f + i = 8 → (∀ j, i ≤ j → j < 8 → p j = q j) → md_fi p f i = md_fi q f i := by
  intro f
  induction f with
  | zero => intro i _ _; rfl
  | succ f ih =>
    intro i hf h
    show (if p i = true then i else md_fi p f (i + 1)) = if q i = true then i else md_fi q f (i + 1)
    rw [h i (Nat.le_refl i) (by omega), ih (i + 1) (by omega) (fun j a b => h j (by omega) b)]
def md_ok (A : Nat → Nat → Bool) (E V C : Nat → Bool) (e : Nat) : Bool := (md_eve A E V e && !C e) && !(md_an 8 (fun v => (md_gr A (md_hg (md_god A E V) e) v && md_evv A E V v) && !md_gr (md_god A E V) (md_hg (md_god A E V) e) v && !md_gr (md_god A E V) C v))
def md_nx (A : Nat → Nat → Bool) (E V C : Nat → Bool) : Nat := md_fi (md_ok A E V C) 8 0
def md_C (A : Nat → Nat → Bool) (E V : Nat → Bool) : Nat → (Nat → Bool)
  | 0 => fun _ => false
  | j + 1 => if md_nx A E V (md_C A E V j) < 8 then (fun k => md_C A E V j k || md_hg (md_god A E V) (md_nx A E V (md_C A E V j)) k) else md_C A E V j
def md_B (A : Nat → Nat → Bool) (E V : Nat → Bool) (j : Nat) : Nat → Bool := md_hg (md_god A E V) (md_nx A E V (md_C A E V j))
def md_lf (A : Nat → Nat → Bool) (E V : Nat → Bool) (j : Nat) : Nat → Bool := fun e => md_eve A E V e && !md_C A E V j e
theorem md_hg_clo {G : Nat → Nat → Bool} {e : Nat} (he : e < 8) : md_cl G (md_hg G e) := fun k k' v hk hk' hv h g g' => md_hg_cl he hk hk' hv h g g'
theorem md_C_cl (A : Nat → Nat → Bool) (E V : Nat → Bool) : ∀ j, md_cl (md_god A E V) (md_C A E V j) := by
  intro j
  induction j with
  | zero => intro k k' v _ _ _ h; simp [md_C] at h
  | succ j ih =>
    have e0 : md_C A E V (j + 1) = if md_nx A E V (md_C A E V j) < 8 then (fun k => md_C A E V j k || md_hg (md_god A E V) (md_nx A E V (md_C A E V j)) k) else md_C A E V j := rfl
    by_cases h : md_nx A E V (md_C A E V j) < 8
    · rw [if_pos h] at e0
      rw [e0]
      intro k k' v hk hk' hv hc g g'
      rw [Bool.or_eq_true] at hc ⊢
      rcases hc with hc | hc
      · exact Or.inl (ih k k' v hk hk' hv hc g g')
      · exact Or.inr (md_hg_cl h hk hk' hv hc g g')
    · rw [if_neg h] at e0
      rw [e0]; exact ih
theorem md_hg_even {A : Nat → Nat → Bool} {E V : Nat → Bool} (hA : md_in A E V) {e : Nat} (h : md_eve A E V e = true) : ∀ k, k < 8 → md_hg (md_god A E V) e k = true → md_eve A E V k = true := by
  refine md_hg_ind (fun k => md_eve A E V k = true) h (fun k k' v hk hk' hv hp g g' => ?_)
  exact md_evve hA hk hv (md_evev hA hk' hv hp g') g
theorem md_ok_iff {A : Nat → Nat → Bool} {E V C : Nat → Bool} {e : Nat} : md_ok A E V C e = true ↔ md_eve A E V e = true ∧ C e = false ∧ ∀ v, v < 8 → md_gr A (md_hg (md_god A E V) e) v = true → md_evv A E V v = true → md_gr (md_god A E V) (md_hg (md_god A E V) e) v = true ∨ md_gr (md_god A E V) C v = true := by
  unfold md_ok
  rw [Bool.and_eq_true, Bool.and_eq_true, Bool.not_eq_true', Bool.not_eq_true', ← Bool.not_eq_true (md_an _ _), md_an_iff]
  constructor
  · rintro ⟨⟨h1, h2⟩, h3⟩
    refine ⟨h1, h2, fun v hv a b => ?_⟩
    apply Classical.byContradiction
    intro hn
    apply h3
    refine ⟨v, hv, ?_⟩
    have n1 : md_gr (md_god A E V) (md_hg (md_god A E V) e) v = false := by
      cases h : md_gr (md_god A E V) (md_hg (md_god A E V) e) v with
      | false => rfl
      | true => exact absurd (Or.inl h) hn
    have n2 : md_gr (md_god A E V) C v = false := by
      cases h : md_gr (md_god A E V) C v with
      | false => rfl
      | true => exact absurd (Or.inr h) hn
    simp [a, b, n1, n2]
  · rintro ⟨h1, h2, h3⟩
    refine ⟨⟨h1, h2⟩, ?_⟩
    rintro ⟨v, hv, h⟩
    simp at h
    obtain ⟨⟨⟨a, b⟩, c⟩, d⟩ := h
    rcases h3 v hv a b with h | h
    · rw [h] at c; simp at c
    · rw [h] at d; simp at d
theorem md_nx_ok {A : Nat → Nat → Bool} {E V C : Nat → Bool} (h : md_nx A E V C < 8) : md_ok A E V C (md_nx A E V C) = true := (md_fi_some 8 0 rfl h).2
theorem md_nx_lt {A : Nat → Nat → Bool} {E V : Nat → Bool} (hA : md_in A E V) {j e0 : Nat} (he0 : e0 < 8) (h0 : md_lf A E V j e0 = true) : md_nx A E V (md_C A E V j) < 8 := by
  unfold md_lf at h0
  simp at h0
  obtain ⟨e, he, h1, h2, h3⟩ := md_next hA (md_C_cl A E V j) he0 h0.1 h0.2
  apply Classical.byContradiction
  intro hn
  have h4 := md_fi_none 8 0 rfl hn e (by omega) he
  have h5 : md_ok A E V (md_C A E V j) e = true := by
    rw [md_ok_iff]
    refine ⟨h1, h2, fun v hv a b => ?_⟩
    obtain ⟨e', he', c, d⟩ := md_gr_iff.mp a
    rcases h3 e' v he' hv c d b with h | h
    · exact Or.inl (md_gr_iff.mpr h)
    · exact Or.inr (md_gr_iff.mpr h)
  rw [h4] at h5
  simp at h5
theorem md_nx_ge {A : Nat → Nat → Bool} {E V : Nat → Bool} {j : Nat} (h : ∀ e, e < 8 → md_lf A E V j e = false) : ¬ md_nx A E V (md_C A E V j) < 8 := by
  intro hn
  have h1 := (md_ok_iff.mp (md_nx_ok hn))
  have h2 := h _ hn
  unfold md_lf at h2
  simp [h1.1, h1.2.1] at h2
theorem md_C_sub {A : Nat → Nat → Bool} {E V : Nat → Bool} (hA : md_in A E V) : ∀ j, md_su (md_C A E V j) (md_eve A E V) := by
  intro j
  induction j with
  | zero => intro e _ h; simp [md_C] at h
  | succ j ih =>
    have e0 : md_C A E V (j + 1) = if md_nx A E V (md_C A E V j) < 8 then (fun k => md_C A E V j k || md_hg (md_god A E V) (md_nx A E V (md_C A E V j)) k) else md_C A E V j := rfl
    by_cases h : md_nx A E V (md_C A E V j) < 8
    · rw [if_pos h] at e0
      rw [e0]
      intro e he hc
      rw [Bool.or_eq_true] at hc
      rcases hc with hc | hc
      · exact ih e he hc
      · exact md_hg_even hA (md_ok_iff.mp (md_nx_ok h)).1 e he hc
    · rw [if_neg h] at e0
      rw [e0]; exact ih
theorem md_C_ct {A : Nat → Nat → Bool} {E V : Nat → Bool} (hA : md_in A E V) : ∀ j, (∀ i, i < j → ∃ e, e < 8 ∧ md_lf A E V i e = true) → j ≤ md_ct 8 (md_C A E V j) := by
  intro j
  induction j with
  | zero => intro _; exact Nat.zero_le _
  | succ j ih =>
    intro h
    have h1 := ih (fun i hi => h i (by omega))
    obtain ⟨e, he, hl⟩ := h j (by omega)
    have hn := md_nx_lt hA he hl
    have e0 : md_C A E V (j + 1) = if md_nx A E V (md_C A E V j) < 8 then (fun k => md_C A E V j k || md_hg (md_god A E V) (md_nx A E V (md_C A E V j)) k) else md_C A E V j := rfl
    rw [if_pos hn] at e0
    have hok := md_ok_iff.mp (md_nx_ok hn)
    have h2 := md_ct_add1 (s := md_C A E V j) (n := 8) hn hok.2.1
    have h3 : md_ct 8 (fun w => md_C A E V j w || (w == md_nx A E V (md_C A E V j))) ≤ md_ct 8 (md_C A E V (j + 1)) := by
      rw [e0]
      refine md_ct_mono (fun i _ hi => ?_)
      rw [Bool.or_eq_true] at hi ⊢
      rcases hi with hi | hi
      · exact Or.inl hi
      · right
        have : i = md_nx A E V (md_C A E V j) := by simpa using hi
        rw [this]; exact md_hg_self _ _
    omega
def md_em (A : Nat → Nat → Bool) (E V : Nat → Bool) (j : Nat) : Bool := !md_an 8 (md_lf A E V j)
theorem md_em_t {A : Nat → Nat → Bool} {E V : Nat → Bool} {j : Nat} (h : md_em A E V j = true) : ∀ e, e < 8 → md_lf A E V j e = false := by
  intro e he
  unfold md_em at h
  cases hl : md_lf A E V j e with
  | false => rfl
  | true =>
    have : md_an 8 (md_lf A E V j) = true := md_an_iff.mpr ⟨e, he, hl⟩
    rw [this] at h; simp at h
theorem md_em_f {A : Nat → Nat → Bool} {E V : Nat → Bool} {j : Nat} (h : md_em A E V j = false) : ∃ e, e < 8 ∧ md_lf A E V j e = true := by
  unfold md_em at h
  exact md_an_iff.mp (by simpa using h)
def md_Q (A : Nat → Nat → Bool) (E V : Nat → Bool) : Nat := md_fi (md_em A E V) 8 0
theorem md_fi_le8 (p : Nat → Bool) : ∀ f i, f + i = 8 → md_fi p f i ≤ 8 := by
  intro f
  induction f with
  | zero => intro i _; exact Nat.le_refl 8
  | succ f ih =>
    intro i hf
    show (if p i = true then i else md_fi p f (i + 1)) ≤ 8
    split
    · omega
    · exact ih (i + 1) (by omega)
theorem md_fi_bf {p : Nat → Bool} : ∀ f i, f + i = 8 → ∀ j, i ≤ j → j < md_fi p f i → p j = false := by
  intro f
  induction f with
  | zero =>
    intro i hi j h1 h2
    have : j < 8 := h2
    omega
  | succ f ih =>
    intro i hf j h1 h2
    have e0 : md_fi p (f + 1) i = if p i = true then i else md_fi p f (i + 1) := rfl
    by_cases hp : p i = true
    · rw [if_pos hp] at e0
      omega
    · rw [if_neg hp] at e0
      rw [e0] at h2
      by_cases e : j = i
      · rw [e]; simpa using hp
      · exact ih (i + 1) (by omega) j (by omega) h2
theorem md_Q_le (A : Nat → Nat → Bool) (E V : Nat → Bool) : md_Q A E V ≤ 8 := md_fi_le8 _ 8 0 rfl
theorem md_Q_lt {A : Nat → Nat → Bool} {E V : Nat → Bool} {j : Nat} (h : j < md_Q A E V) : ∃ e, e < 8 ∧ md_lf A E V j e = true := md_em_f (md_fi_bf 8 0 rfl j (by omega) h)
theorem md_Q_nx {A : Nat → Nat → Bool} {E V : Nat → Bool} (hA : md_in A E V) {j : Nat} (h : j < md_Q A E V) : md_nx A E V (md_C A E V j) < 8 := by
  obtain ⟨e, he, hl⟩ := md_Q_lt h
  exact md_nx_lt hA he hl
theorem md_Q_em {A : Nat → Nat → Bool} {E V : Nat → Bool} (hA : md_in A E V) : ∀ e, e < 8 → md_lf A E V (md_Q A E V) e = false := by
  by_cases h : md_Q A E V < 8
  · exact md_em_t (md_fi_some 8 0 rfl h).2
  · have h8 : md_Q A E V = 8 := by have := md_Q_le A E V; omega
    have h1 := md_C_ct hA 8 (fun i hi => md_Q_lt (by omega))
    intro e he
    rw [h8]
    have h2 := md_ct_sub (p := md_C A E V 8) (q := fun _ => true) (n := 8) (fun _ _ _ => rfl) (Nat.le_trans (md_ct_le _ 8) h1) e he rfl
    unfold md_lf
    rw [h2]; simp
theorem md_C_stop {A : Nat → Nat → Bool} {E V : Nat → Bool} (hA : md_in A E V) : ∀ d, md_C A E V (md_Q A E V + d) = md_C A E V (md_Q A E V) := by
  intro d
  induction d with
  | zero => rfl
  | succ d ih =>
    have e0 : md_C A E V (md_Q A E V + (d + 1)) = if md_nx A E V (md_C A E V (md_Q A E V + d)) < 8 then (fun k => md_C A E V (md_Q A E V + d) k || md_hg (md_god A E V) (md_nx A E V (md_C A E V (md_Q A E V + d))) k) else md_C A E V (md_Q A E V + d) := rfl
    rw [ih] at e0
    rw [e0, if_neg (md_nx_ge (md_Q_em hA))]
theorem md_C_step {A : Nat → Nat → Bool} {E V : Nat → Bool} (hA : md_in A E V) {j : Nat} (h : j < md_Q A E V) : md_C A E V (j + 1) = fun k => md_C A E V j k || md_B A E V j k := by
  have e0 : md_C A E V (j + 1) = if md_nx A E V (md_C A E V j) < 8 then (fun k => md_C A E V j k || md_hg (md_god A E V) (md_nx A E V (md_C A E V j)) k) else md_C A E V j := rfl
  rw [if_pos (md_Q_nx hA h)] at e0
  exact e0
theorem md_C_in {A : Nat → Nat → Bool} {E V : Nat → Bool} (hA : md_in A E V) : ∀ j, j ≤ md_Q A E V → ∀ k, md_C A E V j k = true → ∃ b, b < j ∧ md_B A E V b k = true := by
  intro j
  induction j with
  | zero => intro _ k h; simp [md_C] at h
  | succ j ih =>
    intro hj k h
    rw [md_C_step hA (by omega)] at h
    rw [Bool.or_eq_true] at h
    rcases h with h | h
    · obtain ⟨b, hb, hh⟩ := ih (by omega) k h
      exact ⟨b, by omega, hh⟩
    · exact ⟨j, by omega, h⟩
theorem md_B_even {A : Nat → Nat → Bool} {E V : Nat → Bool} (hA : md_in A E V) {b : Nat} (h : b < md_Q A E V) : ∀ k, k < 8 → md_B A E V b k = true → md_eve A E V k = true := md_hg_even hA (md_ok_iff.mp (md_nx_ok (md_Q_nx hA h))).1
theorem md_bal_ev {A : Nat → Nat → Bool} {E V : Nat → Bool} (h : md_bal A E V) {e : Nat} (hE : E e = true) (he : e < 8) : md_eve A E V e = true := by
  have h1 : md_loe A E V e = false := by
    unfold md_loe
    rw [← Bool.not_eq_true, md_an_iff]
    rintro ⟨v, hv, hh⟩
    rw [Bool.and_eq_true, h.2 v hv] at hh
    simp at hh
  unfold md_eve
  simp [hE, h.1 e he, h1]
theorem md_bal_vv {A : Nat → Nat → Bool} {E V : Nat → Bool} (h : md_bal A E V) {v : Nat} (hV : V v = true) (hv : v < 8) : md_evv A E V v = true := by
  have h1 : md_exv A E V v = false := by
    unfold md_exv
    rw [← Bool.not_eq_true, md_an_iff]
    rintro ⟨e, he, hh⟩
    rw [Bool.and_eq_true, h.1 e he] at hh
    simp at hh
  unfold md_evv
  simp [hV, h.2 v hv, h1]
theorem md_eve_E {A : Nat → Nat → Bool} {E V : Nat → Bool} {e : Nat} (h : md_eve A E V e = true) : E e = true := by
  unfold md_eve at h; simp at h; exact h.1.1
theorem md_ns_whole {A : Nat → Nat → Bool} {E V : Nat → Bool} (hA : md_in A E V) (hb : md_bal A E V) {K : Nat → Nat → Fin 101} (hK : ∀ e v, e < 8 → v < 8 → E e = true → V v = true → K e v ≠ 0 → A e v = true) (hns : ∀ b, b < md_Q A E V → md_ns K (md_B A E V b) (md_gr (md_god A E V) (md_B A E V b))) : md_ns K E V := by
  refine md_ns_all (q := md_Q A E V) (H := md_B A E V) (W := fun b => md_gr (md_god A E V) (md_B A E V b)) (fun b hb e he h => md_eve_E (md_B_even hA hb e he h)) hns (fun v hv hV => ?_) (fun b hb2 e v he hv hB hV hne => ?_)
  · obtain ⟨e, he, g⟩ := md_partner hA hv hV (hb.2 v hv)
    have h1 := md_evve hA he hv (md_bal_vv hb hV hv) g
    have h2 := md_Q_em hA e he
    unfold md_lf at h2
    rw [h1] at h2
    have h3 : md_C A E V (md_Q A E V) e = true := by simpa using h2
    obtain ⟨b, hb3, h4⟩ := md_C_in hA _ (Nat.le_refl _) e h3
    exact ⟨b, hb3, md_gr_iff.mpr ⟨e, he, h4, g⟩⟩
  · have hE := md_eve_E (md_B_even hA hb2 e he hB)
    have hAe := hK e v he hv hE hV hne
    have hok := md_ok_iff.mp (md_nx_ok (md_Q_nx hA hb2))
    rcases hok.2.2 v hv (md_gr_iff.mpr ⟨e, he, hB, hAe⟩) (md_bal_vv hb hV hv) with h | h
    · exact Or.inl h
    · obtain ⟨k, hk, hc, g⟩ := md_gr_iff.mp h
      obtain ⟨b', hb', h4⟩ := md_C_in hA b (by omega) k hc
      exact Or.inr ⟨b', hb', md_gr_iff.mpr ⟨k, hk, h4, g⟩⟩
theorem md_B_sq {A : Nat → Nat → Bool} {E V : Nat → Bool} (hA : md_in A E V) (hb : md_bal A E V) {b : Nat} (h : b < md_Q A E V) : md_ct 8 (md_gr (md_god A E V) (md_B A E V b)) = md_ct 8 (md_B A E V b) := md_square hA hb (fun e he hB => md_eve_E (md_B_even hA h e he hB)) (md_hg_clo (md_Q_nx hA h))
