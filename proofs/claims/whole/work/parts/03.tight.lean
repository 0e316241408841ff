abbrev md_rm (E : Nat → Bool) (k : Nat) : Nat → Bool := fun w => E w && !(w == k)
def md_s8 (m : Nat) (E : Nat → Bool) : Bool := !(md_an 8 (fun i => m.testBit i && !E i))
theorem md_s8_iff {m : Nat} {E : Nat → Bool} : md_s8 m E = true ↔ md_su (fun i => m.testBit i) E := by
  unfold md_s8
  rw [Bool.not_eq_true', ← Bool.not_eq_true, md_an_iff]
  constructor
  · intro h e he hs
    cases hE : E e with
    | true => rfl
    | false => exact absurd ⟨e, he, by simp [hE]; exact hs⟩ h
  · rintro h ⟨e, he, hs⟩
    rw [Bool.and_eq_true] at hs
    rw [h e he hs.1] at hs
    simp at hs
def md_mn (A : Nat → Nat → Bool) (E V : Nat → Bool) : Nat → Nat
  | 0 => 8
  | n + 1 => if md_s8 n E = true then (if md_bd A E V (fun i => n.testBit i) < md_mn A E V n then md_bd A E V (fun i => n.testBit i) else md_mn A E V n) else md_mn A E V n
def md_tau (A : Nat → Nat → Bool) (E V : Nat → Bool) : Nat := md_mn A E V 256
theorem md_mn_le {A : Nat → Nat → Bool} {E V : Nat → Bool} : ∀ n m, m < n → md_s8 m E = true → md_mn A E V n ≤ md_bd A E V (fun i => m.testBit i) := by
  intro n
  induction n with
  | zero => intro m hm; omega
  | succ n ih =>
    intro m hm hs
    show (if md_s8 n E = true then (if md_bd A E V (fun i => n.testBit i) < md_mn A E V n then md_bd A E V (fun i => n.testBit i) else md_mn A E V n) else md_mn A E V n) ≤ _
    by_cases e : m = n
    · rw [e] at hs ⊢
      rw [if_pos hs]
      split <;> omega
    · have h1 := ih m (by omega) hs
      split
      · split <;> omega
      · exact h1
theorem md_mn_at {A : Nat → Nat → Bool} {E V : Nat → Bool} : ∀ n, md_mn A E V n = 8 ∨ ∃ m, m < n ∧ md_s8 m E = true ∧ md_bd A E V (fun i => m.testBit i) = md_mn A E V n := by
  intro n
  induction n with
  | zero => exact Or.inl rfl
  | succ n ih =>
    have e0 : md_mn A E V (n + 1) = (if md_s8 n E = true then (if md_bd A E V (fun i => n.testBit i) < md_mn A E V n then md_bd A E V (fun i => n.testBit i) else md_mn A E V n) else md_mn A E V n) := rfl
    have keep : md_mn A E V (n + 1) = md_mn A E V n → md_mn A E V (n + 1) = 8 ∨ ∃ m, m < n + 1 ∧ md_s8 m E = true ∧ md_bd A E V (fun i => m.testBit i) = md_mn A E V (n + 1) := by
      intro e
      rw [e]
      rcases ih with h | ⟨m, a, b, c⟩
      · exact Or.inl h
      · exact Or.inr ⟨m, by omega, b, c⟩
    by_cases h1 : md_s8 n E = true
    · by_cases h2 : md_bd A E V (fun i => n.testBit i) < md_mn A E V n
      · right
        rw [if_pos h1, if_pos h2] at e0
        exact ⟨n, by omega, h1, e0.symm⟩
      · rw [if_pos h1, if_neg h2] at e0
        exact keep e0
    · rw [if_neg h1] at e0
      exact keep e0
theorem md_tau_lb (A : Nat → Nat → Bool) (E V : Nat → Bool) : md_LB A E V (md_tau A E V) := by
  intro S hS
  have h := md_mn_le (A := A) (E := E) (V := V) 256 (md_mk 8 S) (md_mk8 S) (by
    rw [md_s8_iff]
    intro e he hs
    dsimp only at hs
    rw [md_mk_tb] at hs
    simp [he] at hs
    exact hS e he hs)
  rw [md_bd_cg (E' := E) (V' := V) (S' := S) (fun _ _ => rfl) (fun _ _ => rfl) (fun e he => by rw [md_mk_tb]; simp [he])] at h
  exact h
theorem md_bd_em (A : Nat → Nat → Bool) (E V : Nat → Bool) {S : Nat → Bool} (h : ∀ e, e < 8 → S e = false) : md_bd A E V S = md_ct 8 E := by
  simp only [md_bd]
  have a : md_ct 8 (fun e => E e && !S e) = md_ct 8 E := md_ct_cg (fun i hi => by rw [h i hi]; simp)
  have b : md_ct 8 (md_nb A S V) = 0 := md_ct_z (fun i _ => by
    rw [← Bool.not_eq_true, md_nb_iff]
    rintro ⟨_, e, he, hs, _⟩
    rw [h e he] at hs
    simp at hs)
  omega
theorem md_tau_at (A : Nat → Nat → Bool) (E V : Nat → Bool) : ∃ S, md_su S E ∧ md_bd A E V S = md_tau A E V := by
  rcases md_mn_at (A := A) (E := E) (V := V) 256 with h | ⟨m, _, b, c⟩
  · have h0 : md_su (fun _ => false) E := fun _ _ h => by simp at h
    refine ⟨fun _ => false, h0, ?_⟩
    have h1 := md_tau_lb A E V (fun _ => false) h0
    have h2 := md_bd_em A E V (S := fun _ => false) (fun _ _ => rfl)
    have h3 := md_ct_le E 8
    have h4 : md_tau A E V = 8 := h
    omega
  · exact ⟨_, md_s8_iff.mp b, c⟩
theorem md_tau_eq {A : Nat → Nat → Bool} {E V : Nat → Bool} {t : Nat} (h : md_LB A E V t) (S : Nat → Bool) (hS : md_su S E) (hb : md_bd A E V S ≤ t) : md_tau A E V = t := by
  have h1 := md_tau_lb A E V S hS
  obtain ⟨T, hT, e⟩ := md_tau_at A E V
  have h2 := h T hT
  omega
theorem md_tau_cg {A : Nat → Nat → Bool} {E E' V V' : Nat → Bool} (hE : ∀ e, e < 8 → E e = E' e) (hV : ∀ v, v < 8 → V v = V' v) : md_tau A E V = md_tau A E' V' := by
  obtain ⟨T, hT, e⟩ := md_tau_at A E' V'
  refine md_tau_eq (md_LB_cg (fun i hi => (hE i hi).symm) (fun i hi => (hV i hi).symm) (md_tau_lb A E' V')) T (fun i hi h => by rw [hE i hi]; exact hT i hi h) ?_
  rw [md_bd_cg hE hV (fun _ _ => rfl), e]
  exact Nat.le_refl _
theorem md_match (A : Nat → Nat → Bool) (E V : Nat → Bool) : (∀ s, md_Mt A E V 8 s → md_ct 8 s ≤ md_tau A E V) ∧ ∃ s, md_Mt A E V 8 s ∧ (∀ v, v < 8 → s v = true → V v = true) ∧ md_ct 8 s = md_tau A E V := by
  obtain ⟨T, hT, e⟩ := md_tau_at A E V
  have h1 : ∀ s, md_Mt A E V 8 s → md_ct 8 s ≤ md_tau A E V := fun s m => by
    rw [← e]; exact md_Mt_bd m T
  refine ⟨h1, ?_⟩
  obtain ⟨s, m, sv, c⟩ := md_hall A E 8 (Nat.le_refl 8) V (md_tau A E V) (md_LB_cg (fun e he => by simp [he]) (fun _ _ => rfl) (md_tau_lb A E V))
  exact ⟨s, m, sv, Nat.le_antisymm (h1 s m) c⟩
theorem md_bd_de {A : Nat → Nat → Bool} {E V S : Nat → Bool} {e : Nat} (he : e < 8) (hE : E e = true) (hS : S e = false) : md_bd A E V S = md_bd A (md_rm E e) V S + 1 := by
  have h1 := md_ct_rm (s := fun k => E k && !S k) he (by simp [hE, hS])
  have h2 : md_ct 8 (fun k => md_rm E e k && !S k) = md_ct 8 (fun w => (E w && !S w) && !(w == e)) := md_ct_cg (fun i _ => by
    show ((E i && !(i == e)) && !S i) = _
    cases E i <;> cases S i <;> cases (i == e) <;> rfl)
  simp only [md_bd]
  omega
theorem md_su_rm {E S : Nat → Bool} {e : Nat} (hS : md_su S E) (h : S e = false) : md_su S (md_rm E e) := by
  intro k hk hs
  have : k ≠ e := fun a => by rw [a, h] at hs; simp at hs
  simp [hS k hk hs, this]
theorem md_su_of {E S : Nat → Bool} {e : Nat} (hS : md_su S (md_rm E e)) : md_su S E := by
  intro k hk hs
  have := hS k hk hs
  simp at this
  exact this.1
theorem md_su_no {E S : Nat → Bool} {e : Nat} (he : e < 8) (hS : md_su S (md_rm E e)) : S e = false := by
  cases h : S e with
  | false => rfl
  | true => have := hS e he h; simp at this
theorem md_bd_cut (A : Nat → Nat → Bool) (E V S : Nat → Bool) (e : Nat) : md_bd A (md_rm E e) V (md_rm S e) ≤ md_bd A E V S := by
  have h1 : md_ct 8 (fun k => md_rm E e k && !md_rm S e k) ≤ md_ct 8 (fun k => E k && !S k) := md_ct_mono (fun i _ h => by
    revert h
    show ((E i && !(i == e)) && !(S i && !(i == e))) = true → (E i && !S i) = true
    cases E i <;> cases S i <;> cases (i == e) <;> simp)
  have h2 : md_ct 8 (md_nb A (md_rm S e) V) ≤ md_ct 8 (md_nb A S V) := md_ct_mono (fun i _ h => md_nb_mono (fun k _ hk => by simp at hk; exact hk.1) h)
  simp only [md_bd]
  omega
theorem md_su_cut {E S : Nat → Bool} {e : Nat} (hS : md_su S E) : md_su (md_rm S e) (md_rm E e) := by
  intro k hk hs
  simp at hs ⊢
  exact ⟨hS k hk hs.1, hs.2⟩
theorem md_tau_rmE (A : Nat → Nat → Bool) (E V : Nat → Bool) (e : Nat) : md_tau A (md_rm E e) V ≤ md_tau A E V := by
  obtain ⟨S, hS, h⟩ := md_tau_at A E V
  have h1 := md_tau_lb A (md_rm E e) V (md_rm S e) (md_su_cut hS)
  have h2 := md_bd_cut A E V S e
  omega
theorem md_bd_rmV (A : Nat → Nat → Bool) (E V S : Nat → Bool) (v : Nat) : md_bd A E (md_rm V v) S ≤ md_bd A E V S := by
  have h2 : md_ct 8 (md_nb A S (md_rm V v)) ≤ md_ct 8 (md_nb A S V) := md_ct_mono (fun i _ h => by
    rw [md_nb_iff] at h ⊢
    have h3 := h.1
    simp at h3
    exact ⟨h3.1, h.2⟩)
  simp only [md_bd]
  omega
theorem md_tau_rmV (A : Nat → Nat → Bool) (E V : Nat → Bool) (v : Nat) : md_tau A E (md_rm V v) ≤ md_tau A E V := by
  obtain ⟨S, hS, h⟩ := md_tau_at A E V
  have h1 := md_tau_lb A E (md_rm V v) S hS
  have h2 := md_bd_rmV A E V S v
  omega
def md_exc (A : Nat → Nat → Bool) (E V : Nat → Bool) (e : Nat) : Bool := E e && (md_tau A (md_rm E e) V == md_tau A E V)
def md_loo (A : Nat → Nat → Bool) (E V : Nat → Bool) (v : Nat) : Bool := V v && (md_tau A E (md_rm V v) == md_tau A E V)
def md_exv (A : Nat → Nat → Bool) (E V : Nat → Bool) (v : Nat) : Bool := md_an 8 (fun e => md_exc A E V e && A e v)
def md_loe (A : Nat → Nat → Bool) (E V : Nat → Bool) (e : Nat) : Bool := md_an 8 (fun v => A e v && md_loo A E V v)
def md_god (A : Nat → Nat → Bool) (E V : Nat → Bool) (e v : Nat) : Bool := A e v && (md_tau A (md_rm E e) (md_rm V v) + 1 == md_tau A E V)
def md_eve (A : Nat → Nat → Bool) (E V : Nat → Bool) (e : Nat) : Bool := E e && !md_exc A E V e && !md_loe A E V e
def md_evv (A : Nat → Nat → Bool) (E V : Nat → Bool) (v : Nat) : Bool := V v && !md_exv A E V v && !md_loo A E V v
abbrev md_TT (A : Nat → Nat → Bool) (E V S : Nat → Bool) : Prop := md_T A E V (md_tau A E V) S
theorem md_exc_f {A : Nat → Nat → Bool} {E V : Nat → Bool} {e : Nat} (he : e < 8) (hE : E e = true) (h : md_exc A E V e = false) : ∃ S, md_TT A E V S ∧ S e = false := by
  obtain ⟨S, hS, hb⟩ := md_tau_at A (md_rm E e) V
  have h1 := md_tau_rmE A E V e
  have h2 : md_tau A (md_rm E e) V ≠ md_tau A E V := by
    intro hh
    unfold md_exc at h
    rw [hE, hh] at h
    simp at h
  have h3 := md_bd_de (A := A) (V := V) he hE (md_su_no he hS)
  exact ⟨S, ⟨md_su_of hS, by omega⟩, md_su_no he hS⟩
theorem md_exc_t {A : Nat → Nat → Bool} {E V : Nat → Bool} {e : Nat} (he : e < 8) (h : md_exc A E V e = true) {S : Nat → Bool} (hS : md_TT A E V S) : S e = true := by
  unfold md_exc at h
  simp at h
  cases hs : S e with
  | true => rfl
  | false =>
    have h1 := md_tau_lb A (md_rm E e) V S (md_su_rm hS.1 hs)
    have h2 := md_bd_de (A := A) (V := V) he h.1 hs
    have h3 := hS.2
    omega
theorem md_loo_f {A : Nat → Nat → Bool} {E V : Nat → Bool} {v : Nat} (hv : v < 8) (hV : V v = true) (h : md_loo A E V v = false) : ∃ S, md_TT A E V S ∧ md_nb A S V v = true := by
  obtain ⟨S, hS, hb⟩ := md_tau_at A E (md_rm V v)
  have h1 := md_tau_rmV A E V v
  have h2 : md_tau A E (md_rm V v) ≠ md_tau A E V := by
    intro hh
    unfold md_loo at h
    rw [hV, hh] at h
    simp at h
  have h3 := md_tau_lb A E V S hS
  have h4 : md_nb A S V v = true := by
    cases e : md_nb A S V v with
    | true => rfl
    | false =>
      have : md_bd A E V S = md_bd A E (md_rm V v) S := md_bd_dn e
      omega
  have h5 : md_bd A E V S = md_bd A E (md_rm V v) S + 1 := md_bd_dv hv h4
  exact ⟨S, ⟨hS, by omega⟩, h4⟩
theorem md_loo_t {A : Nat → Nat → Bool} {E V : Nat → Bool} {v : Nat} (hv : v < 8) (h : md_loo A E V v = true) {S : Nat → Bool} (hS : md_TT A E V S) : md_nb A S V v = false := by
  unfold md_loo at h
  simp at h
  cases hs : md_nb A S V v with
  | false => rfl
  | true =>
    have h1 := md_tau_lb A E (md_rm V v) S hS.1
    have h2 : md_bd A E V S = md_bd A E (md_rm V v) S + 1 := md_bd_dv hv hs
    have h3 := hS.2
    omega
theorem md_tau_rm2 {A : Nat → Nat → Bool} {E V : Nat → Bool} {e v : Nat} (he : e < 8) (hv : v < 8) (hE : E e = true) (hV : V v = true) (hA : A e v = true) : md_tau A (md_rm E e) (md_rm V v) + 1 ≤ md_tau A E V := by
  obtain ⟨S, hS, h⟩ := md_tau_at A E V
  cases hs : S e with
  | false =>
    have h1 := md_tau_lb A (md_rm E e) (md_rm V v) S (md_su_rm hS hs)
    have h2 := md_bd_de (A := A) (V := V) he hE hs
    have h3 := md_bd_rmV A (md_rm E e) V S v
    omega
  | true =>
    have h1 := md_tau_lb A (md_rm E e) (md_rm V v) (md_rm S e) (md_su_cut hS)
    have h2 := md_bd_cut A E (md_rm V v) S e
    have h3 : md_nb A S V v = true := by
      rw [md_nb_iff]; exact ⟨hV, e, he, hs, hA⟩
    have h4 : md_bd A E V S = md_bd A E (md_rm V v) S + 1 := md_bd_dv hv h3
    omega
theorem md_god_t {A : Nat → Nat → Bool} {E V : Nat → Bool} {e v : Nat} (he : e < 8) (hv : v < 8) (hE : E e = true) (h : md_god A E V e v = true) {S : Nat → Bool} (hS : md_TT A E V S) (hn : md_nb A S V v = true) : S e = true := by
  unfold md_god at h
  simp at h
  cases hs : S e with
  | true => rfl
  | false =>
    have h1 := md_tau_lb A (md_rm E e) (md_rm V v) S (md_su_rm hS.1 hs)
    have h2 := md_bd_de (A := A) (V := V) he hE hs
    have h4 : md_bd A (md_rm E e) V S = md_bd A (md_rm E e) (md_rm V v) S + 1 := md_bd_dv hv hn
    have h3 := hS.2
    omega
theorem md_god_i {A : Nat → Nat → Bool} {E V : Nat → Bool} {e v : Nat} (he : e < 8) (hv : v < 8) (hE : E e = true) (hV : V v = true) (hA : A e v = true) (h : ∀ S, md_TT A E V S → md_nb A S V v = true → S e = true) : md_god A E V e v = true := by
  have h0 := md_tau_rm2 he hv hE hV hA
  obtain ⟨S, hS, hb⟩ := md_tau_at A (md_rm E e) (md_rm V v)
  have hs := md_su_no he hS
  have hE' := md_su_of hS
  have h1 := md_tau_lb A E V S hE'
  have h2 := md_bd_de (A := A) (V := V) he hE hs
  have h3 : md_tau A (md_rm E e) (md_rm V v) + 1 = md_tau A E V := by
    cases hn : md_nb A S V v with
    | false =>
      have h4 : md_bd A (md_rm E e) V S = md_bd A (md_rm E e) (md_rm V v) S := md_bd_dn hn
      omega
    | true =>
      have h4 : md_bd A (md_rm E e) V S = md_bd A (md_rm E e) (md_rm V v) S + 1 := md_bd_dv hv hn
      apply Classical.byContradiction
      intro hh
      have h5 := h S ⟨hE', by omega⟩ hn
      rw [hs] at h5
      simp at h5
  unfold md_god
  simp [hA, h3]
def md_in (A : Nat → Nat → Bool) (E V : Nat → Bool) : Prop := ∀ e v, e < 8 → v < 8 → A e v = true → E e = true ∧ V v = true
theorem md_god_A {A : Nat → Nat → Bool} {E V : Nat → Bool} {e v : Nat} (h : md_god A E V e v = true) : A e v = true := by
  unfold md_god at h
  simp at h
  exact h.1
theorem md_evev {A : Nat → Nat → Bool} {E V : Nat → Bool} (hA : md_in A E V) {e v : Nat} (he : e < 8) (hv : v < 8) (h : md_eve A E V e = true) (g : md_god A E V e v = true) : md_evv A E V v = true := by
  have ha := md_god_A g
  obtain ⟨hE, hV⟩ := hA e v he hv ha
  unfold md_eve at h
  simp at h
  obtain ⟨⟨_, h1⟩, h2⟩ := h
  have h3 : md_loo A E V v = false := by
    cases hl : md_loo A E V v with
    | false => rfl
    | true =>
      have : md_loe A E V e = true := by
        unfold md_loe; rw [md_an_iff]; exact ⟨v, hv, by simp [ha, hl]⟩
      rw [this] at h2; simp at h2
  have h4 : md_exv A E V v = false := by
    cases hx : md_exv A E V v with
    | false => rfl
    | true =>
      exfalso
      unfold md_exv at hx
      rw [md_an_iff] at hx
      obtain ⟨e', he', hx⟩ := hx
      rw [Bool.and_eq_true] at hx
      obtain ⟨S, hS, hs⟩ := md_exc_f he hE h1
      have h5 := md_exc_t he' hx.1 hS
      have h6 : md_nb A S V v = true := by
        rw [md_nb_iff]; exact ⟨hV, e', he', h5, hx.2⟩
      have h7 := md_god_t he hv hE g hS h6
      rw [hs] at h7
      simp at h7
  unfold md_evv
  simp [hV, h3, h4]
theorem md_evve {A : Nat → Nat → Bool} {E V : Nat → Bool} (hA : md_in A E V) {e v : Nat} (he : e < 8) (hv : v < 8) (h : md_evv A E V v = true) (g : md_god A E V e v = true) : md_eve A E V e = true := by
  have ha := md_god_A g
  obtain ⟨hE, hV⟩ := hA e v he hv ha
  unfold md_evv at h
  simp at h
  obtain ⟨⟨_, h1⟩, h2⟩ := h
  have h3 : md_exc A E V e = false := by
    cases hl : md_exc A E V e with
    | false => rfl
    | true =>
      have : md_exv A E V v = true := by
        unfold md_exv; rw [md_an_iff]; exact ⟨e, he, by simp [ha, hl]⟩
      rw [this] at h1; simp at h1
  have h4 : md_loe A E V e = false := by
    cases hx : md_loe A E V e with
    | false => rfl
    | true =>
      exfalso
      unfold md_loe at hx
      rw [md_an_iff] at hx
      obtain ⟨w, hw, hx⟩ := hx
      rw [Bool.and_eq_true] at hx
      obtain ⟨S, hS, hs⟩ := md_loo_f hv hV h2
      have h5 := md_loo_t hw hx.2 hS
      have h7 := md_god_t he hv hE g hS hs
      have h6 : md_nb A S V w = true := by
        rw [md_nb_iff]; exact ⟨(hA e w he hw hx.1).2, e, he, h7, hx.1⟩
      rw [h5] at h6
      simp at h6
  unfold md_eve
  simp [hE, h3, h4]
theorem md_least (P : (Nat → Bool) → Prop) (h : ∃ S, P S) : ∃ S, P S ∧ ∀ T, P T → md_ct 8 S ≤ md_ct 8 T := by
  have h1 : ∀ n, (∃ S, P S ∧ md_ct 8 S ≤ n) → ∃ S, P S ∧ ∀ T, P T → md_ct 8 S ≤ md_ct 8 T := by
    intro n
    induction n with
    | zero =>
      rintro ⟨S, a, b⟩
      exact ⟨S, a, fun T _ => by omega⟩
    | succ n ih =>
      rintro ⟨S, a, b⟩
      by_cases c : ∃ T, P T ∧ md_ct 8 T ≤ n
      · exact ih c
      · refine ⟨S, a, fun T hT => ?_⟩
        apply Classical.byContradiction
        intro hh
        exact c ⟨T, hT, by omega⟩
  obtain ⟨S, a⟩ := h
  exact h1 _ ⟨S, a, Nat.le_refl _⟩
theorem md_partner {A : Nat → Nat → Bool} {E V : Nat → Bool} (hA : md_in A E V) {v : Nat} (hv : v < 8) (hV : V v = true) (h : md_loo A E V v = false) : ∃ e, e < 8 ∧ md_god A E V e v = true := by
  obtain ⟨I, ⟨hI, hn⟩, hm⟩ := md_least (fun S => md_TT A E V S ∧ md_nb A S V v = true) (md_loo_f hv hV h)
  obtain ⟨_, e, he, hs, ha⟩ := md_nb_iff.mp hn
  refine ⟨e, he, md_god_i he hv (hA e v he hv ha).1 hV ha (fun S hS hSn => ?_)⟩
  obtain ⟨h1, h2⟩ := md_T_in (md_tau_lb A E V) hI hS
  have h3 := hm _ ⟨h1, h2 v hv hn hSn⟩
  have h4 := md_ct_sub (p := fun e => I e && S e) (q := I) (fun i _ hh => by rw [Bool.and_eq_true] at hh; exact hh.1) h3 e he hs
  rw [Bool.and_eq_true] at h4
  exact h4.2
