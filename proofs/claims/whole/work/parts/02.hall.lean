def md_nb (A : Nat → Nat → Bool) (S V : Nat → Bool) (v : Nat) : Bool := V v && md_an 8 (fun e => S e && A e v)
theorem md_nb_iff {A : Nat → Nat → Bool} {S V : Nat → Bool} {v : Nat} : md_nb A S V v = true ↔ V v = true ∧ ∃ e, e < 8 ∧ S e = true ∧ A e v = true := by
  unfold md_nb
  rw [Bool.and_eq_true, md_an_iff]
  constructor
  · rintro ⟨h, e, he, h2⟩
    rw [Bool.and_eq_true] at h2
    exact ⟨h, e, he, h2.1, h2.2⟩
  · rintro ⟨h, e, he, h1, h2⟩
    exact ⟨h, e, he, by rw [Bool.and_eq_true]; exact ⟨h1, h2⟩⟩
def md_bd (A : Nat → Nat → Bool) (E V S : Nat → Bool) : Nat := md_ct 8 (fun e => E e && !S e) + md_ct 8 (md_nb A S V)
def md_su (S E : Nat → Bool) : Prop := ∀ e, e < 8 → S e = true → E e = true
def md_LB (A : Nat → Nat → Bool) (E V : Nat → Bool) (t : Nat) : Prop := ∀ S, md_su S E → t ≤ md_bd A E V S
theorem md_bd_cg {A : Nat → Nat → Bool} {E E' V V' S S' : Nat → Bool} (hE : ∀ e, e < 8 → E e = E' e) (hV : ∀ v, v < 8 → V v = V' v) (hS : ∀ e, e < 8 → S e = S' e) : md_bd A E V S = md_bd A E' V' S' := by
  simp only [md_bd]
  congr 1
  · exact md_ct_cg (fun i hi => by rw [hE i hi, hS i hi])
  · refine md_ct_cg (fun i hi => ?_)
    rw [Bool.eq_iff_iff, md_nb_iff, md_nb_iff, hV i hi]
    constructor
    · rintro ⟨a, e, he, h1, h2⟩; exact ⟨a, e, he, by rw [← hS e he]; exact h1, h2⟩
    · rintro ⟨a, e, he, h1, h2⟩; exact ⟨a, e, he, by rw [hS e he]; exact h1, h2⟩
theorem md_LB_cg {A : Nat → Nat → Bool} {E E' V V' : Nat → Bool} {t : Nat} (hE : ∀ e, e < 8 → E e = E' e) (hV : ∀ v, v < 8 → V v = V' v) (h : md_LB A E V t) : md_LB A E' V' t := by
  intro S hS
  rw [← md_bd_cg hE hV (fun e _ => rfl)]
  exact h S (fun e he hs => by rw [hE e he]; exact hS e he hs)
theorem md_nb_un {A : Nat → Nat → Bool} {S T V : Nat → Bool} (v : Nat) : md_nb A (fun e => S e || T e) V v = (md_nb A S V v || md_nb A T V v) := by
  rw [Bool.eq_iff_iff, Bool.or_eq_true, md_nb_iff, md_nb_iff, md_nb_iff]
  constructor
  · rintro ⟨a, e, he, h1, h2⟩
    rw [Bool.or_eq_true] at h1
    rcases h1 with h1 | h1
    · exact Or.inl ⟨a, e, he, h1, h2⟩
    · exact Or.inr ⟨a, e, he, h1, h2⟩
  · rintro (⟨a, e, he, h1, h2⟩ | ⟨a, e, he, h1, h2⟩)
    · exact ⟨a, e, he, by rw [Bool.or_eq_true]; exact Or.inl h1, h2⟩
    · exact ⟨a, e, he, by rw [Bool.or_eq_true]; exact Or.inr h1, h2⟩
theorem md_nb_mono {A : Nat → Nat → Bool} {S T V : Nat → Bool} (h : ∀ e, e < 8 → S e = true → T e = true) {v : Nat} (hv : md_nb A S V v = true) : md_nb A T V v = true := by
  rw [md_nb_iff] at hv ⊢
  obtain ⟨a, e, he, h1, h2⟩ := hv
  exact ⟨a, e, he, h e he h1, h2⟩
theorem md_nb_in {A : Nat → Nat → Bool} {S T V : Nat → Bool} {v : Nat} (hv : md_nb A (fun e => S e && T e) V v = true) : (md_nb A S V v && md_nb A T V v) = true := by
  rw [Bool.and_eq_true]
  exact ⟨md_nb_mono (fun e _ h => by rw [Bool.and_eq_true] at h; exact h.1) hv, md_nb_mono (fun e _ h => by rw [Bool.and_eq_true] at h; exact h.2) hv⟩
theorem md_bd_sm (A : Nat → Nat → Bool) (E V S T : Nat → Bool) : md_bd A E V (fun e => S e || T e) + md_bd A E V (fun e => S e && T e) + md_ct 8 (fun v => md_nb A S V v && md_nb A T V v) = md_bd A E V S + md_bd A E V T + md_ct 8 (md_nb A (fun e => S e && T e) V) := by
  have h1 := md_ct_ui (fun e => E e && !S e) (fun e => E e && !T e) 8
  have h2 : md_ct 8 (fun e => E e && !(S e || T e)) = md_ct 8 (fun e => (E e && !S e) && (E e && !T e)) := md_ct_cg (fun i _ => by
    cases E i <;> cases S i <;> cases T i <;> rfl)
  have h3 : md_ct 8 (fun e => E e && !(S e && T e)) = md_ct 8 (fun e => (E e && !S e) || (E e && !T e)) := md_ct_cg (fun i _ => by
    cases E i <;> cases S i <;> cases T i <;> rfl)
  have h4 := md_ct_ui (md_nb A S V) (md_nb A T V) 8
  have h5 : md_ct 8 (md_nb A (fun e => S e || T e) V) = md_ct 8 (fun v => md_nb A S V v || md_nb A T V v) := md_ct_cg (fun i _ => md_nb_un i)
  simp only [md_bd]
  omega
def md_T (A : Nat → Nat → Bool) (E V : Nat → Bool) (t : Nat) (S : Nat → Bool) : Prop := md_su S E ∧ md_bd A E V S ≤ t
theorem md_T_un {A : Nat → Nat → Bool} {E V S T : Nat → Bool} {t : Nat} (hL : md_LB A E V t) (hS : md_T A E V t S) (hT : md_T A E V t T) : md_T A E V t (fun e => S e || T e) := by
  have h1 := md_bd_sm A E V S T
  have h2 : md_ct 8 (md_nb A (fun e => S e && T e) V) ≤ md_ct 8 (fun v => md_nb A S V v && md_nb A T V v) := md_ct_mono (fun i _ h => md_nb_in h)
  have h3 := hL (fun e => S e && T e) (fun e he h => by rw [Bool.and_eq_true] at h; exact hS.1 e he h.1)
  have h4 := hS.2
  have h5 := hT.2
  refine ⟨fun e he h => ?_, by omega⟩
  rw [Bool.or_eq_true] at h
  rcases h with h | h
  · exact hS.1 e he h
  · exact hT.1 e he h
theorem md_T_in {A : Nat → Nat → Bool} {E V S T : Nat → Bool} {t : Nat} (hL : md_LB A E V t) (hS : md_T A E V t S) (hT : md_T A E V t T) : md_T A E V t (fun e => S e && T e) ∧ ∀ v, v < 8 → md_nb A S V v = true → md_nb A T V v = true → md_nb A (fun e => S e && T e) V v = true := by
  have h1 := md_bd_sm A E V S T
  have h2 : md_ct 8 (md_nb A (fun e => S e && T e) V) ≤ md_ct 8 (fun v => md_nb A S V v && md_nb A T V v) := md_ct_mono (fun i _ h => md_nb_in h)
  have h3 := hL (fun e => S e || T e) (fun e he h => by
    rw [Bool.or_eq_true] at h
    rcases h with h | h
    · exact hS.1 e he h
    · exact hT.1 e he h)
  have h4 := hS.2
  have h5 := hT.2
  have h6 : md_su (fun e => S e && T e) E := fun e he h => by rw [Bool.and_eq_true] at h; exact hS.1 e he h.1
  have h7 := hL _ h6
  refine ⟨⟨h6, by omega⟩, fun v hv a b => ?_⟩
  exact md_ct_sub (p := md_nb A (fun e => S e && T e) V) (q := fun v => md_nb A S V v && md_nb A T V v) (fun i _ h => md_nb_in h) (by omega) v hv (by rw [Bool.and_eq_true]; exact ⟨a, b⟩)
theorem md_bd_dv {A : Nat → Nat → Bool} {E V S : Nat → Bool} {v : Nat} (hv : v < 8) (h : md_nb A S V v = true) : md_bd A E V S = md_bd A E (fun w => V w && !(w == v)) S + 1 := by
  have h1 := md_ct_rm (s := md_nb A S V) hv h
  have h2 : md_ct 8 (md_nb A S (fun w => V w && !(w == v))) = md_ct 8 (fun w => md_nb A S V w && !(w == v)) := md_ct_cg (fun i _ => by
    show ((V i && !(i == v)) && md_an 8 (fun e => S e && A e i)) = ((V i && md_an 8 (fun e => S e && A e i)) && !(i == v))
    cases V i <;> cases (i == v) <;> cases md_an 8 (fun e => S e && A e i) <;> rfl)
  simp only [md_bd]
  omega
theorem md_bd_dn {A : Nat → Nat → Bool} {E V S : Nat → Bool} {v : Nat} (h : md_nb A S V v = false) : md_bd A E V S = md_bd A E (fun w => V w && !(w == v)) S := by
  have h2 : md_ct 8 (md_nb A S (fun w => V w && !(w == v))) = md_ct 8 (md_nb A S V) := md_ct_cg (fun i _ => by
    by_cases e : i = v
    · rw [e, h]; unfold md_nb; simp
    · have : (i == v) = false := by simp [e]
      unfold md_nb; simp [this])
  simp only [md_bd]
  rw [h2]
def md_Mt (A : Nat → Nat → Bool) (E V : Nat → Bool) : Nat → (Nat → Bool) → Prop
  | 0, s => ∀ v, v < 8 → s v = false
  | k + 1, s => md_Mt A E V k s ∨ (E k = true ∧ ∃ v, v < 8 ∧ s v = true ∧ V v = true ∧ A k v = true ∧ md_Mt A E V k (fun w => s w && !(w == v)))
theorem md_Mt_cg {A : Nat → Nat → Bool} {E V : Nat → Bool} : ∀ {k} {s s' : Nat → Bool}, (∀ v, v < 8 → s v = s' v) → md_Mt A E V k s → md_Mt A E V k s' := by
  intro k
  induction k with
  | zero => intro s s' h m v hv; rw [← h v hv]; exact m v hv
  | succ k ih =>
    intro s s' h m
    rcases m with m | ⟨a, v, hv, h1, h2, h3, m⟩
    · exact Or.inl (ih h m)
    · exact Or.inr ⟨a, v, hv, by rw [← h v hv]; exact h1, h2, h3, ih (fun w hw => by rw [h w hw]) m⟩
theorem md_Mt_mono {A : Nat → Nat → Bool} {E V V' : Nat → Bool} (hV : ∀ v, V v = true → V' v = true) : ∀ {k} {s : Nat → Bool}, md_Mt A E V k s → md_Mt A E V' k s := by
  intro k
  induction k with
  | zero => intro s m; exact m
  | succ k ih =>
    intro s m
    rcases m with m | ⟨a, v, hv, h1, h2, h3, m⟩
    · exact Or.inl (ih m)
    · exact Or.inr ⟨a, v, hv, h1, hV v h2, h3, ih m⟩
theorem md_hall (A : Nat → Nat → Bool) (E : Nat → Bool) : ∀ k, k ≤ 8 → ∀ (V : Nat → Bool) (t : Nat), md_LB A (fun e => E e && decide (e < k)) V t → ∃ s, md_Mt A E V k s ∧ (∀ v, v < 8 → s v = true → V v = true) ∧ t ≤ md_ct 8 s := by
  intro k
  induction k with
  | zero =>
    intro _ V t h
    refine ⟨fun _ => false, fun _ _ => rfl, fun _ _ h => by simp at h, ?_⟩
    have h1 := h (fun _ => false) (fun _ _ h => by simp at h)
    have e1 : md_bd A (fun e => E e && decide (e < 0)) V (fun _ => false) = 0 := by
      simp only [md_bd]
      have a : md_ct 8 (fun e => (E e && decide (e < 0)) && !false) = 0 := md_ct_z (fun i _ => by simp)
      have b : md_ct 8 (md_nb A (fun _ => false) V) = 0 := md_ct_z (fun i _ => by
        rw [← Bool.not_eq_true, md_nb_iff]
        rintro ⟨_, e, _, h, _⟩
        simp at h)
      omega
    omega
  | succ k ih =>
    intro hk V t h
    cases hE : E k with
    | false =>
      obtain ⟨s, m, sv, c⟩ := ih (by omega) V t (md_LB_cg (fun e he => by
        by_cases h1 : e = k
        · rw [h1, hE]; simp
        · have : (e < k + 1) ↔ e < k := by omega
          simp [this]) (fun _ _ => rfl) h)
      exact ⟨s, Or.inl m, sv, c⟩
    | true =>
      by_cases h1 : md_LB A (fun e => E e && decide (e < k)) V t
      · obtain ⟨s, m, sv, c⟩ := ih (by omega) V t h1
        exact ⟨s, Or.inl m, sv, c⟩
      by_cases h2 : ∃ v, v < 8 ∧ V v = true ∧ A k v = true ∧ md_LB A (fun e => E e && decide (e < k)) (fun w => V w && !(w == v)) (t - 1)
      · obtain ⟨v, hv, hV, hA, hL⟩ := h2
        obtain ⟨s, m, sv, c⟩ := ih (by omega) _ _ hL
        have hs : s v = false := by
          cases e : s v with
          | false => rfl
          | true => have := sv v hv e; simp at this
        refine ⟨fun w => s w || (w == v), Or.inr ⟨hE, v, hv, by simp, hV, hA, ?_⟩, ?_, ?_⟩
        · refine md_Mt_cg (s := s) (fun w _ => ?_) (md_Mt_mono (fun w hw => by rw [Bool.and_eq_true] at hw; exact hw.1) m)
          by_cases e : w = v
          · rw [e, hs]; simp
          · have h3 : (w == v) = false := by simp [e]
            show s w = ((s w || (w == v)) && !(w == v))
            rw [h3]; cases s w <;> rfl
        · intro w hw hh
          by_cases e : w = v
          · rw [e]; exact hV
          · have : s w = true := by simpa [e] using hh
            have := sv w hw this
            rw [Bool.and_eq_true] at this
            exact this.1
        · have := md_ct_add1 (s := s) hv hs
          omega
      · exfalso
        have hsu : ∀ S, md_su S (fun e => E e && decide (e < k)) → md_bd A (fun e => E e && decide (e < k + 1)) V S = md_bd A (fun e => E e && decide (e < k)) V S + 1 := by
          intro S hS
          have hSk : S k = false := by
            cases e : S k with
            | false => rfl
            | true => have := hS k (by omega) e; simp at this
          have a := md_ct_add1 (s := fun e => (E e && decide (e < k)) && !S e) (n := 8) (v := k) (by omega) (by simp)
          have b : md_ct 8 (fun e => (E e && decide (e < k + 1)) && !S e) = md_ct 8 (fun w => ((E w && decide (w < k)) && !S w) || (w == k)) := md_ct_cg (fun i _ => by
            by_cases e : i = k
            · rw [e, hE, hSk]; simp
            · have : (i < k + 1) ↔ i < k := by omega
              simp [this, e])
          simp only [md_bd]
          omega
        have hw : ∀ S, md_su S (fun e => E e && decide (e < k)) → md_su S (fun e => E e && decide (e < k + 1)) := by
          intro S hS e he hs
          have := hS e he hs
          simp at this ⊢
          exact ⟨this.1, by omega⟩
        have hL1 : md_LB A (fun e => E e && decide (e < k)) V (t - 1) := by
          intro S hS
          have a := h S (hw S hS)
          have b := hsu S hS
          omega
        have ht : ∃ S, md_su S (fun e => E e && decide (e < k)) ∧ md_bd A (fun e => E e && decide (e < k)) V S < t := by
          apply Classical.byContradiction
          intro hn
          apply h1
          intro S hS
          apply Nat.le_of_not_lt
          intro hlt
          exact hn ⟨S, hS, hlt⟩
        have key : ∀ j, j ≤ 8 → ∃ S, md_T A (fun e => E e && decide (e < k)) V (t - 1) S ∧ ∀ v, v < j → V v = true → A k v = true → md_nb A S V v = true := by
          intro j
          induction j with
          | zero =>
            intro _
            obtain ⟨S, a, b⟩ := ht
            exact ⟨S, ⟨a, by omega⟩, fun v hv => by omega⟩
          | succ j jh =>
            intro hj
            obtain ⟨S, a, b⟩ := jh (by omega)
            by_cases c : V j = true ∧ A k j = true
            · have hn : ¬ md_LB A (fun e => E e && decide (e < k)) (fun w => V w && !(w == j)) (t - 1) := fun hn => h2 ⟨j, by omega, c.1, c.2, hn⟩
              have hx : ∃ T, md_su T (fun e => E e && decide (e < k)) ∧ md_bd A (fun e => E e && decide (e < k)) (fun w => V w && !(w == j)) T < t - 1 := by
                apply Classical.byContradiction
                intro hn'
                apply hn
                intro T hT
                apply Nat.le_of_not_lt
                intro hlt
                exact hn' ⟨T, hT, hlt⟩
              obtain ⟨T, hT, hb⟩ := hx
              have hl := hL1 T hT
              have hnb : md_nb A T V j = true := by
                cases e : md_nb A T V j with
                | true => rfl
                | false =>
                  have := md_bd_dn (A := A) (E := fun e => E e && decide (e < k)) (V := V) (S := T) e
                  omega
              have hd := md_bd_dv (A := A) (E := fun e => E e && decide (e < k)) (V := V) (S := T) (v := j) (by omega) hnb
              refine ⟨fun e => S e || T e, md_T_un hL1 a ⟨hT, by omega⟩, fun v hv c1 c2 => ?_⟩
              rw [md_nb_un, Bool.or_eq_true]
              by_cases e : v = j
              · exact Or.inr (by rw [e]; exact hnb)
              · exact Or.inl (b v (by omega) c1 c2)
            · refine ⟨S, a, fun v hv c1 c2 => ?_⟩
              by_cases e : v = j
              · rw [e] at c1 c2; exact absurd ⟨c1, c2⟩ c
              · exact b v (by omega) c1 c2
        obtain ⟨S, hT, hc⟩ := key 8 (by omega)
        have ht1 : 0 < t := by
          obtain ⟨_, _, b⟩ := ht
          omega
        have hf := h (fun e => S e || (e == k)) (by
          intro e he hs
          by_cases e1 : e = k
          · show (E e && decide (e < k + 1)) = true
            rw [e1, hE]; simp
          · have h3 : S e = true := by simpa [e1] using hs
            exact hw S hT.1 e he h3)
        have hb : md_bd A (fun e => E e && decide (e < k + 1)) V (fun e => S e || (e == k)) ≤ md_bd A (fun e => E e && decide (e < k)) V S := by
          have a : md_ct 8 (fun e => (E e && decide (e < k + 1)) && !(S e || (e == k))) ≤ md_ct 8 (fun e => (E e && decide (e < k)) && !S e) := md_ct_mono (fun i _ hi => by
            by_cases e1 : i = k
            · rw [e1] at hi; simp at hi
            · simp [e1] at hi
              simp
              refine ⟨⟨hi.1.1, ?_⟩, hi.2⟩
              have := hi.1.2
              omega)
          have b : md_ct 8 (md_nb A (fun e => S e || (e == k)) V) ≤ md_ct 8 (md_nb A S V) := md_ct_mono (fun i hi8 hi => by
            rw [md_nb_iff] at hi
            obtain ⟨v1, e, he, hs, ha⟩ := hi
            by_cases e1 : e = k
            · rw [e1] at ha
              exact hc i hi8 v1 ha
            · have h3 : S e = true := by simpa [e1] using hs
              rw [md_nb_iff]
              exact ⟨v1, e, he, h3, ha⟩)
          simp only [md_bd]
          omega
        have := hT.2
        omega
theorem md_Mt_ub {A : Nat → Nat → Bool} {E V : Nat → Bool} (S : Nat → Bool) : ∀ k, k ≤ 8 → ∀ s, md_Mt A E V k s → md_ct 8 (fun v => s v && !md_nb A S V v) ≤ md_ct k (fun e => E e && !S e) := by
  intro k
  induction k with
  | zero =>
    intro _ s m
    rw [md_ct_z (fun i hi => by rw [m i hi]; rfl)]
    exact Nat.zero_le _
  | succ k ih =>
    intro hk s m
    show _ ≤ md_ct k (fun e => E e && !S e) + (E k && !S k).toNat
    rcases m with m | ⟨hE, v, hv, h1, h2, h3, m⟩
    · have := ih (by omega) s m
      omega
    · have h4 := ih (by omega) _ m
      cases hS : S k with
      | true =>
        have h5 : md_nb A S V v = true := by
          rw [md_nb_iff]; exact ⟨h2, k, by omega, hS, h3⟩
        have h6 : md_ct 8 (fun v => s v && !md_nb A S V v) = md_ct 8 (fun w => (s w && !(w == v)) && !md_nb A S V w) := md_ct_cg (fun i _ => by
          by_cases e : i = v
          · rw [e, h5]; simp
          · have h7 : (i == v) = false := by simp [e]
            rw [h7]; cases s i <;> rfl)
        omega
      | false =>
        have h5 := md_ct_rm_le (fun w => s w && !md_nb A S V w) hv
        have h6 : md_ct 8 (fun w => (s w && !md_nb A S V w) && !(w == v)) = md_ct 8 (fun w => (s w && !(w == v)) && !md_nb A S V w) := md_ct_cg (fun i _ => by
          cases s i <;> cases (i == v) <;> cases md_nb A S V i <;> rfl)
        have h7 : (E k && !false).toNat = 1 := by rw [hE]; rfl
        omega
theorem md_Mt_bd {A : Nat → Nat → Bool} {E V s : Nat → Bool} (m : md_Mt A E V 8 s) (S : Nat → Bool) : md_ct 8 s ≤ md_bd A E V S := by
  have h1 := md_Mt_ub S 8 (Nat.le_refl 8) s m
  have h2 := md_ct_ui (fun v => s v && !md_nb A S V v) (fun v => s v && md_nb A S V v) 8
  have h3 : md_ct 8 (fun v => (s v && !md_nb A S V v) || (s v && md_nb A S V v)) = md_ct 8 s := md_ct_cg (fun i _ => by
    cases s i <;> cases md_nb A S V i <;> rfl)
  have h4 : md_ct 8 (fun v => s v && md_nb A S V v) ≤ md_ct 8 (md_nb A S V) := md_ct_mono (fun i _ h => by
    rw [Bool.and_eq_true] at h; exact h.2)
  simp only [md_bd]
  omega
theorem md_Mt_mu {A : Nat → Nat → Bool} {E V : Nat → Bool} : ∀ k s, md_Mt A E V k s → ∃ mu : Nat → Nat, (∀ v, v < 8 → s v = true → V v = true ∧ mu v < k ∧ E (mu v) = true ∧ A (mu v) v = true) ∧ ∀ v w, v < 8 → w < 8 → s v = true → s w = true → mu v = mu w → v = w := by
  intro k
  induction k with
  | zero =>
    intro s m
    exact ⟨fun _ => 0, fun v hv h => by rw [m v hv] at h; simp at h, fun v w hv hw h => by rw [m v hv] at h; simp at h⟩
  | succ k ih =>
    intro s m
    rcases m with m | ⟨hE, v, hv, h1, h2, h3, m⟩
    · obtain ⟨mu, a, b⟩ := ih s m
      refine ⟨mu, fun v hv h => ?_, b⟩
      obtain ⟨c1, c2, c3, c4⟩ := a v hv h
      exact ⟨c1, by omega, c3, c4⟩
    · obtain ⟨mu, a, b⟩ := ih _ m
      refine ⟨fun w => if w = v then k else mu w, fun w hw h => ?_, fun w x hw hx sw sx e => ?_⟩
      · by_cases e : w = v
        · simp only [e, if_true]; exact ⟨h2, by omega, hE, h3⟩
        · simp only [e, if_false]
          obtain ⟨c1, c2, c3, c4⟩ := a w hw (by simp [h, e])
          exact ⟨c1, by omega, c3, c4⟩
      · by_cases e1 : w = v
        · by_cases e2 : x = v
          · rw [e1, e2]
          · exfalso
            simp only [e1, e2, if_true, if_false] at e
            have := (a x hx (by simp [sx, e2])).2.1
            omega
        · by_cases e2 : x = v
          · exfalso
            simp only [e1, e2, if_true, if_false] at e
            have := (a w hw (by simp [sw, e1])).2.1
            omega
          · simp only [e1, e2, if_false] at e
            exact b w x hw hx (by simp [sw, e1]) (by simp [sx, e2]) e
