def md_rd (G : Nat → Nat → Bool) (S : Nat → Bool) : Nat → Bool := fun k => S k || md_an 8 (fun v => G k v && md_an 8 (fun e => S e && G e v))
def md_it (G : Nat → Nat → Bool) (S : Nat → Bool) : Nat → (Nat → Bool)
  | 0 => S
  | n + 1 => md_rd G (md_it G S n)
def md_hg (G : Nat → Nat → Bool) (e : Nat) : Nat → Bool := md_it G (fun k => k == e) 8
theorem md_rd_iff {G : Nat → Nat → Bool} {S : Nat → Bool} {k : Nat} : md_rd G S k = true ↔ S k = true ∨ ∃ v, v < 8 ∧ G k v = true ∧ ∃ e, e < 8 ∧ S e = true ∧ G e v = true := by
  unfold md_rd
  rw [Bool.or_eq_true, md_an_iff]
  constructor
  · rintro (h | ⟨v, hv, h⟩)
    · exact Or.inl h
    · rw [Bool.and_eq_true, md_an_iff] at h
      obtain ⟨h1, e, he, h2⟩ := h
      rw [Bool.and_eq_true] at h2
      exact Or.inr ⟨v, hv, h1, e, he, h2.1, h2.2⟩
  · rintro (h | ⟨v, hv, h1, e, he, h2, h3⟩)
    · exact Or.inl h
    · refine Or.inr ⟨v, hv, ?_⟩
      rw [Bool.and_eq_true, md_an_iff]
      exact ⟨h1, e, he, by rw [Bool.and_eq_true]; exact ⟨h2, h3⟩⟩
theorem md_rd_cg {G : Nat → Nat → Bool} {S T : Nat → Bool} (h : ∀ k, k < 8 → S k = T k) : ∀ k, k < 8 → md_rd G S k = md_rd G T k := by
  intro k hk
  rw [Bool.eq_iff_iff, md_rd_iff, md_rd_iff, h k hk]
  constructor
  · rintro (a | ⟨v, hv, h1, e, he, h2, h3⟩)
    · exact Or.inl a
    · exact Or.inr ⟨v, hv, h1, e, he, by rw [← h e he]; exact h2, h3⟩
  · rintro (a | ⟨v, hv, h1, e, he, h2, h3⟩)
    · exact Or.inl a
    · exact Or.inr ⟨v, hv, h1, e, he, by rw [h e he]; exact h2, h3⟩
theorem md_it_in {G : Nat → Nat → Bool} {S : Nat → Bool} {k : Nat} (h : S k = true) : ∀ n, md_it G S n k = true := by
  intro n
  induction n with
  | zero => exact h
  | succ n ih => exact md_rd_iff.mpr (Or.inl ih)
theorem md_it_fix {G : Nat → Nat → Bool} {S : Nat → Bool} (h0 : 0 < md_ct 8 S) : ∀ n, (∀ k, k < 8 → md_it G S (n + 1) k = md_it G S n k) ∨ n + 1 ≤ md_ct 8 (md_it G S n) := by
  intro n
  induction n with
  | zero => exact Or.inr h0
  | succ n ih =>
    by_cases hf : ∀ k, k < 8 → md_it G S (n + 1) k = md_it G S n k
    · exact Or.inl (md_rd_cg hf)
    · right
      rcases ih with ih | ih
      · exact absurd ih hf
      · have hs : ∀ i, i < 8 → md_it G S n i = true → md_it G S (n + 1) i = true := fun i _ h => md_rd_iff.mpr (Or.inl h)
        apply Classical.byContradiction
        intro hh
        apply hf
        intro k hk
        have h1 := md_ct_sub hs (by omega) k hk
        have h2 := hs k hk
        rw [Bool.eq_iff_iff]
        exact ⟨h1, h2⟩
theorem md_hg_fix (G : Nat → Nat → Bool) {e : Nat} (he : e < 8) : ∀ k, k < 8 → md_rd G (md_hg G e) k = md_hg G e k := by
  rcases md_it_fix (G := G) (S := fun k => k == e) (md_ct_pos he (by simp)) 8 with h | h
  · exact h
  · have := md_ct_le (md_it G (fun k => k == e) 8) 8
    omega
theorem md_it_far {G : Nat → Nat → Bool} {S : Nat → Bool} {n : Nat} (h : ∀ k, k < 8 → md_it G S (n + 1) k = md_it G S n k) : ∀ m k, k < 8 → md_it G S (n + m) k = md_it G S n k := by
  intro m
  induction m with
  | zero => intro k _; rfl
  | succ m ih =>
    intro k hk
    show md_rd G (md_it G S (n + m)) k = _
    rw [md_rd_cg ih k hk]
    exact h k hk
theorem md_hg_of (G : Nat → Nat → Bool) {e : Nat} (he : e < 8) {n : Nat} (h : ∀ k, k < 8 → md_it G (fun k => k == e) (n + 1) k = md_it G (fun k => k == e) n k) : ∀ k, k < 8 → md_it G (fun k => k == e) n k = md_hg G e k := by
  intro k hk
  have h1 := md_it_far h 8 k hk
  have h2 := md_it_far (G := G) (S := fun k => k == e) (n := 8) (md_hg_fix G he) n k hk
  rw [← h1, Nat.add_comm, h2]
  rfl
theorem md_hg_self (G : Nat → Nat → Bool) (e : Nat) : md_hg G e e = true := md_it_in (by simp) 8
theorem md_hg_cl {G : Nat → Nat → Bool} {e k k' v : Nat} (he : e < 8) (hk : k < 8) (hk' : k' < 8) (hv : v < 8) (h : md_hg G e k' = true) (g : G k v = true) (g' : G k' v = true) : md_hg G e k = true := by
  rw [← md_hg_fix G he k hk, md_rd_iff]
  exact Or.inr ⟨v, hv, g, k', hk', h, g'⟩
theorem md_hg_ind {G : Nat → Nat → Bool} {e : Nat} (P : Nat → Prop) (h0 : P e) (hs : ∀ k k' v, k < 8 → k' < 8 → v < 8 → P k' → G k v = true → G k' v = true → P k) : ∀ k, k < 8 → md_hg G e k = true → P k := by
  have h : ∀ n k, k < 8 → md_it G (fun k => k == e) n k = true → P k := by
    intro n
    induction n with
    | zero =>
      intro k _ h
      have : k = e := by simpa [md_it] using h
      rw [this]; exact h0
    | succ n ih =>
      intro k hk h
      rcases md_rd_iff.mp h with h | ⟨v, hv, h1, k', hk', h2, h3⟩
      · exact ih k hk h
      · exact hs k k' v hk hk' hv (ih k' hk' h2) h1 h3
  exact h 8
def md_cl (G : Nat → Nat → Bool) (C : Nat → Bool) : Prop := ∀ k k' v, k < 8 → k' < 8 → v < 8 → C k' = true → G k v = true → G k' v = true → C k = true
theorem md_hg_tt {A : Nat → Nat → Bool} {E V : Nat → Bool} (hA : md_in A E V) {e : Nat} {S : Nat → Bool} (hS : md_TT A E V S) : ∀ k, k < 8 → md_hg (md_god A E V) e k = true → S k = S e := by
  refine md_hg_ind (fun k => S k = S e) rfl (fun k k' v hk hk' hv h g g' => ?_)
  have a := md_god_A g
  have a' := md_god_A g'
  obtain ⟨hE, hV⟩ := hA k v hk hv a
  obtain ⟨hE', _⟩ := hA k' v hk' hv a'
  rw [← h, Bool.eq_iff_iff]
  constructor
  · intro hs
    exact md_god_t hk' hv hE' g' hS (md_nb_iff.mpr ⟨hV, k, hk, hs, a⟩)
  · intro hs
    exact md_god_t hk hv hE g hS (md_nb_iff.mpr ⟨hV, k', hk', hs, a'⟩)
def md_tb (A : Nat → Nat → Bool) (E V : Nat → Bool) (m : Nat) : Bool := md_s8 m E && decide (md_bd A E V (fun i => m.testBit i) ≤ md_tau A E V)
theorem md_tb_iff {A : Nat → Nat → Bool} {E V : Nat → Bool} {m : Nat} : md_tb A E V m = true ↔ md_TT A E V (fun i => m.testBit i) := by
  unfold md_tb
  rw [Bool.and_eq_true, md_s8_iff, decide_eq_true_iff]
  exact Iff.rfl
theorem md_TT_cg {A : Nat → Nat → Bool} {E V S T : Nat → Bool} (h : ∀ e, e < 8 → S e = T e) (hS : md_TT A E V S) : md_TT A E V T := by
  refine ⟨fun e he ht => hS.1 e he (by rw [h e he]; exact ht), ?_⟩
  rw [← md_bd_cg (E := E) (V := V) (fun _ _ => rfl) (fun _ _ => rfl) h]
  exact hS.2
def md_fc (A : Nat → Nat → Bool) (E V : Nat → Bool) (e : Nat) : Nat := md_ct 256 (fun m => md_tb A E V m && m.testBit e)
theorem md_next {A : Nat → Nat → Bool} {E V : Nat → Bool} (hA : md_in A E V) {C : Nat → Bool} (hC : md_cl (md_god A E V) C) {e0 : Nat} (he0 : e0 < 8) (h0 : md_eve A E V e0 = true) (hc0 : C e0 = false) : ∃ e, e < 8 ∧ md_eve A E V e = true ∧ C e = false ∧ ∀ e' v, e' < 8 → v < 8 → md_hg (md_god A E V) e e' = true → A e' v = true → md_evv A E V v = true → (∃ k, k < 8 ∧ md_hg (md_god A E V) e k = true ∧ md_god A E V k v = true) ∨ ∃ k, k < 8 ∧ C k = true ∧ md_god A E V k v = true := by
  apply Classical.byContradiction
  intro hn
  have step : ∀ e, e < 8 → md_eve A E V e = true → C e = false → ∃ e2, e2 < 8 ∧ md_eve A E V e2 = true ∧ C e2 = false ∧ md_fc A E V e < md_fc A E V e2 := by
    intro e he hev hce
    have hx : ∃ e' v, e' < 8 ∧ v < 8 ∧ md_hg (md_god A E V) e e' = true ∧ A e' v = true ∧ md_evv A E V v = true ∧ ¬ ((∃ k, k < 8 ∧ md_hg (md_god A E V) e k = true ∧ md_god A E V k v = true) ∨ ∃ k, k < 8 ∧ C k = true ∧ md_god A E V k v = true) := by
      apply Classical.byContradiction
      intro hh
      apply hn
      refine ⟨e, he, hev, hce, fun e' v he' hv h1 h2 h3 => ?_⟩
      apply Classical.byContradiction
      intro h4
      exact hh ⟨e', v, he', hv, h1, h2, h3, h4⟩
    obtain ⟨e', v, he', hv, h1, h2, h3, h4⟩ := hx
    obtain ⟨hE', hV⟩ := hA e' v he' hv h2
    have hl : md_loo A E V v = false := by
      unfold md_evv at h3; simp at h3; exact h3.2
    obtain ⟨e2, he2, g2⟩ := md_partner hA hv hV hl
    have hE2 := (hA e2 v he2 hv (md_god_A g2)).1
    have hc2 : C e2 = false := by
      cases hc : C e2 with
      | false => rfl
      | true => exact absurd (Or.inr ⟨e2, he2, hc, g2⟩) h4
    refine ⟨e2, he2, md_evve hA he2 hv h3 g2, hc2, ?_⟩
    have hsub : ∀ m, m < 256 → (md_tb A E V m && m.testBit e) = true → (md_tb A E V m && m.testBit e2) = true := by
      intro m _ hm
      rw [Bool.and_eq_true] at hm ⊢
      have ht := md_tb_iff.mp hm.1
      have h5 := md_hg_tt hA (e := e) ht e' he' h1
      refine ⟨hm.1, md_god_t he2 hv hE2 g2 ht (md_nb_iff.mpr ⟨hV, e', he', ?_, h2⟩)⟩
      rw [h5]; exact hm.2
    have hle := md_ct_mono hsub
    apply Nat.lt_of_le_of_ne hle
    intro heq
    have hback := md_ct_sub hsub (by omega)
    have hg : ¬ md_god A E V e' v = true := fun g => h4 (Or.inl ⟨e', he', h1, g⟩)
    apply hg
    refine md_god_i he' hv hE' hV h2 (fun S hS hSn => ?_)
    have hsm : ∀ i, i < 8 → S i = (md_mk 8 S).testBit i := fun i hi => by rw [md_mk_tb]; simp [hi]
    have hT := md_TT_cg hsm hS
    have h6 : S e2 = true := md_god_t he2 hv hE2 g2 hS hSn
    have h7 := hback (md_mk 8 S) (md_mk8 S) (by
      rw [Bool.and_eq_true]
      exact ⟨md_tb_iff.mpr hT, by rw [← hsm e2 he2]; exact h6⟩)
    rw [Bool.and_eq_true, ← hsm e he] at h7
    rw [md_hg_tt hA (e := e) hS e' he' h1]
    exact h7.2
  have all : ∀ n, ∃ e, e < 8 ∧ md_eve A E V e = true ∧ C e = false ∧ n ≤ md_fc A E V e := by
    intro n
    induction n with
    | zero => exact ⟨e0, he0, h0, hc0, Nat.zero_le _⟩
    | succ n ih =>
      obtain ⟨e, he, hev, hce, hf⟩ := ih
      obtain ⟨e2, he2, hev2, hc2, hf2⟩ := step e he hev hce
      exact ⟨e2, he2, hev2, hc2, by omega⟩
  obtain ⟨e, _, _, _, hf⟩ := all 257
  have := md_ct_le (fun m => md_tb A E V m && m.testBit e) 256
  unfold md_fc at hf
  omega
def md_bal (A : Nat → Nat → Bool) (E V : Nat → Bool) : Prop := (∀ e, e < 8 → md_exc A E V e = false) ∧ ∀ v, v < 8 → md_loo A E V v = false
theorem md_bal_E {A : Nat → Nat → Bool} {E V : Nat → Bool} (h : md_bal A E V) : md_ct 8 E = md_tau A E V := by
  have key : ∀ j, j ≤ 8 → ∃ S, md_TT A E V S ∧ ∀ e, e < j → S e = false := by
    intro j
    induction j with
    | zero =>
      intro _
      obtain ⟨S, hS, hb⟩ := md_tau_at A E V
      exact ⟨S, ⟨hS, Nat.le_of_eq hb⟩, fun e he => by omega⟩
    | succ j ih =>
      intro hj
      obtain ⟨S, hS, hs⟩ := ih (by omega)
      cases hE : E j with
      | false =>
        refine ⟨S, hS, fun e he => ?_⟩
        by_cases e1 : e = j
        · rw [e1]
          cases hh : S j with
          | false => rfl
          | true => have := hS.1 j (by omega) hh; rw [hE] at this; simp at this
        · exact hs e (by omega)
      | true =>
        obtain ⟨T, hT, ht⟩ := md_exc_f (by omega) hE (h.1 j (by omega))
        refine ⟨_, (md_T_in (md_tau_lb A E V) hS hT).1, fun e he => ?_⟩
        by_cases e1 : e = j
        · rw [e1, ht]; simp
        · rw [hs e (by omega)]; simp
  obtain ⟨S, hS, hs⟩ := key 8 (by omega)
  have h1 := md_bd_em A E V hs
  have h2 := hS.2
  have h3 := md_tau_lb A E V S hS.1
  omega
theorem md_bal_V {A : Nat → Nat → Bool} {E V : Nat → Bool} (h : md_bal A E V) : md_ct 8 V = md_tau A E V := by
  have key : ∀ j, j ≤ 8 → ∃ S, md_TT A E V S ∧ ∀ v, v < j → V v = true → md_nb A S V v = true := by
    intro j
    induction j with
    | zero =>
      intro _
      obtain ⟨S, hS, hb⟩ := md_tau_at A E V
      exact ⟨S, ⟨hS, Nat.le_of_eq hb⟩, fun e he => by omega⟩
    | succ j ih =>
      intro hj
      obtain ⟨S, hS, hs⟩ := ih (by omega)
      cases hV : V j with
      | false =>
        refine ⟨S, hS, fun v hv hvv => ?_⟩
        by_cases e1 : v = j
        · rw [e1, hV] at hvv; simp at hvv
        · exact hs v (by omega) hvv
      | true =>
        obtain ⟨T, hT, ht⟩ := md_loo_f (by omega) hV (h.2 j (by omega))
        refine ⟨_, md_T_un (md_tau_lb A E V) hS hT, fun v hv hvv => ?_⟩
        rw [md_nb_un, Bool.or_eq_true]
        by_cases e1 : v = j
        · rw [e1]; exact Or.inr ht
        · exact Or.inl (hs v (by omega) hvv)
  obtain ⟨S, hS, hs⟩ := key 8 (by omega)
  have h1 : md_ct 8 V ≤ md_ct 8 (md_nb A S V) := md_ct_mono hs
  have h2 := hS.2
  have h3 := md_tau_lb A E V E (fun _ _ h => h)
  have h4 : md_ct 8 (fun e => E e && !E e) = 0 := md_ct_z (fun i _ => by simp)
  have h5 : md_ct 8 (md_nb A E V) ≤ md_ct 8 V := md_ct_mono (fun i _ hh => (md_nb_iff.mp hh).1)
  simp only [md_bd] at h2 h3
  omega
theorem md_bal_mu {A : Nat → Nat → Bool} {E V : Nat → Bool} (hA : md_in A E V) (h : md_bal A E V) : ∃ mu : Nat → Nat, (∀ v, v < 8 → V v = true → mu v < 8 ∧ E (mu v) = true ∧ md_god A E V (mu v) v = true) ∧ ∀ v w, v < 8 → w < 8 → V v = true → V w = true → mu v = mu w → v = w := by
  obtain ⟨s, m, sv, c⟩ := (md_match A E V).2
  have hE := md_bal_E h
  have hV := md_bal_V h
  have hs : ∀ v, v < 8 → V v = true → s v = true := md_ct_sub sv (by omega)
  obtain ⟨mu, h1, h2⟩ := md_Mt_mu 8 s m
  have inj : ∀ v w, v < 8 → w < 8 → V v = true → V w = true → mu v = mu w → v = w := fun v w hv hw a b => h2 v w hv hw (hs v hv a) (hs w hw b)
  refine ⟨mu, fun v hv hvv => ?_, inj⟩
  obtain ⟨_, a2, a3, a4⟩ := h1 v hv (hs v hv hvv)
  refine ⟨a2, a3, md_god_i a2 hv a3 hvv a4 (fun S hS hn => ?_)⟩
  have b1 : md_ct 8 (fun w => V w && !(V w && S (mu w))) ≤ md_ct 8 (fun e => E e && !S e) := by
    refine md_ct_inj (f := mu) (fun w hw hh => ?_) (fun w x hw hx hh hh' => ?_)
    · simp at hh
      obtain ⟨c1, c2⟩ := hh
      obtain ⟨_, d2, d3, _⟩ := h1 w hw (hs w hw c1)
      have c3 : S (mu w) = false := by
        rcases c2 with c2 | c2
        · rw [c1] at c2; simp at c2
        · exact c2
      exact ⟨d2, by simp [d3, c3]⟩
    · simp at hh hh'
      exact inj w x hw hx hh.1 hh'.1
  have b2 := md_ct_sd (p := fun w => V w && S (mu w)) (q := V) (n := 8) (fun i _ hh => by rw [Bool.and_eq_true] at hh; exact hh.1)
  have b3 : ∀ i, i < 8 → (V i && S (mu i)) = true → md_nb A S V i = true := fun i hi hh => by
    rw [Bool.and_eq_true] at hh
    obtain ⟨_, d2, _, d4⟩ := h1 i hi (hs i hi hh.1)
    exact md_nb_iff.mpr ⟨hh.1, mu i, d2, hh.2, d4⟩
  have b4 := hS.2
  have b5 : md_ct 8 (md_nb A S V) ≤ md_ct 8 (fun w => V w && S (mu w)) := by
    simp only [md_bd] at b4
    omega
  have b6 := md_ct_sub b3 b5 v hv hn
  rw [Bool.and_eq_true] at b6
  exact b6.2
def md_gr (G : Nat → Nat → Bool) (H : Nat → Bool) : Nat → Bool := fun v => md_an 8 (fun k => H k && G k v)
theorem md_gr_iff {G : Nat → Nat → Bool} {H : Nat → Bool} {v : Nat} : md_gr G H v = true ↔ ∃ k, k < 8 ∧ H k = true ∧ G k v = true := by
  unfold md_gr
  rw [md_an_iff]
  constructor
  · rintro ⟨k, hk, h⟩; rw [Bool.and_eq_true] at h; exact ⟨k, hk, h.1, h.2⟩
  · rintro ⟨k, hk, h1, h2⟩; exact ⟨k, hk, by rw [Bool.and_eq_true]; exact ⟨h1, h2⟩⟩
theorem md_square {A : Nat → Nat → Bool} {E V : Nat → Bool} (hA : md_in A E V) (h : md_bal A E V) {H : Nat → Bool} (hH : md_su H E) (hC : md_cl (md_god A E V) H) : md_ct 8 (md_gr (md_god A E V) H) = md_ct 8 H := by
  obtain ⟨mu, h1, h2⟩ := md_bal_mu hA h
  have hE := md_bal_E h
  have hV := md_bal_V h
  have w1 : ∀ v, v < 8 → md_gr (md_god A E V) H v = true → V v = true := fun v hv hw => by
    obtain ⟨k, hk, _, g⟩ := md_gr_iff.mp hw
    exact (hA k v hk hv (md_god_A g)).2
  have a1 : md_ct 8 (md_gr (md_god A E V) H) ≤ md_ct 8 H := by
    refine md_ct_inj (f := mu) (fun v hv hw => ?_) (fun v w hv hw a b => h2 v w hv hw (w1 v hv a) (w1 w hw b))
    obtain ⟨b1, _, b3⟩ := h1 v hv (w1 v hv hw)
    obtain ⟨k, hk, hh, g⟩ := md_gr_iff.mp hw
    exact ⟨b1, hC (mu v) k v b1 hk hv hh b3 g⟩
  have a2 : md_ct 8 (fun v => V v && !md_gr (md_god A E V) H v) ≤ md_ct 8 (fun e => E e && !H e) := by
    refine md_ct_inj (f := mu) (fun v hv hw => ?_) (fun v w hv hw a b => ?_)
    · rw [Bool.and_eq_true] at hw
      obtain ⟨b1, b2, b3⟩ := h1 v hv hw.1
      refine ⟨b1, ?_⟩
      cases hh : H (mu v) with
      | false => simp [b2]
      | true =>
        have := md_gr_iff.mpr ⟨mu v, b1, hh, b3⟩
        rw [this] at hw
        simp at hw
    · rw [Bool.and_eq_true] at a b
      exact h2 v w hv hw a.1 b.1
  have a3 := md_ct_sd w1
  have a4 := md_ct_sd hH
  omega
