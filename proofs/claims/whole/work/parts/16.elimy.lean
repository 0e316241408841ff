abbrev md_gy (g : Nat → Nat) : Nat → Nat → Fin 101 := fun r c => md_q (g (9 * r + c))
def md_YE (M0 : Nat → Nat → Fin 101) (n k : Nat) (g : Nat → Nat) : Prop := (∀ j, g j < 101) ∧ n ≤ 8 ∧ md_yu n k (md_gy g) ∧ ∀ y, md_ke (md_lt n) 9 (md_gy g) y ↔ md_ke (md_lt n) 9 M0 y
theorem md_YE_0 {g : Nat → Nat} {n : Nat} (hb : ∀ j, g j < 101) (hn : n ≤ 8) : md_YE (md_gy g) n 0 g := ⟨hb, hn, md_yu_0 n _, fun _ => Iff.rfl⟩
theorem md_YE_step {M0 : Nat → Nat → Fin 101} {n k p : Nat} {g g1 g2 g3 : Nat → Nat} (h : md_YE M0 n k g) (hkp : k ≤ p) (hp : p < n) (hnz : g (9 * p + k) ≠ 0) (s1 : ∀ c, c < 9 → g1 (9 * p + c) = g (9 * k + c) ∧ g1 (9 * k + c) = g (9 * p + c)) (s2 : ∀ r, r < 8 → r ≠ p → r ≠ k → ∀ c, c < 9 → g1 (9 * r + c) = g (9 * r + c)) (b2 : ∀ j, g2 j < 101) (b3 : ∀ j, g3 j < 101) (t1 : ∀ c, c < 9 → g2 (9 * k + c) = g1 (9 * k + c) * md_iv (g1 (9 * k + k)) % 101) (t2 : ∀ r, r < n → r ≠ k → ∀ c, c < 9 → g2 (9 * r + c) = g1 (9 * r + c)) (u1 : ∀ c, c < 9 → g3 (9 * k + c) = g2 (9 * k + c)) (u2 : ∀ r, r < n → r ≠ k → ∀ c, c < 9 → g3 (9 * r + c) = (g2 (9 * r + c) + g2 (9 * r + k) * (101 - g2 (9 * k + c))) % 101) : md_YE M0 n (k + 1) g3 := by
  obtain ⟨a1, a2, a3, a4⟩ := h
  have hsw : md_sw p k (md_gy g) (md_gy g1) := by
    intro c hc
    refine ⟨?_, ?_, fun r hr h1 h2 => ?_⟩
    · show md_q (g1 (9 * p + c)) = md_q (g (9 * k + c)); rw [(s1 c hc).1]
    · show md_q (g1 (9 * k + c)) = md_q (g (9 * p + c)); rw [(s1 c hc).2]
    · show md_q (g1 (9 * r + c)) = md_q (g (9 * r + c)); rw [s2 r hr h1 h2 c hc]
  have hkn : k < n := by omega
  have hkk : g1 (9 * k + k) = g (9 * p + k) := (s1 k (by omega)).2
  have hiv := md_iv_q (a := g1 (9 * k + k)) (by rw [hkk]; exact a1 _) (by rw [hkk]; exact hnz)
  have hpv : md_pv (md_lt n) 9 k k (md_gy g1) (md_gy g3) := md_pv_Y hkn a2 hiv b2 t1 t2 u1 u2
  refine ⟨b3, a2, md_yu_pv hkn a2 (md_sw_yu hsw hkp hp a2 a3) hpv, fun y => ?_⟩
  rw [md_pv_ke hpv (by omega) (by simp [md_lt, hkn]) y, md_sw_ke hsw hp hkn a2 y]
  exact a4 y
theorem md_YE_ok {A M0 : Nat → Nat → Fin 101} {es vs : Nat → Bool} {n : Nat} {g : Nat → Nat} (hn : md_ct 8 es = n) (hv : md_ct 8 vs = n) (hp : md_pk A M0 es vs) (h : md_YE M0 n n g) : md_ns A es vs := md_y_ok hn hv hp h.2.2.1 h.2.2.2
theorem md_YE_no {A M0 : Nat → Nat → Fin 101} {es vs : Nat → Bool} {n k : Nat} {g : Nat → Nat} (hn : md_ct 8 es = n) (hv : md_ct 8 vs = n) (hp : md_pk A M0 es vs) (h : md_YE M0 n k g) (hk : k < n) (hz : ∀ r, k ≤ r → r < n → g (9 * r + k) = 0) : ¬ md_ns A es vs := md_y_no hn hv hp hk h.2.2.1 (fun r h1 h2 => by
  show md_q (g (9 * r + k)) = 0
  rw [hz r h1 h2]; rfl) h.2.2.2
theorem md_YE_sol {A M0 : Nat → Nat → Fin 101} {es vs : Nat → Bool} {n : Nat} {g : Nat → Nat} {b : Nat → Fin 101} (hn : md_ct 8 es = n) (hv : md_ct 8 vs = n) (hp : md_pk A M0 es vs) (h : md_YE M0 n n g) (hb : ∀ e, e < 8 → es e = true → M0 (md_ct e es) 8 = b e) : ∀ e, e < 8 → es e = true → md_sm 8 (fun v => A e v * (if vs v = true then md_gy g (md_ct v vs) 8 else 0)) = b e := md_y_sol hn hv hp h.2.2.1 h.2.2.2 hb
