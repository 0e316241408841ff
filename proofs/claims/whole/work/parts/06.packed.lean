theorem md_sm_cut {f : Nat → Fin 101} {n : Nat} : ∀ N, n ≤ N → (∀ i, n ≤ i → i < N → f i = 0) → md_sm N f = md_sm n f := by
  intro N
  induction N with
  | zero => intro h _; rw [show n = 0 by omega]
  | succ N ih =>
    intro h hz
    by_cases e : n = N + 1
    · rw [e]
    · show md_sm N f + f N = md_sm n f
      rw [ih (by omega) (fun i a b => hz i a (by omega)), hz N (by omega) (by omega)]
      exact md_r4 _
def md_lt (n : Nat) : Nat → Bool := fun r => decide (r < n)
def md_sw (p k : Nat) (M M' : Nat → Nat → Fin 101) : Prop := ∀ c, c < 9 → M' p c = M k c ∧ M' k c = M p c ∧ ∀ r, r < 8 → r ≠ p → r ≠ k → M' r c = M r c
theorem md_sw_ke {n p k : Nat} {M M' : Nat → Nat → Fin 101} (h : md_sw p k M M') (hp : p < n) (hk : k < n) (hn : n ≤ 8) (y : Nat → Fin 101) : md_ke (md_lt n) 9 M' y ↔ md_ke (md_lt n) 9 M y := by
  have e1 : md_sm 9 (fun c => M' p c * y c) = md_sm 9 (fun c => M k c * y c) := md_sm_cg (fun c hc => by rw [(h c hc).1])
  have e2 : md_sm 9 (fun c => M' k c * y c) = md_sm 9 (fun c => M p c * y c) := md_sm_cg (fun c hc => by rw [(h c hc).2.1])
  have e3 : ∀ r, r < 8 → r ≠ p → r ≠ k → md_sm 9 (fun c => M' r c * y c) = md_sm 9 (fun c => M r c * y c) := fun r hr a b => md_sm_cg (fun c hc => by rw [(h c hc).2.2 r hr a b])
  have hp' : md_lt n p = true := by simp [md_lt, hp]
  have hk' : md_lt n k = true := by simp [md_lt, hk]
  constructor
  · intro hh r hr hR
    by_cases a : r = p
    · rw [a, ← e2]; exact hh k (by omega) hk'
    · by_cases b : r = k
      · rw [b, ← e1]; exact hh p (by omega) hp'
      · rw [← e3 r hr a b]; exact hh r hr hR
  · intro hh r hr hR
    by_cases a : r = p
    · rw [a, e1]; exact hh k (by omega) hk'
    · by_cases b : r = k
      · rw [b, e2]; exact hh p (by omega) hp'
      · rw [e3 r hr a b]; exact hh r hr hR
def md_yu (n k : Nat) (M : Nat → Nat → Fin 101) : Prop := md_un (md_lt n) (md_lt k) (fun j => j) M
theorem md_yu_0 (n : Nat) (M : Nat → Nat → Fin 101) : md_yu n 0 M := by
  refine ⟨fun j _ h => ?_, fun i j _ _ _ _ e => e⟩
  simp [md_lt] at h
theorem md_sw_yu {n p k : Nat} {M M' : Nat → Nat → Fin 101} (h : md_sw p k M M') (hkp : k ≤ p) (hp : p < n) (hn : n ≤ 8) (hu : md_yu n k M) : md_yu n k M' := by
  refine ⟨fun j hj hP => ?_, hu.2⟩
  show j < 8 ∧ md_lt n j = true ∧ ∀ r, r < 8 → md_lt n r = true → M' r j = if r = j then 1 else 0
  have hh := hu.1 j hj hP
  dsimp only at hh
  obtain ⟨a, b, c⟩ := hh
  have hjk : j < k := by simpa [md_lt] using hP
  have zp : M p j = 0 := by
    rw [c p (by omega) (by simp [md_lt, hp]), if_neg (by omega)]
  have zk : M k j = 0 := by
    rw [c k (by omega) (by simp [md_lt]; omega), if_neg (by omega)]
  refine ⟨a, b, fun r hr hR => ?_⟩
  have hj9 : j < 9 := by omega
  by_cases e1 : r = p
  · rw [e1, (h j hj9).1, zk, if_neg (by omega)]
  · by_cases e2 : r = k
    · rw [e2, (h j hj9).2.1, zp, if_neg (by omega)]
    · rw [(h j hj9).2.2 r hr e1 e2]; exact c r hr hR
theorem md_yu_pv {n k : Nat} {M M' : Nat → Nat → Fin 101} (hk : k < n) (hn : n ≤ 8) (hu : md_yu n k M) (h : md_pv (md_lt n) 9 k k M M') : md_yu n (k + 1) M' := by
  have h1 := md_un_pv (N := 9) (by omega) (by omega) (by omega : k < 8) (by simp [md_lt, hk]) hu (fun j _ hj => by
    have : j < k := by simpa [md_lt] using hj
    omega) h
  refine ⟨fun j hj hP => ?_, fun i j _ _ _ _ e => e⟩
  have hj' : j < k + 1 := by simpa [md_lt] using hP
  obtain ⟨a, b, c⟩ := h1.1 j hj (by
    by_cases e : j = k
    · simp [e]
    · simp [md_lt]; left; omega)
  have e0 : (if j = k then k else j) = j := by
    by_cases e : j = k
    · rw [if_pos e, e]
    · rw [if_neg e]
  dsimp only at a b c
  simp only [e0] at a b c
  exact ⟨a, b, c⟩
def md_pk (A M0 : Nat → Nat → Fin 101) (es vs : Nat → Bool) : Prop := ∀ e v, e < 8 → v < 8 → es e = true → vs v = true → M0 (md_ct e es) (md_ct v vs) = A e v
theorem md_pk_sum {A M0 : Nat → Nat → Fin 101} {es vs : Nat → Bool} (hp : md_pk A M0 es vs) {e : Nat} (he : e < 8) (hes : es e = true) (y : Nat → Fin 101) : md_sm (md_ct 8 vs) (fun c => M0 (md_ct e es) c * y c) = md_sm 8 (fun v => A e v * (if vs v = true then y (md_ct v vs) else 0)) := by
  rw [md_sm_pack]
  refine md_sm_cg (fun v hv => ?_)
  by_cases h : vs v = true
  · rw [if_pos h, if_pos h, hp e v he hv hes h]
  · rw [if_neg h, if_neg h]; exact (md_r6 _).symm
theorem md_y_ok {A M0 M : Nat → Nat → Fin 101} {es vs : Nat → Bool} {n : Nat} (hn : md_ct 8 es = n) (hv : md_ct 8 vs = n) (hp : md_pk A M0 es vs) (hu : md_yu n n M) (hk : ∀ y, md_ke (md_lt n) 9 M y ↔ md_ke (md_lt n) 9 M0 y) : md_ns A es vs := by
  have hn8 : n ≤ 8 := by rw [← hn]; exact md_ct_le es 8
  intro y hy hA
  have hsel : ∃ y' : Nat → Fin 101, (∀ v, v < 8 → vs v = true → y' (md_ct v vs) = y v) ∧ ∀ c, n ≤ c → y' c = 0 := by
    classical
    refine ⟨fun c => if h : ∃ v, v < 8 ∧ vs v = true ∧ md_ct v vs = c then y h.choose else 0, fun v hv8 hvs => ?_, fun c hc => ?_⟩
    · have hx : ∃ w, w < 8 ∧ vs w = true ∧ md_ct w vs = md_ct v vs := ⟨v, hv8, hvs, rfl⟩
      dsimp only
      rw [dif_pos hx]
      have h1 := hx.choose_spec
      rw [md_rk_inj vs h1.2.1 hvs h1.2.2]
    · dsimp only
      rw [dif_neg]
      rintro ⟨v, h1, h2, h3⟩
      have := md_rk_lt vs h1 h2
      omega
  obtain ⟨y', h1, h2⟩ := hsel
  have hk0 : md_ke (md_lt n) 9 M0 y' := by
    intro r hr hR
    have hrn : r < n := by simpa [md_lt] using hR
    obtain ⟨e, he, hes, hre⟩ := md_rk_sur es 8 r (by omega)
    rw [md_sm_cut (n := md_ct 8 vs) 9 (by omega) (fun i a b => by rw [h2 i (by omega)]; exact md_r6 _)]
    rw [← hre, md_pk_sum hp he hes]
    refine Eq.trans (md_sm_cg (fun v hv8 => ?_)) (hA e he hes)
    by_cases hvs : vs v = true
    · rw [if_pos hvs, h1 v hv8 hvs]
    · rw [if_neg hvs, hy v hv8 (by simpa using hvs)]
  have hz := md_un_ok (N := 9) (by omega) (fun j hj => by simp [md_lt] at hj; omega) hu (fun c hc hP => h2 c (by simpa [md_lt] using hP)) ((hk y').mpr hk0)
  intro v hv8
  by_cases hvs : vs v = true
  · rw [← h1 v hv8 hvs]
    have hlt := md_rk_lt vs hv8 hvs
    exact hz _ (by omega) (by simp [md_lt]; omega)
  · exact hy v hv8 (by simpa using hvs)
theorem md_y_no {A M0 M : Nat → Nat → Fin 101} {es vs : Nat → Bool} {n k : Nat} (hn : md_ct 8 es = n) (hv : md_ct 8 vs = n) (hp : md_pk A M0 es vs) (hkn : k < n) (hu : md_yu n k M) (hz : ∀ r, k ≤ r → r < n → M r k = 0) (hk : ∀ y, md_ke (md_lt n) 9 M y ↔ md_ke (md_lt n) 9 M0 y) : ¬ md_ns A es vs := by
  have hn8 : n ≤ 8 := by rw [← hn]; exact md_ct_le es 8
  have h1 := md_un_fail (N := 9) (v := k) (by omega) (fun j hj => by simp [md_lt] at hj; omega) hu (by omega) (by simp [md_lt]) (fun r hr hR hno => by
    refine hz r ?_ (by simpa [md_lt] using hR)
    apply Nat.le_of_not_lt
    intro hlt
    exact hno r hr (by simp [md_lt, hlt]) rfl)
  have h2 := (hk _).mp h1
  intro hns
  obtain ⟨w, hw8, hws, hwk⟩ := md_rk_sur vs 8 k (by omega)
  have h3 := hns (fun v => if vs v = true then (fun c => if c = k then 1 else if md_lt k c = true then -(M c k) else 0) (md_ct v vs) else 0) (fun c hc hP => by
    dsimp only
    rw [if_neg (by simp [hP])]) (fun e he hes => by
    have h4 := md_pk_sum hp he hes (fun c => if c = k then 1 else if md_lt k c = true then -(M c k) else 0)
    have hlt := md_rk_lt es he hes
    have h5 := h2 (md_ct e es) (by omega) (by simp [md_lt]; omega)
    rw [md_sm_cut (n := md_ct 8 vs) 9 (by omega) (fun i a b => by
      dsimp only
      rw [if_neg (by omega), if_neg (by simp [md_lt]; omega)]; exact md_r6 _)] at h5
    rw [h5] at h4
    exact h4.symm) w hw8
  dsimp only at h3
  rw [if_pos hws, if_pos hwk] at h3
  exact absurd h3 (by decide)
theorem md_y_sol {A M0 M : Nat → Nat → Fin 101} {es vs : Nat → Bool} {n : Nat} {b : Nat → Fin 101} (hn : md_ct 8 es = n) (hv : md_ct 8 vs = n) (hp : md_pk A M0 es vs) (hu : md_yu n n M) (hk : ∀ y, md_ke (md_lt n) 9 M y ↔ md_ke (md_lt n) 9 M0 y) (hb : ∀ e, e < 8 → es e = true → M0 (md_ct e es) 8 = b e) : ∀ e, e < 8 → es e = true → md_sm 8 (fun v => A e v * (if vs v = true then M (md_ct v vs) 8 else 0)) = b e := by
  have hn8 : n ≤ 8 := by rw [← hn]; exact md_ct_le es 8
  have h1 := md_un_fail (N := 9) (v := 8) (by omega) (fun j hj => by simp [md_lt] at hj; omega) hu (by omega) (by simp [md_lt]; omega) (fun r hr hR hno => absurd rfl (hno r hr hR))
  have h2 := (hk _).mp h1
  intro e he hes
  have hlt := md_rk_lt es he hes
  have h5 : md_sm 8 (fun c => M0 (md_ct e es) c * (if c = 8 then 1 else if md_lt n c = true then -(M c 8) else 0)) + M0 (md_ct e es) 8 * (if 8 = 8 then 1 else if md_lt n 8 = true then -(M 8 8) else 0) = 0 := h2 (md_ct e es) (by omega) (by simp [md_lt]; omega)
  rw [if_pos rfl, md_rd1, hb e he hes] at h5
  have h6 : md_sm 8 (fun c => M0 (md_ct e es) c * (if c = 8 then 1 else if md_lt n c = true then -(M c 8) else 0)) = md_sm (md_ct 8 vs) (fun c => M0 (md_ct e es) c * (if md_lt n c = true then -(M c 8) else 0)) := by
    rw [md_sm_cut (n := md_ct 8 vs) 8 (by omega) (fun i a c => by
      rw [if_neg (by omega), if_neg (by simp [md_lt]; omega)]; exact md_r6 _)]
    refine md_sm_cg (fun i hi => ?_)
    rw [if_neg (by omega : ¬ i = 8)]
  rw [h6, md_pk_sum hp he hes] at h5
  have h7 : md_sm 8 (fun v => A e v * (if vs v = true then (if md_lt n (md_ct v vs) = true then -(M (md_ct v vs) 8) else 0) else 0)) = (-1) * md_sm 8 (fun v => A e v * (if vs v = true then M (md_ct v vs) 8 else 0)) := by
    rw [← md_sm_mul]
    refine md_sm_cg (fun v hv8 => ?_)
    by_cases hvs : vs v = true
    · have hl := md_rk_lt vs hv8 hvs
      rw [if_pos hvs, if_pos hvs, if_pos (by simp [md_lt]; omega)]
      grind
    · rw [if_neg hvs, if_neg hvs]
      grind
  rw [h7] at h5
  grind
theorem md_ns_all {A : Nat → Nat → Fin 101} {E V : Nat → Bool} {q : Nat} {H W : Nat → Nat → Bool} (hH : ∀ b, b < q → ∀ e, e < 8 → H b e = true → E e = true) (hns : ∀ b, b < q → md_ns A (H b) (W b)) (hV : ∀ v, v < 8 → V v = true → ∃ b, b < q ∧ W b v = true) (hN : ∀ b, b < q → ∀ e v, e < 8 → v < 8 → H b e = true → V v = true → A e v ≠ 0 → W b v = true ∨ ∃ b', b' < b ∧ W b' v = true) : md_ns A E V := by
  intro y hy hk
  have all : ∀ b, b < q → ∀ v, v < 8 → W b v = true → y v = 0 := by
    intro b
    induction b using Nat.strongRecOn with
    | ind b ih =>
      intro hb v hv hw
      have h1 := hns b hb (fun c => if W b c = true then y c else 0) (fun c _ hP => by
        rw [if_neg (by simp [hP])]) (fun e he hHe => by
        refine Eq.trans (md_sm_cg (fun c hc => ?_)) (hk e he (hH b hb e he hHe))
        show A e c * (if W b c = true then y c else 0) = A e c * y c
        by_cases hW : W b c = true
        · rw [if_pos hW]
        · rw [if_neg hW]
          by_cases hA : A e c = 0
          · rw [hA, md_r7, md_r7]
          · have hyc : y c = 0 := by
              cases hVc : V c with
              | false => exact hy c hc hVc
              | true =>
                rcases hN b hb e c he hc hHe hVc hA with h2 | ⟨b', hb', hw'⟩
                · exact absurd h2 hW
                · exact ih b' hb' (by omega) c hc hw'
            rw [hyc]) v hv
      rw [if_pos hw] at h1
      exact h1
  intro c hc
  cases hVc : V c with
  | false => exact hy c hc hVc
  | true =>
    obtain ⟨b, hb, hw⟩ := hV c hc hVc
    exact all b hb c hc hw
def md_q (n : Nat) : Fin 101 := Fin.ofNat 101 n
theorem md_q_v (n : Nat) : (md_q n).val = n % 101 := rfl
theorem md_q_add (a b : Nat) : md_q (a + b) = md_q a + md_q b := by
  apply Fin.ext
  rw [Fin.val_add, md_q_v, md_q_v, md_q_v, ← Nat.add_mod]
theorem md_q_mul (a b : Nat) : md_q (a * b) = md_q a * md_q b := by
  apply Fin.ext
  rw [Fin.val_mul, md_q_v, md_q_v, md_q_v, ← Nat.mul_mod]
theorem md_q_mod (a : Nat) : md_q (a % 101) = md_q a := by
  apply Fin.ext
  rw [md_q_v, md_q_v, Nat.mod_mod]
theorem md_q_inj {a b : Nat} (ha : a < 101) (hb : b < 101) (h : md_q a = md_q b) : a = b := by
  have h1 := congrArg Fin.val h
  rw [md_q_v, md_q_v] at h1
  omega
theorem md_q_0 : md_q 0 = 0 := rfl
theorem md_q_1 : md_q 1 = 1 := rfl
theorem md_q_101 : md_q 101 = 0 := by decide
theorem md_q_neg {a : Nat} (h : a ≤ 101) : md_q (101 - a) = -md_q a := by
  have h1 : md_q (101 - a) + md_q a = 0 := by
    rw [← md_q_add, Nat.sub_add_cancel h]; exact md_q_101
  grind
theorem md_q_nz {a : Nat} (h : a < 101) : md_q a = 0 ↔ a = 0 := by
  constructor
  · intro hh
    exact md_q_inj h (by decide) (by rw [hh]; rfl)
  · intro hh; rw [hh]; rfl
