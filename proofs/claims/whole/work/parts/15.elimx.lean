abbrev md_gx (g : Nat → Nat) : Nat → Nat → Fin 101 := fun e c => md_q (g (e * 16 + c))
def md_XE (K : Nat → Nat → Fin 101) (R W : Nat → Bool) (v : Nat) (g ro : Nat → Nat) (U : Nat → Bool) : Prop := (∀ j, j < 128 → g j < 101) ∧ md_un R (fun j => W j && decide (j < v)) ro (md_gx g) ∧ md_cb K (md_gx g) ∧ md_sp R (md_gx g) ∧ (∀ e, e < 8 → (U e = true ↔ R e = true ∧ ∀ j, j < 8 → W j = true → j < v → ro j ≠ e)) ∧ ∀ y, md_ke R 8 (md_gx g) y ↔ md_ke R 8 K y
theorem md_XE_0 {cf g : Nat → Nat} {R W : Nat → Bool} (ro : Nat → Nat) (hc : ∀ j, cf j < 101) (h1 : ∀ e i, e < 8 → i < 8 → g (e * 16 + i) = cf (e * 8 + i)) (h2 : ∀ e i, e < 8 → i < 8 → g (e * 16 + (8 + i)) = if e = i then 1 else 0) : md_XE (md_Kq cf) R W 0 g ro R := by
  have hk : ∀ e c, e < 8 → c < 8 → md_gx g e c = md_Kq cf e c := fun e c he hc' => by
    show md_q (g (e * 16 + c)) = md_q (cf (e * 8 + c))
    rw [h1 e c he hc']
  refine ⟨fun j hj => ?_, ⟨fun j _ h => ?_, fun i j _ _ h => ?_⟩, fun e c he hc' => ?_, fun e f he hf hRe hRf => ?_, fun e he => ?_, fun y => ?_⟩
  · have h3 : j = (j / 16) * 16 + j % 16 := by omega
    by_cases h4 : j % 16 < 8
    · rw [h3, h1 (j / 16) (j % 16) (by omega) h4]; exact hc _
    · have h5 : j % 16 = 8 + (j % 16 - 8) := by omega
      rw [h3, h5, h2 (j / 16) (j % 16 - 8) (by omega) (by omega)]
      split <;> decide
  · simp at h
  · simp at h
  · rw [hk e c he hc', md_sm_one (k := e) he (fun i hi hne => ?_)]
    · show md_Kq cf e c = md_q (g (e * 16 + (8 + e))) * md_Kq cf e c
      rw [h2 e e he he, if_pos rfl, md_q_1]; exact (md_rc _).symm
    · show md_q (g (e * 16 + (8 + i))) * md_Kq cf i c = 0
      rw [h2 e i he hi, if_neg (fun h => hne h.symm), md_q_0]; exact md_r7 _
  · show md_q (g (e * 16 + (8 + f))) = 0
    have hne : ¬ e = f := fun h => by rw [h, hRf] at hRe; simp at hRe
    rw [h2 e f he hf, if_neg hne]; rfl
  · exact ⟨fun h => ⟨h, fun j _ _ hj => absurd hj (Nat.not_lt_zero j)⟩, fun h => h.1⟩
  · constructor
    · intro h r hr hR
      rw [← h r hr hR]
      exact md_sm_cg (fun c hc' => by rw [hk r c hr hc'])
    · intro h r hr hR
      rw [← h r hr hR]
      exact md_sm_cg (fun c hc' => by rw [hk r c hr hc'])
theorem md_XE_skip {K : Nat → Nat → Fin 101} {R W : Nat → Bool} {v : Nat} {g ro : Nat → Nat} {U : Nat → Bool} (h : md_XE K R W v g ro U) (hW : W v = false) : md_XE K R W (v + 1) g ro U := by
  obtain ⟨a1, a2, a3, a4, a5, a6⟩ := h
  have e1 : (fun j => W j && decide (j < v + 1)) = (fun j => W j && decide (j < v)) := by
    funext j
    by_cases e : j = v
    · rw [e, hW]; rfl
    · have : decide (j < v + 1) = decide (j < v) := decide_eq_decide.mpr (by omega)
      rw [this]
  refine ⟨a1, by rw [e1]; exact a2, a3, a4, fun e he => ?_, a6⟩
  rw [a5 e he]
  constructor
  · rintro ⟨b1, b2⟩
    refine ⟨b1, fun j hj hw hlt => ?_⟩
    by_cases e2 : j = v
    · rw [e2, hW] at hw; simp at hw
    · exact b2 j hj hw (by omega)
  · rintro ⟨b1, b2⟩
    exact ⟨b1, fun j hj hw hlt => b2 j hj hw (by omega)⟩
theorem md_XE_piv {K : Nat → Nat → Fin 101} {R W : Nat → Bool} {v row : Nat} {g g2 ro : Nat → Nat} {U : Nat → Bool} (h : md_XE K R W v g ro U) (hv : v < 8) (hW : W v = true) (hrow : row < 8) (hU : U row = true) (hb : ∀ j, j < 128 → g2 j < 101) (hp : md_pv (fun _ => true) 16 row v (md_gx g) (md_gx g2)) : md_XE K R W (v + 1) g2 (fun j => if j = v then row else ro j) (fun e => U e && !(e == row)) := by
  obtain ⟨a1, a2, a3, a4, a5, a6⟩ := h
  obtain ⟨hR, hno⟩ := (a5 row hrow).mp hU
  have hpR : ∀ N, N ≤ 16 → md_pv R N row v (md_gx g) (md_gx g2) := fun N hN => by
    obtain ⟨⟨f, hf, h1⟩, h2⟩ := hp
    exact ⟨⟨f, hf, fun c hc => h1 c (by omega)⟩, fun r hr _ hne c hc => h2 r hr rfl hne c (by omega)⟩
  have e1 : (fun j => W j && decide (j < v + 1)) = (fun j => (W j && decide (j < v)) || (j == v)) := by
    funext j
    by_cases e : j = v
    · rw [e, hW]; simp
    · have h1 : decide (j < v + 1) = decide (j < v) := decide_eq_decide.mpr (by omega)
      have h2 : (j == v) = false := by simp [e]
      rw [h1, h2, Bool.or_false]
  refine ⟨hb, ?_, md_cb_pv hrow a3 hp, md_sp_pv hrow hR a4 hp, fun e he => ?_, fun y => ?_⟩
  · rw [e1]
    exact md_un_pv (N := 16) (by omega) hv hrow hR a2 (fun j hj hP => by
      rw [Bool.and_eq_true] at hP
      exact hno j hj hP.1 (of_decide_eq_true hP.2)) (hpR 16 (Nat.le_refl _))
  · rw [Bool.and_eq_true, a5 e he]
    constructor
    · rintro ⟨⟨b1, b2⟩, b3⟩
      have b4 : ¬ e = row := by simpa using b3
      refine ⟨b1, fun j hj hw hlt => ?_⟩
      show (if j = v then row else ro j) ≠ e
      by_cases e2 : j = v
      · rw [if_pos e2]; exact fun h => b4 h.symm
      · rw [if_neg e2]; exact b2 j hj hw (by omega)
    · rintro ⟨b1, b2⟩
      refine ⟨⟨b1, fun j hj hw hlt => ?_⟩, ?_⟩
      · have : (if j = v then row else ro j) ≠ e := b2 j hj hw (by omega)
        rw [if_neg (by omega)] at this
        exact this
      · have : (if v = v then row else ro v) ≠ e := b2 v hv hW (by omega)
        rw [if_pos rfl] at this
        have h3 : ¬ e = row := fun h => this h.symm
        simp [h3]
  · rw [md_pv_ke (hpR 8 (by omega)) hrow hR y]; exact a6 y
theorem md_XE_fail {K : Nat → Nat → Fin 101} {R W : Nat → Bool} {v : Nat} {g ro : Nat → Nat} {U : Nat → Bool} (h : md_XE K R W v g ro U) (hv : v < 8) (hW : W v = true) (hW8 : ∀ j, W j = true → j < 8) (hz : ∀ e, e < 8 → U e = true → g (e * 16 + v) = 0) : ¬ md_ns K R W := by
  obtain ⟨a1, a2, a3, a4, a5, a6⟩ := h
  have h1 := md_un_fail (N := 8) (v := v) (by omega) (fun j hj => by
    rw [Bool.and_eq_true] at hj
    exact hW8 j hj.1) a2 hv (by simp) (fun r hr hR hno => by
    have hu : U r = true := (a5 r hr).mpr ⟨hR, fun j hj hw hlt => hno j hj (by simp [hw, hlt])⟩
    show md_q (g (r * 16 + v)) = 0
    rw [hz r hr hu]; rfl)
  intro hns
  have h2 := hns _ (fun c hc hP => by
    have hcv : ¬ c = v := fun e => by rw [e, hW] at hP; simp at hP
    rw [if_neg hcv, if_neg (by simp [hP])]) ((a6 _).mp h1) v hv
  rw [if_pos rfl] at h2
  exact absurd h2 (by decide)
theorem md_XE_ok {K : Nat → Nat → Fin 101} {R W : Nat → Bool} {g ro : Nat → Nat} {U : Nat → Bool} (h : md_XE K R W 8 g ro U) (hW8 : ∀ j, W j = true → j < 8) : md_ns K R W ∧ md_un R W ro (md_gx g) ∧ md_cb K (md_gx g) ∧ md_sp R (md_gx g) := by
  obtain ⟨a1, a2, a3, a4, a5, a6⟩ := h
  have e1 : (fun j => W j && decide (j < 8)) = W := by
    funext j
    cases hW : W j with
    | false => rfl
    | true => simp [hW8 j hW]
  rw [e1] at a2
  refine ⟨fun y hy hk c hc => ?_, a2, a3, a4⟩
  cases hW : W c with
  | false => exact hy c hc hW
  | true => exact md_un_ok (N := 8) (by omega) hW8 a2 hy ((a6 y).mpr hk) c hc hW
