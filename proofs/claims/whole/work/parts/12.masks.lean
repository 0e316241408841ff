theorem mk_tb {P : Nat → Bool} {i : Nat} (hi : i < 8) : (md_mk 8 P).testBit i = P i := by
  rw [md_mk_tb]; simp [hi]
theorem mk_sz (P : Nat → Bool) : md_sz (md_mk 8 P) = md_ct 8 P := md_ct_cg (fun i hi => mk_tb hi)
theorem mk_sm (P : Nat → Bool) : md_mk 8 P < 2 ^ 31 := Nat.lt_trans (md_mk8 P) (by decide)
theorem mk_eq {P Q : Nat → Bool} : md_mk 8 P = md_mk 8 Q ↔ ∀ i, i < 8 → P i = Q i := by
  constructor
  · intro h i hi
    rw [← mk_tb (P := P) hi, h, mk_tb hi]
  · exact md_mk_cg
theorem mk_0 : md_mk 8 (fun _ => false) = 0 := by decide
theorem mk_pow {e : Nat} (he : e < 8) : 2 ^ e = md_mk 8 (fun i => i == e) := by
  refine md_tb_ext (md_pow_lt e he) (md_mk8 _) (fun i hi => ?_)
  rw [mk_tb hi, Nat.testBit_two_pow]
  by_cases h : e = i
  · simp [h]
  · have : ¬ i = e := fun a => h a.symm
    simp [h, this]
theorem mk_and (P Q : Nat → Bool) : md_mk 8 P &&& md_mk 8 Q = md_mk 8 (fun i => P i && Q i) := by
  refine md_tb_ext (md_and_lt _ (md_mk8 P)) (md_mk8 _) (fun i hi => ?_)
  rw [Nat.testBit_and, mk_tb hi, mk_tb hi, mk_tb hi]
theorem mk_or (P Q : Nat → Bool) : md_mk 8 P ||| md_mk 8 Q = md_mk 8 (fun i => P i || Q i) := by
  refine md_tb_ext (md_or_lt (md_mk8 P) (md_mk8 Q)) (md_mk8 _) (fun i hi => ?_)
  rw [Nat.testBit_or, mk_tb hi, mk_tb hi, mk_tb hi]
theorem mk_sd (P Q : Nat → Bool) : md_sd (md_mk 8 P) (md_mk 8 Q) = md_mk 8 (fun i => P i && !Q i) := by
  refine md_tb_ext (md_sd_lt _ (md_mk8 P)) (md_mk8 _) (fun i hi => ?_)
  rw [md_sd_tb hi, mk_tb hi, mk_tb hi, mk_tb hi]
theorem ni_and (P Q : Nat → Bool) : nI (md_mk 8 P) &&& nI (md_mk 8 Q) = nI (md_mk 8 (fun i => P i && Q i)) := by rw [nx_and, mk_and]
theorem ni_or (P Q : Nat → Bool) : nI (md_mk 8 P) ||| nI (md_mk 8 Q) = nI (md_mk 8 (fun i => P i || Q i)) := by rw [nx_or, mk_or]
theorem ni_sd (P Q : Nat → Bool) : nI (md_mk 8 P) &&& (nI (md_mk 8 Q) ^^^ (-1)) = nI (md_mk 8 (fun i => P i && !Q i)) := by rw [md_andn (md_mk8 P), mk_sd]
theorem ni_shl {e : Nat} (he : e < 8) : (1 : Int32) <<< (nI e &&& 31) = nI (md_mk 8 (fun i => i == e)) := by rw [md_shl1 e he, mk_pow he]
theorem ni_has (P : Nat → Bool) {i : Nat} (hi : i < 8) : (nI (md_mk 8 P) >>> (nI i &&& 31)) &&& 1 = nI (P i).toNat := by
  rw [md_bit _ (md_mk8 P) i hi, mk_tb hi]
theorem ni_z {P : Nat → Bool} : nI (md_mk 8 P) = 0 ↔ ∀ i, i < 8 → P i = false := by
  rw [md_z0 (mk_sm P), ← mk_0, mk_eq]
theorem ni_eq {P Q : Nat → Bool} : nI (md_mk 8 P) = nI (md_mk 8 Q) ↔ ∀ i, i < 8 → P i = Q i := by
  rw [nI_eq (mk_sm P) (mk_sm Q), mk_eq]
theorem ni_of {m : Nat} (hm : m < 256) : nI m = nI (md_mk 8 (fun i => m.testBit i)) := by rw [md_mk_of hm]
theorem ni_cg {P Q : Nat → Bool} (h : ∀ i, i < 8 → P i = Q i) : nI (md_mk 8 P) = nI (md_mk 8 Q) := by rw [md_mk_cg h]
theorem ni_0 : (0 : Int32) = nI (md_mk 8 (fun _ => false)) := by rw [mk_0]; rfl
theorem ni_nz {P : Nat → Bool} : ¬ nI (md_mk 8 P) = 0 ↔ ∃ i, i < 8 ∧ P i = true := by
  rw [ni_z]
  constructor
  · intro h
    apply Classical.byContradiction
    intro hn
    apply h
    intro i hi
    cases hp : P i with
    | false => rfl
    | true => exact absurd ⟨i, hi, hp⟩ hn
  · rintro ⟨i, hi, hp⟩ h
    rw [h i hi] at hp
    simp at hp
def md_Vk (kd : Nat → Nat) : Nat → Bool := fun v => decide (v < 8) && ((kd v == 1) || (kd v == 3))
theorem md_Vk_8 {kd : Nat → Nat} {v : Nat} (h : md_Vk kd v = true) : v < 8 := by
  unfold md_Vk at h
  simp at h
  exact h.1
def md_Ak (kd cf : Nat → Nat) (m : Nat) : Nat → Nat → Bool := fun e v => (m.testBit e && md_Vk kd v) && !(cf (e * 8 + v) == 0)
def md_Em (m : Nat) : Nat → Bool := fun e => m.testBit e
theorem md_Ak_in (kd cf : Nat → Nat) (m : Nat) : md_in (md_Ak kd cf m) (md_Em m) (md_Vk kd) := by
  intro e v _ _ h
  unfold md_Ak at h
  simp at h
  exact ⟨h.1.1, h.1.2⟩
def md_Kq (cf : Nat → Nat) : Nat → Nat → Fin 101 := fun e v => md_q (cf (e * 8 + v))
theorem md_Kq_A {kd cf : Nat → Nat} {m : Nat} : ∀ e v, e < 8 → v < 8 → md_Em m e = true → md_Vk kd v = true → md_Kq cf e v ≠ 0 → md_Ak kd cf m e v = true := by
  intro e v _ _ h1 h2 h3
  unfold md_Ak
  have h4 : m.testBit e = true := h1
  rw [h4, h2]
  cases hc : (cf (e * 8 + v) == 0) with
  | false => rfl
  | true =>
    exfalso
    apply h3
    unfold md_Kq
    have : cf (e * 8 + v) = 0 := by simpa using hc
    rw [this]; rfl
