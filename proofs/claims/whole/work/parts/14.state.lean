def md_XA (A : Nat → Nat → Bool) (E V : Nat → Bool) (unk prs exE exV loE loV bc : Int32) (rea goo bE bV : Nat → Int32) : Prop :=
  unk = nI (md_mk 8 V) ∧ prs = nI (md_tau A E V) ∧ exE = nI (md_mk 8 (md_exc A E V)) ∧ exV = nI (md_mk 8 (md_exv A E V)) ∧ loE = nI (md_mk 8 (md_loe A E V)) ∧ loV = nI (md_mk 8 (md_loo A E V)) ∧ bc = nI (md_Q A E V) ∧ (∀ s, s < 256 → rea s = nI (md_mk 8 (md_gr A (fun i => s.testBit i)))) ∧ (∀ s, s < 256 → goo s = nI (md_mk 8 (md_gr (md_god A E V) (fun i => s.testBit i)))) ∧ ∀ b, b < md_Q A E V → bE b = nI (md_mk 8 (md_B A E V b)) ∧ bV b = nI (md_mk 8 (md_gr (md_god A E V) (md_B A E V b)))
def md_YA (A : Nat → Nat → Bool) (E V : Nat → Bool) (eqs vrs gre exE loE exV loV blk : Int32) (ins god bE bV : Nat → Int32) : Prop :=
  eqs = nI (md_mk 8 E) ∧ vrs = nI (md_mk 8 V) ∧ gre = nI (md_tau A E V) ∧ exE = nI (md_mk 8 (md_exc A E V)) ∧ loE = nI (md_mk 8 (md_loe A E V)) ∧ exV = nI (md_mk 8 (md_exv A E V)) ∧ loV = nI (md_mk 8 (md_loo A E V)) ∧ blk = nI (md_Q A E V) ∧ (∀ e, e < 8 → ins e = nI (md_mk 8 (A e))) ∧ (∀ e, e < 8 → god e = nI (md_mk 8 (md_god A E V e))) ∧ ∀ b, b < md_Q A E V → bE b = nI (md_mk 8 (md_B A E V b)) ∧ bV b = nI (md_mk 8 (md_gr (md_god A E V) (md_B A E V b)))
def md_balb (A : Nat → Nat → Bool) (E V : Nat → Bool) : Bool := !md_an 8 (md_exc A E V) && !md_an 8 (md_loo A E V)
theorem md_balb_iff {A : Nat → Nat → Bool} {E V : Nat → Bool} : md_balb A E V = true ↔ md_bal A E V := by
  have key : ∀ p : Nat → Bool, (!md_an 8 p) = true ↔ ∀ i, i < 8 → p i = false := by
    intro p
    rw [Bool.not_eq_true', ← Bool.not_eq_true, md_an_iff]
    constructor
    · intro h i hi
      cases hp : p i with
      | false => rfl
      | true => exact absurd ⟨i, hi, hp⟩ h
    · rintro h ⟨i, hi, hp⟩
      rw [h i hi] at hp
      simp at hp
  unfold md_balb md_bal
  rw [Bool.and_eq_true, key, key]
noncomputable def md_nsb (K : Nat → Nat → Fin 101) (R P : Nat → Bool) : Bool := @decide (md_ns K R P) (Classical.propDecidable _)
theorem md_nsb_t {K : Nat → Nat → Fin 101} {R P : Nat → Bool} : md_nsb K R P = true ↔ md_ns K R P := by
  unfold md_nsb
  exact @decide_eq_true_iff _ (Classical.propDecidable _)
noncomputable def md_fs (K : Nat → Nat → Fin 101) (A : Nat → Nat → Bool) (E V : Nat → Bool) : Nat := md_fi (fun b => decide (b < md_Q A E V) && !md_nsb K (md_B A E V b) (md_gr (md_god A E V) (md_B A E V b))) 8 0
noncomputable def md_FS (K : Nat → Nat → Fin 101) (A : Nat → Nat → Bool) (E V : Nat → Bool) : Int32 := if md_balb A E V = true ∧ md_fs K A E V < 8 then nI (md_fs K A E V) else -1
theorem md_fs_ns {K : Nat → Nat → Fin 101} {A : Nat → Nat → Bool} {E V : Nat → Bool} (h : ¬ md_fs K A E V < 8) : ∀ b, b < md_Q A E V → md_ns K (md_B A E V b) (md_gr (md_god A E V) (md_B A E V b)) := by
  intro b hb
  have h1 := md_fi_none 8 0 rfl h b (by omega) (Nat.lt_of_lt_of_le hb (md_Q_le A E V))
  rw [decide_eq_true hb] at h1
  apply md_nsb_t.mp
  simpa using h1
def md_XG (K : Nat → Nat → Fin 101) (E V : Nat → Bool) (grid solved : Nat → Int32) : Prop := ∃ g ro : Nat → Nat, (∀ j, j < 128 → grid j = nI (g j) ∧ g j < 101) ∧ (∀ v, v < 8 → V v = true → solved v = nI (ro v)) ∧ md_un E V ro (fun e c => md_q (g (e * 16 + c))) ∧ md_cb K (fun e c => md_q (g (e * 16 + c))) ∧ md_sp E (fun e c => md_q (g (e * 16 + c)))
theorem md_whole_ns {kd cf : Nat → Nat} {m : Nat} (hb : md_balb (md_Ak kd cf m) (md_Em m) (md_Vk kd) = true) (h : ¬ md_fs (md_Kq cf) (md_Ak kd cf m) (md_Em m) (md_Vk kd) < 8) : md_ns (md_Kq cf) (md_Em m) (md_Vk kd) := md_ns_whole (md_Ak_in kd cf m) (md_balb_iff.mp hb) md_Kq_A (md_fs_ns h)
