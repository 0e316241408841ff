theorem xs_num_t {A B : Prop} {i : Nat} (hi : i < 8) (h : B) : wpX_isNumber (fun r => (r = 0 → A) ∧ (¬ r = 0 → B)) (nI i) :=
  br_f (nI_pos (by omega)) (br_f (nI_ge (b := 8) hi (by decide)) (br_f (by decide) h))
theorem xs_num_f {A B : Prop} {x : Int32} (hx : x < 0 ∨ nI 8 ≤ x) (h : A) : wpX_isNumber (fun r => (r = 0 → A) ∧ (¬ r = 0 → B)) x := by
  by_cases h0 : x < 0
  · exact br_t h0 (br_t rfl h)
  · rcases hx with hx | hx
    · exact absurd hx h0
    · exact br_f h0 (br_t hx (br_t rfl h))
theorem xs_has {A B : Prop} (P : Nat → Bool) {i : Nat} (hi : i < 8) (h1 : P i = true → B) (h0 : P i = false → A) : wpX_has (fun r => (r = 0 → A) ∧ (¬ r = 0 → B)) (nI (md_mk 8 P)) (nI i) := by
  unfold wpX_has
  rw [ni_has P hi]
  cases hp : P i with
  | true => exact br_f (by decide) (br_f (by decide) (h1 hp))
  | false => exact br_t (by decide) (br_t rfl (h0 hp))
theorem xs_modulo (post : Int32 → Prop) (x : Int32) (h : post (nI (md_md x))) : wpX_modulo post x := by
  unfold wpX_modulo
  refine ⟨by decide, nm_e (br_c (fun h0 => ?_) (fun h0 => ?_))⟩
  · rw [(md_modX x).2 (Int32.not_lt.mpr h0)]; exact h
  · rw [(md_modX x).1 (Int32.not_le.mp h0)]; exact h
theorem ys_mod (post : Int32 → Prop) (x : Int32) (h : post (nI (md_md x))) : wpY_mod post x := by
  unfold wpY_mod
  refine ⟨by decide, by decide, ?_⟩
  rw [md_modY x]; exact h
theorem xs_inv_l {a : Nat} (ha : a < 101) (h0 : a ≠ 0) (post : Int32 → Prop) (h : post (nI (md_iv a))) : ∀ d i, i + d = md_iv a → wX_inverse_2 post (nI a) (d + 1) (nI i) := by
  obtain ⟨h1, h2, _, h4⟩ := md_iv_ok a ha h0
  have hr : ∀ i, i < 101 → (nI a * nI i) - (nI a * nI i) / 101 * 101 = nI (a * i % 101) := fun i hi => by
    have := md_mul100 ha hi
    rw [pk_mul]; exact md_rem (by omega)
  intro d
  induction d with
  | zero =>
    intro i hi
    refine br_f (nI_ge (b := 101) (by omega) (by decide)) ⟨by decide, br_t ?_ ?_⟩
    · rw [hr i (by omega), show i = md_iv a by omega, h2]; rfl
    · rw [show i = md_iv a by omega]; exact h
  | succ d ih =>
    intro i hi
    refine br_f (nI_ge (b := 101) (by omega) (by decide)) ⟨by decide, br_f ?_ (nm_r (nI_1 i) (ih (i + 1) (by omega)))⟩
    rw [hr i (by omega)]
    intro hh
    have h5 : nI (a * i % 101) = nI 1 := hh
    rw [nI_eq (by omega) (by decide)] at h5
    exact h4 i (by omega) h5
theorem xs_inv {a : Nat} (ha : a < 101) (h0 : a ≠ 0) (post : Int32 → Prop) (h : post (nI (md_iv a))) : wpX_inverse post (nI a) := by
  have h3 := (md_iv_ok a ha h0).2.2.1
  unfold wpX_inverse
  exact ⟨md_iv a - 1 + 1, xs_inv_l ha h0 post h (md_iv a - 1) 1 (by omega)⟩
theorem ys_inv_l {a : Nat} (ha : a < 101) (h0 : a ≠ 0) (post : Int32 → Prop) (h : post (nI (md_iv a))) : ∀ d i, i + d = md_iv a → wY_inverse_2 post (nI a) (d + 1) (nI i) := by
  obtain ⟨h1, h2, _, h4⟩ := md_iv_ok a ha h0
  have hr : ∀ i, i < 101 → (nI i * nI a) - (nI i * nI a) / 101 * 101 = nI (a * i % 101) := fun i hi => by
    have := md_mul100 ha hi
    rw [pk_mul, Nat.mul_comm i a]; exact md_rem (by omega)
  intro d
  induction d with
  | zero =>
    intro i hi
    refine And.intro (by decide) (br_t ?_ ?_)
    · rw [hr i (by omega), show i = md_iv a by omega, h2]; rfl
    · rw [show i = md_iv a by omega]; exact h
  | succ d ih =>
    intro i hi
    refine And.intro (by decide) (br_f ?_ (nm_r (nI_1 i) (ih (i + 1) (by omega))))
    rw [hr i (by omega)]
    intro hh
    have h5 : nI (a * i % 101) = nI 1 := hh
    rw [nI_eq (by omega) (by decide)] at h5
    exact h4 i (by omega) h5
theorem ys_inv {a : Nat} (ha : a < 101) (h0 : a ≠ 0) (post : Int32 → Prop) (h : post (nI (md_iv a))) : wpY_inverse post (nI a) := by
  have h3 := (md_iv_ok a ha h0).2.2.1
  unfold wpY_inverse
  exact ⟨md_iv a - 1 + 1, ys_inv_l ha h0 post h (md_iv a - 1) 1 (by omega)⟩
theorem xs_size_l (post : Int32 → Prop) (P : Nat → Bool) (h : post (nI (md_ct 8 P))) : ∀ d i, i + d = 8 → wX_size_4 post (nI (md_mk 8 P)) (d + 1) (nI (md_ct i P)) (nI i) := by
  intro d
  induction d with
  | zero =>
    intro i hi
    rw [show i = 8 by omega]
    exact br_t (nI_le (a := 8) (b := 8) (by omega) (by decide)) h
  | succ d ih =>
    intro i hi
    refine br_f (nI_ge (b := 8) (by omega) (by decide)) (nm_r ?_ (nm_r (nI_1 i) (ih (i + 1) (by omega))))
    rw [ni_has P (by omega), nI_add]; rfl
theorem xs_size (post : Int32 → Prop) (P : Nat → Bool) (h : post (nI (md_ct 8 P))) : wpX_size post (nI (md_mk 8 P)) := by
  unfold wpX_size
  exact ⟨9, xs_size_l post P h 8 0 rfl⟩
theorem ys_size_l (post : Int32 → Prop) (P : Nat → Bool) (h : post (nI (md_ct 8 P))) : ∀ d i, i + d = 8 → wY_size_4 post (nI (md_mk 8 P)) (d + 1) (nI (md_ct i P)) (nI i) := by
  intro d
  induction d with
  | zero =>
    intro i hi
    rw [show i = 8 by omega]
    exact br_t (nI_le (a := 8) (b := 8) (by omega) (by decide)) h
  | succ d ih =>
    intro i hi
    refine br_f (nI_ge (b := 8) (by omega) (by decide)) (nm_r ?_ (nm_r (nI_1 i) (ih (i + 1) (by omega))))
    rw [ni_has P (by omega), nI_add]; rfl
theorem ys_size (post : Int32 → Prop) (P : Nat → Bool) (h : post (nI (md_ct 8 P))) : wpY_size post (nI (md_mk 8 P)) := by
  unfold wpY_size
  exact ⟨9, ys_size_l post P h 8 0 rfl⟩
theorem ys_in_t {A B : Prop} {i a b : Nat} (h1 : a ≤ i) (h2 : i < b) (hb : b < 2 ^ 31) (h : B) : wpY_in (fun r => (r = 0 → A) ∧ (¬ r = 0 → B)) (nI i) (nI a) (nI b) :=
  br_f (nI_nlt h1 (by omega)) (br_f (nI_ge h2 hb) (br_f (by decide) h))
theorem ys_in_f {A B : Prop} {x y z : Int32} (hx : x < y ∨ z ≤ x) (h : A) : wpY_in (fun r => (r = 0 → A) ∧ (¬ r = 0 → B)) x y z := by
  by_cases h0 : x < y
  · exact br_t h0 (br_t rfl h)
  · rcases hx with hx | hx
    · exact absurd hx h0
    · exact br_f h0 (br_t hx (br_t rfl h))
theorem md_b1 {P : Nat → Bool} {i : Nat} (hi : i < 8) (h : P i = true) : (nI (md_mk 8 P) >>> (nI i &&& 31)) &&& 1 = 1 := by
  rw [ni_has P hi, h]; rfl
theorem md_b0 {P : Nat → Bool} {i : Nat} (hi : i < 8) (h : P i = false) : (nI (md_mk 8 P) >>> (nI i &&& 31)) &&& 1 = 0 := by
  rw [ni_has P hi, h]; rfl
theorem md_b1n {P : Nat → Bool} {i : Nat} (hi : i < 8) (h : P i = false) : ¬ (nI (md_mk 8 P) >>> (nI i &&& 31)) &&& 1 = 1 := by
  rw [ni_has P hi, h]; decide
theorem md_b0n {P : Nat → Bool} {i : Nat} (hi : i < 8) (h : P i = true) : ¬ (nI (md_mk 8 P) >>> (nI i &&& 31)) &&& 1 = 0 := by
  rw [ni_has P hi, h]; decide
theorem md_ix {e : Nat} (he : e < 8) : ((1 : Int32) <<< (nI e &&& 31)).toNatClampNeg = 2 ^ e := by
  rw [md_shl1 e he, nI_clamp (Nat.lt_trans (md_pow_lt e he) (by decide))]
theorem md_ixin {e : Nat} (he : e < 8) : vp_in ((1 : Int32) <<< (nI e &&& 31)) 256 := by
  rw [md_shl1 e he]; exact vp_in_nI (md_pow_lt e he) (by decide)
theorem md_gr1 {A : Nat → Nat → Bool} {e : Nat} (he : e < 8) (v : Nat) : md_gr A (fun i => (2 ^ e).testBit i) v = A e v := by
  rw [Bool.eq_iff_iff, md_gr_iff]
  constructor
  · rintro ⟨k, _, h1, h2⟩
    rw [Nat.testBit_two_pow] at h1
    have : e = k := by simpa using h1
    rw [this]; exact h2
  · intro h
    exact ⟨e, he, Nat.testBit_two_pow_self, h⟩
theorem md_rea1 {A : Nat → Nat → Bool} {rea : Nat → Int32} (hr : ∀ s, s < 256 → rea s = nI (md_mk 8 (md_gr A (fun i => s.testBit i)))) {e : Nat} (he : e < 8) : rea ((1 : Int32) <<< (nI e &&& 31)).toNatClampNeg = nI (md_mk 8 (A e)) := by
  rw [md_ix he, hr _ (md_pow_lt e he)]
  exact ni_cg (fun i _ => md_gr1 he i)
theorem md_reaP {A : Nat → Nat → Bool} {rea : Nat → Int32} (hr : ∀ s, s < 256 → rea s = nI (md_mk 8 (md_gr A (fun i => s.testBit i)))) (P : Nat → Bool) : rea (nI (md_mk 8 P)).toNatClampNeg = nI (md_mk 8 (md_gr A P)) := by
  rw [nI_clamp (mk_sm P), hr _ (md_mk8 P)]
  refine ni_cg (fun v _ => ?_)
  rw [Bool.eq_iff_iff, md_gr_iff, md_gr_iff]
  constructor
  · rintro ⟨k, hk, h1, h2⟩; exact ⟨k, hk, by rw [← mk_tb (P := P) hk]; exact h1, h2⟩
  · rintro ⟨k, hk, h1, h2⟩; exact ⟨k, hk, by rw [mk_tb hk]; exact h1, h2⟩
