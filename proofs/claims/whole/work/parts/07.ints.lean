theorem pk_us {f : Nat → Int32} {k : Nat} {x : Int32} : upd f k x k = x := if_pos rfl
theorem pk_un {f : Nat → Int32} {k j : Nat} {x : Int32} (h : j ≠ k) : upd f k x j = f j := if_neg h
theorem pk_sub {a b : Nat} (h : b ≤ a) : nI a - nI b = nI (a - b) := by
  obtain ⟨c, rfl⟩ : ∃ c, a = c + b := ⟨a - b, by omega⟩
  rw [← nI_add, Int32.add_sub_cancel, Nat.add_sub_cancel]
theorem pk_m1 (n : Nat) : nI (n + 1) + (-1) = nI n := by
  rw [← nI_1, Int32.add_assoc, show (1 : Int32) + (-1) = 0 from rfl, Int32.add_zero]
theorem pk_mul (a b : Nat) : nI a * nI b = nI (a * b) := (Int32.ofNat_mul a b).symm
theorem pk_div {a d : Nat} (ha : a < 2 ^ 31) (h0 : 0 < d) (hd : d < 2 ^ 31) : nI a / nI d = nI (a / d) := by
  apply Int32.toInt_inj.mp
  rw [lg_idiv_nonneg (by rw [nI_toInt ha]; omega) (by rw [nI_toInt hd]; omega), nI_toInt ha, nI_toInt hd, nI_toInt (Nat.lt_of_le_of_lt (Nat.div_le_self a d) ha)]
  first | rfl | exact (Int.natCast_ediv _ _).symm
theorem pk_rem {a d : Nat} (ha : a < 2 ^ 31) (h0 : 0 < d) (hd : d < 2 ^ 31) : nI a - nI a / nI d * nI d = nI (a % d) := by
  rw [pk_div ha h0 hd, pk_mul, pk_sub (Nat.div_mul_le_self a d)]
  exact congrArg nI (by have := Nat.div_add_mod' a d; omega)
theorem pk_sub_toInt {a b : Nat} (ha : a < 2 ^ 30) (hb : b < 2 ^ 30) : (nI a - nI b).toInt = (a : Int) - b := by
  rw [Int32.toInt_sub, nI_toInt (by omega), nI_toInt (by omega)]
  exact Int.bmod_eq_of_le (by omega) (by omega)
theorem pk_sneg {a b : Nat} (hb : b < 2 ^ 30) (h : a < b) : nI a - nI b < 0 := by
  rw [Int32.lt_iff_toInt_lt, pk_sub_toInt (by omega) hb, show (0 : Int32).toInt = 0 from by decide]
  omega
theorem pk_ix (x : Int32) {n : Nat} (hn : n < 2 ^ 31) : x < 0 ∨ nI n ≤ x ∨ ∃ j : Nat, j < n ∧ x = nI j := by
  by_cases h : x < 0
  · exact Or.inl h
  · obtain ⟨j, hj, rfl⟩ := nI_of h
    by_cases h2 : j < n
    · exact Or.inr (Or.inr ⟨j, h2, rfl⟩)
    · exact Or.inr (Or.inl (nI_le (by omega) hj))
theorem pk_le {x y : Int32} {A B : Prop} (a b : Nat) (f : a ≤ b → A) (g : b < a → B) (hx : x = nI a := by rfl) (hy : y = nI b := by rfl) (ha : a < 2 ^ 31 := by omega) (hb : b < 2 ^ 31 := by omega) : (x ≤ y → A) ∧ (¬ x ≤ y → B) := by
  subst hx hy
  rw [nI_leI ha hb]
  exact ⟨f, fun z => g (by omega)⟩
theorem pk_lt {x y : Int32} {A B : Prop} (a b : Nat) (f : a < b → A) (g : b ≤ a → B) (hx : x = nI a := by rfl) (hy : y = nI b := by rfl) (ha : a < 2 ^ 31 := by omega) (hb : b < 2 ^ 31 := by omega) : (x < y → A) ∧ (¬ x < y → B) := by
  subst hx hy
  rw [nI_ltI ha hb]
  exact ⟨f, fun z => g (by omega)⟩
theorem pk_eq {x y : Int32} {A B : Prop} (a b : Nat) (f : a = b → A) (g : a ≠ b → B) (hx : x = nI a := by rfl) (hy : y = nI b := by rfl) (ha : a < 2 ^ 31 := by omega) (hb : b < 2 ^ 31 := by omega) : (x = y → A) ∧ (¬ x = y → B) := by
  subst hx hy
  rw [nI_eq ha hb]
  exact ⟨f, g⟩
theorem pk_in {x : Int32} (n N : Nat) (h : n < N) (hx : x = nI n := by rfl) (hN : N < 2 ^ 31 := by omega) : vp_in x N := by
  subst hx
  exact vp_in_nI h hN
theorem pk_cl {x : Int32} (n : Nat) (hx : x = nI n := by rfl) (h : n < 2 ^ 31 := by omega) : x.toNatClampNeg = n := by
  subst hx
  exact nI_clamp h
theorem pk_tn {n : Nat} (h : n < 2 ^ 32) : (nI n).toBitVec.toNat = n := Nat.mod_eq_of_lt h
theorem pk_and (x : Int32) {m : Int32} (k : Nat) (hm : m.toBitVec.toNat = 2 ^ k - 1) : x &&& m = nI (x.toBitVec.toNat % 2 ^ k) := by
  apply Int32.toBitVec_inj.mp
  apply BitVec.eq_of_toNat_eq
  rw [Int32.toBitVec_and, BitVec.toNat_and, hm, Nat.and_two_pow_sub_one_eq_mod]
  show _ = (BitVec.ofNat 32 _).toNat
  rw [BitVec.toNat_ofNat]
  exact (Nat.mod_eq_of_lt (Nat.lt_of_le_of_lt (Nat.mod_le _ _) x.toBitVec.isLt)).symm
theorem pk_andN {n : Nat} (h : n < 2 ^ 32) {m : Int32} (k : Nat) (hm : m.toBitVec.toNat = 2 ^ k - 1) : nI n &&& m = nI (n % 2 ^ k) := by
  rw [pk_and _ k hm, pk_tn h]
theorem pk_andE (x : Int32) {m : Int32} (k : Nat) (hm : m.toBitVec.toNat = 2 ^ k - 1) : ∃ j : Nat, j < 2 ^ k ∧ x &&& m = nI j := ⟨_, Nat.mod_lt _ (Nat.two_pow_pos k), pk_and x k hm⟩
theorem pk_andIn (x : Int32) {m : Int32} (k : Nat) (hm : m.toBitVec.toNat = 2 ^ k - 1) (hk : k ≤ 30) : vp_in (x &&& m) (2 ^ k) := by
  obtain ⟨j, hj, e⟩ := pk_andE x k hm
  rw [e]
  exact vp_in_nI hj (Nat.lt_of_le_of_lt (Nat.pow_le_pow_right (by decide) hk) (by decide))
theorem pk_shl (a s : Int32) (k : Nat) (hs : (s.toBitVec.smod 32).toNat = k) : (a <<< s).toBitVec.toNat = a.toBitVec.toNat * 2 ^ k % 2 ^ 32 := by
  show (a.toBitVec <<< (s.toBitVec.smod 32).toNat).toNat = _
  rw [hs, BitVec.toNat_shiftLeft, Nat.shiftLeft_eq]
theorem pk_shlN {n : Nat} (s : Int32) (k : Nat) (hs : (s.toBitVec.smod 32).toNat = k) (h : n * 2 ^ k < 2 ^ 32) : nI n <<< s = nI (n * 2 ^ k) := by
  apply Int32.toBitVec_inj.mp
  apply BitVec.eq_of_toNat_eq
  have hn : n < 2 ^ 32 := Nat.lt_of_le_of_lt (Nat.le_mul_of_pos_right n (Nat.two_pow_pos k)) h
  rw [pk_shl _ _ k hs, pk_tn hn, pk_tn h, Nat.mod_eq_of_lt h]
theorem pk_shr (a s : Int32) (k : Nat) (hs : (s.toBitVec.smod 32).toNat = k) : (a >>> s).toInt = a.toInt >>> k := by
  show (a.toBitVec.sshiftRight (s.toBitVec.smod 32).toNat).toInt = _
  rw [hs, BitVec.toInt_sshiftRight]
  rfl
theorem pk_shrN {n : Nat} (h : n < 2 ^ 31) (s : Int32) (k : Nat) (hs : (s.toBitVec.smod 32).toNat = k) : nI n >>> s = nI (n / 2 ^ k) := by
  apply Int32.toInt_inj.mp
  have h2 : n / 2 ^ k ≤ n := Nat.div_le_self _ _
  rw [pk_shr _ _ k hs, nI_toInt h, nI_toInt (by omega), Int.shiftRight_eq_div_pow]
  rfl
theorem pk_loop {σ : Type} (W : Nat → Nat → σ → Prop) (I : Nat → σ → Prop) (e i0 : Nat) (s : σ) (hi : i0 ≤ e) (h0 : I i0 s) (hx : ∀ n s, I e s → W (n + 1) e s)
    (hs : ∀ n i s, i < e → I i s → (∀ s', I (i + 1) s' → W n (i + 1) s') → W (n + 1) i s) : ∃ n, W n i0 s :=
  ⟨e + 1, loop_i W I e hx hs (e + 1) i0 s hi (by omega) h0⟩
theorem pk_loopD {σ : Type} (W : Nat → Nat → σ → Prop) (I : Nat → σ → Prop) (hx : ∀ n s, I 0 s → W (n + 1) 0 s)
    (hs : ∀ n i s, I (i + 1) s → (∀ s', I i s' → W n i s') → W (n + 1) (i + 1) s) : ∀ (e : Nat) (s : σ), I e s → W (e + 1) e s := by
  intro e
  induction e with
  | zero => exact fun s h => hx 0 s h
  | succ e ih => exact fun s h => hs (e + 1) e s h (fun s' h' => ih s' h')
theorem lp1 {A1 : Type} (W : Nat → A1 → Prop) (I : A1 → Prop) (μ : A1 → Nat) (hs : ∀ (n : Nat) (a1 : A1), I a1 → (∀ (b1 : A1), I b1 → μ b1 < μ a1 → W n b1) → W (n + 1) a1) (a1 : A1) (h : I a1) : ∃ n, W n a1 :=
  loop_m (σ := A1) (fun n s => W n s) (fun s => I s) (fun s => μ s) (fun n s hI hk => hs n s hI (fun b1 h9 hm => hk b1 h9 hm)) a1 h
theorem lp2 {A1 A2 : Type} (W : Nat → A1 → A2 → Prop) (I : A1 → A2 → Prop) (μ : A1 → A2 → Nat) (hs : ∀ (n : Nat) (a1 : A1) (a2 : A2), I a1 a2 → (∀ (b1 : A1) (b2 : A2), I b1 b2 → μ b1 b2 < μ a1 a2 → W n b1 b2) → W (n + 1) a1 a2) (a1 : A1) (a2 : A2) (h : I a1 a2) : ∃ n, W n a1 a2 :=
  loop_m (σ := A1 × A2) (fun n s => W n s.1 s.2) (fun s => I s.1 s.2) (fun s => μ s.1 s.2) (fun n s hI hk => hs n s.1 s.2 hI (fun b1 b2 h9 hm => hk (b1, b2) h9 hm)) (a1, a2) h
theorem lp3 {A1 A2 A3 : Type} (W : Nat → A1 → A2 → A3 → Prop) (I : A1 → A2 → A3 → Prop) (μ : A1 → A2 → A3 → Nat) (hs : ∀ (n : Nat) (a1 : A1) (a2 : A2) (a3 : A3), I a1 a2 a3 → (∀ (b1 : A1) (b2 : A2) (b3 : A3), I b1 b2 b3 → μ b1 b2 b3 < μ a1 a2 a3 → W n b1 b2 b3) → W (n + 1) a1 a2 a3) (a1 : A1) (a2 : A2) (a3 : A3) (h : I a1 a2 a3) : ∃ n, W n a1 a2 a3 :=
  loop_m (σ := A1 × A2 × A3) (fun n s => W n s.1 s.2.1 s.2.2) (fun s => I s.1 s.2.1 s.2.2) (fun s => μ s.1 s.2.1 s.2.2) (fun n s hI hk => hs n s.1 s.2.1 s.2.2 hI (fun b1 b2 b3 h9 hm => hk (b1, b2, b3) h9 hm)) (a1, a2, a3) h
theorem pk_least (P : Nat → Prop) (h : ∃ k, P k) : ∃ k, P k ∧ ∀ j, j < k → ¬ P j := by
  obtain ⟨k, hk⟩ := h
  induction k using Nat.strongRecOn with
  | ind k ih =>
    by_cases e : ∃ j, j < k ∧ P j
    · obtain ⟨j, hj, pj⟩ := e
      exact ih j hj pj
    · exact ⟨k, hk, fun j hj pj => e ⟨j, hj, pj⟩⟩
theorem s_l : ∀ n, n < 32 → ((nI n &&& 31).toBitVec.smod 32).toNat = n := by decide +kernel
theorem nx_and (a b : Nat) : nI a &&& nI b = nI (a &&& b) := by
  apply Int32.toBitVec_inj.1
  show BitVec.ofNat 32 a &&& BitVec.ofNat 32 b = BitVec.ofNat 32 (a &&& b)
  apply BitVec.eq_of_getLsbD_eq
  intro i hi
  simp [hi]
theorem nx_xor (a b : Nat) : nI a ^^^ nI b = nI (a ^^^ b) := by
  apply Int32.toBitVec_inj.1
  show BitVec.ofNat 32 a ^^^ BitVec.ofNat 32 b = BitVec.ofNat 32 (a ^^^ b)
  apply BitVec.eq_of_getLsbD_eq
  intro i hi
  simp [hi]
theorem nx_or (a b : Nat) : nI a ||| nI b = nI (a ||| b) := by
  apply Int32.toBitVec_inj.1
  show BitVec.ofNat 32 a ||| BitVec.ofNat 32 b = BitVec.ofNat 32 (a ||| b)
  apply BitVec.eq_of_getLsbD_eq
  intro i hi
  simp [hi]
def md_sd (a b : Nat) : Nat := a &&& (b ^^^ 255)
theorem md_sd_tb {a b i : Nat} (hi : i < 8) : (md_sd a b).testBit i = (a.testBit i && !b.testBit i) := by
  unfold md_sd
  rw [Nat.testBit_and, Nat.testBit_xor]
  have h : Nat.testBit 255 i = true := (by decide : ∀ i, i < 8 → Nat.testBit 255 i = true) i hi
  rw [h]
  cases a.testBit i <;> cases b.testBit i <;> rfl
theorem md_sd_lt {a : Nat} (b : Nat) (ha : a < 256) : md_sd a b < 256 := Nat.lt_of_le_of_lt Nat.and_le_left ha
theorem md_and_lt {a : Nat} (b : Nat) (ha : a < 256) : a &&& b < 256 := Nat.lt_of_le_of_lt Nat.and_le_left ha
theorem md_or_lt {a b : Nat} (ha : a < 256) (hb : b < 256) : a ||| b < 256 := Nat.or_lt_two_pow (n := 8) ha hb
theorem md_pow_lt : ∀ e, e < 8 → 2 ^ e < 256 := by decide
theorem md_m1 : (-1 : Int32) = nI 4294967295 := by decide
theorem md_andn {a : Nat} (ha : a < 256) (b : Nat) : nI a &&& (nI b ^^^ (-1)) = nI (md_sd a b) := by
  rw [md_m1, nx_xor, nx_and]
  congr 1
  refine Nat.eq_of_testBit_eq (fun i => ?_)
  by_cases hi : i < 8
  · rw [md_sd_tb hi, Nat.testBit_and, Nat.testBit_xor]
    have h : Nat.testBit 4294967295 i = true := (by decide : ∀ i, i < 8 → Nat.testBit 4294967295 i = true) i hi
    rw [h]
    cases a.testBit i <;> cases b.testBit i <;> rfl
  · rw [Nat.testBit_and, md_tb_hi ha (by omega), md_tb_hi (md_sd_lt b ha) (by omega)]; rfl
theorem md_shl1 : ∀ e, e < 8 → (1 : Int32) <<< (nI e &&& 31) = nI (2 ^ e) := by decide +kernel
theorem md_bit : ∀ m, m < 256 → ∀ i, i < 8 → (nI m >>> (nI i &&& 31)) &&& 1 = nI (m.testBit i).toNat := by
  intro m hm i hi
  rw [pk_shrN (by omega) (nI i &&& 31) i (s_l i (by omega))]
  show nI (m / 2 ^ i) &&& nI 1 = _
  rw [nx_and, Nat.and_one_is_mod, Nat.testBit_eq_decide_div_mod_eq]
  congr 1
  generalize m / 2 ^ i = z
  by_cases h : z % 2 = 1
  · rw [h]; rfl
  · have : z % 2 = 0 := by omega
    rw [this]; rfl
theorem md_tn1 {b : Bool} : nI b.toNat = 1 ↔ b = true := by
  cases b
  · exact ⟨fun h => absurd h (by decide), fun h => by simp at h⟩
  · exact ⟨fun _ => rfl, fun _ => rfl⟩
theorem md_tn0 {b : Bool} : nI b.toNat = 0 ↔ b = false := by
  cases b
  · exact ⟨fun _ => rfl, fun _ => rfl⟩
  · exact ⟨fun h => absurd h (by decide), fun h => by simp at h⟩
theorem md_z0 {a : Nat} (h : a < 2 ^ 31) : nI a = 0 ↔ a = 0 := by
  rw [← nI_0, nI_eq h (by omega)]
theorem md_mod_nn (x : Int32) : ∃ n : Nat, n < 101 ∧ (n : Int) = x.toInt % 101 ∧ (x.toInt % 101).toNat = n := by
  have h1 : 0 ≤ x.toInt % 101 := Int.emod_nonneg _ (by decide)
  have h2 : x.toInt % 101 < 101 := Int.emod_lt_of_pos _ (by decide)
  exact ⟨(x.toInt % 101).toNat, by omega, by omega, rfl⟩
def md_md (x : Int32) : Nat := (x.toInt % 101).toNat
theorem md_md_lt (x : Int32) : md_md x < 101 := by
  obtain ⟨n, h1, _, h3⟩ := md_mod_nn x
  unfold md_md
  omega
theorem md_rem_lo (x : Int32) : -101 < (x - x / 101 * 101).toInt ∧ (x - x / 101 * 101).toInt < 101 ∧ ((x - x / 101 * 101).toInt = x.toInt % 101 ∨ (x - x / 101 * 101).toInt + 101 = x.toInt % 101) ∧ ((x - x / 101 * 101).toInt < 0 → (x - x / 101 * 101).toInt + 101 = x.toInt % 101) ∧ (0 ≤ (x - x / 101 * 101).toInt → (x - x / 101 * 101).toInt = x.toInt % 101) := by
  have h := rem_toInt x 101
  have e : (101 : Int32).toInt = 101 := rfl
  rw [e] at h
  rw [h]
  have h1 := Int.tmod_eq_emod (a := x.toInt) (b := 101)
  have h2 : 0 ≤ x.toInt % 101 := Int.emod_nonneg _ (by decide)
  have h3 : x.toInt % 101 < 101 := Int.emod_lt_of_pos _ (by decide)
  have h4 := tmod_bounds (a := x.toInt) (M := 101) (by decide)
  have h5 : x.toInt.tmod 101 = x.toInt % 101 ∨ (x.toInt.tmod 101 + 101 = x.toInt % 101) := by
    rw [h1]
    split
    · left; omega
    · right; simp
  omega
theorem md_i_of {x : Int32} {n : Nat} (hn : n < 2 ^ 31) (h : x.toInt = n) : x = nI n := by
  apply Int32.toInt_inj.mp
  rw [h, nI_toInt hn]
theorem md_modX (x : Int32) : (x - x / 101 * 101 < 0 → x - x / 101 * 101 + 101 = nI (md_md x)) ∧ (¬ x - x / 101 * 101 < 0 → x - x / 101 * 101 = nI (md_md x)) := by
  obtain ⟨h1, h2, _, h4, h5⟩ := md_rem_lo x
  obtain ⟨n, g1, g2, g3⟩ := md_mod_nn x
  have g4 : md_md x = n := g3
  rw [g4]
  have e0 : (0 : Int32).toInt = 0 := rfl
  constructor
  · intro h
    rw [Int32.lt_iff_toInt_lt, e0] at h
    apply md_i_of (by omega)
    have e : (101 : Int32).toInt = 101 := rfl
    rw [Int32.toInt_add, e]
    generalize (x - x / 101 * 101).toInt = z at *
    rw [Int.bmod_eq_of_le (by omega) (by omega)]
    have := h4 h
    omega
  · intro h
    rw [Int32.lt_iff_toInt_lt, e0] at h
    apply md_i_of (by omega)
    have := h5 (by omega)
    omega
theorem md_modY (x : Int32) : (x - x / 101 * 101 + 101) - (x - x / 101 * 101 + 101) / 101 * 101 = nI (md_md x) := by
  obtain ⟨h1, h2, h3, _, _⟩ := md_rem_lo x
  obtain ⟨n, g1, g2, g3⟩ := md_mod_nn x
  have g4 : md_md x = n := g3
  have e : (101 : Int32).toInt = 101 := rfl
  have h6 : (x - x / 101 * 101 + 101).toInt = (x - x / 101 * 101).toInt + 101 := by
    rw [Int32.toInt_add, e]
    generalize (x - x / 101 * 101).toInt = z at *
    rw [Int.bmod_eq_of_le (by omega) (by omega)]
  have h7 : x - x / 101 * 101 + 101 = nI ((x - x / 101 * 101).toInt + 101).toNat := by
    apply md_i_of (by omega)
    omega
  rw [h7]
  have h8 := pk_rem (a := ((x - x / 101 * 101).toInt + 101).toNat) (d := 101) (by omega) (by decide) (by decide)
  have h9 : nI 101 = 101 := rfl
  rw [h9] at h8
  rw [h8, g4]
  congr 1
  generalize (x - x / 101 * 101).toInt = z at *
  omega
theorem md_rem {a : Nat} (ha : a < 2 ^ 31) : nI a - nI a / 101 * 101 = nI (a % 101) := pk_rem (d := 101) ha (by decide) (by decide)
theorem md_sub_mul {a f b : Nat} (ha : a < 101) (hf : f < 101) (hb : b < 101) : md_md (nI a - nI f * nI b) = (a + f * (101 - b)) % 101 := by
  have hfb : f * b ≤ 10000 := Nat.le_trans (Nat.mul_le_mul (by omega : f ≤ 100) (by omega : b ≤ 100)) (by decide)
  have h1 : (nI a - nI f * nI b).toInt = (a : Int) - (f * b : Nat) := by
    rw [pk_mul]; exact pk_sub_toInt (by omega) (by omega)
  unfold md_md
  rw [h1]
  have h2 : f * (101 - b) = f * 101 - f * b := Nat.mul_sub f 101 b
  have h3 : f * b ≤ f * 101 := Nat.mul_le_mul_left f (by omega)
  rw [h2]
  generalize f * b = w at *
  omega
