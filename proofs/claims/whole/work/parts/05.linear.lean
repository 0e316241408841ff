def md_sm : Nat → (Nat → Fin 101) → Fin 101
  | 0, _ => 0
  | n + 1, f => md_sm n f + f n
theorem md_r1 (a b c d : Fin 101) : a + b + (c + d) = (a + c) + (b + d) := by grind
theorem md_r2 (f a y s : Fin 101) : f * s + (f * a) * y = f * (s + a * y) := by grind
theorem md_r3 (a b c y s u : Fin 101) : (s - c * u) + (a - c * b) * y = (s + a * y) - c * (u + b * y) := by grind
theorem md_r4 (a : Fin 101) : a + 0 = a := by grind
theorem md_r5 (a : Fin 101) : 0 + a = a := by grind
theorem md_r6 (a : Fin 101) : a * 0 = 0 := by grind
theorem md_r7 (a : Fin 101) : 0 * a = 0 := by grind
theorem md_r8 (f m s : Fin 101) (h : f * m = 1) (h2 : f * s = 0) : s = 0 := by grind
theorem md_r9 (a b : Fin 101) : a - b * 0 = a := by grind
theorem md_ra (a : Fin 101) : a - a * 1 = 0 := by grind
theorem md_rb (a : Fin 101) : a * 1 + 1 * -a = 0 := by grind
theorem md_rc (a : Fin 101) : 1 * a = a := by grind
theorem md_rd1 (a : Fin 101) : a * 1 = a := by grind
theorem md_re (a b c : Fin 101) : a * b * c = a * (b * c) := by grind
theorem md_rf (c s a : Fin 101) : c * s + c * a = c * (s + a) := by grind
theorem md_rg (a b y s u : Fin 101) : (s + u) + (a + b) * y = (s + a * y) + (u + b * y) := by grind
theorem md_rh (a b : Fin 101) : a * b = b * a := by grind
theorem md_sm_cg {f g : Nat → Fin 101} : ∀ {n}, (∀ i, i < n → f i = g i) → md_sm n f = md_sm n g := by
  intro n
  induction n with
  | zero => intro _; rfl
  | succ n ih =>
    intro h
    show md_sm n f + f n = md_sm n g + g n
    rw [ih (fun i hi => h i (by omega)), h n (by omega)]
theorem md_sm_z {f : Nat → Fin 101} : ∀ {n}, (∀ i, i < n → f i = 0) → md_sm n f = 0 := by
  intro n
  induction n with
  | zero => intro _; rfl
  | succ n ih =>
    intro h
    show md_sm n f + f n = 0
    rw [ih (fun i hi => h i (by omega)), h n (by omega)]; rfl
theorem md_sm_add (f g : Nat → Fin 101) : ∀ n, md_sm n (fun i => f i + g i) = md_sm n f + md_sm n g := by
  intro n
  induction n with
  | zero => rfl
  | succ n ih =>
    show md_sm n (fun i => f i + g i) + (f n + g n) = (md_sm n f + f n) + (md_sm n g + g n)
    rw [ih]; exact md_r1 _ _ _ _
theorem md_sm_mul (c : Fin 101) (f : Nat → Fin 101) : ∀ n, md_sm n (fun i => c * f i) = c * md_sm n f := by
  intro n
  induction n with
  | zero => exact (md_r6 c).symm
  | succ n ih =>
    show md_sm n (fun i => c * f i) + c * f n = c * (md_sm n f + f n)
    rw [ih]; exact md_rf _ _ _
theorem md_sm_sc (c : Fin 101) (a y : Nat → Fin 101) (n : Nat) : md_sm n (fun i => (c * a i) * y i) = c * md_sm n (fun i => a i * y i) := by
  rw [← md_sm_mul]
  exact md_sm_cg (fun i _ => md_re _ _ _)
theorem md_sm_cl (c : Fin 101) (a b y : Nat → Fin 101) : ∀ n, md_sm n (fun i => (a i - c * b i) * y i) = md_sm n (fun i => a i * y i) - c * md_sm n (fun i => b i * y i) := by
  intro n
  induction n with
  | zero => exact (md_r9 0 c).symm
  | succ n ih =>
    show md_sm n (fun i => (a i - c * b i) * y i) + (a n - c * b n) * y n = (md_sm n (fun i => a i * y i) + a n * y n) - c * (md_sm n (fun i => b i * y i) + b n * y n)
    rw [ih]; exact md_r3 _ _ _ _ _ _
theorem md_sm_one {f : Nat → Fin 101} {k : Nat} : ∀ {n}, k < n → (∀ i, i < n → i ≠ k → f i = 0) → md_sm n f = f k := by
  intro n
  induction n with
  | zero => intro h; omega
  | succ n ih =>
    intro hk h
    show md_sm n f + f n = f k
    by_cases e : k = n
    · rw [md_sm_z (fun i hi => h i (by omega) (by omega)), e]; exact md_r5 _
    · rw [ih (by omega) (fun i hi hn => h i (by omega) hn), h n (by omega) (by omega)]; exact md_r4 _
theorem md_sm_two {f : Nat → Fin 101} {n k l : Nat} (hk : k < n) (hl : l < n) (hkl : k ≠ l) (h : ∀ i, i < n → i ≠ k → i ≠ l → f i = 0) : md_sm n f = f k + f l := by
  have h1 : md_sm n f = md_sm n (fun i => (if i = k then f i else 0) + (if i = l then f i else 0)) := md_sm_cg (fun i hi => by
    by_cases e : i = k
    · have : ¬ i = l := by omega
      rw [if_pos e, if_neg this]; exact (md_r4 _).symm
    · by_cases e2 : i = l
      · rw [if_neg e, if_pos e2]; exact (md_r5 _).symm
      · rw [if_neg e, if_neg e2, h i hi e e2]; rfl)
  rw [h1, md_sm_add, md_sm_one hk (fun i _ e => if_neg e), md_sm_one hl (fun i _ e => if_neg e), if_pos rfl, if_pos rfl]
theorem md_sm_swap (f : Nat → Nat → Fin 101) (m : Nat) : ∀ n, md_sm n (fun i => md_sm m (fun j => f i j)) = md_sm m (fun j => md_sm n (fun i => f i j)) := by
  intro n
  induction n with
  | zero => exact (md_sm_z (fun i _ => rfl)).symm
  | succ n ih =>
    show md_sm n (fun i => md_sm m (fun j => f i j)) + md_sm m (fun j => f n j) = md_sm m (fun j => md_sm n (fun i => f i j) + f n j)
    rw [ih, md_sm_add]
theorem md_sm_pack (V : Nat → Bool) (F : Nat → Fin 101) : ∀ n, md_sm (md_ct n V) F = md_sm n (fun v => if V v = true then F (md_ct v V) else 0) := by
  intro n
  induction n with
  | zero => rfl
  | succ n ih =>
    show md_sm (md_ct n V + (V n).toNat) F = md_sm n (fun v => if V v = true then F (md_ct v V) else 0) + (if V n = true then F (md_ct n V) else 0)
    rw [← ih]
    cases h : V n with
    | true => rw [if_pos rfl]; rfl
    | false =>
      rw [if_neg (by simp)]
      exact (md_r4 _).symm
def md_ke (R : Nat → Bool) (N : Nat) (M : Nat → Nat → Fin 101) (y : Nat → Fin 101) : Prop := ∀ r, r < 8 → R r = true → md_sm N (fun c => M r c * y c) = 0
def md_pv (R : Nat → Bool) (N p k : Nat) (M M' : Nat → Nat → Fin 101) : Prop := (∃ f, f * M p k = 1 ∧ ∀ c, c < N → M' p c = f * M p c) ∧ ∀ r, r < 8 → R r = true → r ≠ p → ∀ c, c < N → M' r c = M r c - M r k * M' p c
theorem md_pv_ke {R : Nat → Bool} {N p k : Nat} {M M' : Nat → Nat → Fin 101} (h : md_pv R N p k M M') (hp : p < 8) (hR : R p = true) (y : Nat → Fin 101) : md_ke R N M' y ↔ md_ke R N M y := by
  obtain ⟨⟨f, hf, h1⟩, h2⟩ := h
  have e1 : md_sm N (fun c => M' p c * y c) = f * md_sm N (fun c => M p c * y c) := by
    rw [← md_sm_sc]
    exact md_sm_cg (fun i hi => by rw [h1 i hi])
  have e2 : ∀ r, r < 8 → R r = true → r ≠ p → md_sm N (fun c => M' r c * y c) = md_sm N (fun c => M r c * y c) - M r k * md_sm N (fun c => M' p c * y c) := by
    intro r hr hR2 hne
    rw [← md_sm_cl]
    exact md_sm_cg (fun i hi => by rw [h2 r hr hR2 hne i hi])
  constructor
  · intro hk r hr hR2
    have a := hk p hp hR
    by_cases e : r = p
    · rw [e]
      rw [e1] at a
      exact md_r8 _ _ _ hf a
    · have b := hk r hr hR2
      rw [e2 r hr hR2 e, a, md_r9] at b
      exact b
  · intro hk r hr hR2
    have a := hk p hp hR
    have a' : md_sm N (fun c => M' p c * y c) = 0 := by rw [e1, a, md_r6]
    by_cases e : r = p
    · rw [e]; exact a'
    · rw [e2 r hr hR2 e, a', md_r9]; exact hk r hr hR2
def md_un (R P : Nat → Bool) (ro : Nat → Nat) (M : Nat → Nat → Fin 101) : Prop := (∀ j, j < 8 → P j = true → ro j < 8 ∧ R (ro j) = true ∧ ∀ r, r < 8 → R r = true → M r j = if r = ro j then 1 else 0) ∧ ∀ i j, i < 8 → j < 8 → P i = true → P j = true → ro i = ro j → i = j
theorem md_un_pv {R P : Nat → Bool} {ro : Nat → Nat} {N p k : Nat} {M M' : Nat → Nat → Fin 101} (hN : 8 ≤ N) (hk : k < 8) (hp : p < 8) (hR : R p = true) (hu : md_un R P ro M) (hq : ∀ j, j < 8 → P j = true → ro j ≠ p) (h : md_pv R N p k M M') : md_un R (fun j => P j || (j == k)) (fun j => if j = k then p else ro j) M' := by
  obtain ⟨⟨f, hf, h1⟩, h2⟩ := h
  have hpk : M' p k = 1 := by rw [h1 k (by omega)]; exact hf
  refine ⟨fun j hj hP => ?_, fun i j hi hj hi2 hj2 e => ?_⟩
  · by_cases e : j = k
    · rw [e]
      simp only [↓reduceIte]
      refine ⟨hp, hR, fun r hr hR2 => ?_⟩
      by_cases e2 : r = p
      · rw [if_pos e2, e2]; exact hpk
      · rw [if_neg e2, h2 r hr hR2 e2 k (by omega), hpk]; exact md_ra _
    · have hPj : P j = true := by simpa [e] using hP
      obtain ⟨a, b, c⟩ := hu.1 j hj hPj
      have hpj : M p j = 0 := by
        rw [c p hp hR, if_neg (fun h => hq j hj hPj h.symm)]
      have hpj' : M' p j = 0 := by rw [h1 j (by omega), hpj]; exact md_r6 _
      simp only [if_neg e]
      refine ⟨a, b, fun r hr hR2 => ?_⟩
      by_cases e2 : r = p
      · rw [e2, hpj', if_neg (fun h => hq j hj hPj h.symm)]
      · rw [h2 r hr hR2 e2 j (by omega), hpj', md_r9]; exact c r hr hR2
  · dsimp only at e
    by_cases e1 : i = k
    · by_cases e2 : j = k
      · omega
      · have hPj : P j = true := by simpa [e2] using hj2
        rw [if_pos e1, if_neg e2] at e
        exact absurd e.symm (hq j hj hPj)
    · have hPi : P i = true := by simpa [e1] using hi2
      by_cases e2 : j = k
      · rw [if_neg e1, if_pos e2] at e
        exact absurd e (hq i hi hPi)
      · have hPj : P j = true := by simpa [e2] using hj2
        rw [if_neg e1, if_neg e2] at e
        exact hu.2 i j hi hj hPi hPj e
theorem md_un_fail {R P : Nat → Bool} {ro : Nat → Nat} {N v : Nat} {M : Nat → Nat → Fin 101} (hN : 8 ≤ N) (hP8 : ∀ j, P j = true → j < 8) (hu : md_un R P ro M) (hv : v < N) (hPv : P v = false) (hz : ∀ r, r < 8 → R r = true → (∀ j, j < 8 → P j = true → ro j ≠ r) → M r v = 0) : md_ke R N M (fun c => if c = v then 1 else if P c = true then -(M (ro c) v) else 0) := by
  intro r hr hR
  by_cases hx : ∃ j, j < 8 ∧ P j = true ∧ ro j = r
  · obtain ⟨j, hj, hPj, hro⟩ := hx
    have hjv : j ≠ v := fun e => by rw [e, hPv] at hPj; simp at hPj
    rw [md_sm_two (k := v) (l := j) hv (by omega) (fun e => hjv e.symm) (fun i hi h1 h2 => ?_)]
    · dsimp only
      rw [if_pos rfl, if_neg hjv, if_pos hPj, hro]
      have : M r j = 1 := by rw [(hu.1 j hj hPj).2.2 r hr hR, if_pos hro.symm]
      rw [this]
      exact md_rb _
    · dsimp only
      rw [if_neg h1]
      by_cases hPi : P i = true
      · rw [if_pos hPi]
        have hne : ¬ r = ro i := fun e => h2 (hu.2 i j (hP8 i hPi) hj hPi hPj (by rw [← e, hro]))
        rw [(hu.1 i (hP8 i hPi) hPi).2.2 r hr hR, if_neg hne]
        exact md_r7 _
      · rw [if_neg hPi]; exact md_r6 _
  · have hno : ∀ j, j < 8 → P j = true → ro j ≠ r := fun j hj hPj e => hx ⟨j, hj, hPj, e⟩
    refine md_sm_z (fun i hi => ?_)
    dsimp only
    by_cases e : i = v
    · rw [if_pos e, e, hz r hr hR hno]; exact md_r7 _
    · rw [if_neg e]
      by_cases hPi : P i = true
      · have hne : ¬ r = ro i := fun e => hno i (hP8 i hPi) hPi e.symm
        rw [(hu.1 i (hP8 i hPi) hPi).2.2 r hr hR, if_neg hne]
        exact md_r7 _
      · rw [if_neg hPi]; exact md_r6 _
theorem md_un_row {R P : Nat → Bool} {ro : Nat → Nat} {N : Nat} {M : Nat → Nat → Fin 101} (hN : 8 ≤ N) (hP8 : ∀ j, P j = true → j < 8) (hu : md_un R P ro M) {y : Nat → Fin 101} (hy : ∀ c, c < N → P c = false → y c = 0) {j : Nat} (hj : j < 8) (hPj : P j = true) : md_sm N (fun c => M (ro j) c * y c) = y j := by
  obtain ⟨a, b, c⟩ := hu.1 j hj hPj
  rw [md_sm_one (k := j) (by omega) (fun i hi hne => ?_)]
  · rw [c (ro j) a b, if_pos rfl]; exact md_rc _
  · cases hPi : P i with
    | true =>
      have hne2 : ¬ ro j = ro i := fun e => hne (hu.2 i j (hP8 i hPi) hj hPi hPj e.symm)
      rw [(hu.1 i (hP8 i hPi) hPi).2.2 (ro j) a b, if_neg hne2]; exact md_r7 _
    | false => rw [hy i hi hPi]; exact md_r6 _
theorem md_un_ok {R P : Nat → Bool} {ro : Nat → Nat} {N : Nat} {M : Nat → Nat → Fin 101} (hN : 8 ≤ N) (hP8 : ∀ j, P j = true → j < 8) (hu : md_un R P ro M) {y : Nat → Fin 101} (hy : ∀ c, c < N → P c = false → y c = 0) (hk : md_ke R N M y) : ∀ j, j < 8 → P j = true → y j = 0 := by
  intro j hj hPj
  obtain ⟨a, b, _⟩ := hu.1 j hj hPj
  rw [← md_un_row hN hP8 hu hy hj hPj]
  exact hk (ro j) a b
def md_ns (A : Nat → Nat → Fin 101) (R P : Nat → Bool) : Prop := ∀ y : Nat → Fin 101, (∀ c, c < 8 → P c = false → y c = 0) → md_ke R 8 A y → ∀ c, c < 8 → y c = 0
def md_cb (A G : Nat → Nat → Fin 101) : Prop := ∀ e c, e < 8 → c < 8 → G e c = md_sm 8 (fun f => G e (8 + f) * A f c)
theorem md_cb_pv {A G G' : Nat → Nat → Fin 101} {p k : Nat} (hp : p < 8) (h : md_cb A G) (hv : md_pv (fun _ => true) 16 p k G G') : md_cb A G' := by
  obtain ⟨⟨f, hf, h1⟩, h2⟩ := hv
  have hpc : ∀ c, c < 8 → G' p c = md_sm 8 (fun f => G' p (8 + f) * A f c) := by
    intro c hc
    rw [h1 c (by omega), h p c hp hc, ← md_sm_sc]
    exact md_sm_cg (fun i hi => by rw [h1 (8 + i) (by omega)])
  intro e c he hc
  by_cases e1 : e = p
  · rw [e1]; exact hpc c hc
  · rw [h2 e he rfl e1 c (by omega), h e c he hc, hpc c hc, ← md_sm_cl]
    exact md_sm_cg (fun i hi => by rw [h2 e he rfl e1 (8 + i) (by omega)])
def md_sp (R : Nat → Bool) (G : Nat → Nat → Fin 101) : Prop := ∀ e f, e < 8 → f < 8 → R e = true → R f = false → G e (8 + f) = 0
theorem md_sp_pv {R : Nat → Bool} {G G' : Nat → Nat → Fin 101} {p k : Nat} (hp : p < 8) (hR : R p = true) (h : md_sp R G) (hv : md_pv (fun _ => true) 16 p k G G') : md_sp R G' := by
  obtain ⟨⟨f, hf, h1⟩, h2⟩ := hv
  have hpc : ∀ c, c < 8 → R c = false → G' p (8 + c) = 0 := by
    intro c hc hRc
    rw [h1 (8 + c) (by omega), h p c hp hc hR hRc]; exact md_r6 _
  intro e c he hc hRe hRc
  by_cases e1 : e = p
  · rw [e1]; exact hpc c hc hRc
  · rw [h2 e he rfl e1 (8 + c) (by omega), h e c he hc hRe hRc, hpc c hc hRc]; exact md_r9 _ _
theorem md_sol {A G : Nat → Nat → Fin 101} {R P : Nat → Bool} {ro : Nat → Nat} (hP8 : ∀ j, P j = true → j < 8) (hu : md_un R P ro G) (hc : md_cb A G) (hs : md_sp R G) {x b : Nat → Fin 101} (hx : ∀ c, c < 8 → P c = false → x c = 0) (hb : ∀ f, f < 8 → R f = true → md_sm 8 (fun c => A f c * x c) = b f) {v : Nat} (hv : v < 8) (hPv : P v = true) : x v = md_sm 8 (fun f => if R f = true then G (ro v) (8 + f) * b f else 0) := by
  obtain ⟨a1, a2, _⟩ := hu.1 v hv hPv
  rw [← md_un_row (N := 8) (Nat.le_refl 8) hP8 hu hx hv hPv]
  have e1 : md_sm 8 (fun c => G (ro v) c * x c) = md_sm 8 (fun c => md_sm 8 (fun f => G (ro v) (8 + f) * (A f c * x c))) := md_sm_cg (fun c hcc => by
    rw [hc (ro v) c a1 hcc, md_rh, ← md_sm_mul]
    exact md_sm_cg (fun f _ => by rw [md_rh, md_re]))
  rw [e1, md_sm_swap (fun c f => G (ro v) (8 + f) * (A f c * x c)) 8 8]
  refine md_sm_cg (fun f hf => ?_)
  rw [md_sm_mul]
  cases hR : R f with
  | true => rw [if_pos rfl, hb f hf hR]
  | false => rw [if_neg (by simp), hs (ro v) f a1 hf a2 hR]; exact md_r7 _
theorem md_rk_sur (V : Nat → Bool) : ∀ n r, r < md_ct n V → ∃ v, v < n ∧ V v = true ∧ md_ct v V = r := by
  intro n
  induction n with
  | zero => intro r h; exact absurd h (Nat.not_lt_zero r)
  | succ n ih =>
    intro r h
    have h' : r < md_ct n V + (V n).toNat := h
    by_cases h1 : r < md_ct n V
    · obtain ⟨v, a, b, c⟩ := ih r h1
      exact ⟨v, by omega, b, c⟩
    · cases hV : V n with
      | true =>
        rw [hV] at h'
        have h2 : r < md_ct n V + 1 := h'
        exact ⟨n, by omega, hV, by omega⟩
      | false =>
        rw [hV] at h'
        exact absurd h' h1
theorem md_rk_mono (V : Nat → Bool) {v : Nat} : ∀ n, v ≤ n → md_ct v V ≤ md_ct n V := by
  intro n
  induction n with
  | zero => intro h; rw [show v = 0 by omega]; exact Nat.le_refl _
  | succ n ih =>
    intro h
    by_cases e : v = n + 1
    · rw [e]; exact Nat.le_refl _
    · have := ih (by omega)
      show _ ≤ md_ct n V + (V n).toNat
      omega
theorem md_rk_lt (V : Nat → Bool) {v n : Nat} (h : v < n) (hV : V v = true) : md_ct v V < md_ct n V := by
  have h1 := md_rk_mono V (v := v + 1) n (by omega)
  have h2 : md_ct (v + 1) V = md_ct v V + 1 := by
    show md_ct v V + (V v).toNat = _
    rw [hV]; rfl
  omega
theorem md_rk_inj (V : Nat → Bool) {v w : Nat} (hv : V v = true) (hw : V w = true) (h : md_ct v V = md_ct w V) : v = w := by
  by_cases h1 : v < w
  · have := md_rk_lt V h1 hv; omega
  · by_cases h2 : w < v
    · have := md_rk_lt V h2 hw; omega
    · omega
