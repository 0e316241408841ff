def md_sn : Nat → (Nat → Nat) → Nat
  | 0, _ => 0
  | n + 1, f => md_sn n f + f n
theorem md_sn_cg {f g : Nat → Nat} : ∀ {n}, (∀ i, i < n → f i = g i) → md_sn n f = md_sn n g := by
  intro n
  induction n with
  | zero => intro _; rfl
  | succ n ih =>
    intro h
    show md_sn n f + f n = md_sn n g + g n
    rw [ih (fun i hi => h i (by omega)), h n (by omega)]
theorem md_sn_le {f : Nat → Nat} {c : Nat} : ∀ {n}, (∀ i, i < n → f i ≤ c) → md_sn n f ≤ n * c := by
  intro n
  induction n with
  | zero => intro _; exact Nat.zero_le _
  | succ n ih =>
    intro h
    have h1 := ih (fun i hi => h i (by omega))
    have h2 := h n (by omega)
    show md_sn n f + f n ≤ (n + 1) * c
    rw [Nat.succ_mul]
    omega
theorem md_sn_q (f : Nat → Nat) : ∀ n, md_q (md_sn n f) = md_sm n (fun i => md_q (f i)) := by
  intro n
  induction n with
  | zero => rfl
  | succ n ih =>
    show md_q (md_sn n f + f n) = md_sm n (fun i => md_q (f i)) + md_q (f n)
    rw [md_q_add, ih]
theorem md_neg_md {x : Int32} {N : Nat} (h : x.toInt = -(N : Int)) : md_q (md_md x) = -md_q N := by
  obtain ⟨n, h1, h2, h3⟩ := md_mod_nn x
  have h4 : md_md x = n := h3
  rw [h4]
  rw [h] at h2
  have h5 : (n + N) % 101 = 0 := by omega
  have h6 : md_q n + md_q N = 0 := by
    rw [← md_q_add, ← md_q_mod, h5]; rfl
  grind
theorem md_pos_md {N : Nat} (h : N < 2 ^ 31) : md_md (nI N) = N % 101 := by
  unfold md_md
  rw [nI_toInt h]
  omega
theorem md_neg_ti {N : Nat} (h : N < 2 ^ 30) : (0 - nI N).toInt = -(N : Int) := by
  have := pk_sub_toInt (a := 0) (b := N) (by decide) h
  rw [nI_0] at this
  rw [this]
  omega
theorem md_neg_ti2 {N : Nat} (h : N < 2 ^ 30) : (-nI N).toInt = -(N : Int) := by
  rw [← md_neg_ti h]
  congr 1
  try grind
theorem md_sub_acc (N p : Nat) : (0 - nI N) - nI p = 0 - nI (N + p) := by
  rw [← nI_add]
  grind
def md_os (kd cf ol co gv : Nat → Nat) (e : Nat) : Nat := co e + md_sn 8 (fun v => (if kd v = 2 then cf (e * 8 + v) * gv v else 0) + (if kd v = 3 then ol (e * 8 + v) * gv v else 0))
theorem md_mul100 {a b : Nat} (ha : a < 101) (hb : b < 101) : a * b ≤ 10000 := Nat.le_trans (Nat.mul_le_mul (by omega : a ≤ 100) (by omega : b ≤ 100)) (by decide)
theorem md_value {K G M : Nat → Nat → Fin 101} {E V : Nat → Bool} {ro : Nat → Nat} {rs : Nat → Nat} (hV8 : ∀ j, V j = true → j < 8) (hu : md_un E V ro G) (hc : md_cb K G) (hs : md_sp E G) {b : Nat → Fin 101} (hY : ∀ e, e < 8 → E e = true → md_sm 8 (fun v => K e v * (if V v = true then M (md_ct v V) 8 else 0)) = b e) (hb : ∀ e, e < 8 → E e = true → b e = -md_q (rs e)) {v : Nat} (hv : v < 8) (hVv : V v = true) {N : Nat} (hN : md_q N = md_sm 8 (fun f => if E f = true then G (ro v) (8 + f) * md_q (rs f) else 0)) : M (md_ct v V) 8 = -md_q N := by
  have h1 := md_sol hV8 hu hc hs (x := fun v => if V v = true then M (md_ct v V) 8 else 0) (fun c _ hP => by
    rw [if_neg (by simp [hP])]) hY hv hVv
  rw [if_pos hVv] at h1
  rw [h1, hN]
  have h2 : -md_sm 8 (fun f => if E f = true then G (ro v) (8 + f) * md_q (rs f) else 0) = (-1) * md_sm 8 (fun f => if E f = true then G (ro v) (8 + f) * md_q (rs f) else 0) := by grind
  rw [h2, ← md_sm_mul]
  refine md_sm_cg (fun f hf => ?_)
  by_cases hE : E f = true
  · rw [if_pos hE, if_pos hE, hb f hf hE]; grind
  · rw [if_neg hE, if_neg hE]; grind
