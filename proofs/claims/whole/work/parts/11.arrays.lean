def md_up (g : Nat → Nat) (k x : Nat) : Nat → Nat := fun j => if j = k then x else g j
theorem md_upd (g : Nat → Nat) (k x : Nat) : upd (fun j => nI (g j)) k (nI x) = fun j => nI (md_up g k x j) := by
  funext j
  show (if j = k then nI x else nI (g j)) = nI (if j = k then x else g j)
  split <;> rfl
theorem md_up_s {g : Nat → Nat} {k x : Nat} : md_up g k x k = x := if_pos rfl
theorem md_up_n {g : Nat → Nat} {k x j : Nat} (h : j ≠ k) : md_up g k x j = g j := if_neg h
def md_ro (b k : Nat) (h g : Nat → Nat) : Nat → Nat := fun j => if b ≤ j ∧ j < b + k then h (j - b) else g j
theorem md_ro_0 (b : Nat) (h g : Nat → Nat) : md_ro b 0 h g = g := by
  funext j
  exact if_neg (by omega)
theorem md_ro_s (b k : Nat) (h g : Nat → Nat) : md_up (md_ro b k h g) (b + k) (h k) = md_ro b (k + 1) h g := by
  funext j
  show (if j = b + k then h k else if b ≤ j ∧ j < b + k then h (j - b) else g j) = if b ≤ j ∧ j < b + (k + 1) then h (j - b) else g j
  by_cases e : j = b + k
  · rw [if_pos e, if_pos (by omega), e, Nat.add_sub_cancel_left]
  · rw [if_neg e]
    by_cases e2 : b ≤ j ∧ j < b + k
    · rw [if_pos e2, if_pos (by omega)]
    · rw [if_neg e2, if_neg (by omega)]
theorem md_ro_in {b k : Nat} {h g : Nat → Nat} {i : Nat} (hi : i < k) : md_ro b k h g (b + i) = h i := by
  show (if b ≤ b + i ∧ b + i < b + k then h (b + i - b) else g (b + i)) = h i
  rw [if_pos (by omega), Nat.add_sub_cancel_left]
theorem md_ro_out {b k : Nat} {h g : Nat → Nat} {j : Nat} (hj : ¬ (b ≤ j ∧ j < b + k)) : md_ro b k h g j = g j := if_neg hj
theorem md_pv_X {g g1 g2 : Nat → Nat} {row v f : Nat} (hrow : row < 8) (hv : v < 8) (hf : md_q f * md_q (g (row * 16 + v)) = 1) (hb : ∀ e, e < 8 → g (e * 16 + v) < 101) (h1 : ∀ c, c < 16 → g1 (row * 16 + c) = g (row * 16 + c) * f % 101) (h1' : ∀ e, e < 8 → e ≠ row → ∀ c, c < 16 → g1 (e * 16 + c) = g (e * 16 + c)) (h2 : ∀ c, c < 16 → g2 (row * 16 + c) = g1 (row * 16 + c)) (h2' : ∀ e, e < 8 → e ≠ row → ∀ c, c < 16 → g2 (e * 16 + c) = (g1 (e * 16 + c) + (101 - g1 (e * 16 + v)) * g1 (row * 16 + c)) % 101) : md_pv (fun _ => true) 16 row v (fun e c => md_q (g (e * 16 + c))) (fun e c => md_q (g2 (e * 16 + c))) := by
  refine ⟨⟨md_q f, hf, fun c hc => ?_⟩, fun e he _ hne c hc => ?_⟩
  · dsimp only
    rw [h2 c hc, h1 c hc, md_q_mod, md_q_mul]
    exact md_rh _ _
  · dsimp only
    have hb' := hb e he
    rw [h2' e he hne c hc, md_q_mod, md_q_add, md_q_mul, h1' e he hne c hc, h1' e he hne v (by omega), md_q_neg (by omega), h2 c hc]
    grind
theorem md_pv_Y {g g1 g2 : Nat → Nat} {n k f : Nat} (hk : k < n) (hn : n ≤ 8) (hf : md_q f * md_q (g (9 * k + k)) = 1) (hb : ∀ j, g1 j < 101) (h1 : ∀ c, c < 9 → g1 (9 * k + c) = g (9 * k + c) * f % 101) (h1' : ∀ r, r < n → r ≠ k → ∀ c, c < 9 → g1 (9 * r + c) = g (9 * r + c)) (h2 : ∀ c, c < 9 → g2 (9 * k + c) = g1 (9 * k + c)) (h2' : ∀ r, r < n → r ≠ k → ∀ c, c < 9 → g2 (9 * r + c) = (g1 (9 * r + c) + g1 (9 * r + k) * (101 - g1 (9 * k + c))) % 101) : md_pv (md_lt n) 9 k k (fun r c => md_q (g (9 * r + c))) (fun r c => md_q (g2 (9 * r + c))) := by
  refine ⟨⟨md_q f, hf, fun c hc => ?_⟩, fun r hr hR hne c hc => ?_⟩
  · dsimp only
    rw [h2 c hc, h1 c hc, md_q_mod, md_q_mul]
    exact md_rh _ _
  · dsimp only
    have hrn : r < n := by simpa [md_lt] using hR
    have hb' := hb (9 * k + c)
    rw [h2' r hrn hne c hc, md_q_mod, md_q_add, md_q_mul, h1' r hrn hne c hc, h1' r hrn hne k (by omega), md_q_neg (by omega), h2 c hc]
    grind
def md_fv (a : Nat) : Nat → Nat → Nat
  | 0, _ => 0
  | f + 1, i => if a * i % 101 = 1 then i else md_fv a f (i + 1)
def md_iv (a : Nat) : Nat := md_fv a 100 1
theorem md_iv_ok : ∀ a, a < 101 → a ≠ 0 → md_iv a < 101 ∧ a * md_iv a % 101 = 1 ∧ 1 ≤ md_iv a ∧ ∀ i, i < md_iv a → a * i % 101 ≠ 1 := by decide +kernel
theorem md_iv_q {a : Nat} (h : a < 101) (h0 : a ≠ 0) : md_q (md_iv a) * md_q a = 1 := by
  have h1 := (md_iv_ok a h h0).2.1
  rw [← md_q_mul, Nat.mul_comm, ← md_q_mod, h1]; rfl
