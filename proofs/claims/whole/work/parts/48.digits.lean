/-! NUMBERS IN DIGITS: g 0 is the first (the greatest) of n digits -/
def dg (b : Nat) (g : Nat → Nat) : Nat → Nat
  | 0 => 0
  | n + 1 => b * dg b g n + g n
theorem dg_lt {b : Nat} {g : Nat → Nat} : ∀ {n : Nat}, (∀ i, i < n → g i < b) → dg b g n < b ^ n
  | 0, _ => by simp [dg]
  | n + 1, h => by
    have h1 := dg_lt (n := n) (fun i hi => h i (by omega))
    have h2 := h n (by omega)
    show b * dg b g n + g n < b ^ (n + 1)
    rw [Nat.pow_succ, Nat.mul_comm (b ^ n) b]
    have h3 : b * (dg b g n + 1) ≤ b * b ^ n := Nat.mul_le_mul_left b h1
    rw [Nat.mul_add] at h3
    omega
theorem dg_div {b : Nat} {g : Nat → Nat} : ∀ (k m : Nat), (∀ i, i < m + k → g i < b) → dg b g (m + k) / b ^ k = dg b g m
  | 0, m, _ => by simp
  | k + 1, m, h => by
    have hb : 0 < b := Nat.lt_of_le_of_lt (Nat.zero_le _) (h m (by omega))
    have h2 := h (m + k) (by omega)
    show (b * dg b g (m + k) + g (m + k)) / b ^ (k + 1) = dg b g m
    rw [Nat.pow_succ, Nat.mul_comm (b ^ k) b, ← Nat.div_div_eq_div_mul, Nat.mul_add_div hb, Nat.div_eq_of_lt h2, Nat.add_zero]
    exact dg_div k m (fun i hi => h i (by omega))
theorem dg_mod {b : Nat} {g : Nat → Nat} {m : Nat} (h : g m < b) : dg b g (m + 1) % b = g m := by
  show (b * dg b g m + g m) % b = g m
  rw [Nat.mul_add_mod, Nat.mod_eq_of_lt h]
theorem dg_at {b : Nat} {g : Nat → Nat} {n p : Nat} (h : ∀ i, i < n → g i < b) (hp : p < n) : dg b g n / b ^ (n - 1 - p) % b = g p := by
  have e : n = (p + 1) + (n - 1 - p) := by omega
  have h1 := dg_div (b := b) (g := g) (n - 1 - p) (p + 1) (by rw [← e]; exact h)
  rw [← e] at h1
  rw [h1]
  exact dg_mod (h p hp)
theorem dg_congr {b : Nat} {f g : Nat → Nat} : ∀ {n : Nat}, (∀ i, i < n → f i = g i) → dg b f n = dg b g n
  | 0, _ => rfl
  | n + 1, h => by
    show b * dg b f n + f n = b * dg b g n + g n
    rw [dg_congr (n := n) (fun i hi => h i (by omega)), h n (by omega)]
theorem dg_inj {b : Nat} {f g : Nat → Nat} {n : Nat} (hf : ∀ i, i < n → f i < b) (hg : ∀ i, i < n → g i < b) (h : dg b f n = dg b g n) : ∀ i, i < n → f i = g i := by
  intro i hi
  rw [← dg_at hf hi, ← dg_at hg hi, h]
/-- every number below b^n is told by its digits -/
theorem dg_of {b : Nat} (hb : 0 < b) (v : Nat) : ∀ (n : Nat), v < b ^ n → dg b (fun p => v / b ^ (n - 1 - p) % b) n = v := by
  intro n
  have key : ∀ m, m ≤ n → v < b ^ n → dg b (fun p => v / b ^ (n - 1 - p) % b) m = v / b ^ (n - m) := by
    intro m
    induction m with
    | zero =>
      intro _ hv
      rw [Nat.sub_zero, Nat.div_eq_of_lt hv]
      rfl
    | succ m ih =>
      intro hm hv
      show b * dg b (fun p => v / b ^ (n - 1 - p) % b) m + v / b ^ (n - 1 - m) % b = _
      rw [ih (by omega) hv, show n - m = (n - 1 - m) + 1 by omega, Nat.pow_succ, ← Nat.div_div_eq_div_mul, show n - (m + 1) = n - 1 - m by omega]
      exact Nat.div_add_mod _ _
  intro hv
  rw [key n (Nat.le_refl n) hv, Nat.sub_self, Nat.pow_zero, Nat.div_one]
/-- a row of n bells (from 0) by its places -/
def IsRow (n : Nat) (f : Nat → Nat) : Prop := (∀ p, p < n → f p < n) ∧ ∀ p q, p < n → q < n → f p = f q → p = q
def pkN (n : Nat) (f : Nat → Nat) : Nat := dg 16 f n
def dcN (n : Nat) (f : Nat → Nat) : Nat := dg 10 (fun p => f p + 1) n
theorem pkN_lt {n : Nat} {f : Nat → Nat} (hn : n ≤ 8) (h : ∀ p, p < n → f p < n) : pkN n f < 2 ^ 31 := by
  unfold pkN
  rcases n with _ | n
  · show 0 < 2 ^ 31; decide
  · have h1 := dg_lt (b := 16) (g := f) (n := n + 1) (fun i hi => by have := h i hi; omega)
    have hx : dg 16 (fun p => f (p + 1)) n < 16 ^ n := dg_lt (fun i hi => by have := h (i + 1) (by omega); omega)
    have h2 : f 0 < 8 := by have := h 0 (by omega); omega
    have h3 : dg 16 f (n + 1) / 16 ^ n = f 0 := by
      have := dg_div (b := 16) (g := f) n 1 (fun i hi => by have := h i (by omega); omega)
      rw [Nat.add_comm 1 n] at this
      rw [this]
      show 16 * 0 + f 0 = f 0
      omega
    have h4 : dg 16 f (n + 1) < 8 * 16 ^ n := by
      have h5 : dg 16 f (n + 1) / 16 ^ n < 8 := by omega
      exact (Nat.div_lt_iff_lt_mul (Nat.pow_pos (by decide))).mp h5
    have h6 : 16 ^ n ≤ 16 ^ 7 := Nat.pow_le_pow_right (by decide) (by omega)
    have h7 : (16 : Nat) ^ 7 = 268435456 := by decide
    omega
theorem dcN_lt {n : Nat} {f : Nat → Nat} (hn : n ≤ 8) (h : ∀ p, p < n → f p < n) : dcN n f < 10 ^ n := dg_lt (fun i hi => by have := h i hi; omega)
