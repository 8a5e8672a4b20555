/-! ===== storms ===== -/
def m_bt (m o : Nat) : Nat := m / 2 ^ o % 2
theorem m_bt_lt (m o : Nat) : m_bt m o < 2 := Nat.mod_lt _ (by decide)
set_option maxRecDepth 20000 in
theorem q_bt : ∀ m, m < 64 → ∀ o, o < 6 → ((nI m >>> (nI o &&& 31)) &&& 1) = nI (m_bt m o) := by decide +kernel
theorem q_mx : ∀ s, s < 10 → ∀ b, b < 2 → z_max 0 (nI s - nI b) = nI (s - b) ∧ s_Mod_larger 0 (nI s - nI b) = nI (s - b) := by decide +kernel
theorem q_has (m o : Int32) : s_Mod_has m o = if ((m >>> (o &&& 31)) &&& 1) = 1 then 1 else 0 := rfl
def m_wf (w m o : Nat) : Nat := if m_bt m o = 1 then w else 10 - w
def m_wt (w m : Nat) : Nat → Nat
  | 0 => 1
  | o + 1 => m_wt w m o * m_wf w m o
def m_rs (A : m_A) (m o : Nat) : Nat := a_rs A o - m_bt m o
def m_end (A : m_A) (i m : Nat) : Nat × Nat × Nat := m_it (a_L A) (a_K A) (a_rt A) (m_rs A m) i (a_n A)
def m_hit (A : m_A) (i a b m : Nat) : Bool := decide ((m_end A i m).1 = a ∧ (m_end A i m).2.1 = b)
def m_sS (A : m_A) (i a b w : Nat) : Nat → Nat
  | 0 => 0
  | m + 1 => m_sS A i a b w m + (if m_hit A i a b m = true then m_wt w m (a_n A) else 0)
def m_sT (n w : Nat) : Nat → Nat
  | 0 => 0
  | m + 1 => m_sT n w m + m_wt w m n
theorem m_sS_le (A : m_A) (i a b w : Nat) : ∀ m, m_sS A i a b w m ≤ m_sT (a_n A) w m
  | 0 => Nat.le_refl 0
  | m + 1 => by
    have := m_sS_le A i a b w m
    unfold m_sS m_sT
    by_cases h : m_hit A i a b m = true
    · rw [if_pos h]; omega
    · rw [if_neg h]; omega
set_option maxRecDepth 20000 in
theorem m_sT_all : ∀ n, n < 7 → ∀ w, w < 11 → m_sT n w (2 ^ n) = 10 ^ n := by decide +kernel
/-! the greatest common divisor -/
theorem g_cd {a b : Nat} : ∀ (k fuel c : Nat), b < 2 ^ k → b < a → a < 2147483648 → c + 2 * k + 2 ≤ 64 → 2 * k + 2 < fuel → s_Top_sharedDivisor_L7 fuel (nI a) (nI b) (nI c) = some (z_max 1 (nI (Nat.gcd a b))) := by
  intro k
  induction k generalizing a b with
  | zero =>
    intro fuel c hb hab ha hc hf
    obtain ⟨f, rfl⟩ : ∃ f, fuel = f + 1 := ⟨fuel - 1, by omega⟩
    have : b = 0 := by have : (2 : Nat) ^ 0 = 1 := rfl; omega
    subst this
    rw [s_Top_sharedDivisor_L7, if_neg (by rw [show (64 : Int32) = nI 64 from rfl, q_le (by omega) (by omega)]; omega), if_pos (show nI 0 ≤ 0 by decide), Nat.gcd_zero_right]
    rfl
  | succ k ih =>
    intro fuel c hb hab ha hc hf
    obtain ⟨f, rfl⟩ : ∃ f, fuel = f + 2 := ⟨fuel - 2, by omega⟩
    rw [s_Top_sharedDivisor_L7, if_neg (by rw [show (64 : Int32) = nI 64 from rfl, q_le (by omega) (by omega)]; omega)]
    by_cases h0 : b = 0
    · subst h0
      rw [if_pos (show nI 0 ≤ 0 by decide), Nat.gcd_zero_right]
      rfl
    · have hb0 : ¬ nI b ≤ 0 := fun e => by
        have := (q_le (a := b) (b := 0) (by omega) (by decide)).mp e
        omega
      have hbn : ¬ nI b = 0 := fun e => h0 (q_inj (b := 0) (by omega) (by decide) e)
      rw [if_neg hb0, q_ckt (decide_eq_true hbn), q_rem (by omega) (by omega) (by omega), show nI c + 1 = nI (c + 1) from nI_1 c]
      have h1 : a % b < b := Nat.mod_lt _ (by omega)
      rw [s_Top_sharedDivisor_L7, if_neg (by rw [show (64 : Int32) = nI 64 from rfl, q_le (by omega) (by omega)]; omega)]
      have eg : Nat.gcd a b = Nat.gcd b (a % b) := by rw [Nat.gcd_comm a b, Nat.gcd_rec b a, Nat.gcd_comm]
      by_cases h2 : a % b = 0
      · rw [h2] at eg ⊢
        rw [if_pos (show nI 0 ≤ 0 by decide), eg, Nat.gcd_zero_right]
        rfl
      · have hc0 : ¬ nI (a % b) ≤ 0 := fun e => by
          have := (q_le (a := a % b) (b := 0) (by omega) (by decide)).mp e
          omega
        have hcn : ¬ nI (a % b) = 0 := fun e => h2 (q_inj (b := 0) (by omega) (by decide) e)
        rw [if_neg hc0, q_ckt (decide_eq_true hcn), q_rem (by omega) (by omega) (by omega), show nI (c + 1) + 1 = nI (c + 2) from nI_1 (c + 1)]
        have h3 : b % (a % b) < a % b := Nat.mod_lt _ (by omega)
        have h4 : b % (a % b) + (a % b) ≤ b := by
          have h5 := Nat.div_add_mod b (a % b)
          have h6 : 1 ≤ b / (a % b) := by
            rw [Nat.le_div_iff_mul_le (by omega)]; omega
          have h7 : a % b * 1 ≤ a % b * (b / (a % b)) := Nat.mul_le_mul_left _ h6
          omega
        have hp : (2 : Nat) ^ (k + 1) = 2 * 2 ^ k := by rw [Nat.pow_succ]; omega
        have eg2 : Nat.gcd b (a % b) = Nat.gcd (a % b) (b % (a % b)) := by rw [Nat.gcd_comm b (a % b), Nat.gcd_rec (a % b) b, Nat.gcd_comm]
        rw [ih (a := a % b) (b := b % (a % b)) f (c + 2) (by omega) h3 (by omega) (by omega) (by omega), eg, eg2]
theorem g_cdM {a b : Nat} {x5 x6 x7 : Int32} {g : z_G} : ∀ (k fuel : Nat), b < 2 ^ k → b < a → a < 2147483648 → 2 * k + 2 < fuel → s_Mod_storms_L222 fuel x5 x6 x7 (nI a) (nI b) g = some ((if x5 = 0 then x6 / nI (Nat.gcd a b) else x7 / nI (Nat.gcd a b)), g) := by
  intro k
  have fin : ∀ (a f : Nat), 0 < a → a < 2147483648 → s_Mod_storms_L222 (f + 1) x5 x6 x7 (nI a) (nI 0) g = some ((if x5 = 0 then x6 / nI a else x7 / nI a), g) := by
    intro a f h0 ha
    have hn : ¬ nI a = 0 := fun e => by have := q_inj (b := 0) (by omega) (by decide) e; omega
    rw [s_Mod_storms_L222, if_pos (show nI 0 = 0 from rfl), q_ckt (decide_eq_true hn), q_ckt (decide_eq_true hn)]
    by_cases h5 : x5 = 0
    · rw [if_pos h5, if_pos h5]
    · rw [if_neg h5, if_neg h5]
  induction k generalizing a b with
  | zero =>
    intro fuel hb hab ha hf
    obtain ⟨f, rfl⟩ : ∃ f, fuel = f + 1 := ⟨fuel - 1, by omega⟩
    have : b = 0 := by have : (2 : Nat) ^ 0 = 1 := rfl; omega
    subst this
    rw [fin a f (by omega) ha, Nat.gcd_zero_right]
  | succ k ih =>
    intro fuel hb hab ha hf
    obtain ⟨f, rfl⟩ : ∃ f, fuel = f + 2 := ⟨fuel - 2, by omega⟩
    by_cases h0 : b = 0
    · subst h0
      rw [fin a (f + 1) (by omega) ha, Nat.gcd_zero_right]
    · have hbn : ¬ nI b = 0 := fun e => h0 (q_inj (b := 0) (by omega) (by decide) e)
      rw [s_Mod_storms_L222, if_neg hbn, q_ckt (decide_eq_true hbn), q_rem (by omega) (by omega) (by omega)]
      have h1 : a % b < b := Nat.mod_lt _ (by omega)
      have eg : Nat.gcd a b = Nat.gcd b (a % b) := by rw [Nat.gcd_comm a b, Nat.gcd_rec b a, Nat.gcd_comm]
      by_cases h2 : a % b = 0
      · rw [h2] at eg ⊢
        rw [fin b f (by omega) (by omega), eg, Nat.gcd_zero_right]
      · have hcn : ¬ nI (a % b) = 0 := fun e => h2 (q_inj (b := 0) (by omega) (by decide) e)
        rw [s_Mod_storms_L222, if_neg hcn, q_ckt (decide_eq_true hcn), q_rem (by omega) (by omega) (by omega)]
        have h3 : b % (a % b) < a % b := Nat.mod_lt _ (by omega)
        have h4 : b % (a % b) + (a % b) ≤ b := by
          have h5 := Nat.div_add_mod b (a % b)
          have h6 : 1 ≤ b / (a % b) := by
            rw [Nat.le_div_iff_mul_le (by omega)]; omega
          have h7 : a % b * 1 ≤ a % b * (b / (a % b)) := Nat.mul_le_mul_left _ h6
          omega
        have hp : (2 : Nat) ^ (k + 1) = 2 * 2 ^ k := by rw [Nat.pow_succ]; omega
        have eg2 : Nat.gcd b (a % b) = Nat.gcd (a % b) (b % (a % b)) := by rw [Nat.gcd_comm b (a % b), Nat.gcd_rec (a % b) b, Nat.gcd_comm]
        rw [ih (a := a % b) (b := b % (a % b)) f (by omega) h3 (by omega) (by omega), eg, eg2]
