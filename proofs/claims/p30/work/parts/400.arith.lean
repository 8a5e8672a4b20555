/-! ===== the pure functions: small laws ===== -/
theorem q_lit (n : Nat) : (OfNat.ofNat n : Int32) = nI n := rfl
theorem q_inb {a n : Nat} (h : a < n) (hn : n ≤ 2147483648) : z_inb (nI a) n = true := by
  simp only [z_inb, nI_toInt (show a < 2 ^ 31 by omega), Bool.and_eq_true, decide_eq_true_eq]
  omega
theorem q_ck {α : Type} {x : Option α} {a n : Nat} (h : a < n) (hn : n ≤ 2147483648) : z_ck (z_inb (nI a) n) x = x := by
  rw [q_inb h hn]; rfl
theorem q_ckt {α : Type} {x : Option α} {b : Bool} (h : b = true) : z_ck b x = x := by subst h; rfl
theorem q_rd {g : z_G} {k a : Nat} (h : a < 2147483648) : z_rd g k (nI a) = g k a := by
  unfold z_rd; rw [nI_clamp (show a < 2 ^ 31 by omega)]
theorem q_wr {g : z_G} {k a : Nat} {v : Int32} (h : a < 2147483648) : z_wr g k (nI a) v = z_up g k a v := by
  unfold z_wr; rw [nI_clamp (show a < 2 ^ 31 by omega)]
theorem up_c {g : z_G} {k j a : Nat} {v : Int32} (h : a ≠ k) : z_up g k j v a = g a := by simp [z_up, va_up, h]
theorem up_s {g : z_G} {k j : Nat} {v : Int32} : z_up g k j v k j = v := by simp [z_up, va_up, upd]
theorem up_n {g : z_G} {k j b : Nat} {v : Int32} (h : b ≠ j) : z_up g k j v k b = g k b := by simp [z_up, va_up, upd, h]
theorem up_k {g : z_G} {k j : Nat} {v : Int32} : z_up g k j v k = upd (g k) j v := by simp [z_up, va_up]
theorem q_add (a b : Nat) : nI a + nI b = nI (a + b) := nI_add a b
theorem q_mul (a b : Nat) : nI a * nI b = nI (a * b) := pk_mul a b
theorem q_div {a d : Nat} (ha : a < 2147483648) (h0 : 0 < d) (hd : d < 2147483648) : nI a / nI d = nI (a / d) := pk_div (by omega) h0 (by omega)
theorem q_rem {a d : Nat} (ha : a < 2147483648) (h0 : 0 < d) (hd : d < 2147483648) : z_rem (nI a) (nI d) = nI (a % d) := pk_rem (by omega) h0 (by omega)
theorem q_sub {a b : Nat} (h : b ≤ a) : nI a - nI b = nI (a - b) := pk_sub h
theorem q_le {a b : Nat} (ha : a < 2147483648) (hb : b < 2147483648) : (nI a ≤ nI b) = (a ≤ b) := propext (nI_leI (by omega) (by omega))
theorem q_lt {a b : Nat} (ha : a < 2147483648) (hb : b < 2147483648) : (nI a < nI b) = (a < b) := propext (nI_ltI (by omega) (by omega))
theorem q_eq {a b : Nat} (ha : a < 2147483648) (hb : b < 2147483648) : (nI a = nI b) = (a = b) := propext (nI_eq (by omega) (by omega))
theorem q_inj {a b : Nat} (ha : a < 2147483648) (hb : b < 2147483648) (h : nI a = nI b) : a = b := (nI_eq (by omega) (by omega)).mp h
/-- a number of a call is one that is told, or not -/
theorem q_isW (x a b : Int32) : s_Top_isWithin x a b = if x < a ∨ b < x then 0 else 1 := by
  unfold s_Top_isWithin s_Top_isWithin_b14
  by_cases h1 : x < a
  · simp [h1]
  · by_cases h2 : b < x
    · simp [h1, h2]
    · simp [h1, h2]
theorem q_long_lt (x y : Int32) : (x.toInt64 < y.toInt64) = (x < y) := by
  apply propext
  rw [Int64.lt_iff_toInt_lt, Int32.lt_iff_toInt_lt, Int32.toInt_toInt64, Int32.toInt_toInt64]
theorem q_in (x a b : Int32) : s_Mod_in x.toInt64 a.toInt64 b.toInt64 = s_Top_isWithin x a b := by
  rw [q_isW]
  unfold s_Mod_in s_Mod_in_b17
  have e1 : (lg_cmp x.toInt64 a.toInt64 < 0) = (x < a) := by rw [propext (lg_cmp_lt _ _), q_long_lt]
  have e2 : ((0 : Int32) < lg_cmp x.toInt64 b.toInt64) = (b < x) := by rw [propext (lg_cmp_gt _ _), q_long_lt]
  simp only [e1, e2]
  by_cases h1 : x < a
  · simp [h1]
  · by_cases h2 : b < x
    · simp [h1, h2]
    · simp [h1, h2]
theorem q_w0 {x : Int32} {n : Nat} (hn : n < 2147483647) (h : s_Top_isWithin x 0 (nI n) ≠ 0) : ∃ i, i ≤ n ∧ x = nI i := by
  rw [q_isW] at h
  by_cases h1 : x < 0 ∨ nI n < x
  · simp [h1] at h
  · rcases pk_ix x (n := n + 1) (by omega) with h2 | h2 | ⟨j, hj, h2⟩
    · exact absurd (Or.inl h2) h1
    · refine absurd (Or.inr ?_) h1
      have h3 : (nI (n + 1)).toInt ≤ x.toInt := Int32.le_iff_toInt_le.mp h2
      rw [Int32.lt_iff_toInt_lt, nI_toInt (by omega)]
      by_cases h4 : n + 1 < 2 ^ 31
      · rw [nI_toInt h4] at h3; omega
      · exfalso; omega
    · exact ⟨j, by omega, h2⟩
theorem q_w1 {i n : Nat} (hn : n < 2147483648) (h : i ≤ n) : s_Top_isWithin (nI i) 0 (nI n) = 1 := by
  rw [q_isW]
  have h1 : ¬ (nI i < 0 ∨ nI n < nI i) := by
    rw [q_lt (by omega) (by omega)]
    intro h2
    rcases h2 with h2 | h2
    · exact nI_pos (by omega) h2
    · omega
  simp [h1]
theorem q_w01 (x a b : Int32) : s_Top_isWithin x a b = 0 ∨ s_Top_isWithin x a b = 1 := by
  rw [q_isW]
  by_cases h : x < a ∨ b < x
  · left; simp [h]
  · right; simp [h]
/-- not by 'rfl' for simp: the kernel shall not unfold what stands behind a name -/
theorem q_let {α β : Type} (a : α) (f : α → β) : z_let a f = f a := congrFun (rfl : (fun f : α → β => z_let a f) = fun f => f a) f
