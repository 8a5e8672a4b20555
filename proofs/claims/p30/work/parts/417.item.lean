/-! ===== reading: items ===== -/
theorem c_stepN {T p cnt j k : Nat} {x3 : Int32} {tx : Nat → Nat} {g : z_G} (ht : ok_tx T tx) (h : c_tx T tx (g 39) (g 40)) (hp : p ≤ T) (hj : j < cnt) (hcnt : cnt ≤ 6) (hn : m_n T tx p = none) : s_Read_readItem_40_L16 (k + 1) (nI T) x3 (nI cnt) (nI p) (nI j) g = some (-1, g) := by
  have hT := ht.1
  rw [s_Read_readItem_40_L16, if_neg (by rw [q_le (by omega) (by omega)]; omega), c_fig ht (by omega) h]
  simp only [Option.bind_some, s_Read_readItem_40_b73]
  unfold m_n at hn
  by_cases h1 : m_isD T tx p = true
  · rw [if_pos h1] at hn ⊢
    by_cases h2 : m_isD T tx (p + 1) = true
    · rw [if_pos h2] at hn ⊢
      by_cases h3 : m_isD T tx (p + 2) = true
      · have p3 := m_isD_y h3
        rw [if_neg (show ¬ nI 2 = 0 by decide), q_add, if_neg (by rw [q_le (by omega) (by omega)]; omega), q_ck (by omega) (by decide), q_rd (by omega), h.2 _ p3.1]
        unfold s_Read_readItem_40_b70
        rw [if_neg (c := nI (tx (p + 2)) = 59) (fun e => by have := q_inj (b := 59) (by omega) (by decide) e; omega), if_neg (c := nI (tx (p + 2)) = 44) (fun e => by have := q_inj (b := 44) (by omega) (by decide) e; omega)]
        unfold s_Read_readItem_40_b73
        rw [ite_self]
      · rw [if_neg h3] at hn; exact absurd hn (by simp)
    · rw [if_neg h2] at hn; exact absurd hn (by simp)
  · rw [if_neg h1, if_pos (show nI 0 = 0 from rfl)]
def m_sep (cnt j : Nat) : Nat := if cnt ≤ j + 1 then 59 else 44
theorem c_stepS {T p cnt j k v e : Nat} {x3 : Int32} {tx : Nat → Nat} {g : z_G} (ht : ok_tx T tx) (h : c_tx T tx (g 39) (g 40)) (hp : p ≤ T) (hj : j < cnt) (hcnt : cnt ≤ 6) (hn : m_n T tx p = some (v, e)) : s_Read_readItem_40_L16 (k + 1) (nI T) x3 (nI cnt) (nI p) (nI j) g = if e < T ∧ tx e = m_sep cnt j then s_Read_readItem_40_L16 k (nI T) x3 (nI cnt) (nI (e + 1)) (nI (j + 1)) (z_up g 42 j (nI v)) else some (-1, g) := by
  have hT := ht.1
  have hle := m_n_le hn
  have c2 := c_number ht h hn
  rw [s_Read_readItem_40_L16, if_neg (by rw [q_le (by omega) (by omega)]; omega), c2.2]
  simp only [Option.bind_some]
  rw [if_neg (show ¬ nI (e - p) = 0 from fun e2 => by have := q_inj (b := 0) (by omega) (by decide) e2; omega), q_add, show p + (e - p) = e by omega, show nI j + 1 = nI (j + 1) from nI_1 j]
  by_cases h1 : e < T
  · have te := ht.2 e h1
    rw [if_neg (by rw [q_le (by omega) (by omega)]; omega), q_ck (by omega) (by decide), q_rd (by omega), h.2 e h1]
    unfold s_Read_readItem_40_b70 s_Read_readItem_40_b73
    rw [c2.1]
    simp only [Option.bind_some, q_let]
    rw [q_ck (by omega) (by decide), q_wr (by omega), show nI e + 1 = nI (e + 1) from nI_1 e, show nI j + 1 = nI (j + 1) from nI_1 j]
    unfold m_sep
    by_cases h2 : cnt ≤ j + 1
    · rw [if_pos (by rw [q_le (by omega) (by omega)]; exact h2), if_pos h2]
      by_cases h3 : tx e = 59
      · rw [if_pos (show nI (tx e) = 59 by rw [h3]; rfl), if_pos ⟨h1, h3⟩]
      · rw [if_neg (show ¬ nI (tx e) = 59 from fun e2 => h3 (q_inj (b := 59) (by omega) (by decide) e2)), if_neg (fun e2 => h3 e2.2)]
    · rw [if_neg (by rw [q_le (by omega) (by omega)]; exact h2), if_neg h2]
      by_cases h3 : tx e = 44
      · rw [if_pos (show nI (tx e) = 44 by rw [h3]; rfl), if_pos ⟨h1, h3⟩]
      · rw [if_neg (show ¬ nI (tx e) = 44 from fun e2 => h3 (q_inj (b := 44) (by omega) (by decide) e2)), if_neg (fun e2 => h3 e2.2)]
  · rw [if_pos (by rw [q_le (by omega) (by omega)]; omega), if_neg (fun e2 => h1 e2.1)]
    rfl
def m_seq (T : Nat) (tx : Nat → Nat) : Nat → Nat → Option (List Nat × Nat)
  | 0, p => some ([], p)
  | k + 1, p => match m_n T tx p with
    | none => none
    | some (v, e) => if e < T ∧ tx e = (if k = 0 then 59 else 44) then (match m_seq T tx k (e + 1) with
      | none => none
      | some (vs, q) => some (v :: vs, q)) else none
def c_42 (g g2 : z_G) : Prop := ∀ k, k ≠ 42 → g2 k = g k
theorem c_seq {T cnt : Nat} {x3 : Int32} {tx : Nat → Nat} (ht : ok_tx T tx) (hcnt : cnt ≤ 6) : ∀ (k fuel j p : Nat) (g : z_G), k < fuel → j + k = cnt → p ≤ T → c_tx T tx (g 39) (g 40) → (m_seq T tx k p = none → ∃ g2, s_Read_readItem_40_L16 fuel (nI T) x3 (nI cnt) (nI p) (nI j) g = some (-1, g2) ∧ c_42 g g2) ∧ ∀ vs q, m_seq T tx k p = some (vs, q) → q ≤ T ∧ p ≤ q ∧ ∃ g2 f2, s_Read_readItem_40_L16 fuel (nI T) x3 (nI cnt) (nI p) (nI j) g = s_Read_readItem_40_L16 (f2 + 1) (nI T) x3 (nI cnt) (nI q) (nI cnt) g2 ∧ c_42 g g2 ∧ (∀ i, i < j → g2 42 i = g 42 i) ∧ ∀ i, i < k → g2 42 (j + i) = nI (vs.getD i 0) := by
  intro k
  induction k with
  | zero =>
    intro fuel j p g hfu hj hp h
    obtain ⟨f, rfl⟩ : ∃ f, fuel = f + 1 := ⟨fuel - 1, by omega⟩
    refine ⟨fun e => absurd e (by simp [m_seq]), fun vs q e => ?_⟩
    have e2 := congrArg Prod.snd (Option.some.inj e)
    simp only at e2
    subst e2
    have : j = cnt := by omega
    subst this
    exact ⟨hp, Nat.le_refl _, g, f, rfl, fun _ _ => rfl, fun _ _ => rfl, fun i hi => absurd hi (by omega)⟩
  | succ k ih =>
    intro fuel j p g hfu hj hp h
    obtain ⟨f, rfl⟩ : ∃ f, fuel = f + 1 := ⟨fuel - 1, by omega⟩
    have sp : m_sep cnt j = (if k = 0 then 59 else 44) := by
      unfold m_sep
      by_cases h0 : k = 0
      · rw [if_pos h0, if_pos (by omega)]
      · rw [if_neg h0, if_neg (by omega)]
    cases hn : m_n T tx p with
    | none =>
      have e0 : m_seq T tx (k + 1) p = none := by rw [m_seq, hn]
      refine ⟨fun _ => ⟨g, c_stepN ht h hp (by omega) hcnt hn, fun _ _ => rfl⟩, fun vs q e => ?_⟩
      rw [e0] at e
      exact absurd e (by simp)
    | some ve =>
      obtain ⟨v, e⟩ := ve
      have hle := m_n_le hn
      rw [c_stepS (k := f) (x3 := x3) ht h hp (by omega) hcnt hn, sp]
      by_cases h1 : e < T ∧ tx e = (if k = 0 then 59 else 44)
      · rw [if_pos h1]
        have h2 : c_tx T tx (z_up g 42 j (nI v) 39) (z_up g 42 j (nI v) 40) := by rw [up_c (by decide), up_c (by decide)]; exact h
        obtain ⟨i1, i2⟩ := ih f (j + 1) (e + 1) (z_up g 42 j (nI v)) (by omega) (by omega) (by omega) h2
        cases hs : m_seq T tx k (e + 1) with
        | none =>
          have e0 : m_seq T tx (k + 1) p = none := by rw [m_seq, hn]; show (if _ then _ else _) = _; rw [if_pos h1, hs]
          refine ⟨fun _ => ?_, fun vs q e => ?_⟩
          · obtain ⟨g2, a, b⟩ := i1 hs
            exact ⟨g2, a, fun x hx => by rw [b x hx, up_c hx]⟩
          · rw [e0] at e
            exact absurd e (by simp)
        | some wq =>
          obtain ⟨ws, r⟩ := wq
          have e0 : m_seq T tx (k + 1) p = some (v :: ws, r) := by rw [m_seq, hn]; show (if _ then _ else _) = _; rw [if_pos h1, hs]
          refine ⟨fun e => ?_, fun vs q e => ?_⟩
          · rw [e0] at e
            exact absurd e (by simp)
          · rw [e0] at e
            have e2 := Option.some.inj e
            have e3 := congrArg Prod.fst e2
            have e4 := congrArg Prod.snd e2
            simp only at e3 e4
            subst e3 e4
            obtain ⟨b1, b2, g2, f2, a, b, c, d⟩ := i2 ws r hs
            refine ⟨b1, by omega, g2, f2, a, fun x hx => by rw [b x hx, up_c hx], fun i hi => by rw [c i (by omega), up_n (by omega)], fun i hi => ?_⟩
            cases i with
            | zero => rw [Nat.add_zero, c j (by omega), up_s]; rfl
            | succ i =>
              have := d i (by omega)
              rw [show j + (i + 1) = j + 1 + i by omega, this]
              rfl
      · rw [if_neg h1]
        have e0 : m_seq T tx (k + 1) p = none := by rw [m_seq, hn]; show (if _ then _ else _) = _; rw [if_neg h1]
        refine ⟨fun _ => ⟨g, rfl, fun _ _ => rfl⟩, fun vs q e => ?_⟩
        rw [e0] at e
        exact absurd e (by simp)
