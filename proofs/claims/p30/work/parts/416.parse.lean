/-! ===== reading: numbers ===== -/
def m_isD (T : Nat) (tx : Nat → Nat) (p : Nat) : Bool := decide (p < T ∧ 48 ≤ tx p ∧ tx p ≤ 57)
def m_n (T : Nat) (tx : Nat → Nat) (p : Nat) : Option (Nat × Nat) := if m_isD T tx p = true then (if m_isD T tx (p + 1) = true then (if m_isD T tx (p + 2) = true then none else some (10 * (tx p - 48) + (tx (p + 1) - 48), p + 2)) else some (tx p - 48, p + 1)) else none
theorem m_isD_y {T : Nat} {tx : Nat → Nat} {p : Nat} (h : m_isD T tx p = true) : p < T ∧ 48 ≤ tx p ∧ tx p ≤ 57 := of_decide_eq_true h
theorem m_isD_n {T : Nat} {tx : Nat → Nat} {p : Nat} (h : ¬ m_isD T tx p = true) (hp : p < T) : ¬ (48 ≤ tx p ∧ tx p ≤ 57) := fun e => h (decide_eq_true ⟨hp, e.1, e.2⟩)
set_option maxRecDepth 20000 in
theorem q_dig : ∀ a, a < 127 → s_Top_isWithin (nI a) 48 57 = if 48 ≤ a ∧ a ≤ 57 then 1 else 0 := by decide +kernel
/-! the reference -/
def d_fr (g g2 : z_G) : Prop := (∀ k, k ≠ 0 → g2 k = g k) ∧ ∀ j, j ≠ 6 → j ≠ 8 → g2 0 j = g 0 j
theorem d_fr.tr {g g2 g3 : z_G} (h : d_fr g g2) (h2 : d_fr g2 g3) : d_fr g g3 := ⟨fun k hk => (h2.1 k hk).trans (h.1 k hk), fun j a b => (h2.2 j a b).trans (h.2 j a b)⟩
theorem d_fr.rf (g : z_G) : d_fr g g := ⟨fun _ _ => rfl, fun _ _ _ => rfl⟩
theorem d_fr6 {g g2 : z_G} {v : Int32} (h : d_fr g g2) : d_fr g (z_up g2 0 6 v) := ⟨fun k hk => by rw [up_c hk]; exact h.1 k hk, fun j a b => by rw [up_n a]; exact h.2 j a b⟩
theorem d_fr8 {g g2 : z_G} {v : Int32} (h : d_fr g g2) : d_fr g (z_up g2 0 8 v) := ⟨fun k hk => by rw [up_c hk]; exact h.1 k hk, fun j a b => by rw [up_n b]; exact h.2 j a b⟩
theorem d_tx_fr {T : Nat} {tx : Nat → Nat} {g g2 : z_G} (h : d_tx T tx (g 0 4) (g 3)) (e : d_fr g g2) : d_tx T tx (g2 0 4) (g2 3) := by
  rw [e.1 3 (by decide), e.2 4 (by decide) (by decide)]; exact h
theorem d_next {T p : Nat} {tx : Nat → Nat} {g : z_G} (hT : T ≤ 200) (hp : p ≤ 1000) (h : d_tx T tx (g 0 4) (g 3)) (h6 : g 0 6 = nI p) : s_Mod_next g = some (if p < T then nI (tx p) else -1) := by
  unfold s_Mod_next
  rw [h.1, h6]
  by_cases h1 : p < T
  · rw [if_pos h1, if_neg (by rw [q_le (by omega) (by omega)]; omega), q_ck (by omega) (by decide), q_rd (by omega), h.2 p h1]
  · rw [if_neg h1, if_pos (by rw [q_le (by omega) (by omega)]; omega)]
theorem d_dig {T p c k : Nat} {tx : Nat → Nat} {g : z_G} {lo hi x : Int32} (ht : ok_tx T tx) (hp : p ≤ 1000) (h : d_tx T tx (g 0 4) (g 3)) (h6 : g 0 6 = nI p) (hc : c < 4) : s_Mod_number_L5 (k + 1) lo hi x (nI c) g = if m_isD T tx p = true ∧ c < 3 then s_Mod_number_L5 k lo hi (10 * x + nI (tx p) - 48) (nI (c + 1)) (z_up g 0 6 (nI (p + 1))) else s_Mod_number_b57 lo hi x (nI c) g := by
  rw [s_Mod_number_L5, d_next ht.1 hp h h6]
  simp only [Option.bind_some, q_let]
  rw [show s_Mod_in (Int32.toInt64 (if p < T then nI (tx p) else -1)) 48 57 = s_Top_isWithin (if p < T then nI (tx p) else -1) 48 57 from q_in _ 48 57]
  by_cases h1 : m_isD T tx p = true
  · have h2 := m_isD_y h1
    have e57 : s_Top_isWithin (nI (tx p)) 48 57 = 1 := by rw [q_dig _ (by omega)]; exact if_pos ⟨h2.2.1, h2.2.2⟩
    rw [if_pos h2.1, e57, if_neg (show ¬ (1 : Int32) = 0 by decide), show (3 : Int32) = nI 3 from rfl, h6, show nI p + 1 = nI (p + 1) from nI_1 p, show nI c + 1 = nI (c + 1) from nI_1 c]
    by_cases h3 : c < 3
    · rw [if_neg (by rw [q_le (by omega) (by omega)]; omega), if_pos ⟨h1, h3⟩]
    · rw [if_pos (by rw [q_le (by omega) (by omega)]; omega), if_neg (fun e => h3 e.2)]
  · rw [if_neg (c := m_isD T tx p = true ∧ c < 3) (fun e => h1 e.1)]
    by_cases h2 : p < T
    · rw [if_pos h2, q_dig _ (by have := ht.2 p h2; omega), if_neg (m_isD_n h1 h2), if_pos rfl]
    · rw [if_neg h2, if_pos (show s_Top_isWithin (-1) 48 57 = 0 from rfl)]
def m_nr (T : Nat) (tx : Nat → Nat) (lo hi : Int32) (p : Nat) : Option (Nat × Nat) := match m_n T tx p with
  | none => none
  | some (v, e) => if s_Top_isWithin (nI v) lo hi = 0 then none else some (v, e)
def r_ok (o : Option (Nat × Nat)) (v : Int32) (g : z_G) : Prop := match o with
  | none => g 0 8 = 1
  | some (a, e) => v = nI a ∧ g 0 6 = nI e ∧ g 0 8 = 0
theorem d_b88 (x : Int32) (g : z_G) : ∃ v g2, s_Mod_number_b88 x g = some (v, g2) ∧ d_fr g g2 ∧ g2 0 8 = 1 := by
  unfold s_Mod_number_b88 s_Mod_number_b93
  rw [q_ckt (show z_bit 1 = true from rfl)]
  simp only [q_let]
  rw [up_s, if_neg (by decide)]
  exact ⟨_, _, rfl, d_fr8 (d_fr.rf g), up_s⟩
theorem d_b57 {c : Nat} {g : z_G} (lo hi x : Int32) (h8 : g 0 8 = 0) (hc : c < 4) : ∃ v g2, s_Mod_number_b57 lo hi x (nI c) g = some (v, g2) ∧ d_fr g g2 ∧ (if (c = 1 ∨ c = 2) ∧ s_Top_isWithin x lo hi ≠ 0 then v = x ∧ g2 0 6 = g 0 6 ∧ g2 0 8 = 0 else g2 0 8 = 1) := by
  unfold s_Mod_number_b57
  rw [if_pos h8, q_in x lo hi]
  by_cases h0 : c = 0
  · obtain ⟨v, g2, a, b, d⟩ := d_b88 x g
    refine ⟨v, g2, ?_, b, ?_⟩
    · rw [if_pos (by rw [h0]; rfl)]; exact a
    · rw [if_neg (by omega)]; exact d
  · rw [if_neg (show ¬ nI c = 0 from fun e => h0 (q_inj (b := 0) (by omega) (by decide) e)), show (2 : Int32) = nI 2 from rfl]
    by_cases h2 : 2 < c
    · obtain ⟨v, g2, a, b, d⟩ := d_b88 x g
      refine ⟨v, g2, ?_, b, ?_⟩
      · rw [if_pos (by rw [q_lt (by omega) (by omega)]; exact h2)]; exact a
      · rw [if_neg (by omega)]; exact d
    · rw [if_neg (by rw [q_lt (by omega) (by omega)]; exact h2)]
      by_cases h3 : s_Top_isWithin x lo hi = 0
      · obtain ⟨v, g2, a, b, d⟩ := d_b88 x g
        refine ⟨v, g2, ?_, b, ?_⟩
        · rw [if_pos h3]; exact a
        · rw [if_neg (fun e => e.2 h3)]; exact d
      · rw [if_neg h3]
        unfold s_Mod_number_b93
        rw [q_ckt (show z_bit 0 = true from rfl)]
        simp only [q_let]
        rw [up_s, if_pos (show (0 : Int32) = 0 from rfl)]
        refine ⟨_, _, rfl, d_fr8 (d_fr.rf g), ?_⟩
        rw [if_pos ⟨by omega, h3⟩]
        exact ⟨rfl, up_n (by decide), up_s⟩
theorem q_acc {a b : Nat} (h : 48 ≤ b) : 10 * nI a + nI b - 48 = nI (10 * a + (b - 48)) := by
  rw [show (10 : Int32) = nI 10 from rfl, q_mul, q_add, show (48 : Int32) = nI 48 from rfl, q_sub (by omega)]
  congr 1
  omega
theorem d_number {T p : Nat} {tx : Nat → Nat} {g : z_G} (lo hi : Int32) (ht : ok_tx T tx) (hp : p ≤ 900) (h : d_tx T tx (g 0 4) (g 3)) (h6 : g 0 6 = nI p) (h8 : g 0 8 = 0) : ∃ v g2, s_Mod_number lo hi g = some (v, g2) ∧ d_fr g g2 ∧ r_ok (m_nr T tx lo hi p) v g2 := by
  have key : ∀ k, ∃ v g2, s_Mod_number_L5 (k + 4) lo hi (nI 0) (nI 0) g = some (v, g2) ∧ d_fr g g2 ∧ r_ok (m_nr T tx lo hi p) v g2 := by
    intro k
    have fin : ∀ (c x q : Nat) (g1 : z_G), d_fr g g1 → g1 0 8 = 0 → g1 0 6 = nI q → c < 4 → m_nr T tx lo hi p = (if (c = 1 ∨ c = 2) ∧ s_Top_isWithin (nI x) lo hi ≠ 0 then some (x, q) else none) → ∃ v g2, s_Mod_number_b57 lo hi (nI x) (nI c) g1 = some (v, g2) ∧ d_fr g g2 ∧ r_ok (m_nr T tx lo hi p) v g2 := by
      intro c x q g1 f1 f2 f3 hc e
      obtain ⟨v, g2, a, b, d⟩ := d_b57 (c := c) lo hi (nI x) f2 hc
      refine ⟨v, g2, a, f1.tr b, ?_⟩
      rw [e]
      by_cases h1 : (c = 1 ∨ c = 2) ∧ s_Top_isWithin (nI x) lo hi ≠ 0
      · rw [if_pos h1] at d ⊢
        exact ⟨d.1, by rw [d.2.1, f3], d.2.2⟩
      · rw [if_neg h1] at d ⊢
        exact d
    rw [d_dig ht (by omega) h h6 (by decide)]
    by_cases h1 : m_isD T tx p = true
    · have p1 := m_isD_y h1
      rw [if_pos ⟨h1, by decide⟩, q_acc p1.2.1, show 10 * 0 + (tx p - 48) = tx p - 48 by omega]
      have f1 : d_fr g (z_up g 0 6 (nI (p + 1))) := d_fr6 (d_fr.rf g)
      rw [d_dig ht (by omega) (d_tx_fr h f1) up_s (by decide)]
      by_cases h2 : m_isD T tx (p + 1) = true
      · have p2 := m_isD_y h2
        rw [if_pos ⟨h2, by decide⟩, q_acc p2.2.1]
        have f2 : d_fr g (z_up (z_up g 0 6 (nI (p + 1))) 0 6 (nI (p + 1 + 1))) := d_fr6 f1
        rw [d_dig ht (by omega) (d_tx_fr h f2) up_s (by decide)]
        by_cases h3 : m_isD T tx (p + 1 + 1) = true
        · have p3 := m_isD_y h3
          rw [if_pos ⟨h3, by decide⟩, q_acc p3.2.1]
          have f3 : d_fr g (z_up (z_up (z_up g 0 6 (nI (p + 1))) 0 6 (nI (p + 1 + 1))) 0 6 (nI (p + 1 + 1 + 1))) := d_fr6 f2
          rw [d_dig ht (by omega) (d_tx_fr h f3) up_s (by decide), if_neg (fun e => absurd e.2 (by decide))]
          refine fin 3 _ (p + 3) _ f3 (by rw [up_n (by decide), up_n (by decide), up_n (by decide)]; exact h8) up_s (by decide) ?_
          rw [if_neg (by omega)]
          unfold m_nr m_n
          rw [if_pos h1, if_pos h2, if_pos h3]
        · rw [if_neg (fun e => h3 e.1)]
          refine fin 2 _ (p + 2) _ f2 (by rw [up_n (by decide), up_n (by decide)]; exact h8) up_s (by decide) ?_
          unfold m_nr m_n
          rw [if_pos h1, if_pos h2, if_neg h3]
          show (if s_Top_isWithin (nI (10 * (tx p - 48) + (tx (p + 1) - 48))) lo hi = 0 then none else some (10 * (tx p - 48) + (tx (p + 1) - 48), p + 2)) = _
          by_cases h4 : s_Top_isWithin (nI (10 * (tx p - 48) + (tx (p + 1) - 48))) lo hi = 0
          · rw [if_pos h4, if_neg (fun e => e.2 h4)]
          · rw [if_neg h4, if_pos ⟨Or.inr rfl, h4⟩]
      · rw [if_neg (fun e => h2 e.1)]
        refine fin 1 _ (p + 1) _ f1 (by rw [up_n (by decide)]; exact h8) up_s (by decide) ?_
        unfold m_nr m_n
        rw [if_pos h1, if_neg h2]
        show (if s_Top_isWithin (nI (tx p - 48)) lo hi = 0 then none else some (tx p - 48, p + 1)) = _
        by_cases h4 : s_Top_isWithin (nI (tx p - 48)) lo hi = 0
        · rw [if_pos h4, if_neg (fun e => e.2 h4)]
        · rw [if_neg h4, if_pos ⟨Or.inl rfl, h4⟩]
    · rw [if_neg (fun e => h1 e.1)]
      refine fin 0 0 p g (d_fr.rf g) h8 h6 (by decide) ?_
      rw [if_neg (by omega)]
      unfold m_nr m_n
      rw [if_neg h1]
  have e : s_Mod_number lo hi g = s_Mod_number_L5 (19996 + 4) lo hi (nI 0) (nI 0) g := by
    unfold s_Mod_number z_F
    rfl
  rw [e]
  exact key 19996
theorem m_n_le {T p v e : Nat} {tx : Nat → Nat} (h : m_n T tx p = some (v, e)) : p < e ∧ e ≤ T ∧ v < 100 := by
  unfold m_n at h
  by_cases h1 : m_isD T tx p = true
  · have p1 := m_isD_y h1
    rw [if_pos h1] at h
    by_cases h2 : m_isD T tx (p + 1) = true
    · have p2 := m_isD_y h2
      rw [if_pos h2] at h
      by_cases h3 : m_isD T tx (p + 2) = true
      · rw [if_pos h3] at h; exact absurd h (by simp)
      · rw [if_neg h3] at h
        have h4 := Option.some.inj h
        have h5 := congrArg Prod.fst h4
        have h6 := congrArg Prod.snd h4
        simp only at h5 h6
        omega
    · rw [if_neg h2] at h
      have h4 := Option.some.inj h
      have h5 := congrArg Prod.fst h4
      have h6 := congrArg Prod.snd h4
      simp only at h5 h6
      omega
  · rw [if_neg h1] at h; exact absurd h (by simp)
theorem m_nr_n {T p v e : Nat} {tx : Nat → Nat} {lo hi : Int32} (h : m_nr T tx lo hi p = some (v, e)) : m_n T tx p = some (v, e) ∧ s_Top_isWithin (nI v) lo hi ≠ 0 := by
  unfold m_nr at h
  cases h1 : m_n T tx p with
  | none => rw [h1] at h; exact absurd h (by simp)
  | some q =>
    obtain ⟨a, b⟩ := q
    rw [h1] at h
    simp only at h
    by_cases h2 : s_Top_isWithin (nI a) lo hi = 0
    · rw [if_pos h2] at h; exact absurd h (by simp)
    · rw [if_neg h2] at h
      have h4 := Option.some.inj h
      have h5 := congrArg Prod.fst h4
      have h6 := congrArg Prod.snd h4
      simp only at h5 h6
      subst h5 h6
      exact ⟨rfl, h2⟩
def r_st (s : Option Nat) (g : z_G) : Prop := match s with
  | none => g 0 8 = 1
  | some e => g 0 8 = 0 ∧ g 0 6 = nI e
def m_mr (T : Nat) (tx : Nat → Nat) (lo hi : Int32) (s : Option Nat) : Option (Nat × Nat) := match s with
  | none => none
  | some e => if e < T ∧ tx e = 44 then m_nr T tx lo hi (e + 1) else none
theorem d_mor {T : Nat} {tx : Nat → Nat} {g : z_G} {s : Option Nat} (lo hi : Int32) (ht : ok_tx T tx) (h : d_tx T tx (g 0 4) (g 3)) (hs : r_st s g) (hp : ∀ e, s = some e → e ≤ 800) : ∃ v g2, s_Mod_more lo hi g = some (v, g2) ∧ d_fr g g2 ∧ r_ok (m_mr T tx lo hi s) v g2 := by
  have no : ∀ g1 : z_G, ∃ v g2, s_Mod_more_b17 lo hi g1 = some (v, g2) ∧ d_fr g1 g2 ∧ g2 0 8 = 1 := by
    intro g1
    unfold s_Mod_more_b17 s_Mod_more_b22
    rw [q_ckt (show z_bit 1 = true from rfl)]
    simp only [q_let]
    rw [up_n (show 8 ≠ 6 by decide), up_s, if_neg (show ¬ (1 : Int32) = 0 by decide)]
    exact ⟨_, _, rfl, d_fr6 (d_fr8 (d_fr.rf g1)), by rw [up_n (by decide), up_s]⟩
  unfold s_Mod_more
  cases s with
  | none =>
    have h8 : g 0 8 = 1 := hs
    rw [h8, if_neg (show ¬ (1 : Int32) = 0 by decide)]
    exact no g
  | some e =>
    have h8 : g 0 8 = 0 ∧ g 0 6 = nI e := hs
    have he := hp e rfl
    rw [h8.1, if_pos (show (0 : Int32) = 0 from rfl), d_next ht.1 (by omega) h h8.2]
    simp only [Option.bind_some]
    show ∃ v g2, _ ∧ _ ∧ r_ok (if e < T ∧ tx e = 44 then m_nr T tx lo hi (e + 1) else none) v g2
    by_cases h1 : e < T
    · have te := ht.2 e h1
      rw [if_pos h1]
      by_cases h2 : tx e = 44
      · rw [if_pos (show nI (tx e) = 44 by rw [h2]; rfl), if_pos ⟨h1, h2⟩]
        unfold s_Mod_more_b22
        rw [q_ckt (show z_bit 0 = true from rfl)]
        simp only [q_let]
        rw [up_n (show 8 ≠ 6 by decide), up_s, if_pos (show (0 : Int32) = 0 from rfl), up_n (show 6 ≠ 8 by decide), h8.2, show nI e + 1 = nI (e + 1) from nI_1 e]
        have f1 : d_fr g (z_up (z_up g 0 8 0) 0 6 (nI (e + 1))) := d_fr6 (d_fr8 (d_fr.rf g))
        obtain ⟨v, g2, a, b, c⟩ := d_number (p := e + 1) lo hi ht (by omega) (d_tx_fr h f1) up_s (by rw [up_n (by decide), up_s])
        rw [a]
        exact ⟨v, g2, rfl, f1.tr b, c⟩
      · rw [if_neg (show ¬ nI (tx e) = 44 from fun e2 => h2 (q_inj (b := 44) (by omega) (by decide) e2)), if_neg (fun e2 => h2 e2.2)]
        exact no g
    · rw [if_neg h1, if_neg (show ¬ (-1 : Int32) = 44 by decide), if_neg (fun e2 => h1 e2.1)]
      exact no g
/-! the class -/
theorem c_fig {T p : Nat} {tx : Nat → Nat} {g : z_G} (ht : ok_tx T tx) (hp : p ≤ 900) (h : c_tx T tx (g 39) (g 40)) : s_Read_figuresAt_40 (nI T) (nI p) g = some (nI (if m_isD T tx p = true then (if m_isD T tx (p + 1) = true then 2 else 1) else 0)) := by
  have hT := ht.1
  have stp : ∀ k c, c < 2 → s_Read_figuresAt_40_L2 g (k + 1) (nI T) (nI p) (nI c) = if m_isD T tx (p + c) = true then s_Read_figuresAt_40_L2 g k (nI T) (nI p) (nI (c + 1)) else some (nI c) := by
    intro k c hc
    rw [s_Read_figuresAt_40_L2, show (2 : Int32) = nI 2 from rfl, if_neg (by rw [q_le (by omega) (by omega)]; omega), q_add, show nI c + 1 = nI (c + 1) from nI_1 c]
    unfold s_Read_figuresAt_40_b35
    by_cases h1 : p + c < T
    · have te := ht.2 _ h1
      rw [if_neg (by rw [q_le (by omega) (by omega)]; omega), q_ck (by omega) (by decide), q_rd (by omega), h.2 _ h1, q_dig _ (by omega)]
      by_cases h2 : m_isD T tx (p + c) = true
      · have p1 := m_isD_y h2
        rw [if_pos h2, if_pos p1.2, if_neg (show ¬ (1 : Int32) = 0 by decide)]
      · rw [if_neg h2, if_neg (m_isD_n h2 h1), if_pos (show (0 : Int32) = 0 from rfl)]
    · rw [if_pos (by rw [q_le (by omega) (by omega)]; omega), if_neg (fun e => h1 (m_isD_y e).1)]
  have two : ∀ k, s_Read_figuresAt_40_L2 g (k + 1) (nI T) (nI p) (nI 2) = some (nI 2) := by
    intro k
    rw [s_Read_figuresAt_40_L2, show (2 : Int32) = nI 2 from rfl, if_pos (by rw [q_le (by omega) (by omega)]; omega)]
    rfl
  have key : ∀ k, s_Read_figuresAt_40_L2 g (k + 3) (nI T) (nI p) (nI 0) = some (nI (if m_isD T tx p = true then (if m_isD T tx (p + 1) = true then 2 else 1) else 0)) := by
    intro k
    rw [stp (k + 2) 0 (by decide), stp (k + 1) 1 (by decide), two k, Nat.add_zero]
    by_cases h1 : m_isD T tx p = true
    · rw [if_pos h1, if_pos h1]
      by_cases h2 : m_isD T tx (p + 1) = true
      · rw [if_pos h2, if_pos h2]
      · rw [if_neg h2, if_neg h2]
    · rw [if_neg h1, if_neg h1]
  have e : s_Read_figuresAt_40 (nI T) (nI p) g = s_Read_figuresAt_40_L2 g (19997 + 3) (nI T) (nI p) (nI 0) := by
    unfold s_Read_figuresAt_40 z_F
    rfl
  rw [e]
  exact key 19997
theorem c_numL {T q : Nat} {tx : Nat → Nat} {g : z_G} (ht : ok_tx T tx) (h : c_tx T tx (g 39) (g 40)) (hq : q ≤ T) : ∀ (k p x : Nat), p < q → 48 ≤ tx p → s_Read_numberAt_40_L5 g (k + 1) (nI q) (nI x) (nI p) = s_Read_numberAt_40_L5 g k (nI q) (nI (10 * x + (tx p - 48))) (nI (p + 1)) := by
  intro k p x hp h48
  have hT := ht.1
  rw [s_Read_numberAt_40_L5, if_neg (by rw [q_le (by omega) (by omega)]; omega), q_ck (by omega) (by decide), q_rd (by omega), h.2 p (by omega)]
  simp only [q_let]
  rw [q_acc h48, show nI p + 1 = nI (p + 1) from nI_1 p]
theorem c_numE {q k x : Nat} {g : z_G} (hq : q ≤ 200) : s_Read_numberAt_40_L5 g (k + 1) (nI q) (nI x) (nI q) = some (nI x) := by
  rw [s_Read_numberAt_40_L5, if_pos (by rw [q_le (by omega) (by omega)]; omega)]
theorem c_number {T p v e : Nat} {tx : Nat → Nat} {g : z_G} (ht : ok_tx T tx) (h : c_tx T tx (g 39) (g 40)) (hn : m_n T tx p = some (v, e)) : s_Read_numberAt_40 (nI p) (nI e) g = some (nI v) ∧ s_Read_figuresAt_40 (nI T) (nI p) g = some (nI (e - p)) := by
  have hle := m_n_le hn
  have hT := ht.1
  have e0 : ∀ q, s_Read_numberAt_40 (nI p) (nI q) g = s_Read_numberAt_40_L5 g (19997 + 3) (nI q) (nI 0) (nI p) := by
    intro q
    unfold s_Read_numberAt_40 z_F
    rfl
  rw [c_fig ht (by omega) h, e0]
  unfold m_n at hn
  by_cases h1 : m_isD T tx p = true
  · have p1 := m_isD_y h1
    rw [if_pos h1] at hn ⊢
    by_cases h2 : m_isD T tx (p + 1) = true
    · have p2 := m_isD_y h2
      rw [if_pos h2] at hn ⊢
      by_cases h3 : m_isD T tx (p + 2) = true
      · rw [if_pos h3] at hn; exact absurd hn (by simp)
      · rw [if_neg h3] at hn
        have h4 := Option.some.inj hn
        have h5 := congrArg Prod.fst h4
        have h6 := congrArg Prod.snd h4
        simp only at h5 h6
        subst h6
        rw [c_numL ht h (by omega) (19997 + 2) p 0 (by omega) p1.2.1, c_numL ht h (by omega) (19997 + 1) (p + 1) _ (by omega) p2.2.1]
        rw [c_numE (q := p + 2) (by omega), show p + 2 - p = 2 by omega, show 10 * (10 * 0 + (tx p - 48)) + (tx (p + 1) - 48) = v by omega]
        exact ⟨rfl, rfl⟩
    · rw [if_neg h2] at hn ⊢
      have h4 := Option.some.inj hn
      have h5 := congrArg Prod.fst h4
      have h6 := congrArg Prod.snd h4
      simp only at h5 h6
      subst h6
      rw [c_numL ht h (by omega) (19997 + 2) p 0 (by omega) p1.2.1, c_numE (q := p + 1) (by omega), show p + 1 - p = 1 by omega, show 10 * 0 + (tx p - 48) = v by omega]
      exact ⟨rfl, rfl⟩
  · rw [if_neg h1] at hn; exact absurd hn (by simp)
