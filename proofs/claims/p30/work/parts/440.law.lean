/-! ===== the law: every run of calls ===== -/
set_option maxRecDepth 20000 in
theorem q_6 : ∀ L, L < 6 → (nI L - 6).toInt = (L : Int) - 6 := by decide +kernel
theorem q_end {L k : Nat} (hL : L ≤ 384) (hk : k ≤ 384) : (nI L - 6 < nI k) = (L < k + 6) := by
  by_cases h : L < 6
  · apply propext
    rw [Int32.lt_iff_toInt_lt, q_6 L h, nI_toInt (by omega)]
    omega
  · rw [show (6 : Int32) = nI 6 from rfl, q_sub (by omega), q_lt (by omega) (by omega)]
    apply propext
    omega
set_option maxHeartbeats 4000000 in
set_option maxRecDepth 20000 in
theorem z_lawok (xs : Nat → Int32) (L : Nat) (hL : L ≤ 384) : ∀ (n k : Nat) (A : m_A) (g gm : z_G), k ≤ L → L < k + 6 * n → z_R A g gm → s_law_L18 xs L n (nI k) g gm = some 1 := by
  intro n
  induction n with
  | zero => intro k A g gm h1 h2; exact absurd h2 (by omega)
  | succ n ih =>
    intro k A g gm hk hn h
    rw [s_law_L18]
    by_cases hend : L < k + 6
    · rw [if_pos (by rw [q_end hL (by omega)]; exact hend)]
    · rw [if_neg (by rw [q_end hL (by omega)]; exact hend)]
      have go : ∀ {A2 : m_A} {g2 gm2 : z_G}, z_R A2 g2 gm2 → s_law_b987 xs L (s_law_L18 xs L n) (nI k) g2 gm2 = some 1 := by
        intro A2 g2 gm2 h2
        unfold s_law_b987
        rw [show (6 : Int32) = nI 6 from rfl, q_add]
        exact ih (k + 6) A2 g2 gm2 (by omega) (by omega) h2
      have c0 : ∀ {α : Type} (x : Option α), z_ck (z_inb (nI k) L) x = x := fun x => q_ck (by omega) (by omega)
      have c1 : ∀ {α : Type} (x : Option α), z_ck (z_inb (nI k + 1) L) x = x := fun x => by rw [show (1 : Int32) = nI 1 from rfl, q_add]; exact q_ck (by omega) (by omega)
      have c2 : ∀ {α : Type} (x : Option α), z_ck (z_inb (nI k + 2) L) x = x := fun x => by rw [show (2 : Int32) = nI 2 from rfl, q_add]; exact q_ck (by omega) (by omega)
      have c3 : ∀ {α : Type} (x : Option α), z_ck (z_inb (nI k + 3) L) x = x := fun x => by rw [show (3 : Int32) = nI 3 from rfl, q_add]; exact q_ck (by omega) (by omega)
      have c4 : ∀ {α : Type} (x : Option α), z_ck (z_inb (nI k + 4) L) x = x := fun x => by rw [show (4 : Int32) = nI 4 from rfl, q_add]; exact q_ck (by omega) (by omega)
      have c5 : ∀ {α : Type} (x : Option α), z_ck (z_inb (nI k + 5) L) x = x := fun x => by rw [show (5 : Int32) = nI 5 from rfl, q_add]; exact q_ck (by omega) (by omega)
      simp only [c0, c1, c2, c3, c4, c5]
      generalize hop : (xs (Int32.toNatClampNeg (nI k))) &&& 31 = op
      by_cases h0 : op = 0
      · rw [if_pos h0]
        obtain ⟨v, gC2, gM2, A2, e1, e2, h2⟩ := o_write h (xs (Int32.toNatClampNeg (nI k + 1)))
        rw [e1]
        simp only [Option.bind_some]
        rw [e2]
        simp only [Option.bind_some]
        first | exact go h2 | (rw [if_pos rfl]; exact go h2) | (rw [if_pos trivial]; exact go h2)
      rw [if_neg h0]
      by_cases h1 : op = 1
      · rw [if_pos h1]
        obtain ⟨v, gC2, gM2, A2, e1, e2, h2⟩ := o_wipe h
        have e3 := Option.some.inj e1
        have e4 := Option.some.inj e2
        rw [e3, e4]
        first | exact go h2 | (rw [if_pos rfl]; exact go h2) | (rw [if_pos trivial]; exact go h2)
      rw [if_neg h1]
      by_cases h2 : op = 2
      · rw [if_pos h2]
        obtain ⟨v, gC2, gM2, A2, e1, e2, h2⟩ := o_fault h 
        rw [e1]
        simp only [Option.bind_some]
        rw [e2]
        simp only [Option.bind_some]
        first | exact go h2 | (rw [if_pos rfl]; exact go h2) | (rw [if_pos trivial]; exact go h2)
      rw [if_neg h2]
      by_cases h3 : op = 3
      · rw [if_pos h3]
        obtain ⟨v, gC2, gM2, A2, e1, e2, h2⟩ := o_lay h 
        rw [e1]
        simp only [Option.bind_some]
        rw [e2]
        simp only [Option.bind_some]
        first | exact go h2 | (rw [if_pos rfl]; exact go h2) | (rw [if_pos trivial]; exact go h2)
      rw [if_neg h3]
      by_cases h4 : op = 4
      · rw [if_pos h4]
        obtain ⟨v, e1, e2⟩ := o_man h (xs (Int32.toNatClampNeg (nI k + 1))) (xs (Int32.toNatClampNeg (nI k + 2)))
        rw [e1]
        simp only [Option.bind_some]
        rw [e2]
        simp only [Option.bind_some]
        first | exact go h | (rw [if_pos rfl]; exact go h) | (rw [if_pos trivial]; exact go h)
      rw [if_neg h4]
      by_cases h5 : op = 5
      · rw [if_pos h5]
        obtain ⟨v, e1, e2⟩ := o_home h (xs (Int32.toNatClampNeg (nI k + 1))) (xs (Int32.toNatClampNeg (nI k + 2)))
        rw [e1]
        simp only [Option.bind_some]
        rw [e2]
        simp only [Option.bind_some]
        first | exact go h | (rw [if_pos rfl]; exact go h) | (rw [if_pos trivial]; exact go h)
      rw [if_neg h5]
      by_cases h6 : op = 6
      · rw [if_pos h6]
        obtain ⟨v, e1, e2⟩ := o_told h (xs (Int32.toNatClampNeg (nI k + 1)))
        rw [e1]
        simp only [Option.bind_some]
        rw [e2]
        simp only [Option.bind_some]
        first | exact go h | (rw [if_pos rfl]; exact go h) | (rw [if_pos trivial]; exact go h)
      rw [if_neg h6]
      by_cases h7 : op = 7
      · rw [if_pos h7]
        first | exact go h | (rw [if_pos (o_toward _ _ _ _)]; exact go h)
      rw [if_neg h7]
      by_cases h8 : op = 8
      · rw [if_pos h8]
        obtain ⟨v, gC2, gM2, A2, e1, e2, h2⟩ := o_order h (xs (Int32.toNatClampNeg (nI k + 1))) (xs (Int32.toNatClampNeg (nI k + 2)))
        rw [e1]
        simp only [Option.bind_some]
        rw [e2]
        simp only [Option.bind_some]
        first | exact go h2 | (rw [if_pos rfl]; exact go h2) | (rw [if_pos trivial]; exact go h2)
      rw [if_neg h8]
      by_cases h9 : op = 9
      · rw [if_pos h9]
        by_cases hx : (xs (Int32.toNatClampNeg (nI k + 2))) = 0
        · rw [if_pos hx]
          unfold s_law_b420 s_law_b443
          obtain ⟨v, gC2, gM2, A2, e1, e2, h2⟩ := o_tie h (xs (Int32.toNatClampNeg (nI k + 1))) 0
          simp only [c1, c2]
          rw [e1]
          simp only [Option.bind_some]
          rw [if_pos hx, e2]
          simp only [Option.bind_some]
          first | exact go h2 | (rw [if_pos rfl]; exact go h2) | (rw [if_pos trivial]; exact go h2)
        · rw [if_neg hx]
          unfold s_law_b420 s_law_b443
          obtain ⟨v, gC2, gM2, A2, e1, e2, h2⟩ := o_tie h (xs (Int32.toNatClampNeg (nI k + 1))) 1
          simp only [c1, c2]
          rw [e1]
          simp only [Option.bind_some]
          rw [if_neg hx, e2]
          simp only [Option.bind_some]
          first | exact go h2 | (rw [if_pos rfl]; exact go h2) | (rw [if_pos trivial]; exact go h2)
      rw [if_neg h9]
      by_cases h10 : op = 10
      · rw [if_pos h10]
        obtain ⟨v, gC2, gM2, A2, e1, e2, h2⟩ := o_swap h (xs (Int32.toNatClampNeg (nI k + 1))) (xs (Int32.toNatClampNeg (nI k + 2)))
        rw [e1]
        simp only [Option.bind_some]
        rw [e2]
        simp only [Option.bind_some]
        first | exact go h2 | (rw [if_pos rfl]; exact go h2) | (rw [if_pos trivial]; exact go h2)
      rw [if_neg h10]
      by_cases h11 : op = 11
      · rw [if_pos h11]
        obtain ⟨v, gC2, gM2, A2, e1, e2, h2⟩ := o_undo h 
        rw [e1]
        simp only [Option.bind_some]
        rw [e2]
        simp only [Option.bind_some]
        first | exact go h2 | (rw [if_pos rfl]; exact go h2) | (rw [if_pos trivial]; exact go h2)
      rw [if_neg h11]
      by_cases h12 : op = 12
      · rw [if_pos h12]
        obtain ⟨v, gC2, gM2, A2, e1, e2, h2⟩ := o_tell h (xs (Int32.toNatClampNeg (nI k + 1))) (xs (Int32.toNatClampNeg (nI k + 2)))
        rw [e1]
        simp only [Option.bind_some]
        rw [e2]
        simp only [Option.bind_some]
        first | exact go h2 | (rw [if_pos rfl]; exact go h2) | (rw [if_pos trivial]; exact go h2)
      rw [if_neg h12]
      by_cases h13 : op = 13
      · rw [if_pos h13]
        obtain ⟨v, gC2, gM2, A2, e1, e2, h2⟩ := o_noRow h
        have e3 := Option.some.inj e1
        have e4 := Option.some.inj e2
        rw [e3, e4]
        first | exact go h2 | (rw [if_pos rfl]; exact go h2) | (rw [if_pos trivial]; exact go h2)
      rw [if_neg h13]
      by_cases h14 : op = 14
      · rw [if_pos h14]
        obtain ⟨v, gM2, e1, e2, hd2⟩ := o_behind h (xs (Int32.toNatClampNeg (nI k + 1))) (xs (Int32.toNatClampNeg (nI k + 2))) (xs (Int32.toNatClampNeg (nI k + 3)))
        have h2 : z_R A g gM2 := ⟨h.1, h.2.1, hd2⟩
        rw [e1]
        simp only [Option.bind_some]
        rw [e2]
        simp only [Option.bind_some]
        first | exact go h2 | (rw [if_pos rfl]; exact go h2) | (rw [if_pos trivial]; exact go h2)
      rw [if_neg h14]
      by_cases h15 : op = 15
      · rw [if_pos h15]
        obtain ⟨v, gC2, gM2, A2, e1, e2, h2⟩ := o_strayed h 
        rw [e1]
        simp only [Option.bind_some]
        rw [e2]
        simp only [Option.bind_some]
        first | exact go h2 | (rw [if_pos rfl]; exact go h2) | (rw [if_pos trivial]; exact go h2)
      rw [if_neg h15]
      by_cases h16 : op = 16
      · rw [if_pos h16]
        obtain ⟨v, gC2, gM2, A2, e1, e2, h2⟩ := o_bring h (xs (Int32.toNatClampNeg (nI k + 1))) (xs (Int32.toNatClampNeg (nI k + 2))) (xs (Int32.toNatClampNeg (nI k + 3))) (xs (Int32.toNatClampNeg (nI k + 4)))
        rw [e1]
        simp only [Option.bind_some]
        rw [e2]
        simp only [Option.bind_some]
        first | exact go h2 | (rw [if_pos rfl]; exact go h2) | (rw [if_pos trivial]; exact go h2)
      rw [if_neg h16]
      by_cases h17 : op = 17
      · rw [if_pos h17]
        obtain ⟨v, gC2, gM2, A2, e1, e2, h2⟩ := o_pairs h (xs (Int32.toNatClampNeg (nI k + 1)))
        rw [e1]
        simp only [Option.bind_some]
        rw [e2]
        simp only [Option.bind_some]
        first | exact go h2 | (rw [if_pos rfl]; exact go h2) | (rw [if_pos trivial]; exact go h2)
      rw [if_neg h17]
      by_cases h18 : op = 18
      · rw [if_pos h18]
        obtain ⟨v, gM2, e1, e2, hd2⟩ := o_homeward h (xs (Int32.toNatClampNeg (nI k + 1)))
        have h2 : z_R A g gM2 := ⟨h.1, h.2.1, hd2⟩
        rw [e1]
        simp only [Option.bind_some]
        rw [e2]
        simp only [Option.bind_some]
        first | exact go h2 | (rw [if_pos rfl]; exact go h2) | (rw [if_pos trivial]; exact go h2)
      rw [if_neg h18]
      by_cases h19 : op = 19
      · rw [if_pos h19]
        obtain ⟨v, gC2, gM2, A2, e1, e2, h2⟩ := o_seen h (xs (Int32.toNatClampNeg (nI k + 1))) (xs (Int32.toNatClampNeg (nI k + 2))) (xs (Int32.toNatClampNeg (nI k + 3)))
        rw [e1]
        simp only [Option.bind_some]
        rw [e2]
        simp only [Option.bind_some]
        first | exact go h2 | (rw [if_pos rfl]; exact go h2) | (rw [if_pos trivial]; exact go h2)
      rw [if_neg h19]
      by_cases h20 : op = 20
      · rw [if_pos h20]
        obtain ⟨v, gC2, gM2, A2, e1, e2, h2⟩ := o_forget h
        have e3 := Option.some.inj e1
        have e4 := Option.some.inj e2
        rw [e3, e4]
        first | exact go h2 | (rw [if_pos rfl]; exact go h2) | (rw [if_pos trivial]; exact go h2)
      rw [if_neg h20]
      by_cases h21 : op = 21
      · rw [if_pos h21]
        obtain ⟨v, gM2, e1, e2, hd2⟩ := o_villages h (xs (Int32.toNatClampNeg (nI k + 1))) (xs (Int32.toNatClampNeg (nI k + 2)))
        have h2 : z_R A g gM2 := ⟨h.1, h.2.1, hd2⟩
        rw [e1]
        simp only [Option.bind_some]
        rw [e2]
        simp only [Option.bind_some]
        first | exact go h2 | (rw [if_pos rfl]; exact go h2) | (rw [if_pos trivial]; exact go h2)
      rw [if_neg h21]
      by_cases h22 : op = 22
      · rw [if_pos h22]
        obtain ⟨v, gM2, e1, e2, hd2⟩ := o_strays h (xs (Int32.toNatClampNeg (nI k + 1)))
        have h2 : z_R A g gM2 := ⟨h.1, h.2.1, hd2⟩
        rw [e1]
        simp only [Option.bind_some]
        rw [e2]
        simp only [Option.bind_some]
        first | exact go h2 | (rw [if_pos rfl]; exact go h2) | (rw [if_pos trivial]; exact go h2)
      rw [if_neg h22]
      by_cases h23 : op = 23
      · rw [if_pos h23]
        obtain ⟨v, e1, e2⟩ := o_lean h (xs (Int32.toNatClampNeg (nI k + 1)))
        rw [e1]
        simp only [Option.bind_some]
        rw [e2]
        simp only [Option.bind_some]
        first | exact go h | (rw [if_pos rfl]; exact go h) | (rw [if_pos trivial]; exact go h)
      rw [if_neg h23]
      by_cases h24 : op = 24
      · rw [if_pos h24]
        obtain ⟨v, gM2, e1, e2, hd2⟩ := o_storms h (xs (Int32.toNatClampNeg (nI k + 1))) (xs (Int32.toNatClampNeg (nI k + 2))) (xs (Int32.toNatClampNeg (nI k + 3))) (xs (Int32.toNatClampNeg (nI k + 4))) (xs (Int32.toNatClampNeg (nI k + 5)))
        have h2 : z_R A g gM2 := ⟨h.1, h.2.1, hd2⟩
        rw [e1]
        simp only [Option.bind_some]
        rw [e2]
        simp only [Option.bind_some]
        first | exact go h2 | (rw [if_pos rfl]; exact go h2) | (rw [if_pos trivial]; exact go h2)
      rw [if_neg h24]
      by_cases h25 : op = 25
      · rw [if_pos h25]
        obtain ⟨v, u, gC2, gM2, A2, e1, e2, h2, _⟩ := o_march h (xs (Int32.toNatClampNeg (nI k + 1))) (xs (Int32.toNatClampNeg (nI k + 2))) (xs (Int32.toNatClampNeg (nI k + 3)))
        rw [e1]
        simp only [Option.bind_some]
        rw [e2]
        simp only [Option.bind_some]
        first | exact go h2 | (rw [if_pos rfl]; exact go h2) | (rw [if_pos trivial]; exact go h2)
      rw [if_neg h25]
      by_cases h26 : op = 26
      · rw [if_pos h26]
        obtain ⟨v, gC2, gM2, A2, e1, e2, h2⟩ := o_keep h 
        rw [e1]
        simp only [Option.bind_some]
        rw [e2]
        simp only [Option.bind_some]
        first | exact go h2 | (rw [if_pos rfl]; exact go h2) | (rw [if_pos trivial]; exact go h2)
      rw [if_neg h26]
      by_cases h27 : op = 27
      · rw [if_pos h27]
        obtain ⟨v, gC2, gM2, A2, e1, e2, h2⟩ := o_back h 
        rw [e1]
        simp only [Option.bind_some]
        rw [e2]
        simp only [Option.bind_some]
        first | exact go h2 | (rw [if_pos rfl]; exact go h2) | (rw [if_pos trivial]; exact go h2)
      rw [if_neg h27]
      by_cases h28 : op = 28
      · rw [if_pos h28]
        obtain ⟨v, e1, e2⟩ := o_count h (xs (Int32.toNatClampNeg (nI k + 1)))
        rw [e1]
        simp only [Option.bind_some]
        rw [e2]
        simp only [Option.bind_some]
        first | exact go h | (rw [if_pos rfl]; exact go h) | (rw [if_pos trivial]; exact go h)
      rw [if_neg h28]
      exact go h
