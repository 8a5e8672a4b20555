theorem y_few {A : m_A} {i a b : Nat} {q : Nat × Nat × Nat} {g : z_G} (hA : ok_A A) (hi : i < l_M (a_L A)) (ha : a < 16) (hb : b < 16) (hq : m_in q) (hC : y_C A i a b g) : ∀ (m fuel s : Nat), m < fuel → s + m = 4 → (y_1s (fun k => y_fd A i a b k 0 q) m s = none → s_Guide_fewestOrders_L2 fuel (nI (m_sp q)) (k_g (a_K A)) (nI s) g = some (-4, g)) ∧ ∀ k c, y_1s (fun k => y_fd A i a b k 0 q) m s = some (k, c) → ∃ g2, s_Guide_fewestOrders_L2 fuel (nI (m_sp q)) (k_g (a_K A)) (nI s) g = some (nI k, g2) ∧ y_W 0 k c g g2 := by
  intro m
  induction m with
  | zero =>
    intro fuel s hf hs
    obtain ⟨f, rfl⟩ : ∃ k, fuel = k + 1 := ⟨fuel - 1, by omega⟩
    refine ⟨fun _ => ?_, fun k c e => absurd e (by simp [y_1s])⟩
    rw [s_Guide_fewestOrders_L2, if_pos (by rw [show (3 : Int32) = nI 3 from rfl, q_lt (by omega) (by omega)]; omega)]
  | succ m ih =>
    intro fuel s hf hs
    obtain ⟨f, rfl⟩ : ∃ k, fuel = k + 1 := ⟨fuel - 1, by omega⟩
    have ld := y_lead hA hi ha hb s 8 (by omega) 0 q g (by omega) hq hC
    rw [show k_g (a_K A) + nI 0 = k_g (a_K A) from Int32.add_zero _, show 0 + s = s by omega] at ld
    rw [s_Guide_fewestOrders_L2, if_neg (by rw [show (3 : Int32) = nI 3 from rfl, q_lt (by omega) (by omega)]; omega), show (0 : Int32) = nI 0 from rfl, show nI s + 1 = nI (s + 1) from nI_1 s, y_1s]
    cases hh : y_fd A i a b s 0 q with
    | none =>
      rw [ld.1 hh]
      simp only [Option.bind_some]
      rw [if_pos (show (0 : Int32) = nI 0 from rfl)]
      exact ih f (s + 1) (by omega) (by omega)
    | some c0 =>
      obtain ⟨g2, j1, j2⟩ := ld.2 c0 hh
      rw [j1]
      simp only [Option.bind_some]
      rw [if_neg (show ¬ (1 : Int32) = nI 0 by decide)]
      refine ⟨fun e => absurd e (by simp), fun k c e => ?_⟩
      have e2 := Option.some.inj e
      have e3 := congrArg Prod.fst e2
      have e4 := congrArg Prod.snd e2
      simp only at e3 e4
      subst e3 e4
      exact ⟨g2, rfl, j2⟩
/-! the reference's -/
theorem y_24 (r : Nat) : 0 < (24 : Nat) ^ r := Nat.pos_of_ne_zero (fun e => by have := Nat.pow_eq_zero.mp e; omega)
theorem y_24le {r : Nat} (h : r ≤ 3) : (24 : Nat) ^ r ≤ 13824 := by
  have : (24 : Nat) ^ r ≤ 24 ^ 3 := Nat.pow_le_pow_right (by decide) h
  exact this
theorem y_goes {A : m_A} {gM : z_G} {i a b k : Nat} (hA : ok_A A) (hd : d_R A gM) (hi : i < l_M (a_L A)) (ha : a < 16) (hb : b < 16) (hk : k ≤ 3) : ∀ (r fuel o c : Nat) (q : Nat × Nat × Nat) (x6 : Int32) (g1 : z_G), r < fuel → o + r = k → c < 24 ^ r → (1 ≤ r → x6 = nI (24 ^ (r - 1))) → m_in q → d_scr gM g1 → g1 0 13 = nI q.1 → g1 0 14 = nI q.2.1 → g1 0 15 = nI q.2.2 → g1 0 16 = k_g (a_K A) + nI o → ∃ g2, s_Mod_brings_L36 fuel (nI i) (nI k) (nI a) (nI b) x6 (nI c) (nI o) g1 = some ((if y_H A i a b r o q c = true then 1 else 0), g2) ∧ d_scr gM g2 := by
  intro r
  induction r with
  | zero =>
    intro fuel o c q x6 g1 hf ho hc hx hq hs e1 e2 e3 e4
    obtain ⟨f, rfl⟩ : ∃ k, fuel = k + 1 := ⟨fuel - 1, by omega⟩
    refine ⟨g1, ?_, hs⟩
    have q1 := hq.1
    have q2 := hq.2.1
    rw [s_Mod_brings_L36, if_pos (by rw [q_le (by omega) (by omega)]; omega), e1, e2]
    unfold s_Mod_brings_b107
    have eH : y_H A i a b 0 o q c = y_at a b q := rfl
    rw [eH]
    by_cases h1 : q.1 = a
    · rw [if_pos (show nI q.1 = nI a by rw [h1])]
      by_cases h2 : q.2.1 = b
      · rw [if_pos (show nI q.2.1 = nI b by rw [h2]), if_pos (show y_at a b q = true from decide_eq_true ⟨h1, h2⟩)]
      · rw [if_neg (show ¬ nI q.2.1 = nI b from fun e => h2 (q_inj (by omega) (by omega) e)), if_neg (show ¬ y_at a b q = true from fun e => h2 (of_decide_eq_true e).2)]
    · rw [if_neg (show ¬ nI q.1 = nI a from fun e => h1 (q_inj (by omega) (by omega) e)), if_neg (show ¬ y_at a b q = true from fun e => h1 (of_decide_eq_true e).1)]
  | succ r ih =>
    intro fuel o c q x6 g1 hf ho hc hx hq hs e1 e2 e3 e4
    obtain ⟨f, rfl⟩ : ∃ k, fuel = k + 1 := ⟨fuel - 1, by omega⟩
    have hp := y_24 r
    have hpl := y_24le (r := r) (by omega)
    have hpl2 := y_24le (r := r + 1) (by omega)
    have hx6 : x6 = nI (24 ^ r) := hx (by omega)
    have hn0 : ¬ x6 = 0 := fun e => by rw [hx6] at e; have := q_inj (b := 0) (by omega) (by decide) e; omega
    have hdg : c / 24 ^ r < 24 := by rw [Nat.div_lt_iff_lt_mul hp, ← Nat.mul_comm, ← Nat.pow_succ]; exact hc
    have hd1 := d_R_scr hA hd hs
    obtain ⟨g2, a1, a2, a3, a4, a5, a6, a7⟩ := d_goes (b := 0) (gv := k_g (a_K A) + nI o) (r := c / 24 ^ r / 3) (n := c / 24 ^ r % 3 + 1) (by decide) hA.1 hA.2.1 hi (by omega) (by omega) hq hd1.1 hd1.2.1 e1 e2 e3 e4
    have a5b : g2 0 16 = k_g (a_K A) + nI (o + 1) := by rw [a5, Int32.add_assoc, show nI o + 1 = nI (o + 1) from nI_1 o]
    have hcm : c % 24 ^ r < 24 ^ r := Nat.mod_lt _ hp
    obtain ⟨g3, b1, b2⟩ := ih f (o + 1) (c % 24 ^ r) (y_st A i o q (c / 24 ^ r)) (x6 / 24) g2 (by omega) (by omega) hcm (fun h1 => by
      rw [hx6, show (24 : Int32) = nI 24 from rfl, q_div (by omega) (by decide) (by decide)]
      congr 1
      obtain ⟨t, rfl⟩ : ∃ t, r = t + 1 := ⟨r - 1, by omega⟩
      rw [Nat.pow_succ, Nat.mul_div_cancel _ (by decide)]
      rfl) (y_st_in hA hi hq) (hs.tr ⟨a6, a7⟩) a2 a3 a4 a5b
    refine ⟨g3, ?_, b2⟩
    rw [s_Mod_brings_L36, if_neg (by rw [q_le (by omega) (by omega)]; omega), q_ckt (decide_eq_true hn0), q_ckt (decide_eq_true hn0), hx6, q_div (by omega) hp (by omega), q_rem (by omega) hp (by omega), show (3 : Int32) = nI 3 from rfl, q_div (by omega) (by decide) (by decide), q_rem (by omega) (by decide) (by decide), show nI (c / 24 ^ r % 3) + 1 = nI (c / 24 ^ r % 3 + 1) from nI_1 _, show (0 : Int32) = nI 0 from rfl, a1]
    simp only [Option.bind_some]
    rw [show nI o + 1 = nI (o + 1) from nI_1 o, ← hx6]
    exact b1
theorem y_brings {A : m_A} {gM g : z_G} {i a b k c : Nat} (hA : ok_A A) (hd : d_R A gM) (hs : d_scr gM g) (hi : i < l_M (a_L A)) (ha : a < 16) (hb : b < 16) (hk : k ≤ 3) (hc : c < 24 ^ k) : ∃ g2, s_Mod_brings (nI i) (nI c) (nI k) (nI a) (nI b) g = some ((if y_H A i a b k 0 (k_p (a_K A) i) c = true then 1 else 0), g2) ∧ d_scr gM g2 := by
  have hd1 := d_R_scr hA hd hs
  obtain ⟨g1, a1, a2, a3, a4, a5, a6⟩ := d_pick0 (fun _ => 0) (fun _ => 0) hA hd1 hi
  unfold s_Mod_brings s_Mod_brings_b28
  rw [a1]
  simp only [Option.bind_some]
  have fin := fun x6 hx => y_goes hA hd hi ha hb hk k z_F 0 c (k_p (a_K A) i) x6 g1 (by unfold z_F; omega) (by omega) hc hx (hA.2.1.1 i hi).1 (hs.tr a2) a3 a4 a5 a6
  rw [show nI 0 = (0 : Int32) from rfl] at fin
  rcases (show k = 0 ∨ k = 1 ∨ k = 2 ∨ k = 3 by omega) with rfl | rfl | rfl | rfl
  · rw [if_neg (show ¬ nI 0 = 3 by decide), if_neg (show ¬ nI 0 = 2 by decide)]
    exact fin 1 (fun h => absurd h (by decide))
  · rw [if_neg (show ¬ nI 1 = 3 by decide), if_neg (show ¬ nI 1 = 2 by decide)]
    exact fin 1 (fun _ => rfl)
  · rw [if_neg (show ¬ nI 2 = 3 by decide), if_pos (show nI 2 = 2 from rfl)]
    exact fin 24 (fun _ => rfl)
  · rw [if_pos (show nI 3 = 3 from rfl)]
    exact fin 576 (fun _ => rfl)
def y_E (k c : Nat) (x4 : Int32) (g : z_G) : Option (Int32 × z_G) := if (nI k - x4) = 2 then s_Mod_bring_b126 x4 (nI k) (nI c / 576) g else (if (nI k - x4) = 1 then s_Mod_bring_b126 x4 (nI k) (z_rem (nI c / 24) 24) g else s_Mod_bring_b126 x4 (nI k) (z_rem (nI c) 24) g)
theorem y_62 {A : m_A} {gM : z_G} {i a b k : Nat} {x4 : Int32} (k53 : Int32 → Int32 → Int32 → Int32 → Int32 → Int32 → z_G → Option (Int32 × z_G)) (hA : ok_A A) (hd : d_R A gM) (hi : i < l_M (a_L A)) (ha : a < 16) (hb : b < 16) (hk : k ≤ 3) : ∀ (m fuel s : Nat) (g : z_G), m < fuel → s + m = 24 ^ k → d_scr gM g → ∃ g2, d_scr gM g2 ∧ (y_fc (y_H A i a b k 0 (k_p (a_K A) i)) m s = none → s_Mod_bring_L62 k53 fuel (nI i) (nI a) (nI b) x4 (nI (24 ^ k)) (nI k) (nI s) g = k53 (nI i) (nI a) (nI b) x4 (nI (24 ^ (k + 1))) (nI (k + 1)) g2) ∧ ∀ c, y_fc (y_H A i a b k 0 (k_p (a_K A) i)) m s = some c → s_Mod_bring_L62 k53 fuel (nI i) (nI a) (nI b) x4 (nI (24 ^ k)) (nI k) (nI s) g = y_E k c x4 g2 := by
  have hpl := y_24le hk
  intro m
  induction m with
  | zero =>
    intro fuel s g hf hs h
    obtain ⟨f, rfl⟩ : ∃ k, fuel = k + 1 := ⟨fuel - 1, by omega⟩
    refine ⟨g, h, fun _ => ?_, fun c e => absurd e (by simp [y_fc])⟩
    rw [s_Mod_bring_L62, if_pos (by rw [q_le (by omega) (by omega)]; omega), show (24 : Int32) = nI 24 from rfl, q_mul, show nI k + 1 = nI (k + 1) from nI_1 k, ← Nat.pow_succ]
  | succ m ih =>
    intro fuel s g hf hs h
    obtain ⟨f, rfl⟩ : ∃ k, fuel = k + 1 := ⟨fuel - 1, by omega⟩
    obtain ⟨g1, a1, a2⟩ := y_brings (c := s) hA hd h hi ha hb hk (by omega)
    rw [s_Mod_bring_L62, if_neg (by rw [q_le (by omega) (by omega)]; omega), a1]
    simp only [Option.bind_some]
    rw [y_fc, show nI s + 1 = nI (s + 1) from nI_1 s]
    by_cases hh : y_H A i a b k 0 (k_p (a_K A) i) s = true
    · rw [if_pos hh, if_pos hh, if_neg (show ¬ (1 : Int32) = 0 by decide)]
      refine ⟨g1, a2, fun e => absurd e (by simp), fun c e => ?_⟩
      have := Option.some.inj e
      subst this
      rfl
    · rw [if_neg hh, if_neg hh, if_pos (show (0 : Int32) = 0 from rfl)]
      exact ih f (s + 1) g1 (by omega) (by omega) a2
theorem y_53 {A : m_A} {gM : z_G} {i a b : Nat} {x4 : Int32} (hA : ok_A A) (hd : d_R A gM) (hi : i < l_M (a_L A)) (ha : a < 16) (hb : b < 16) : ∀ (m fuel s : Nat) (g : z_G), m < fuel → s + m = 4 → d_scr gM g → ∃ g2, d_scr gM g2 ∧ (y_1s (fun k => y_fd A i a b k 0 (k_p (a_K A) i)) m s = none → s_Mod_bring_L53 fuel (nI i) (nI a) (nI b) x4 (nI (24 ^ s)) (nI s) g = some (-4, g2)) ∧ ∀ k c, y_1s (fun k => y_fd A i a b k 0 (k_p (a_K A) i)) m s = some (k, c) → s_Mod_bring_L53 fuel (nI i) (nI a) (nI b) x4 (nI (24 ^ s)) (nI s) g = y_E k c x4 g2 := by
  intro m
  induction m with
  | zero =>
    intro fuel s g hf hs h
    obtain ⟨f, rfl⟩ : ∃ k, fuel = k + 1 := ⟨fuel - 1, by omega⟩
    refine ⟨g, h, fun _ => ?_, fun k c e => absurd e (by simp [y_1s])⟩
    rw [s_Mod_bring_L53, if_pos (by rw [show (3 : Int32) = nI 3 from rfl, q_lt (by omega) (by omega)]; omega)]
  | succ m ih =>
    intro fuel s g hf hs h
    obtain ⟨f, rfl⟩ : ∃ k, fuel = k + 1 := ⟨fuel - 1, by omega⟩
    have hpl := y_24le (r := s) (by omega)
    obtain ⟨g1, b1, b2, b3⟩ := y_62 (x4 := x4) (s_Mod_bring_L53 f) hA hd hi ha hb (k := s) (by omega) (24 ^ s) z_F 0 g (by unfold z_F; omega) (by omega) h
    rw [s_Mod_bring_L53, if_neg (by rw [show (3 : Int32) = nI 3 from rfl, q_lt (by omega) (by omega)]; omega), y_1s]
    rw [show nI 0 = (0 : Int32) from rfl] at b2 b3
    cases hh : y_fd A i a b s 0 (k_p (a_K A) i) with
    | none =>
      rw [y_fdH] at hh
      rw [b2 hh]
      exact ih f (s + 1) g1 (by omega) (by omega) b1
    | some c0 =>
      rw [y_fdH] at hh
      rw [b3 c0 hh]
      refine ⟨g1, b1, fun e => absurd e (by simp), fun k c e => ?_⟩
      have e2 := Option.some.inj e
      have e3 := congrArg Prod.fst e2
      have e4 := congrArg Prod.snd e2
      simp only at e3 e4
      subst e3 e4
      rfl
theorem y_Ev {k c t : Nat} {g : z_G} (hk : k ≤ 3) (hc : c < 24 ^ k) (ht : t ≤ 3) : y_E k c (nI t) g = some ((if t = 0 then nI k else if k < t then (-4) else nI (10 * (y_dg k c (t - 1) / 3) + (y_dg k c (t - 1) % 3 + 1))), g) := by
  have hpl := y_24le hk
  have fin : ∀ dg, dg < 24 → t ≠ 0 → t ≤ k → s_Mod_bring_b126 (nI t) (nI k) (nI dg) g = some (nI (10 * (dg / 3) + (dg % 3 + 1)), g) := by
    intro dg h1 h2 h3
    unfold s_Mod_bring_b126
    rw [if_neg (show ¬ nI t = 0 from fun e => h2 (q_inj (b := 0) (by omega) (by decide) e)), if_pos (by rw [q_le (by omega) (by omega)]; exact h3), show (3 : Int32) = nI 3 from rfl, show (10 : Int32) = nI 10 from rfl, show (1 : Int32) = nI 1 from rfl, q_div (by omega) (by decide) (by decide), q_rem (by omega) (by decide) (by decide), q_mul, q_add, q_add, Nat.add_assoc]
  have no : ∀ dg : Int32, k < t → s_Mod_bring_b126 (nI t) (nI k) dg g = some (-4, g) := by
    intro dg h1
    unfold s_Mod_bring_b126
    rw [if_neg (show ¬ nI t = 0 from fun e => by have := q_inj (b := 0) (by omega) (by decide) e; omega), if_neg (by rw [q_le (by omega) (by omega)]; omega)]
  have ze : ∀ dg : Int32, t = 0 → s_Mod_bring_b126 (nI t) (nI k) dg g = some (nI k, g) := by
    intro dg h1
    unfold s_Mod_bring_b126
    rw [h1, if_pos (show nI 0 = 0 from rfl)]
  unfold y_E
  by_cases h0 : t = 0
  · rw [ze _ h0, ze _ h0, ze _ h0, if_pos h0, ite_self, ite_self]
  · rw [if_neg h0]
    by_cases h1 : k < t
    · rw [no _ h1, no _ h1, no _ h1, if_pos h1, ite_self, ite_self]
    · rw [if_neg h1, q_sub (by omega), show (576 : Int32) = nI 576 from rfl, show (24 : Int32) = nI 24 from rfl, q_div (by omega) (by decide) (by decide), q_div (by omega) (by decide) (by decide), q_rem (by omega) (by decide) (by decide), q_rem (by omega) (by decide) (by decide)]
      unfold y_dg
      rcases (show k - t = 0 ∨ k - t = 1 ∨ k - t = 2 by omega) with h2 | h2 | h2
      · rw [h2, if_neg (show ¬ nI 0 = 2 by decide), if_neg (show ¬ nI 0 = 1 by decide), fin _ (by omega) h0 (by omega), show k - 1 - (t - 1) = 0 by omega, show c / 24 ^ 0 = c by rw [Nat.pow_zero, Nat.div_one]]
      · rw [h2, if_neg (show ¬ nI 1 = 2 by decide), if_pos (show nI 1 = 1 from rfl), fin _ (by omega) h0 (by omega), show k - 1 - (t - 1) = 1 by omega]
      · have h3 : c / 576 < 24 := by omega
        rw [h2, if_pos (show nI 2 = 2 from rfl), fin _ h3 h0 (by omega), show k - 1 - (t - 1) = 2 by omega, show (24 : Nat) ^ 2 = 576 from rfl, Nat.mod_eq_of_lt h3]
theorem o_bring {A : m_A} {gC gM : z_G} (h : z_R A gC gM) (x1 x2 x3 x4 : Int32) : z_res (s_Top_bring x1 x2 x3 x4 gC) (s_Mod_bring x1 x2 x3 x4 gM) := by
  obtain ⟨hA, hc, hd⟩ := id h
  have hM := hA.1.2.2.2.1
  unfold s_Top_bring s_Mod_bring s_Top_bring_b26 s_Mod_bring_b45
  rw [(q_isMan h x1).1, m_isCell, q_in15, q_in15, show s_Mod_in (Int32.toInt64 x4) 0 3 = s_Top_isWithin x4 0 3 from q_in x4 0 3]
  rcases (q_isMan h x1).2 with h1 | ⟨h1, i, hi, rfl⟩
  · rw [if_pos h1, if_pos h1]; exact z_same h
  · rw [if_neg h1, if_neg h1]
    by_cases h2 : s_Top_isWithin x2 0 15 = 0
    · rw [if_pos (Or.inl h2), if_pos rfl, if_pos h2]; exact z_same h
    · rw [if_neg h2]
      by_cases h3 : s_Top_isWithin x3 0 15 = 0
      · rw [if_pos (Or.inr h3), if_pos rfl, if_pos h3]; exact z_same h
      · rw [if_neg (c := s_Top_isWithin x2 0 15 = 0 ∨ s_Top_isWithin x3 0 15 = 0) (fun e => e.elim h2 h3), if_neg (show ¬ (1 : Int32) = 0 by decide), if_neg h3]
        by_cases h4 : s_Top_isWithin x4 0 3 = 0
        · rw [if_pos h4, if_pos h4]; exact z_same h
        · rw [if_neg h4, if_neg h4]
          obtain ⟨a, ha, rfl⟩ := q_w0 (n := 15) (by decide) h2
          obtain ⟨b, hb, rfl⟩ := q_w0 (n := 15) (by decide) h3
          obtain ⟨t, ht, rfl⟩ := q_w0 (n := 3) (by decide) h4
          have e1 : s_Ways_cellAt (nI a) (nI b) = nI (16 * b + a) := by unfold s_Ways_cellAt; rw [show (16 : Int32) = nI 16 from rfl, q_mul, q_add]
          have ep : s_Col_pullOn 0 (nI i) gC = _ := c_pullOn (c := 0) hA.1 hA.2.1 hi hc.1 hc.2.1
          rw [ep]
          simp only [Option.bind_some]
          rw [e1, q_ck (by omega) (by decide), q_ck (by omega) (by decide), show z_rd gC 46 (nI i) = nI (l_k (a_L A) i) from (q_rd (by omega)).trans (hc.1.2.2.2.2 i hi).2]
          have eS : s_Guide_setOut (nI (16 * b + a)) (q_pu (m_pu (a_L A) (a_K A) i)) (nI (l_k (a_L A) i)) gC = z_up (z_up (z_up gC 65 1 (nI (16 * b + a))) 65 2 (q_pu (m_pu (a_L A) (a_K A) i))) 65 3 (nI (l_k (a_L A) i)) := by
            unfold s_Guide_setOut
            simp only [q_let]
          rw [eS]
          generalize hg : z_up (z_up (z_up gC 65 1 (nI (16 * b + a))) 65 2 (q_pu (m_pu (a_L A) (a_K A) i))) 65 3 (nI (l_k (a_L A) i)) = g0
          have hC : y_C A i a b g0 := by
            rw [← hg]
            exact ⟨by rw [up_n (by decide), up_n (by decide)]; exact up_s, by rw [up_n (by decide)]; exact up_s, up_s⟩
          have f0 : ∀ k, k ≠ 65 → g0 k = gC k := fun k hk => by rw [← hg, up_c hk, up_c hk, up_c hk]
          have s1 : z_rd g0 1 (nI i) = nI (m_sp (k_p (a_K A) i)) := by rw [q_rd (by omega), f0 1 (by decide)]; exact (hc.2.1.2.2 i hi).1
          have s2 : g0 0 3 = k_g (a_K A) := by rw [f0 0 (by decide)]; exact hc.2.1.2.1
          rw [s1, s2]
          have few := y_few hA hi (by omega) (by omega) (hA.2.1.1 i hi).1 hC 4 z_F 0 (by unfold z_F; omega) (by omega)
          obtain ⟨gM2, b1, b2, b3⟩ := y_53 (x4 := nI t) hA hd hi (by omega) (by omega) (a := a) (b := b) 4 z_F 0 gM (by unfold z_F; omega) (by omega) ⟨fun _ _ => rfl, fun _ _ _ _ _ => rfl⟩
          rw [show nI (24 ^ 0) = (1 : Int32) from rfl, show nI 0 = (0 : Int32) from rfl] at b2 b3
          rw [show nI 0 = (0 : Int32) from rfl] at few
          have hRM := d_R_scr hA hd b1
          have hRC : ∀ g2 : z_G, (∀ k, k ≠ 66 → g2 k = g0 k) → z_R A g2 gM2 := fun g2 e => ⟨hA, c_R_fr hA hc (fun k hk => by unfold z_lc at hk; rw [e k (by omega), f0 k (by omega)]), hRM⟩
          unfold s_Guide_fewestOrders s_Top_bring_b98
          cases hh : y_1s (fun k => y_fd A i a b k 0 (k_p (a_K A) i)) 4 0 with
          | none =>
            rw [few.1 hh, b2 hh]
            simp only [Option.bind_some]
            rw [if_pos trivial]
            exact z_same (hRC g0 (fun _ _ => rfl))
          | some x =>
            obtain ⟨k, c⟩ := x
            have hk := y_1s_lt _ _ _ _ _ hh
            have hc24 : c < 24 ^ k := y_fd_lt hk.2.2
            obtain ⟨g2, j1, j2, j3⟩ := few.2 k c hh
            rw [j1, b3 k c hh, y_Ev (by omega) hc24 ht]
            simp only [Option.bind_some]
            have hne : ¬ nI k = -4 := fun e9 => by
              have := congrArg Int32.toInt e9
              rw [nI_toInt (by omega)] at this
              have h10 : (k : Int) = -4 := this
              omega
            rw [if_neg hne]
            by_cases h5 : t = 0
            · rw [if_pos (show nI t = 0 by rw [h5]; rfl), if_pos h5]
              exact z_same (hRC g2 j2)
            · rw [if_neg (show ¬ nI t = 0 from fun e => h5 (q_inj (b := 0) (by omega) (by decide) e)), if_neg h5]
              by_cases h6 : k < t
              · rw [if_pos (by rw [q_lt (by omega) (by omega)]; exact h6), if_pos h6]
                exact z_same (hRC g2 j2)
              · have e9 := j3 (t - 1) (by omega)
                rw [show 0 + (t - 1) = t - 1 by omega] at e9
                rw [if_neg (by rw [q_lt (by omega) (by omega)]; exact h6), if_neg h6, show (1 : Int32) = nI 1 from rfl, q_sub (by omega), q_ck (by omega) (by decide), q_rd (by omega), e9]
                exact z_same (hRC g2 j2)
