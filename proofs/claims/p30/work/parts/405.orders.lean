/-! ===== all the men: orders, who is lost ===== -/
theorem d_ordersL {L : m_L} {K : m_K} {b r n : Nat} (hb : b + 26 ≤ 312) (hL : ok_L L) (hK : ok_K L K) (hr : r < 8) (hn : n < 1000) : ∀ (d fuel i : Nat) (g : z_G), d < fuel → i + d = l_M L → d_L L (g 1) → d_K L ((fun j => if j < i then m_pos L K r n j else k_p K j), k_r K, k_t K, k_g K) b (g 2) → ∃ g2, s_Mod_orders_L3 fuel (nI b) (nI r) (nI n) (nI i) g = some g2 ∧ d_K L (m_oK L K r n) b (g2 2) ∧ (∀ k, k ≠ 0 → k ≠ 2 → g2 k = g k) ∧ (∀ j, j < b ∨ b + 26 ≤ j → g2 2 j = g 2 j) ∧ ∀ j, j ≠ 13 → j ≠ 14 → j ≠ 15 → j ≠ 16 → g2 0 j = g 0 j := by
  intro d
  have hM := hL.2.2.2.1
  induction d with
  | zero =>
    intro fuel i g hfu hi hl h
    obtain ⟨k, rfl⟩ : ∃ k, fuel = k + 1 := ⟨fuel - 1, by omega⟩
    have em : s_Mod_men g = nI (l_M L) := by unfold s_Mod_men; rw [show (9 : Int32) = nI 9 from rfl, q_rd (by decide)]; exact hl.2.1
    rw [s_Mod_orders_L3, em, if_pos (by rw [q_le (by omega) (by omega)]; omega)]
    simp only [z_let, q_lit, q_add]
    rw [q_ck (by omega) (by decide), q_ck (by omega) (by decide), q_wr (by omega), q_rd (by omega), h.2.2]
    refine ⟨_, rfl, ⟨fun j hj => ?_, ?_, ?_⟩, fun q h1 h2 => up_c h2, fun j hj => up_n (by omega), fun j _ _ _ _ => by rw [up_c (by decide)]⟩
    · rw [up_n (by omega), up_n (by omega), up_n (by omega), up_n (by omega)]
      have h3 := h.1 j hj
      simp only [k_p, k_r] at h3
      rw [if_pos (by omega)] at h3
      exact h3
    · rw [up_n (by omega)]; exact h.2.1
    · rw [up_s]; rfl
  | succ d ih =>
    intro fuel i g hfu hi hl h
    obtain ⟨k, rfl⟩ : ∃ k, fuel = k + 1 := ⟨fuel - 1, by omega⟩
    have hiM : i < l_M L := by omega
    have em : s_Mod_men g = nI (l_M L) := by unfold s_Mod_men; rw [show (9 : Int32) = nI 9 from rfl, q_rd (by decide)]; exact hl.2.1
    have hK2 : ok_K L ((fun j => if j < i then m_pos L K r n j else k_p K j), k_r K, k_t K, k_g K) := by
      refine ⟨fun j hj => ⟨?_, (hK.1 j hj).2⟩, hK.2⟩
      show m_in (if j < i then m_pos L K r n j else k_p K j)
      by_cases hji : j < i
      · rw [if_pos hji]; exact ((m_oK_ok (r := r) (n := n) hL hK).1 j hj).1
      · rw [if_neg hji]; exact (hK.1 j hj).1
    rw [s_Mod_orders_L3, em, if_neg (by rw [q_le (by omega) (by omega)]; omega)]
    obtain ⟨ga, a1, a2, a3, a4, a5, a6, a7⟩ := d_picks hb hL hiM h
    rw [a1]
    simp only [Option.bind_some]
    simp only [k_p, k_g, if_neg (Nat.lt_irrefl i)] at a2 a3 a4 a5
    obtain ⟨gb, b1, b2, b3, b4, b5, b6, b7⟩ := d_goes (q := k_p K i) (gv := k_g K) (r := r) (n := n) hb hL hK2 hiM hr hn (hK.1 i hiM).1 (by rw [a6 1 (by decide)]; exact hl) (by rw [a6 2 (by decide)]; exact h) a2 a3 a4 a5
    rw [b1]
    simp only [Option.bind_some, z_let, q_lit, q_add]
    have e2 : gb 2 = g 2 := by rw [b6 2 (by decide), a6 2 (by decide)]
    have e1 : gb 1 = g 1 := by rw [b6 1 (by decide), a6 1 (by decide)]
    rw [q_ck (by omega) (by decide), q_ck (by omega) (by decide), q_ck (by omega) (by decide), q_wr (by omega), q_wr (by omega), q_wr (by omega)]
    have hpos : m_go (m_ord (k_p K i).1 (k_p K i).2.1 (k_p K i).2.2 r n) (m_pu L ((fun j => if j < i then m_pos L K r n j else k_p K j), k_r K, k_t K, k_g K) i) (l_k L i) (q_par (k_g K + 1)) = m_pos L K r n i := rfl
    rw [hpos] at b2 b3 b4
    have u1 : z_up gb 2 (b + i) (gb 0 13) 0 14 = nI (m_pos L K r n i).2.1 := by rw [up_c (by decide)]; exact b3
    have u2 : z_up (z_up gb 2 (b + i) (gb 0 13)) 2 (b + 6 + i) (z_up gb 2 (b + i) (gb 0 13) 0 14) 0 15 = nI (m_pos L K r n i).2.2 := by rw [up_c (by decide), up_c (by decide)]; exact b4
    rw [u2, u1, b2]
    have hnew : d_K L ((fun j => if j < i + 1 then m_pos L K r n j else k_p K j), k_r K, k_t K, k_g K) b (z_up (z_up (z_up gb 2 (b + i) (nI (m_pos L K r n i).1)) 2 (b + 6 + i) (nI (m_pos L K r n i).2.1)) 2 (b + 12 + i) (nI (m_pos L K r n i).2.2) 2) := by
      refine ⟨fun j hj => ?_, ?_, ?_⟩
      · have h3 := h.1 j hj
        simp only [k_p, k_r] at h3 ⊢
        by_cases hji : j = i
        · subst hji
          rw [if_pos (by omega)]
          refine ⟨?_, ?_, ?_, ?_⟩
          · rw [up_n (by omega), up_n (by omega), up_s]
          · rw [up_n (by omega), up_s]
          · rw [up_s]
          · rw [up_n (by omega), up_n (by omega), up_n (by omega), e2]; exact h3.2.2.2
        · have e3 : (if j < i + 1 then m_pos L K r n j else k_p K j) = (if j < i then m_pos L K r n j else k_p K j) := by
            by_cases h7 : j < i
            · rw [if_pos h7, if_pos (by omega)]
            · rw [if_neg h7, if_neg (by omega)]
          rw [e3]
          refine ⟨?_, ?_, ?_, ?_⟩
          · rw [up_n (by omega), up_n (by omega), up_n (by omega), e2]; exact h3.1
          · rw [up_n (by omega), up_n (by omega), up_n (by omega), e2]; exact h3.2.1
          · rw [up_n (by omega), up_n (by omega), up_n (by omega), e2]; exact h3.2.2.1
          · rw [up_n (by omega), up_n (by omega), up_n (by omega), e2]; exact h3.2.2.2
      · rw [up_n (by omega), up_n (by omega), up_n (by omega), e2]; exact h.2.1
      · rw [up_n (by omega), up_n (by omega), up_n (by omega), e2]; exact h.2.2
    obtain ⟨g2, c1, c2, c3, c4, c5⟩ := ih k (i + 1) _ (by omega) (by omega) (by rw [up_c (by decide), up_c (by decide), up_c (by decide), e1]; exact hl) hnew
    refine ⟨g2, c1, c2, fun q h1 h2 => ?_, fun j hj => ?_, fun j h1 h2 h3 h4 => ?_⟩
    · rw [c3 q h1 h2, up_c h2, up_c h2, up_c h2, b6 q h1, a6 q h1]
    · rw [c4 j hj, up_n (by omega), up_n (by omega), up_n (by omega), e2]
    · rw [c5 j h1 h2 h3 h4, up_c (by decide), up_c (by decide), up_c (by decide), b7 j h1 h2 h3 h4, a7 j h1 h2 h3 h4]
theorem d_orders {L : m_L} {K : m_K} {b r n : Nat} {g : z_G} (hb : b + 26 ≤ 312) (hL : ok_L L) (hK : ok_K L K) (hr : r < 8) (hn : n < 1000) (hl : d_L L (g 1)) (h : d_K L K b (g 2)) : ∃ g2, s_Mod_orders (nI b) (nI r) (nI n) g = some g2 ∧ d_K L (m_oK L K r n) b (g2 2) ∧ (∀ k, k ≠ 0 → k ≠ 2 → g2 k = g k) ∧ (∀ j, j < b ∨ b + 26 ≤ j → g2 2 j = g 2 j) ∧ ∀ j, j ≠ 13 → j ≠ 14 → j ≠ 15 → j ≠ 16 → g2 0 j = g 0 j := by
  have hM := hL.2.2.2.1
  exact d_ordersL hb hL hK hr hn (l_M L) z_F 0 g (by unfold z_F; omega) (by omega) hl ⟨fun j hj => by
    show _ ∧ _ ∧ _ ∧ _
    simp only [k_p, k_r, Nat.not_lt_zero, if_false]
    exact h.1 j hj, h.2⟩
/-! who is lost -/
def m_ab (a b : Nat) : Nat := if b ≤ a then a - b else b - a
def m_dist (p q : Nat × Nat × Nat) : Nat := if m_ab p.1 q.1 < m_ab p.2.1 q.2.1 then m_ab p.2.1 q.2.1 else m_ab p.1 q.1
def m_isL (L : m_L) (K : m_K) (i : Nat) : Bool := decide (l_D L < m_dist (k_p K i) (k_p K 0))
def m_cn (f : Nat → Bool) : Nat → Nat
  | 0 => 0
  | n + 1 => m_cn f n + (if f n = true then 1 else 0)
def m_lost (L : m_L) (K : m_K) : Nat := m_cn (m_isL L K) (l_M L)
theorem m_cn_le (f : Nat → Bool) : ∀ n, m_cn f n ≤ n
  | 0 => Nat.le_refl _
  | n + 1 => by
    have h := m_cn_le f n
    show m_cn f n + (if f n = true then 1 else 0) ≤ n + 1
    by_cases h1 : f n = true
    · rw [if_pos h1]; omega
    · rw [if_neg h1]; omega
set_option maxRecDepth 20000 in
theorem m_abs : ∀ a, a < 16 → ∀ b, b < 16 → z_abs (nI a - nI b) = nI (m_ab a b) := by decide +kernel
theorem m_ab_lt {a b : Nat} (ha : a < 16) (hb : b < 16) : m_ab a b < 16 := by
  unfold m_ab
  by_cases h : b ≤ a
  · rw [if_pos h]; omega
  · rw [if_neg h]; omega
theorem c_apart {p q : Nat × Nat × Nat} (hp : m_in p) (hq : m_in q) : s_Ways_apart (nI (16 * p.2.1 + p.1)) (nI (16 * q.2.1 + q.1)) = nI (m_dist p q) := by
  unfold s_Ways_apart z_max m_dist
  have h1 := (m_parts hp.1 hp.2.1 hp.2.2).2.2
  have h2 := (m_parts hq.1 hq.2.1 hq.2.2).2.2
  rw [h1.1, h1.2, h2.1, h2.2, m_abs _ hp.1 _ hq.1, m_abs _ hp.2.1 _ hq.2.1]
  have h3 := m_ab_lt hp.1 hq.1
  have h4 := m_ab_lt hp.2.1 hq.2.1
  by_cases h : m_ab p.1 q.1 < m_ab p.2.1 q.2.1
  · rw [if_pos h, if_pos (by rw [q_lt (by omega) (by omega)]; exact h)]
  · rw [if_neg h, if_neg (by rw [q_lt (by omega) (by omega)]; exact h)]
theorem m_dist_lt {p q : Nat × Nat × Nat} (hp : m_in p) (hq : m_in q) : m_dist p q < 16 := by
  unfold m_dist
  have h3 := m_ab_lt hp.1 hq.1
  have h4 := m_ab_lt hp.2.1 hq.2.1
  by_cases h : m_ab p.1 q.1 < m_ab p.2.1 q.2.1
  · rw [if_pos h]; exact h4
  · rw [if_neg h]; exact h3
theorem c_isLost {L : m_L} {K : m_K} {c i : Nat} {g : z_G} (hL : ok_L L) (hK : ok_K L K) (hi : i < l_M L) (hl : c_L L (g 43) (g 44) (g 45) (g 46)) (h : c_K L K (g (3 * c)) (g (3 * c + 1)) (g (3 * c + 2))) : s_Col_isLost c (nI i) g = some (if m_isL L K i = true then 1 else 0) := by
  have hM := hL.2.2.2.1
  have h0 : 0 < l_M L := hL.2.2.1
  have hD := hL.2.2.2.2.1
  unfold s_Col_isLost
  have p1 := (m_parts (hK.1 i hi).1.1 (hK.1 i hi).1.2.1 (hK.1 i hi).1.2.2).2.1
  have p0 := (m_parts (hK.1 0 h0).1.1 (hK.1 0 h0).1.2.1 (hK.1 0 h0).1.2.2).2.1
  rw [q_ck (by omega) (by decide), q_rd (by omega), show (0 : Int32) = nI 0 from rfl, q_rd (by decide), (h.2.2 i hi).1, (h.2.2 0 h0).1]
  unfold m_sp
  rw [p1, p0, c_apart (hK.1 i hi).1 (hK.1 0 h0).1, hl.2.2.1]
  have hd := m_dist_lt (hK.1 i hi).1 (hK.1 0 h0).1
  unfold m_isL
  by_cases h1 : l_D L < m_dist (k_p K i) (k_p K 0)
  · rw [if_neg (by rw [q_le (by omega) (by omega)]; omega), decide_eq_true h1, if_pos rfl]
  · rw [if_pos (by rw [q_le (by omega) (by omega)]; omega), decide_eq_false h1, if_neg (by decide)]
theorem c_lostMen {L : m_L} {K : m_K} {c : Nat} {g : z_G} (hL : ok_L L) (hK : ok_K L K) (hl : c_L L (g 43) (g 44) (g 45) (g 46)) (h : c_K L K (g (3 * c)) (g (3 * c + 1)) (g (3 * c + 2))) : s_Col_lostMen c g = some (nI (m_lost L K)) := by
  have hM := hL.2.2.2.1
  have key : ∀ (d fuel i : Nat), d < fuel → i + d = l_M L → s_Col_lostMen_L4 c g fuel (nI (m_cn (m_isL L K) i)) (nI i) = some (nI (m_lost L K)) := by
    intro d
    induction d with
    | zero =>
      intro fuel i hfu hi
      obtain ⟨k, rfl⟩ : ∃ k, fuel = k + 1 := ⟨fuel - 1, by omega⟩
      rw [s_Col_lostMen_L4, if_pos (by rw [hl.2.1, q_le (by omega) (by omega)]; omega), show i = l_M L by omega]
      rfl
    | succ d ih =>
      intro fuel i hfu hi
      obtain ⟨k, rfl⟩ : ∃ k, fuel = k + 1 := ⟨fuel - 1, by omega⟩
      rw [s_Col_lostMen_L4, if_neg (by rw [hl.2.1, q_le (by omega) (by omega)]; omega), c_isLost hL hK (by omega) hl h]
      simp only [Option.bind_some, z_let]
      rw [show nI i + 1 = nI (i + 1) from nI_1 i]
      have e : nI (m_cn (m_isL L K) i) + s_Top_asNumber (if m_isL L K i = true then 1 else 0) = nI (m_cn (m_isL L K) (i + 1)) := by
        unfold s_Top_asNumber
        show _ = nI (m_cn (m_isL L K) i + (if m_isL L K i = true then 1 else 0))
        by_cases h1 : m_isL L K i = true
        · rw [if_pos h1, if_pos h1, if_neg (by decide), ← q_add]; rfl
        · rw [if_neg h1, if_neg h1, if_pos rfl, ← q_add]; rfl
      rw [e]
      exact ih k (i + 1) (by omega) (by omega)
  exact key (l_M L) z_F 0 (by unfold z_F; omega) (by omega)
theorem d_ap (a b : Nat) (ha : a < 16) (hb : b < 16) : s_Mod_apart (nI a) (nI b) = nI (m_ab a b) := by
  unfold s_Mod_apart m_ab
  by_cases h : b ≤ a
  · rw [if_pos h, if_pos (by rw [q_le (by omega) (by omega)]; exact h), q_sub h]
  · rw [if_neg h, if_neg (by rw [q_le (by omega) (by omega)]; exact h), q_sub (by omega)]
theorem d_isLost {L : m_L} {K : m_K} {b i : Nat} {g : z_G} (hb : b + 26 ≤ 312) (hL : ok_L L) (hK : ok_K L K) (hi : i < l_M L) (hl : d_L L (g 1)) (h : d_K L K b (g 2)) : s_Mod_isLost (nI b) (nI i) g = some (if m_isL L K i = true then 1 else 0) := by
  have hM := hL.2.2.2.1
  have h0 : 0 < l_M L := hL.2.2.1
  have hD := hL.2.2.2.2.1
  have a0 := h.1 0 h0
  have ai := h.1 i hi
  have ki := (hK.1 i hi).1
  have k0 := (hK.1 0 h0).1
  unfold s_Mod_isLost
  simp only [q_lit, q_add]
  rw [q_ck (by omega) (by decide), q_ck (by omega) (by decide), q_ck (by omega) (by decide), q_ck (by omega) (by decide), q_rd (by omega), q_rd (by omega), q_rd (by omega), q_rd (by omega), q_rd (by omega), hl.2.2.1, ai.1, ai.2.1]
  have b1 : g 2 b = nI (k_p K 0).1 := a0.1
  have b2 : g 2 (b + 6) = nI (k_p K 0).2.1 := a0.2.1
  rw [b1, b2, d_ap _ _ ki.1 k0.1, d_ap _ _ ki.2.1 k0.2.1]
  have h3 := m_ab_lt ki.1 k0.1
  have h4 := m_ab_lt ki.2.1 k0.2.1
  have e : s_Mod_larger (nI (m_ab (k_p K i).1 (k_p K 0).1)) (nI (m_ab (k_p K i).2.1 (k_p K 0).2.1)) = nI (m_dist (k_p K i) (k_p K 0)) := by
    unfold s_Mod_larger m_dist
    by_cases h5 : m_ab (k_p K i).1 (k_p K 0).1 < m_ab (k_p K i).2.1 (k_p K 0).2.1
    · rw [if_pos h5, if_neg (by rw [q_le (by omega) (by omega)]; omega)]
    · rw [if_neg h5, if_pos (by rw [q_le (by omega) (by omega)]; omega)]
  rw [e]
  have hd := m_dist_lt ki k0
  unfold m_isL
  by_cases h1 : l_D L < m_dist (k_p K i) (k_p K 0)
  · rw [if_neg (c := nI (m_dist (k_p K i) (k_p K 0)) ≤ nI (l_D L)) (by rw [q_le (by omega) (by omega)]; omega), decide_eq_true h1, if_pos rfl]
  · rw [if_pos (c := nI (m_dist (k_p K i) (k_p K 0)) ≤ nI (l_D L)) (by rw [q_le (by omega) (by omega)]; omega), decide_eq_false h1, if_neg (by decide)]
theorem d_lost {L : m_L} {K : m_K} {b : Nat} {g : z_G} (hb : b + 26 ≤ 312) (hL : ok_L L) (hK : ok_K L K) (hl : d_L L (g 1)) (h : d_K L K b (g 2)) : s_Mod_lost (nI b) g = some (nI (m_lost L K)) := by
  have hM := hL.2.2.2.1
  have em : s_Mod_men g = nI (l_M L) := by unfold s_Mod_men; rw [show (9 : Int32) = nI 9 from rfl, q_rd (by decide)]; exact hl.2.1
  have key : ∀ (d fuel i : Nat), d < fuel → i + d = l_M L → s_Mod_lost_L4 g fuel (nI b) (nI (m_cn (m_isL L K) i)) (nI i) = some (nI (m_lost L K)) := by
    intro d
    induction d with
    | zero =>
      intro fuel i hfu hi
      obtain ⟨k, rfl⟩ : ∃ k, fuel = k + 1 := ⟨fuel - 1, by omega⟩
      rw [s_Mod_lost_L4, em, if_pos (by rw [q_le (by omega) (by omega)]; omega), show i = l_M L by omega]
      rfl
    | succ d ih =>
      intro fuel i hfu hi
      obtain ⟨k, rfl⟩ : ∃ k, fuel = k + 1 := ⟨fuel - 1, by omega⟩
      rw [s_Mod_lost_L4, em, if_neg (by rw [q_le (by omega) (by omega)]; omega), d_isLost hb hL hK (by omega) hl h]
      simp only [Option.bind_some, s_Mod_lost_b27]
      rw [show nI i + 1 = nI (i + 1) from nI_1 i]
      have e := ih k (i + 1) (by omega) (by omega)
      have e2 : m_cn (m_isL L K) (i + 1) = m_cn (m_isL L K) i + (if m_isL L K i = true then 1 else 0) := rfl
      by_cases h1 : m_isL L K i = true
      · rw [if_pos h1] at e2 ⊢
        rw [e2] at e
        rw [if_neg (by decide), show (1 : Int32) = nI 1 from rfl, q_add]
        exact e
      · rw [if_neg h1] at e2 ⊢
        rw [e2] at e
        rw [if_pos rfl, show (0 : Int32) = nI 0 from rfl, q_add]
        exact e
  exact key (l_M L) z_F 0 (by unfold z_F; omega) (by omega)
