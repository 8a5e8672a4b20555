/-! ===== the reference's items ===== -/
theorem q_w15 {a n : Nat} (hn : n < 1000) (ha : a < 1000) (h : s_Top_isWithin (nI a) 0 (nI n) ≠ 0) : a ≤ n := by
  obtain ⟨i, hi, e⟩ := q_w0 (by omega) h
  have := q_inj (by omega) (by omega) e
  omega
theorem d_rd {g : z_G} {B : m_B} (h : d_B B (g 1)) : z_rd g 1 68 = nI (l_H (b_L B)) ∧ z_rd g 1 69 = nI (l_M (b_L B)) ∧ z_rd g 1 107 = nI (b_n B) := by
  rw [show (68 : Int32) = nI 68 from rfl, show (69 : Int32) = nI 69 from rfl, show (107 : Int32) = nI 107 from rfl, q_rd (by decide), q_rd (by decide), q_rd (by decide)]
  exact ⟨h.1, h.2.1, h.2.2.2.2.2.1⟩
theorem d_8 {g : z_G} {v : Int32} : r_ok none v (z_up g 0 8 1) := up_s
theorem d_B_fr {B : m_B} {g g2 : z_G} (h : d_B B (g 1)) (e : d_fr g g2) : d_B B (g2 1) := by rw [e.1 1 (by decide)]; exact h
theorem d_itemH {B : m_B} {T p : Nat} {tx : Nat → Nat} {g : z_G} (hB : ok_B B) (hd : d_B B (g 1)) (ht : ok_tx T tx) (h : d_tx T tx (g 0 4) (g 3)) (hp : p ≤ T) (h6 : g 0 6 = nI p) : ∃ g2, s_Mod_item 104 g = some g2 ∧ d_fi g g2 ∧ ((∃ x y e, l_H (b_L B) < 4 ∧ m_al3 T tx (0, 15) [(0, 15)] p = some ([x, y], e) ∧ g2 0 8 = 0 ∧ g2 0 6 = nI e ∧ d_B (k_home B x y) (g2 1)) ∨ ((l_H (b_L B) = 4 ∨ m_al3 T tx (0, 15) [(0, 15)] p = none) ∧ g2 0 8 = 1)) := by
  have hT := ht.1
  have hH := hB.1
  unfold s_Mod_item
  rw [if_pos (show (104 : Int32) = 104 from rfl), (d_rd hd).1]
  by_cases h4 : l_H (b_L B) = 4
  · rw [if_pos (show nI (l_H (b_L B)) = 4 by rw [h4]; rfl)]
    unfold s_Mod_item_b25
    rw [q_ckt (show z_bit 1 = true from rfl)]
    simp only [q_let]
    rw [up_s, if_neg (show ¬ (1 : Int32) = 0 by decide)]
    unfold s_Mod_item_b46
    have f1 : d_fr g (z_up g 0 8 1) := d_fr8 (d_fr.rf g)
    obtain ⟨v, g2, a, b, c⟩ := d_mor2 (o := none) (v0 := 0) 0 15 ht (d_tx_fr h f1) d_8 (fun _ _ e => absurd e (by simp))
    rw [a]
    simp only [Option.bind_some]
    have c8 : g2 0 8 = 1 := c
    rw [c8, if_neg (show ¬ (1 : Int32) = 0 by decide)]
    exact ⟨g2, rfl, (f1.tr b).fi, Or.inr ⟨Or.inl h4, c8⟩⟩
  · rw [if_neg (show ¬ nI (l_H (b_L B)) = 4 from fun e => h4 (q_inj (b := 4) (by omega) (by decide) e))]
    unfold s_Mod_item_b25
    rw [q_ckt (show z_bit 0 = true from rfl)]
    simp only [q_let]
    rw [up_s, if_pos (show (0 : Int32) = 0 from rfl)]
    have f1 : d_fr g (z_up g 0 8 0) := d_fr8 (d_fr.rf g)
    obtain ⟨v1, g2, a1, b1, c1⟩ := d_number (p := p) 0 15 ht (by omega) (d_tx_fr h f1) (by rw [up_n (by decide)]; exact h6) up_s
    rw [a1]
    simp only [Option.bind_some]
    unfold s_Mod_item_b46
    have f2 := f1.tr b1
    obtain ⟨v2, g3, a2, b2, c2⟩ := d_mor2 0 15 ht (d_tx_fr h f2) c1 (fun _ _ e => m_nr_le e)
    have f3 := f2.tr b2
    rw [a2]
    simp only [Option.bind_some]
    cases o1 : m_nr T tx 0 15 p with
    | none =>
      rw [o1] at c2
      have c8 : g3 0 8 = 1 := c2
      rw [c8, if_neg (show ¬ (1 : Int32) = 0 by decide)]
      refine ⟨g3, rfl, f3.fi, Or.inr ⟨Or.inr ?_, c8⟩⟩
      unfold m_al3
      rw [o1]
    | some q1 =>
      obtain ⟨x, e1⟩ := q1
      rw [o1] at c1 c2
      have w1 := m_nr_n o1
      have lx := q_w15 (n := 15) (by decide) (by have := (m_n_le w1.1).2.2; omega) w1.2
      have c2b : r_ok (m_mr T tx 0 15 (some e1)) v2 g3 := c2
      cases o2 : m_mr T tx 0 15 (some e1) with
      | none =>
        rw [o2] at c2b
        have c8 : g3 0 8 = 1 := c2b
        rw [c8, if_neg (show ¬ (1 : Int32) = 0 by decide)]
        refine ⟨g3, rfl, f3.fi, Or.inr ⟨Or.inr ?_, c8⟩⟩
        unfold m_al3
        rw [o1]
        simp only [m_ch]
        rw [o2]
      | some q2 =>
        obtain ⟨y, e2⟩ := q2
        rw [o2] at c2b
        have w2 : m_n T tx (e1 + 1) = some (y, e2) ∧ s_Top_isWithin (nI y) 0 15 ≠ 0 := by
          have o3 : (if e1 < T ∧ tx e1 = 44 then m_nr T tx 0 15 (e1 + 1) else none) = some (y, e2) := o2
          by_cases h9 : e1 < T ∧ tx e1 = 44
          · rw [if_pos h9] at o3; exact m_nr_n o3
          · rw [if_neg h9] at o3; exact absurd o3 (by simp)
        have ly := q_w15 (n := 15) (by decide) (by have := (m_n_le w2.1).2.2; omega) w2.2
        have hd3 := d_B_fr hd f3
        rw [c2b.2.2, if_pos (show (0 : Int32) = 0 from rfl)]
        simp only [q_let]
        rw [show (60 : Int32) = nI 60 from rfl, show (64 : Int32) = nI 64 from rfl, show (68 : Int32) = nI 68 from rfl, q_add, q_add, q_ck (by omega) (by decide), q_ck (by omega) (by decide), q_wr (by omega), q_wr (by omega), q_wr (by omega), c1.1, c2b.1, show nI (l_H (b_L B)) + 1 = nI (l_H (b_L B) + 1) from nI_1 _]
        refine ⟨_, rfl, d_fi1 (d_fi1 (d_fi1 f3.fi (by omega)) (by omega)) (by omega), Or.inl ⟨x, y, e2, by omega, ?_, ?_, ?_, ?_⟩⟩
        · unfold m_al3
          rw [o1]
          simp only [m_ch]
          rw [o2]
        · rw [up_c (by decide), up_c (by decide), up_c (by decide)]; exact c2b.2.2
        · rw [up_c (by decide), up_c (by decide), up_c (by decide)]; exact c2b.2.1
        · refine ⟨up_s, ?_, ?_, fun i hi => ?_, fun i hi => ?_, ?_, fun i hi => ?_⟩
          · rw [up_n (by omega), up_n (by omega), up_n (by omega)]; exact hd3.2.1
          · rw [up_n (by omega), up_n (by omega), up_n (by omega)]; exact hd3.2.2.1
          · have hi2 : i < l_H (b_L B) + 1 := hi
            show _ = nI ((if i = l_H (b_L B) then 16 * y + x else l_c (b_L B) i) % 16) ∧ _ = nI ((if i = l_H (b_L B) then 16 * y + x else l_c (b_L B) i) / 16)
            by_cases h9 : i = l_H (b_L B)
            · rw [if_pos h9, h9, up_n (by omega), up_n (by omega), up_s, up_n (by omega), up_s, show (16 * y + x) % 16 = x by omega, show (16 * y + x) / 16 = y by omega]
              exact ⟨rfl, rfl⟩
            · rw [if_neg h9, up_n (by omega), up_n (by omega), up_n (by omega), up_n (by omega), up_n (by omega), up_n (by omega)]
              exact hd3.2.2.2.1 i (by omega)
          · have hi2 : i < l_M (b_L B) := hi
            have hM := hB.2.1
            have s : ∀ j, 69 ≤ j → z_up (z_up (z_up g3 1 (60 + l_H (b_L B)) (nI x)) 1 (64 + l_H (b_L B)) (nI y)) 1 68 (nI (l_H (b_L B) + 1)) 1 j = g3 1 j := fun j hj => by rw [up_n (by omega), up_n (by omega), up_n (by omega)]
            rw [s _ (by omega), s _ (by omega), s _ (by omega), s _ (by omega), s _ (by omega), s _ (by omega)]
            exact hd3.2.2.2.2.1 i hi2
          · rw [up_n (by omega), up_n (by omega), up_n (by omega)]; exact hd3.2.2.2.2.2.1
          · rw [up_n (by omega), up_n (by omega), up_n (by omega), up_n (by omega), up_n (by omega), up_n (by omega)]
            exact hd3.2.2.2.2.2.2 i hi
