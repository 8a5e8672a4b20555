/-- a man, read by the reference -/
theorem d_itemM {B : m_B} {T p : Nat} {tx : Nat → Nat} {g : z_G} (hB : ok_B B) (hd : d_B B (g 1)) (ht : ok_tx T tx) (h : d_tx T tx (g 0 4) (g 3)) (hp : p ≤ T) (h6 : g 0 6 = nI p) : ∃ g2, s_Mod_item 109 g = some g2 ∧ d_fi g g2 ∧ ((∃ x y f l r k e, l_M (b_L B) < 6 ∧ m_al3 T tx (0, 15) [(0, 15), (0, 7), (0, nI (l_H (b_L B)) - 1), (0, nI (l_H (b_L B)) - 1), (0, 4)] p = some ([x, y, f, l, r, k], e) ∧ g2 0 8 = 0 ∧ g2 0 6 = nI e ∧ d_B (k_man B x y f l r k) (g2 1)) ∨ ((l_M (b_L B) = 6 ∨ m_al3 T tx (0, 15) [(0, 15), (0, 7), (0, nI (l_H (b_L B)) - 1), (0, nI (l_H (b_L B)) - 1), (0, 4)] p = none) ∧ g2 0 8 = 1)) := by
  have hT := ht.1
  have hM := hB.2.1
  have hH := hB.1
  have hn6 := hB.2.2.2.2.2.1
  -- the five numbers behind the first
  have five : ∀ (g1 : z_G) (o1 : Option (Nat × Nat)) (v1 : Int32), d_fr g g1 → r_ok o1 v1 g1 → (∀ a e, o1 = some (a, e) → e ≤ T) → ∃ v2 g2 v3 g3 v4 g4 v5 g5 v6 g6, s_Mod_more 0 15 g1 = some (v2, g2) ∧ s_Mod_more 0 7 g2 = some (v3, g3) ∧ s_Mod_more 0 ((z_rd g3 1 68) - 1) g3 = some (v4, g4) ∧ s_Mod_more 0 ((z_rd g4 1 68) - 1) g4 = some (v5, g5) ∧ s_Mod_more 0 4 g5 = some (v6, g6) ∧ d_fr g g6 ∧ ∃ o2 o3 o4 o5 o6, m_lk T tx (0, 15) o1 = o2 ∧ m_lk T tx (0, 7) o2 = o3 ∧ m_lk T tx (0, nI (l_H (b_L B)) - 1) o3 = o4 ∧ m_lk T tx (0, nI (l_H (b_L B)) - 1) o4 = o5 ∧ m_lk T tx (0, 4) o5 = o6 ∧ r_ok o2 v2 g2 ∧ r_ok o3 v3 g3 ∧ r_ok o4 v4 g4 ∧ r_ok o5 v5 g5 ∧ r_ok o6 v6 g6 := by
    intro g1 o1 v1 f1 c1 l1
    obtain ⟨v2, g2, a2, b2, c2⟩ := d_lk (0, 15) ht (d_tx_fr h f1) c1 l1
    have f2 := f1.tr b2
    obtain ⟨v3, g3, a3, b3, c3⟩ := d_lk (0, 7) ht (d_tx_fr h f2) c2 m_lk_le
    have f3 := f2.tr b3
    obtain ⟨v4, g4, a4, b4, c4⟩ := d_lk (0, nI (l_H (b_L B)) - 1) ht (d_tx_fr h f3) c3 m_lk_le
    have f4 := f3.tr b4
    obtain ⟨v5, g5, a5, b5, c5⟩ := d_lk (0, nI (l_H (b_L B)) - 1) ht (d_tx_fr h f4) c4 m_lk_le
    have f5 := f4.tr b5
    obtain ⟨v6, g6, a6, b6, c6⟩ := d_lk (0, 4) ht (d_tx_fr h f5) c5 m_lk_le
    refine ⟨v2, g2, v3, g3, v4, g4, v5, g5, v6, g6, a2, a3, ?_, ?_, a6, f5.tr b6, _, _, _, _, _, rfl, rfl, rfl, rfl, rfl, c2, c3, c4, c5, c6⟩
    · rw [(d_rd (d_B_fr hd f3)).1]; exact a4
    · rw [(d_rd (d_B_fr hd f4)).1]; exact a5
  unfold s_Mod_item
  rw [if_neg (show ¬ (109 : Int32) = 104 by decide), if_pos (show (109 : Int32) = 109 from rfl), (d_rd hd).2.1]
  by_cases h4 : l_M (b_L B) = 6
  · rw [if_pos (show nI (l_M (b_L B)) = 6 by rw [h4]; rfl)]
    unfold s_Mod_item_b123
    rw [q_ckt (show z_bit 1 = true from rfl)]
    simp only [q_let]
    rw [up_s, if_neg (show ¬ (1 : Int32) = 0 by decide)]
    unfold s_Mod_item_b144
    have f1 : d_fr g (z_up g 0 8 1) := d_fr8 (d_fr.rf g)
    obtain ⟨v2, g2, v3, g3, v4, g4, v5, g5, v6, g6, a2, a3, a4, a5, a6, f6, o2, o3, o4, o5, o6, e2, e3, e4, e5, e6, c2, c3, c4, c5, c6⟩ := five _ none 0 f1 d_8 (fun _ _ e => absurd e (by simp))
    rw [a2]
    simp only [Option.bind_some]
    rw [a3]
    simp only [Option.bind_some]
    rw [a4]
    simp only [Option.bind_some]
    rw [a5]
    simp only [Option.bind_some]
    rw [a6]
    simp only [Option.bind_some]
    have e6n : o6 = none := by rw [← e6, ← e5, ← e4, ← e3, ← e2]; rfl
    rw [e6n] at c6
    have c8 : g6 0 8 = 1 := c6
    rw [c8, if_neg (show ¬ (1 : Int32) = 0 by decide)]
    exact ⟨g6, rfl, f6.fi, Or.inr ⟨Or.inl h4, c8⟩⟩
  · rw [if_neg (show ¬ nI (l_M (b_L B)) = 6 from fun e => h4 (q_inj (b := 6) (by omega) (by decide) e))]
    unfold s_Mod_item_b123
    rw [q_ckt (show z_bit 0 = true from rfl)]
    simp only [q_let]
    rw [up_s, if_pos (show (0 : Int32) = 0 from rfl)]
    have f0 : d_fr g (z_up g 0 8 0) := d_fr8 (d_fr.rf g)
    obtain ⟨v1, g1, a1, b1, c1⟩ := d_number (p := p) 0 15 ht (by omega) (d_tx_fr h f0) (by rw [up_n (by decide)]; exact h6) up_s
    rw [a1]
    simp only [Option.bind_some]
    unfold s_Mod_item_b144
    obtain ⟨v2, g2, v3, g3, v4, g4, v5, g5, v6, g6, a2, a3, a4, a5, a6, f6, o2, o3, o4, o5, o6, e2, e3, e4, e5, e6, c2, c3, c4, c5, c6⟩ := five _ _ _ (f0.tr b1) c1 (fun _ _ e => m_nr_le e)
    rw [a2]
    simp only [Option.bind_some]
    rw [a3]
    simp only [Option.bind_some]
    rw [a4]
    simp only [Option.bind_some]
    rw [a5]
    simp only [Option.bind_some]
    rw [a6]
    simp only [Option.bind_some]
    have al := m_al_6 (p := p) (0, 15) (0, 15) (0, 7) (0, nI (l_H (b_L B)) - 1) (0, nI (l_H (b_L B)) - 1) (0, 4) rfl e2 e3 e4 e5 e6
    cases o6 with
    | none =>
      have c8 : g6 0 8 = 1 := c6
      rw [c8, if_neg (show ¬ (1 : Int32) = 0 by decide)]
      exact ⟨g6, rfl, f6.fi, Or.inr ⟨Or.inr (al.1 rfl), c8⟩⟩
    | some q6 =>
      obtain ⟨k, e⟩ := q6
      obtain ⟨x, p1, y, p2, f, p3, l, p4, r, p5, n1, n2, n3, n4, n5, alx⟩ := al.2 k e rfl
      have n1 : m_nr T tx 0 15 p = some (x, p1) := n1
      subst n2 n3 n4 n5
      rw [n1] at c1
      have hd6 := d_B_fr hd f6
      rw [c6.2.2, if_pos (show (0 : Int32) = 0 from rfl), show (95 : Int32) = nI 95 from rfl, q_add, q_ck (by omega) (by decide), q_wr (by omega), c1.1, c2.1, c3.1, c4.1, c5.1, c6.1]
      unfold s_Mod_puts s_Mod_item_b236
      simp only [q_let]
      have hr9 : z_rd (z_up g6 1 (95 + l_M (b_L B)) (nI f)) 1 (nI 69) = nI (l_M (b_L B)) := by rw [q_rd (by decide), up_n (by omega)]; exact hd6.2.1
      rw [show (60 : Int32) + 9 = nI 69 from rfl, show (60 : Int32) + 23 = nI 83 from rfl, show (60 : Int32) + 29 = nI 89 from rfl, show (60 : Int32) + 11 = nI 71 from rfl, show (60 : Int32) + 41 = nI 101 from rfl, show (60 : Int32) + 17 = nI 77 from rfl, q_ck (by decide) (by decide), hr9, q_add, q_add, q_add, q_add, q_add, q_ck (by omega) (by decide), q_ck (by omega) (by decide), q_ck (by omega) (by decide), q_ck (by omega) (by decide), q_ck (by omega) (by decide), q_ck (by omega) (by decide), q_wr (by omega), q_wr (by omega), q_wr (by omega), q_wr (by omega), q_wr (by omega), q_wr (by omega), show nI (l_M (b_L B)) + 1 = nI (l_M (b_L B) + 1) from nI_1 _]
      simp only [Option.bind_some]
      generalize hm : l_M (b_L B) = m at *
      have s : ∀ j, j ≠ 95 + m → j ≠ 83 + m → j ≠ 89 + m → j ≠ 71 + m → j ≠ 101 + m → j ≠ 77 + m → j ≠ 69 → z_up (z_up (z_up (z_up (z_up (z_up (z_up g6 1 (95 + m) (nI f)) 1 (83 + m) (nI x)) 1 (89 + m) (nI y)) 1 (71 + m) (nI l)) 1 (101 + m) (nI r)) 1 (77 + m) (nI k)) 1 69 (nI (m + 1)) 1 j = g6 1 j := fun j h1 h2 h3 h4 h5 h6 h7 => by rw [up_n h7, up_n h6, up_n h5, up_n h4, up_n h3, up_n h2, up_n h1]
      refine ⟨_, rfl, d_fi1 (d_fi1 (d_fi1 (d_fi1 (d_fi1 (d_fi1 (d_fi1 f6.fi (by omega)) (by omega)) (by omega)) (by omega)) (by omega)) (by omega)) (by omega), Or.inl ⟨x, y, f, l, r, k, e, by omega, alx, ?_, ?_, ?_⟩⟩
      · rw [up_c (by decide), up_c (by decide), up_c (by decide), up_c (by decide), up_c (by decide), up_c (by decide), up_c (by decide)]; exact c6.2.2
      · rw [up_c (by decide), up_c (by decide), up_c (by decide), up_c (by decide), up_c (by decide), up_c (by decide), up_c (by decide)]; exact c6.2.1
      · refine ⟨?_, ?_, ?_, fun i hi => ?_, fun i hi => ?_, ?_, fun i hi => ?_⟩
        · rw [s _ (by omega) (by omega) (by omega) (by omega) (by omega) (by omega) (by omega)]; exact hd6.1
        · rw [up_s]; show _ = nI (l_M (b_L B) + 1); rw [hm]
        · rw [s _ (by omega) (by omega) (by omega) (by omega) (by omega) (by omega) (by omega)]; exact hd6.2.2.1
        · have hi2 : i < l_H (b_L B) := hi
          rw [s _ (by omega) (by omega) (by omega) (by omega) (by omega) (by omega) (by omega), s _ (by omega) (by omega) (by omega) (by omega) (by omega) (by omega) (by omega)]; exact hd6.2.2.2.1 i hi
        · have hi2 : i < l_M (b_L B) + 1 := hi
          show _ = nI (if i = l_M (b_L B) then l else l_l (b_L B) i) ∧ _ = nI (if i = l_M (b_L B) then k else l_k (b_L B) i) ∧ _ = nI (if i = l_M (b_L B) then (x, y, f) else b_p B i).1 ∧ _ = nI (if i = l_M (b_L B) then (x, y, f) else b_p B i).2.1 ∧ _ = nI (if i = l_M (b_L B) then (x, y, f) else b_p B i).2.2 ∧ _ = nI (if i = l_M (b_L B) then r else b_r B i)
          rw [hm] at hi2 ⊢
          by_cases h9 : i = m
          · subst h9
            rw [if_pos rfl, if_pos rfl, if_pos rfl, if_pos rfl]
            refine ⟨?_, ?_, ?_, ?_, ?_, ?_⟩
            · rw [up_n (by omega), up_n (by omega), up_n (by omega), up_s]
            · rw [up_n (by omega), up_s]
            · rw [up_n (by omega), up_n (by omega), up_n (by omega), up_n (by omega), up_n (by omega), up_s]
            · rw [up_n (by omega), up_n (by omega), up_n (by omega), up_n (by omega), up_s]
            · rw [up_n (by omega), up_n (by omega), up_n (by omega), up_n (by omega), up_n (by omega), up_n (by omega), up_s]
            · rw [up_n (by omega), up_n (by omega), up_s]
          · rw [if_neg h9, if_neg h9, if_neg h9, if_neg h9, s _ (by omega) (by omega) (by omega) (by omega) (by omega) (by omega) (by omega), s _ (by omega) (by omega) (by omega) (by omega) (by omega) (by omega) (by omega), s _ (by omega) (by omega) (by omega) (by omega) (by omega) (by omega) (by omega), s _ (by omega) (by omega) (by omega) (by omega) (by omega) (by omega) (by omega), s _ (by omega) (by omega) (by omega) (by omega) (by omega) (by omega) (by omega), s _ (by omega) (by omega) (by omega) (by omega) (by omega) (by omega) (by omega)]
            exact hd6.2.2.2.2.1 i (by omega)
        · rw [s _ (by omega) (by omega) (by omega) (by omega) (by omega) (by omega) (by omega)]; exact hd6.2.2.2.2.2.1
        · have hi2 : i < b_n B := hi
          rw [s _ (by omega) (by omega) (by omega) (by omega) (by omega) (by omega) (by omega), s _ (by omega) (by omega) (by omega) (by omega) (by omega) (by omega) (by omega)]; exact hd6.2.2.2.2.2.2 i hi
