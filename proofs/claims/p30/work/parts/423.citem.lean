/-! ===== the class's items ===== -/
def c_fi (g g2 : z_G) : Prop := ∀ k, ¬ (k = 42 ∨ k = 7 ∨ k = 8 ∨ (47 ≤ k ∧ k < 51) ∨ (54 ≤ k ∧ k < 57)) → g2 k = g k
theorem c_fi.rf (g : z_G) : c_fi g g := fun _ _ => rfl
theorem c_fi.tr {g g2 g3 : z_G} (h : c_fi g g2) (h2 : c_fi g2 g3) : c_fi g g3 := fun k hk => (h2 k hk).trans (h k hk)
theorem c_fi_up {g g2 : z_G} {k j : Nat} {v : Int32} (h : c_fi g g2) (hk : k = 42 ∨ k = 7 ∨ k = 8 ∨ (47 ≤ k ∧ k < 51) ∨ (54 ≤ k ∧ k < 57)) : c_fi g (z_up g2 k j v) := fun i hi => by
  rw [up_c (fun e => hi (by rw [e]; exact hk))]; exact h i hi
theorem c_42.fi {g g2 : z_G} (h : c_42 g g2) : c_fi g g2 := fun k hk => h k (fun e => hk (Or.inl e))
theorem c_B_42 {B : m_B} {g g2 : z_G} (h : c_B B g) (e : c_42 g g2) : c_B B g2 := by
  unfold c_B
  rw [e 47 (by decide), e 48 (by decide), e 49 (by decide), e 50 (by decide), e 7 (by decide), e 8 (by decide), e 54 (by decide), e 55 (by decide), e 56 (by decide)]
  exact h
theorem q_a0 {g : z_G} {v : Int32} (h : g 42 0 = v) : z_rd g 42 0 = v := by rw [show (0 : Int32) = nI 0 from rfl, q_rd (by decide)]; exact h
theorem q_a1 {g : z_G} {v : Int32} (h : g 42 1 = v) : z_rd g 42 1 = v := by rw [show (1 : Int32) = nI 1 from rfl, q_rd (by decide)]; exact h
theorem q_a2 {g : z_G} {v : Int32} (h : g 42 2 = v) : z_rd g 42 2 = v := by rw [show (2 : Int32) = nI 2 from rfl, q_rd (by decide)]; exact h
theorem q_a3 {g : z_G} {v : Int32} (h : g 42 3 = v) : z_rd g 42 3 = v := by rw [show (3 : Int32) = nI 3 from rfl, q_rd (by decide)]; exact h
theorem q_a4 {g : z_G} {v : Int32} (h : g 42 4 = v) : z_rd g 42 4 = v := by rw [show (4 : Int32) = nI 4 from rfl, q_rd (by decide)]; exact h
theorem q_a5 {g : z_G} {v : Int32} (h : g 42 5 = v) : z_rd g 42 5 = v := by rw [show (5 : Int32) = nI 5 from rfl, q_rd (by decide)]; exact h
theorem q_wl {l n : Nat} (hl : l < 1000) (hn : n < 1000) : s_Top_isWithin (nI l) 0 (nI n - 1) ≠ 0 ↔ l < n := by
  constructor
  · intro h
    by_cases h0 : n = 0
    · exfalso
      subst h0
      rw [q_isW, show nI 0 - 1 = (-1 : Int32) from rfl] at h
      apply h
      rw [if_pos]
      right
      rw [Int32.lt_iff_toInt_lt, nI_toInt (by omega)]
      show (-1 : Int) < _
      omega
    · rw [show (1 : Int32) = nI 1 from rfl, q_sub (by omega)] at h
      have := q_w15 (n := n - 1) (by omega) (by omega) h
      omega
  · intro h
    rw [show (1 : Int32) = nI 1 from rfl, q_sub (by omega), q_w1 (by omega) (by omega)]
    decide
theorem c_takeD {B : m_B} {g : z_G} {x : Nat} (hc : c_B B g) (h0 : g 42 0 = nI x) : ∃ v g2, s_Read_takeItem 100 g = some (v, g2) ∧ c_fi g g2 ∧ ((v = 1 ∧ m_ok2 [(1, 15)] [x] ∧ c_B (k_far B x) g2) ∨ (v = 0 ∧ ¬ m_ok2 [(1, 15)] [x])) := by
  unfold s_Read_takeItem s_Read_takeFar
  rw [if_pos (show (100 : Int32) = 100 from rfl), q_a0  h0]
  by_cases h1 : s_Top_isWithin (nI x) 1 15 = 0
  · rw [if_pos h1]
    exact ⟨0, g, rfl, c_fi.rf g, Or.inr ⟨rfl, fun e => e.1 h1⟩⟩
  · rw [if_neg h1]
    simp only [q_let]
    rw [q_ckt (show z_bit 1 = true from rfl)]
    refine ⟨1, _, rfl, c_fi_up (c_fi.rf g) (by decide), Or.inl ⟨rfl, ⟨h1, trivial⟩, ⟨?_, ?_, up_s, ?_, ?_⟩, ?_, ?_⟩⟩
    · rw [up_n (by decide)]; exact hc.1.1
    · rw [up_n (by decide)]; exact hc.1.2.1
    · rw [up_c (by decide)]; exact hc.1.2.2.2.1
    · rw [up_c (by decide), up_c (by decide)]; exact hc.1.2.2.2.2
    · rw [up_c (by decide), up_c (by decide)]; exact hc.2.1
    · rw [up_c (by decide), up_c (by decide), up_c (by decide)]; exact hc.2.2
theorem c_takeH {B : m_B} {g : z_G} {x y : Nat} (hB : ok_B B) (hc : c_B B g) (h0 : g 42 0 = nI x) (h1 : g 42 1 = nI y) : ∃ v g2, s_Read_takeItem 104 g = some (v, g2) ∧ c_fi g g2 ∧ ((v = 1 ∧ l_H (b_L B) < 4 ∧ m_ok2 [(0, 15), (0, 15)] [x, y] ∧ c_B (k_home B x y) g2) ∨ (v = 0 ∧ ¬ (l_H (b_L B) < 4 ∧ m_ok2 [(0, 15), (0, 15)] [x, y]))) := by
  have hH := hB.1
  unfold s_Read_takeItem s_Read_takeHome s_Read_takeHome_b29
  rw [if_neg (show ¬ (104 : Int32) = 100 by decide), if_pos (show (104 : Int32) = 104 from rfl), q_a0  h0, q_a1  h1, hc.1.1, m_isCell]
  have no : ∃ v g2, ((some ((0 : Int32), g)).bind fun r16q => z_ck (z_bit r16q.1) (some (r16q.1, r16q.2))) = some (v, g2) ∧ c_fi g g2 ∧ v = 0 := ⟨0, g, rfl, c_fi.rf g, rfl⟩
  by_cases h2 : l_H (b_L B) < 4
  · rw [if_neg (by rw [show (4 : Int32) = nI 4 from rfl, q_le (by omega) (by omega)]; omega)]
    by_cases h3 : s_Top_isWithin (nI x) 0 15 = 0 ∨ s_Top_isWithin (nI y) 0 15 = 0
    · rw [if_pos h3, if_pos (show (0 : Int32) = 0 from rfl)]
      obtain ⟨v, g2, a, b, c⟩ := no
      exact ⟨v, g2, a, b, Or.inr ⟨c, fun e => h3.elim e.2.1 e.2.2.1⟩⟩
    · rw [if_neg h3, if_neg (show ¬ (1 : Int32) = 0 by decide), q_ck (by omega) (by decide)]
      have e1 : s_Ways_cellAt (nI x) (nI y) = nI (16 * y + x) := by unfold s_Ways_cellAt; rw [show (16 : Int32) = nI 16 from rfl, q_mul, q_add]
      simp only [q_let]
      rw [e1, q_wr (by omega), up_c (show 47 ≠ 48 by decide), hc.1.1, show nI (l_H (b_L B)) + 1 = nI (l_H (b_L B) + 1) from nI_1 _]
      simp only [Option.bind_some]
      rw [q_ckt (show z_bit 1 = true from rfl)]
      refine ⟨1, _, rfl, c_fi_up (c_fi_up (c_fi.rf g) (by decide)) (by decide), Or.inl ⟨rfl, h2, ⟨fun e => h3 (Or.inl e), fun e => h3 (Or.inr e), trivial⟩, ⟨up_s, ?_, ?_, fun i hi => ?_, ?_⟩, ?_, ?_⟩⟩
      · rw [up_n (by decide), up_c (by decide)]; exact hc.1.2.1
      · rw [up_n (by decide), up_c (by decide)]; exact hc.1.2.2.1
      · have hi2 : i < l_H (b_L B) + 1 := hi
        rw [up_c (by decide)]
        show _ = nI (if i = l_H (b_L B) then 16 * y + x else l_c (b_L B) i)
        by_cases h9 : i = l_H (b_L B)
        · rw [if_pos h9, h9, up_s]
        · rw [if_neg h9, up_n h9]; exact hc.1.2.2.2.1 i (by omega)
      · rw [up_c (by decide), up_c (by decide), up_c (by decide), up_c (by decide)]; exact hc.1.2.2.2.2
      · rw [up_c (by decide), up_c (by decide), up_c (by decide), up_c (by decide)]; exact hc.2.1
      · rw [up_c (by decide), up_c (by decide), up_c (by decide), up_c (by decide), up_c (by decide), up_c (by decide)]; exact hc.2.2
  · rw [if_pos (by rw [show (4 : Int32) = nI 4 from rfl, q_le (by omega) (by omega)]; omega)]
    obtain ⟨v, g2, a, b, c⟩ := no
    exact ⟨v, g2, a, b, Or.inr ⟨c, fun e => h2 e.1⟩⟩
theorem c_takeO {B : m_B} {g : z_G} {x y : Nat} (hB : ok_B B) (hc : c_B B g) (h0 : g 42 0 = nI x) (h1 : g 42 1 = nI y) : ∃ v g2, s_Read_takeItem 111 g = some (v, g2) ∧ c_fi g g2 ∧ ((v = 1 ∧ b_n B < 6 ∧ m_ok2 [(0, 7), (0, 9)] [x, y] ∧ c_B (k_row B x y) g2) ∨ (v = 0 ∧ ¬ (b_n B < 6 ∧ m_ok2 [(0, 7), (0, 9)] [x, y]))) := by
  have hH := hB.2.2.2.2.2.1
  unfold s_Read_takeItem s_Read_takeItem_b98 s_Row_add_54 s_Top_isOrder s_Top_isOrder_b24
  rw [if_neg (show ¬ (111 : Int32) = 100 by decide), if_neg (show ¬ (111 : Int32) = 104 by decide), if_neg (show ¬ (111 : Int32) = 109 by decide), if_pos (show (111 : Int32) = 111 from rfl), q_a0  h0, q_a1  h1, hc.2.2.1]
  by_cases h3 : s_Top_isWithin (nI x) 0 7 = 0
  · rw [if_pos h3, if_pos (show (0 : Int32) = 0 from rfl)]
    exact ⟨0, g, rfl, c_fi.rf g, Or.inr ⟨rfl, fun e => e.2.1 h3⟩⟩
  · rw [if_neg h3]
    by_cases h4 : s_Top_isWithin (nI y) 0 9 = 0
    · rw [if_pos h4, if_pos (show (0 : Int32) = 0 from rfl)]
      exact ⟨0, g, rfl, c_fi.rf g, Or.inr ⟨rfl, fun e => e.2.2.1 h4⟩⟩
    · rw [if_neg h4, if_neg (show ¬ (1 : Int32) = 0 by decide)]
      by_cases h2 : b_n B < 6
      · rw [if_pos (by rw [show (6 : Int32) = nI 6 from rfl, q_lt (by omega) (by omega)]; exact h2), q_ck (by omega) (by decide)]
        simp only [q_let]
        rw [q_wr (by omega), up_c (show 54 ≠ 55 by decide), hc.2.2.1, q_ck (by omega) (by decide), q_wr (by omega), up_c (show 54 ≠ 56 by decide), up_c (show 54 ≠ 55 by decide), hc.2.2.1, show nI (b_n B) + 1 = nI (b_n B + 1) from nI_1 _]
        simp only [Option.bind_some]
        rw [if_neg (show ¬ (1 : Int32) = 0 by decide)]
        refine ⟨1, _, rfl, c_fi_up (c_fi_up (c_fi_up (c_fi.rf g) (by decide)) (by decide)) (by decide), Or.inl ⟨rfl, h2, ⟨h3, h4, trivial⟩, ⟨?_, ?_, ?_, ?_, ?_⟩, ?_, up_s, fun i hi => ?_⟩⟩
        · rw [up_c (by decide), up_c (by decide), up_c (by decide)]; exact hc.1.1
        · rw [up_c (by decide), up_c (by decide), up_c (by decide)]; exact hc.1.2.1
        · rw [up_c (by decide), up_c (by decide), up_c (by decide)]; exact hc.1.2.2.1
        · rw [up_c (by decide), up_c (by decide), up_c (by decide)]; exact hc.1.2.2.2.1
        · rw [up_c (by decide), up_c (by decide), up_c (by decide), up_c (by decide), up_c (by decide), up_c (by decide)]; exact hc.1.2.2.2.2
        · rw [up_c (by decide), up_c (by decide), up_c (by decide), up_c (by decide), up_c (by decide), up_c (by decide)]; exact hc.2.1
        · have hi2 : i < b_n B + 1 := hi
          rw [up_c (show 55 ≠ 54 by decide), up_c (show 55 ≠ 56 by decide), up_c (show 56 ≠ 54 by decide)]
          show _ = nI (if i = b_n B then x else b_rt B i) ∧ _ = nI (if i = b_n B then y else b_rs B i)
          by_cases h9 : i = b_n B
          · rw [if_pos h9, if_pos h9, h9, up_s, up_s]
            exact ⟨rfl, rfl⟩
          · rw [if_neg h9, if_neg h9, up_n h9, up_n h9, up_c (by decide)]
            exact hc.2.2.2 i (by omega)
      · rw [if_neg (by rw [show (6 : Int32) = nI 6 from rfl, q_lt (by omega) (by omega)]; exact h2)]
        exact ⟨0, g, rfl, c_fi.rf g, Or.inr ⟨rfl, fun e => h2 e.1⟩⟩
theorem c_takeM {B : m_B} {g : z_G} {x y f l r k : Nat} (hB : ok_B B) (hc : c_B B g) (bl : l < 100) (br : r < 100) (bk : k < 100) (h0 : g 42 0 = nI x) (h1 : g 42 1 = nI y) (h2 : g 42 2 = nI f) (h3 : g 42 3 = nI l) (h4 : g 42 4 = nI r) (h5 : g 42 5 = nI k) : ∃ v g2, s_Read_takeItem 109 g = some (v, g2) ∧ c_fi g g2 ∧ ((v = 1 ∧ l_M (b_L B) < 6 ∧ m_ok2 [(0, 15), (0, 15), (0, 7), (0, nI (l_H (b_L B)) - 1), (0, nI (l_H (b_L B)) - 1), (0, 4)] [x, y, f, l, r, k] ∧ c_B (k_man B x y f l r k) g2) ∨ (v = 0 ∧ ¬ (l_M (b_L B) < 6 ∧ m_ok2 [(0, 15), (0, 15), (0, 7), (0, nI (l_H (b_L B)) - 1), (0, nI (l_H (b_L B)) - 1), (0, 4)] [x, y, f, l, r, k]))) := by
  have hH := hB.1
  have hM := hB.2.1
  have no : ∀ P : Prop, ¬ P → ∃ v g2, (((some ((0 : Int32), g)).bind fun r16q => z_ck (z_bit r16q.1) (some (r16q.1, r16q.2))) = some (v, g2) ∧ c_fi g g2 ∧ ((v = 1 ∧ P ∧ c_B (k_man B x y f l r k) g2) ∨ (v = 0 ∧ ¬ P))) := fun P hP => ⟨0, g, rfl, c_fi.rf g, Or.inr ⟨rfl, hP⟩⟩
  suffices hs : ∃ v g2, s_Read_takeItem 109 g = some (v, g2) ∧ c_fi g g2 ∧ ((v = 1 ∧ (l_M (b_L B) < 6 ∧ m_ok2 [(0, 15), (0, 15), (0, 7), (0, nI (l_H (b_L B)) - 1), (0, nI (l_H (b_L B)) - 1), (0, 4)] [x, y, f, l, r, k]) ∧ c_B (k_man B x y f l r k) g2) ∨ (v = 0 ∧ ¬ (l_M (b_L B) < 6 ∧ m_ok2 [(0, 15), (0, 15), (0, 7), (0, nI (l_H (b_L B)) - 1), (0, nI (l_H (b_L B)) - 1), (0, 4)] [x, y, f, l, r, k]))) by
    obtain ⟨v, g2, a, b, c⟩ := hs
    refine ⟨v, g2, a, b, ?_⟩
    rcases c with c | c
    · exact Or.inl ⟨c.1, c.2.1.1, c.2.1.2, c.2.2⟩
    · exact Or.inr c
  unfold s_Read_takeItem s_Read_takeMan s_Read_takeMan_b45 s_Read_takeMan_b89
  rw [if_neg (show ¬ (109 : Int32) = 100 by decide), if_neg (show ¬ (109 : Int32) = 104 by decide), if_pos (show (109 : Int32) = 109 from rfl), q_a0  h0, q_a1  h1, q_a2  h2, q_a3  h3, q_a4  h4, q_a5  h5, hc.1.1, hc.1.2.1, m_isCell]
  by_cases c1 : l_M (b_L B) < 6
  · rw [if_neg (by rw [show (6 : Int32) = nI 6 from rfl, q_le (by omega) (by omega)]; omega)]
    by_cases c2 : s_Top_isWithin (nI x) 0 15 = 0 ∨ s_Top_isWithin (nI y) 0 15 = 0
    · rw [if_pos c2, if_pos (show (0 : Int32) = 0 from rfl)]
      exact no _ (fun e => c2.elim e.2.1 e.2.2.1)
    · rw [if_neg c2, if_neg (show ¬ (1 : Int32) = 0 by decide)]
      by_cases c3 : s_Top_isWithin (nI f) 0 7 = 0
      · rw [if_pos c3]
        exact no _ (fun e => e.2.2.2.1 c3)
      · rw [if_neg c3]
        by_cases c4 : l < l_H (b_L B)
        · rw [if_neg (by rw [q_le (by omega) (by omega)]; omega)]
          by_cases c5 : r < l_H (b_L B)
          · rw [if_neg (by rw [q_le (by omega) (by omega)]; omega)]
            by_cases c6 : k ≤ 4
            · rw [if_pos (by rw [show (4 : Int32) = nI 4 from rfl, q_le (by omega) (by omega)]; exact c6), q_ck (by omega) (by decide), q_wr (by omega)]
              simp only [q_let]
              rw [up_c (show 47 ≠ 7 by decide), hc.1.2.1, q_ck (by omega) (by decide), q_wr (by omega), up_c (show 47 ≠ 49 by decide), up_c (show 47 ≠ 7 by decide), hc.1.2.1, q_ck (by omega) (by decide), q_wr (by omega), up_c (show 47 ≠ 8 by decide), up_c (show 47 ≠ 49 by decide), up_c (show 47 ≠ 7 by decide), hc.1.2.1, q_ck (by omega) (by decide), q_wr (by omega), up_c (show 47 ≠ 50 by decide), up_c (show 47 ≠ 8 by decide), up_c (show 47 ≠ 49 by decide), up_c (show 47 ≠ 7 by decide), hc.1.2.1, m_spot, show nI (l_M (b_L B)) + 1 = nI (l_M (b_L B) + 1) from nI_1 _]
              rw [q_a3 (g := z_up g 7 _ _)  (v := nI l) (by rw [up_c (by decide)]; exact h3), q_a4 (g := z_up (z_up g 7 _ _) 49 _ _)  (v := nI r) (by rw [up_c (by decide), up_c (by decide)]; exact h4), q_a5 (g := z_up (z_up (z_up g 7 _ _) 49 _ _) 8 _ _)  (v := nI k) (by rw [up_c (by decide), up_c (by decide), up_c (by decide)]; exact h5)]
              simp only [Option.bind_some]
              rw [q_ckt (show z_bit 1 = true from rfl)]
              refine ⟨1, _, rfl, c_fi_up (c_fi_up (c_fi_up (c_fi_up (c_fi_up (c_fi.rf g) (by decide)) (by decide)) (by decide)) (by decide)) (by decide), Or.inl ⟨rfl, ⟨c1, fun e => c2 (Or.inl e), fun e => c2 (Or.inr e), c3, (q_wl (by omega) (by omega)).mpr c4, (q_wl (by omega) (by omega)).mpr c5, ?_, trivial⟩, ⟨?_, up_s, ?_, ?_, fun i hi => ?_⟩, fun i hi => ?_, ?_⟩⟩
              · show s_Top_isWithin (nI k) 0 (nI 4) ≠ 0
                rw [q_w1 (by decide) c6]; decide
              · rw [up_n (by decide), up_c (by decide), up_c (by decide), up_c (by decide), up_c (by decide)]; exact hc.1.1
              · rw [up_n (by decide), up_c (by decide), up_c (by decide), up_c (by decide), up_c (by decide)]; exact hc.1.2.2.1
              · rw [up_c (by decide), up_c (by decide), up_c (by decide), up_c (by decide), up_c (by decide)]; exact hc.1.2.2.2.1
              · have hi2 : i < l_M (b_L B) + 1 := hi
                rw [up_c (show 49 ≠ 47 by decide), up_c (show 49 ≠ 50 by decide), up_c (show 49 ≠ 8 by decide), up_c (show 50 ≠ 47 by decide)]
                show _ = nI (if i = l_M (b_L B) then l else l_l (b_L B) i) ∧ _ = nI (if i = l_M (b_L B) then k else l_k (b_L B) i)
                by_cases h9 : i = l_M (b_L B)
                · rw [if_pos h9, if_pos h9, h9, up_s, up_s]; exact ⟨rfl, rfl⟩
                · rw [if_neg h9, if_neg h9, up_n h9, up_n h9, up_c (by decide), up_c (by decide), up_c (by decide), up_c (by decide)]
                  exact hc.1.2.2.2.2 i (by omega)
              · have hi2 : i < l_M (b_L B) + 1 := hi
                rw [up_c (show 7 ≠ 47 by decide), up_c (show 7 ≠ 50 by decide), up_c (show 7 ≠ 8 by decide), up_c (show 7 ≠ 49 by decide), up_c (show 8 ≠ 47 by decide), up_c (show 8 ≠ 50 by decide)]
                show _ = nI (m_sp (if i = l_M (b_L B) then (x, y, f) else b_p B i)) ∧ _ = nI (if i = l_M (b_L B) then r else b_r B i)
                by_cases h9 : i = l_M (b_L B)
                · rw [if_pos h9, if_pos h9, h9, up_s, up_s]; exact ⟨rfl, rfl⟩
                · rw [if_neg h9, if_neg h9, up_n h9, up_n h9, up_c (by decide), up_c (by decide)]
                  exact hc.2.1 i (by omega)
              · rw [up_c (by decide), up_c (by decide), up_c (by decide), up_c (by decide), up_c (by decide), up_c (by decide), up_c (by decide), up_c (by decide), up_c (by decide), up_c (by decide), up_c (by decide), up_c (by decide), up_c (by decide), up_c (by decide), up_c (by decide)]; exact hc.2.2
            · rw [if_neg (by rw [show (4 : Int32) = nI 4 from rfl, q_le (by omega) (by omega)]; exact c6)]
              refine no _ (fun e => c6 ?_)
              exact q_w15 (n := 4) (by decide) (by omega) e.2.2.2.2.2.2.1
          · rw [if_pos (by rw [q_le (by omega) (by omega)]; omega)]
            exact no _ (fun e => c5 ((q_wl (by omega) (by omega)).mp e.2.2.2.2.2.1))
        · rw [if_pos (by rw [q_le (by omega) (by omega)]; omega)]
          exact no _ (fun e => c4 ((q_wl (by omega) (by omega)).mp e.2.2.2.2.1))
  · rw [if_pos (by rw [show (6 : Int32) = nI 6 from rfl, q_le (by omega) (by omega)]; omega)]
    exact no _ (fun e => c1 e.1)
