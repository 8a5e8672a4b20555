/-! ===== land and column, by numbers ===== -/
abbrev m_K : Type := (Nat → Nat × Nat × Nat) × (Nat → Nat) × Nat × Int32
abbrev k_p (K : m_K) : Nat → Nat × Nat × Nat := K.1
abbrev k_r (K : m_K) : Nat → Nat := K.2.1
abbrev k_t (K : m_K) : Nat := K.2.2.1
abbrev k_g (K : m_K) : Int32 := K.2.2.2
abbrev m_L : Type := Nat × Nat × Nat × (Nat → Nat) × (Nat → Nat) × (Nat → Nat)
abbrev l_H (L : m_L) : Nat := L.1
abbrev l_M (L : m_L) : Nat := L.2.1
abbrev l_D (L : m_L) : Nat := L.2.2.1
abbrev l_c (L : m_L) : Nat → Nat := L.2.2.2.1
abbrev l_l (L : m_L) : Nat → Nat := L.2.2.2.2.1
abbrev l_k (L : m_L) : Nat → Nat := L.2.2.2.2.2
def ok_L (L : m_L) : Prop := 1 ≤ l_H L ∧ l_H L ≤ 4 ∧ 1 ≤ l_M L ∧ l_M L ≤ 6 ∧ l_D L ≤ 15 ∧ (∀ h, h < l_H L → l_c L h < 256) ∧ ∀ i, i < l_M L → l_l L i < l_H L ∧ l_k L i < 5
def ok_K (L : m_L) (K : m_K) : Prop := (∀ i, i < l_M L → m_in (k_p K i) ∧ k_r K i < l_H L) ∧ k_t K < 64
def c_L (L : m_L) (a b c d : Nat → Int32) : Prop := a 0 = nI (l_H L) ∧ a 1 = nI (l_M L) ∧ a 2 = nI (l_D L) ∧ (∀ h, h < l_H L → b h = nI (l_c L h)) ∧ ∀ i, i < l_M L → c i = nI (l_l L i) ∧ d i = nI (l_k L i)
def c_K (L : m_L) (K : m_K) (o s r : Nat → Int32) : Prop := o 2 = nI (k_t K) ∧ o 3 = k_g K ∧ ∀ i, i < l_M L → s i = nI (m_sp (k_p K i)) ∧ r i = nI (k_r K i)
def d_L (L : m_L) (ld : Nat → Int32) : Prop := ld 8 = nI (l_H L) ∧ ld 9 = nI (l_M L) ∧ ld 10 = nI (l_D L) ∧ (∀ h, h < l_H L → ld h = nI (l_c L h % 16) ∧ ld (4 + h) = nI (l_c L h / 16)) ∧ ∀ i, i < l_M L → ld (11 + i) = nI (l_l L i) ∧ ld (17 + i) = nI (l_k L i)
def d_K (L : m_L) (K : m_K) (b : Nat) (sl : Nat → Int32) : Prop := (∀ i, i < l_M L → sl (b + i) = nI (k_p K i).1 ∧ sl (b + 6 + i) = nI (k_p K i).2.1 ∧ sl (b + 12 + i) = nI (k_p K i).2.2 ∧ sl (b + 18 + i) = nI (k_r K i)) ∧ sl (b + 24) = nI (k_t K) ∧ sl (b + 25) = k_g K
def m_ti (t i : Nat) : Bool := decide (t / 2 ^ i % 2 = 1)
def m_pu (L : m_L) (K : m_K) (i : Nat) : Nat := if m_ti (k_t K) i = true ∨ l_l L i ≠ k_r K i then 256 else l_c L (k_r K i)
theorem m_pu_le {L : m_L} {K : m_K} {i : Nat} (hL : ok_L L) (hK : ok_K L K) (hi : i < l_M L) : m_pu L K i ≤ 256 := by
  unfold m_pu
  by_cases h : m_ti (k_t K) i = true ∨ l_l L i ≠ k_r K i
  · rw [if_pos h]; exact Nat.le_refl _
  · rw [if_neg h]
    exact Nat.le_of_lt (hL.2.2.2.2.2.1 _ (hK.1 i hi).2)
/-- where a man is behind an order -/
def m_pos (L : m_L) (K : m_K) (r n i : Nat) : Nat × Nat × Nat := m_go (m_ord (k_p K i).1 (k_p K i).2.1 (k_p K i).2.2 r n) (m_pu L K i) (l_k L i) (q_par (k_g K + 1))
def m_oK (L : m_L) (K : m_K) (r n : Nat) : m_K := (m_pos L K r n, k_r K, k_t K, k_g K + 1)
theorem m_oK_ok {L : m_L} {K : m_K} {r n : Nat} (hL : ok_L L) (hK : ok_K L K) : ok_K L (m_oK L K r n) := by
  refine ⟨fun i hi => ⟨?_, (hK.1 i hi).2⟩, hK.2⟩
  exact m_go_in (m_ord_in (hK.1 i hi).1.1 (hK.1 i hi).1.2.1) (m_pu_le hL hK hi) (hL.2.2.2.2.2.2 i hi).2
set_option maxRecDepth 20000 in
theorem m_bit : ∀ t, t < 64 → ∀ i, i < 6 → ((nI t >>> (nI i &&& 31)) &&& 1) = if m_ti t i = true then 1 else 0 := by decide +kernel
theorem m_sp_lt {q : Nat × Nat × Nat} (h : m_in q) : m_sp q < 2048 := by
  unfold m_sp
  have h1 := h.1
  have h2 := h.2.1
  have h3 := h.2.2
  omega
/-! ===== the class's column ===== -/
theorem c_isTied {L : m_L} {K : m_K} {c i : Nat} {g : z_G} (hL : ok_L L) (hK : ok_K L K) (hi : i < l_M L) (h : c_K L K (g (3 * c)) (g (3 * c + 1)) (g (3 * c + 2))) : s_Col_isTied c (nI i) g = if m_ti (k_t K) i = true then 1 else 0 := by
  unfold s_Col_isTied
  have h6 : i < 6 := Nat.lt_of_lt_of_le hi hL.2.2.2.1
  rw [h.1, m_bit _ hK.2 i h6]
  by_cases ht : m_ti (k_t K) i = true
  · simp [ht]
  · simp [ht]
theorem c_pullOn {L : m_L} {K : m_K} {c i : Nat} {g : z_G} (hL : ok_L L) (hK : ok_K L K) (hi : i < l_M L) (hl : c_L L (g 43) (g 44) (g 45) (g 46)) (h : c_K L K (g (3 * c)) (g (3 * c + 1)) (g (3 * c + 2))) : s_Col_pullOn c (nI i) g = some (q_pu (m_pu L K i)) := by
  have h6 : i < 6 := Nat.lt_of_lt_of_le hi hL.2.2.2.1
  have hl4 := (hL.2.2.2.2.2.2 i hi).1
  have hr4 := (hK.1 i hi).2
  have hH := hL.2.1
  unfold s_Col_pullOn s_Col_pullOn_b23 m_pu q_pu
  rw [c_isTied hL hK hi h]
  by_cases ht : m_ti (k_t K) i = true
  · simp [ht]
  · rw [if_neg ht, if_pos rfl, q_ck h6 (by decide), q_ck h6 (by decide), q_ck h6 (by decide), q_rd (by omega), q_rd (by omega), (hl.2.2.2.2 i hi).1, (h.2.2 i hi).2]
    by_cases he : l_l L i = k_r K i
    · rw [if_pos (by rw [he]), q_ck (by omega) (by decide), q_rd (by omega), hl.2.2.2.1 _ hr4]
      have h7 : ¬ (m_ti (k_t K) i = true ∨ l_l L i ≠ k_r K i) := by simp [ht, he]
      have h8 := hL.2.2.2.2.2.1 _ hr4
      rw [if_neg h7, if_neg (by omega)]
    · rw [if_neg (fun h9 => he (q_inj (by omega) (by omega) h9))]
      simp [he]
theorem c_obeyL {L : m_L} {K : m_K} {c r n : Nat} (hc : c < 13) (hL : ok_L L) (hK : ok_K L K) (hr : r < 8) (hn : n < 1000) : ∀ (d fuel i : Nat) (g : z_G), d < fuel → i + d = l_M L → c_L L (g 43) (g 44) (g 45) (g 46) → g (3 * c) 2 = nI (k_t K) → g (3 * c) 3 = k_g K + 1 → (∀ j, j < l_M L → g (3 * c + 1) j = nI (m_sp (if j < i then m_pos L K r n j else k_p K j)) ∧ g (3 * c + 2) j = nI (k_r K j)) → ∃ g2, s_Col_obey_L13 c fuel (nI r) (nI n) (nI i) g = some g2 ∧ (∀ j, j < l_M L → g2 (3 * c + 1) j = nI (m_sp (m_pos L K r n j))) ∧ ∀ k, k ≠ 3 * c + 1 → g2 k = g k := by
  intro d
  have hM := hL.2.2.2.1
  induction d with
  | zero =>
    intro fuel i g hfu hi hl h1 h2 h3
    obtain ⟨k, rfl⟩ : ∃ k, fuel = k + 1 := ⟨fuel - 1, by omega⟩
    rw [s_Col_obey_L13, if_pos (by rw [hl.2.1, q_le (by omega) (by omega)]; omega)]
    refine ⟨g, rfl, fun j hj => ?_, fun _ _ => rfl⟩
    have h4 := (h3 j hj).1
    rw [if_pos (by omega)] at h4
    exact h4
  | succ d ih =>
    intro fuel i g hfu hi hl h1 h2 h3
    obtain ⟨k, rfl⟩ : ∃ k, fuel = k + 1 := ⟨fuel - 1, by omega⟩
    have hiM : i < l_M L := by omega
    have h6 : i < 6 := by omega
    have e3 := h3 i hiM
    rw [if_neg (by omega)] at e3
    -- the column as it stands, for the pull alone
    have hp : s_Col_pullOn c (nI i) g = some (q_pu (m_pu L K i)) := by
      have hK2 : ok_K L ((fun j => if j < i then m_pos L K r n j else k_p K j), k_r K, k_t K, k_g K + 1) := by
        refine ⟨fun j hj => ⟨?_, (hK.1 j hj).2⟩, hK.2⟩
        by_cases hji : j < i
        · show m_in (if j < i then m_pos L K r n j else k_p K j)
          rw [if_pos hji]
          exact ((m_oK_ok (r := r) (n := n) hL hK).1 j hj).1
        · show m_in (if j < i then m_pos L K r n j else k_p K j)
          rw [if_neg hji]
          exact (hK.1 j hj).1
      exact c_pullOn (K := ((fun j => if j < i then m_pos L K r n j else k_p K j), k_r K, k_t K, k_g K + 1)) hL hK2 hiM hl ⟨h1, h2, h3⟩
    rw [s_Col_obey_L13, if_neg (by rw [hl.2.1, q_le (by omega) (by omega)]; omega), q_ck h6 (by decide), hp]
    show ∃ g2, (z_ck _ _ = some g2) ∧ _
    rw [q_ck h6 (by decide), q_rd (by omega), e3.1, q_rd (by omega), (hl.2.2.2.2 i hiM).2, h2, m_ordered (hK.1 i hiM).1 hr hn (m_pu_le hL hK hiM) (hL.2.2.2.2.2.2 i hiM).2]
    show ∃ g2, (z_ck _ _ = some g2) ∧ _
    rw [q_ck h6 (by decide)]
    simp only [z_let]
    rw [q_wr (by omega), show nI i + 1 = nI (i + 1) from nI_1 i]
    have n43 : ∀ q, 39 ≤ q → q ≠ 3 * c + 1 := fun q hq => by omega
    obtain ⟨g2, e, f1, f2⟩ := ih k (i + 1) (z_up g (3 * c + 1) i (nI (m_sp (m_pos L K r n i)))) (by omega) (by omega) (by rw [up_c (n43 43 (by decide)), up_c (n43 44 (by decide)), up_c (n43 45 (by decide)), up_c (n43 46 (by decide))]; exact hl) (by rw [up_c (by omega)]; exact h1) (by rw [up_c (by omega)]; exact h2) (fun j hj => by
      rw [up_c (show 3 * c + 2 ≠ 3 * c + 1 by omega)]
      refine ⟨?_, (h3 j hj).2⟩
      by_cases hji : j = i
      · subst hji
        rw [up_s, if_pos (by omega)]
      · rw [up_n hji, (h3 j hj).1]
        by_cases h7 : j < i
        · rw [if_pos h7, if_pos (by omega)]
        · rw [if_neg h7, if_neg (by omega)])
    refine ⟨g2, e, f1, fun q hq => ?_⟩
    rw [f2 q hq, up_c hq]
theorem c_obey {L : m_L} {K : m_K} {c r n : Nat} {g : z_G} (hc : c < 13) (hL : ok_L L) (hK : ok_K L K) (hr : r < 8) (hn : n < 1000) (hl : c_L L (g 43) (g 44) (g 45) (g 46)) (h : c_K L K (g (3 * c)) (g (3 * c + 1)) (g (3 * c + 2))) : ∃ g2, s_Col_obey c (nI r) (nI n) g = some g2 ∧ c_K L (m_oK L K r n) (g2 (3 * c)) (g2 (3 * c + 1)) (g2 (3 * c + 2)) ∧ ∀ k, k ≠ 3 * c → k ≠ 3 * c + 1 → g2 k = g k := by
  unfold s_Col_obey
  simp only [z_let]
  have hM := hL.2.2.2.1
  have n43 : ∀ q, 39 ≤ q → q ≠ 3 * c := fun q hq => by omega
  obtain ⟨g2, e, f1, f2⟩ := c_obeyL (c := c) (r := r) (n := n) hc hL hK hr hn (l_M L) z_F 0 (z_up g (3 * c) 3 ((g (3 * c) 3) + 1)) (by unfold z_F; omega) (by omega) (by rw [up_c (n43 43 (by decide)), up_c (n43 44 (by decide)), up_c (n43 45 (by decide)), up_c (n43 46 (by decide))]; exact hl) (by rw [up_n (by decide)]; exact h.1) (by rw [up_s, h.2.1]) (fun j hj => by
    rw [up_c (by omega), up_c (by omega), if_neg (by omega)]
    exact h.2.2 j hj)
  refine ⟨g2, e, ⟨?_, ?_, fun j hj => ⟨f1 j hj, ?_⟩⟩, fun k h1 h2 => ?_⟩
  · rw [f2 _ (by omega), up_n (by decide)]; exact h.1
  · rw [f2 _ (by omega), up_s, h.2.1]; rfl
  · rw [f2 _ (by omega), up_c (by omega)]; exact (h.2.2 j hj).2
  · rw [f2 k h2, up_c h1]
