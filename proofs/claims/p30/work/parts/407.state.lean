/-! ===== the whole state ===== -/
abbrev m_A : Type := m_L × m_K × (Nat × (Nat → m_K)) × (Nat × (Nat → m_K)) × (Nat × (Nat → Nat) × (Nat → Nat)) × (Nat × (Nat → Int32) × (Nat → Int32) × (Nat → Int32)) × (Nat × (Nat → Nat))
abbrev a_L (A : m_A) : m_L := A.1
abbrev a_K (A : m_A) : m_K := A.2.1
abbrev a_U (A : m_A) : Nat := A.2.2.1.1
abbrev a_un (A : m_A) : Nat → m_K := A.2.2.1.2
abbrev a_Q (A : m_A) : Nat := A.2.2.2.1.1
abbrev a_kp (A : m_A) : Nat → m_K := A.2.2.2.1.2
abbrev a_n (A : m_A) : Nat := A.2.2.2.2.1.1
abbrev a_rt (A : m_A) : Nat → Nat := A.2.2.2.2.1.2.1
abbrev a_rs (A : m_A) : Nat → Nat := A.2.2.2.2.1.2.2
abbrev a_S (A : m_A) : Nat := A.2.2.2.2.2.1.1
abbrev a_sa (A : m_A) : Nat → Int32 := A.2.2.2.2.2.1.2.1
abbrev a_sb (A : m_A) : Nat → Int32 := A.2.2.2.2.2.1.2.2.1
abbrev a_sc (A : m_A) : Nat → Int32 := A.2.2.2.2.2.1.2.2.2
abbrev a_T (A : m_A) : Nat := A.2.2.2.2.2.2.1
abbrev a_tx (A : m_A) : Nat → Nat := A.2.2.2.2.2.2.2
def ok_P (L : m_L) (U : Nat) (un : Nat → m_K) (mx : Nat) : Prop := U ≤ mx ∧ ∀ j, j < U → ok_K L (un j)
def ok_row (n : Nat) (rt rs : Nat → Nat) : Prop := n ≤ 6 ∧ ∀ k, k < n → rt k < 8 ∧ rs k < 10
def ok_tx (T : Nat) (tx : Nat → Nat) : Prop := T ≤ 200 ∧ ∀ j, j < T → 32 ≤ tx j ∧ tx j ≤ 126
def ok_A (A : m_A) : Prop := ok_L (a_L A) ∧ ok_K (a_L A) (a_K A) ∧ ok_P (a_L A) (a_U A) (a_un A) 8 ∧ ok_P (a_L A) (a_Q A) (a_kp A) 2 ∧ ok_row (a_n A) (a_rt A) (a_rs A) ∧ a_S A ≤ 6 ∧ ok_tx (a_T A) (a_tx A)
def c_Q (L : m_L) (Q : Nat) (kp : Nat → m_K) (g : z_G) : Prop := g 63 1 = nI Q ∧ (∀ j, j < 2 → g 64 j = nI (11 + j) ∧ g 6 (2 + j) = 0) ∧ ∀ j, j < Q → c_K L (kp j) (g (3 * (11 + j))) (g (3 * (11 + j) + 1)) (g (3 * (11 + j) + 2))
def c_row (n : Nat) (rt rs : Nat → Nat) (a b c : Nat → Int32) : Prop := a 2 = nI n ∧ ∀ k, k < n → b k = nI (rt k) ∧ c k = nI (rs k)
def c_sn (S : Nat) (sa sb sc : Nat → Int32) (a b c d : Nat → Int32) : Prop := a 3 = nI S ∧ ∀ k, k < S → b k = sa k ∧ c k = sb k ∧ d k = sc k
def c_tx (T : Nat) (tx : Nat → Nat) (a b : Nat → Int32) : Prop := a 1 = nI T ∧ ∀ j, j < T → b j = nI (tx j)
def c_R (A : m_A) (g : z_G) : Prop := c_L (a_L A) (g 43) (g 44) (g 45) (g 46) ∧ c_K (a_L A) (a_K A) (g 0) (g 1) (g 2) ∧ c_U (a_L A) (a_U A) (a_un A) g ∧ c_Q (a_L A) (a_Q A) (a_kp A) g ∧ c_row (a_n A) (a_rt A) (a_rs A) (g 51) (g 52) (g 53) ∧ c_sn (a_S A) (a_sa A) (a_sb A) (a_sc A) (g 57) (g 58) (g 59) (g 60) ∧ c_tx (a_T A) (a_tx A) (g 39) (g 40)
def d_Q (L : m_L) (Q : Nat) (kp : Nat → m_K) (g : z_G) : Prop := g 0 3 = nI Q ∧ ∀ j, j < Q → d_K L (kp j) (26 * (9 + j)) (g 2)
def d_row (n : Nat) (rt rs : Nat → Nat) (ld : Nat → Int32) : Prop := ld 47 = nI n ∧ ∀ k, k < n → ld (48 + k) = nI (rt k) ∧ ld (54 + k) = nI (rs k)
def d_sn (S : Nat) (sa sb sc : Nat → Int32) (v : Int32) (b c d : Nat → Int32) : Prop := v = nI S ∧ ∀ k, k < S → b k = sa k ∧ c k = sb k ∧ d k = sc k
def d_tx (T : Nat) (tx : Nat → Nat) (v : Int32) (b : Nat → Int32) : Prop := v = nI T ∧ ∀ j, j < T → b j = nI (tx j)
def d_R (A : m_A) (g : z_G) : Prop := d_L (a_L A) (g 1) ∧ d_K (a_L A) (a_K A) 0 (g 2) ∧ d_U (a_L A) (a_U A) (a_un A) g ∧ d_Q (a_L A) (a_Q A) (a_kp A) g ∧ d_row (a_n A) (a_rt A) (a_rs A) (g 1) ∧ d_sn (a_S A) (a_sa A) (a_sb A) (a_sc A) (g 0 9) (g 4) (g 5) (g 6) ∧ d_tx (a_T A) (a_tx A) (g 0 4) (g 3)
def z_R (A : m_A) (gC gM : z_G) : Prop := ok_A A ∧ c_R A gC ∧ d_R A gM
/-! what stays where other cells change -/
theorem c_U_fr {L : m_L} {U : Nat} {un : Nat → m_K} {g g2 : z_G} (h : c_U L U un g) (hU : U ≤ 8) (e : ∀ k, z_pc k → g2 k = g k) : c_U L U un g2 := by
  obtain ⟨h1, p, h2, h3, h4⟩ := h
  refine ⟨by rw [e 61 (Or.inr (Or.inl rfl))]; exact h1, p, fun j hj => by rw [e 62 (Or.inr (Or.inr rfl))]; exact h2 j hj, h3, fun j hj => ?_⟩
  have h5 := h2 j (by omega)
  rw [e _ (Or.inl (by omega)), e _ (Or.inl (by omega)), e _ (Or.inl (by omega))]
  exact h4 j hj
def z_qc (k : Nat) : Prop := (33 ≤ k ∧ k < 39) ∨ k = 63 ∨ k = 64 ∨ k = 6
theorem c_Q_fr {L : m_L} {Q : Nat} {kp : Nat → m_K} {g g2 : z_G} (h : c_Q L Q kp g) (hQ : Q ≤ 2) (e : ∀ k, z_qc k → g2 k = g k) : c_Q L Q kp g2 := by
  refine ⟨by rw [e 63 (Or.inr (Or.inl rfl))]; exact h.1, fun j hj => by rw [e 64 (Or.inr (Or.inr (Or.inl rfl))), e 6 (Or.inr (Or.inr (Or.inr rfl)))]; exact h.2.1 j hj, fun j hj => ?_⟩
  rw [e _ (Or.inl (by omega)), e _ (Or.inl (by omega)), e _ (Or.inl (by omega))]
  exact h.2.2 j hj
/-- cells of the class that are no scratch -/
def z_lc (k : Nat) : Prop := k < 3 ∨ k = 6 ∨ (9 ≤ k ∧ k < 41) ∨ (43 ≤ k ∧ k < 47) ∨ (51 ≤ k ∧ k < 54) ∨ (57 ≤ k ∧ k < 65)
theorem c_R_fr {A : m_A} {g g2 : z_G} (hA : ok_A A) (h : c_R A g) (e : ∀ k, z_lc k → g2 k = g k) : c_R A g2 := by
  obtain ⟨h1, h2, h3, h4, h5, h6, h7⟩ := h
  have s : ∀ k, (k < 3 ∨ k = 6 ∨ (9 ≤ k ∧ k < 41) ∨ (43 ≤ k ∧ k < 47) ∨ (51 ≤ k ∧ k < 54) ∨ (57 ≤ k ∧ k < 65)) → g2 k = g k := e
  refine ⟨?_, ?_, c_U_fr h3 hA.2.2.1.1 (fun k hk => s k (by unfold z_pc at hk; omega)), c_Q_fr h4 hA.2.2.2.1.1 (fun k hk => s k (by unfold z_qc at hk; omega)), ?_, ?_, ?_⟩
  · rw [s 43 (by decide), s 44 (by decide), s 45 (by decide), s 46 (by decide)]; exact h1
  · rw [s 0 (by decide), s 1 (by decide), s 2 (by decide)]; exact h2
  · rw [s 51 (by decide), s 52 (by decide), s 53 (by decide)]; exact h5
  · rw [s 57 (by decide), s 58 (by decide), s 59 (by decide), s 60 (by decide)]; exact h6
  · rw [s 39 (by decide), s 40 (by decide)]; exact h7
theorem d_K_fr {L : m_L} {K : m_K} {b : Nat} {s t : Nat → Int32} (hM : l_M L ≤ 6) (h : d_K L K b s) (e : ∀ j, b ≤ j → j < b + 26 → t j = s j) : d_K L K b t := d_K_at hM h (fun j hj => e _ (by omega) (by omega))
theorem d_L_fr {L : m_L} {s t : Nat → Int32} (hL : ok_L L) (h : d_L L s) (e : ∀ j, j < 23 → t j = s j) : d_L L t := by
  have hM := hL.2.2.2.1
  have hH := hL.2.1
  refine ⟨by rw [e 8 (by decide)]; exact h.1, by rw [e 9 (by decide)]; exact h.2.1, by rw [e 10 (by decide)]; exact h.2.2.1, fun k hk => ?_, fun i hi => ?_⟩
  · rw [e k (by omega), e (4 + k) (by omega)]; exact h.2.2.2.1 k hk
  · rw [e (11 + i) (by omega), e (17 + i) (by omega)]; exact h.2.2.2.2 i hi
theorem d_U_fr {L : m_L} {U : Nat} {un : Nat → m_K} {g g2 : z_G} (hM : l_M L ≤ 6) (h : d_U L U un g) (hU : U ≤ 8) (e0 : g2 0 2 = g 0 2) (e : ∀ j, 26 ≤ j → j < 234 → g2 2 j = g 2 j) : d_U L U un g2 := ⟨by rw [e0]; exact h.1, fun j hj => d_K_fr hM (h.2 j hj) (fun i h1 h2 => e i (by omega) (by omega))⟩
theorem d_Q_fr {L : m_L} {Q : Nat} {kp : Nat → m_K} {g g2 : z_G} (hM : l_M L ≤ 6) (h : d_Q L Q kp g) (hQ : Q ≤ 2) (e0 : g2 0 3 = g 0 3) (e : ∀ j, 234 ≤ j → j < 286 → g2 2 j = g 2 j) : d_Q L Q kp g2 := ⟨by rw [e0]; exact h.1, fun j hj => d_K_fr hM (h.2 j hj) (fun i h1 h2 => e i (by omega) (by omega))⟩
theorem d_row_fr {n : Nat} {rt rs : Nat → Nat} {s t : Nat → Int32} (hn : n ≤ 6) (h : d_row n rt rs s) (e : ∀ j, 47 ≤ j → j < 60 → t j = s j) : d_row n rt rs t := ⟨by rw [e 47 (by decide) (by decide)]; exact h.1, fun k hk => by rw [e _ (by omega) (by omega), e _ (by omega) (by omega)]; exact h.2 k hk⟩
theorem d_R_fr {A : m_A} {g g2 : z_G} (hA : ok_A A) (h : d_R A g) (e0 : ∀ j, j ≠ 6 → j ≠ 7 → j ≠ 8 → j ≠ 13 → j ≠ 14 → j ≠ 15 → j ≠ 16 → g2 0 j = g 0 j) (e1 : ∀ j, j < 60 → g2 1 j = g 1 j) (e2 : ∀ j, j < 286 → g2 2 j = g 2 j) (e3 : ∀ k, 3 ≤ k → k < 7 → g2 k = g k) : d_R A g2 := by
  obtain ⟨h1, h2, h3, h4, h5, h6, h7⟩ := h
  have hM := hA.1.2.2.2.1
  refine ⟨d_L_fr hA.1 h1 (fun j hj => e1 j (by omega)), d_K_fr hM h2 (fun j _ h9 => e2 j (by omega)), d_U_fr hM h3 hA.2.2.1.1 (e0 2 (by decide) (by decide) (by decide) (by decide) (by decide) (by decide) (by decide)) (fun j _ h9 => e2 j (by omega)), d_Q_fr hM h4 hA.2.2.2.1.1 (e0 3 (by decide) (by decide) (by decide) (by decide) (by decide) (by decide) (by decide)) (fun j _ h9 => e2 j (by omega)), d_row_fr hA.2.2.2.2.1.1 h5 (fun j _ h9 => e1 j h9), ?_, ?_⟩
  · rw [e0 9 (by decide) (by decide) (by decide) (by decide) (by decide) (by decide) (by decide), e3 4 (by decide) (by decide), e3 5 (by decide) (by decide), e3 6 (by decide) (by decide)]; exact h6
  · rw [e0 4 (by decide) (by decide) (by decide) (by decide) (by decide) (by decide) (by decide), e3 3 (by decide) (by decide)]; exact h7
/-! answers of both sides -/
def z_res (a b : Option (Int32 × z_G)) : Prop := ∃ (v : Int32) (gC gM : z_G) (A : m_A), a = some (v, gC) ∧ b = some (v, gM) ∧ z_R A gC gM
theorem z_same {A : m_A} {gC gM : z_G} {v : Int32} (h : z_R A gC gM) : z_res (some (v, gC)) (some (v, gM)) := ⟨v, gC, gM, A, rfl, rfl, h⟩
theorem q_isMan {A : m_A} {gC gM : z_G} (h : z_R A gC gM) (x : Int32) : s_Mod_isMan x gM = s_Top_isMan x gC ∧ (s_Top_isMan x gC = 0 ∨ (s_Top_isMan x gC ≠ 0 ∧ ∃ i, i < l_M (a_L A) ∧ x = nI i)) := by
  obtain ⟨hA, hc, hd⟩ := h
  have hM := hA.1.2.2.2.1
  have hM1 := hA.1.2.2.1
  have em : s_Mod_men gM = nI (l_M (a_L A)) := by unfold s_Mod_men; rw [show (9 : Int32) = nI 9 from rfl, q_rd (by decide)]; exact hd.1.2.1
  have e1 : s_Mod_isMan x gM = s_Top_isWithin x 0 (nI (l_M (a_L A)) - 1) := by
    unfold s_Mod_isMan
    rw [em]
    exact q_in x 0 _
  have e2 : s_Top_isMan x gC = s_Top_isWithin x 0 (nI (l_M (a_L A)) - 1) := by
    unfold s_Top_isMan
    rw [hc.1.2.1]
  refine ⟨e1.trans e2.symm, ?_⟩
  by_cases h0 : s_Top_isMan x gC = 0
  · exact Or.inl h0
  · refine Or.inr ⟨h0, ?_⟩
    rw [e2, show (1 : Int32) = nI 1 from rfl, q_sub hM1] at h0
    obtain ⟨i, hi, hx⟩ := q_w0 (by omega) h0
    exact ⟨i, by omega, hx⟩
theorem q_isOrder (r n : Int32) : s_Mod_isOrder r n = s_Top_isOrder r n ∧ (s_Top_isOrder r n = 0 ∨ (s_Top_isOrder r n ≠ 0 ∧ ∃ a b, a < 8 ∧ b < 10 ∧ r = nI a ∧ n = nI b)) := by
  unfold s_Mod_isOrder s_Top_isOrder s_Mod_isOrder_b28 s_Top_isOrder_b24
  rw [q_in7, q_in9]
  refine ⟨rfl, ?_⟩
  by_cases h1 : s_Top_isWithin r 0 7 = 0
  · left; rw [if_pos h1]
  · by_cases h2 : s_Top_isWithin n 0 9 = 0
    · left; rw [if_neg h1, if_pos h2]
    · right
      rw [if_neg h1, if_neg h2]
      obtain ⟨a, ha, e1⟩ := q_w0 (n := 7) (by decide) h1
      obtain ⟨b, hb, e2⟩ := q_w0 (n := 9) (by decide) h2
      exact ⟨by decide, a, b, by omega, by omega, e1, e2⟩
/-! order -/
theorem m_push_ok {L : m_L} {U : Nat} {un : Nat → m_K} {K : m_K} (h : ok_P L U un 8) (hK : ok_K L K) : ok_P L (m_push U un K).1 (m_push U un K).2 8 := by
  unfold m_push
  by_cases h8 : U < 8
  · rw [if_pos h8]
    refine ⟨by show U + 1 ≤ 8; omega, fun j hj => ?_⟩
    show ok_K L (if j = U then K else un j)
    by_cases hj2 : j = U
    · rw [if_pos hj2]; exact hK
    · rw [if_neg hj2]; exact h.2 j (by have : j < U + 1 := hj; omega)
  · rw [if_neg h8]
    have h9 := h.1
    refine ⟨by show 8 ≤ 8; omega, fun j hj => ?_⟩
    show ok_K L (if j = 7 then K else un (j + 1))
    by_cases hj2 : j = 7
    · rw [if_pos hj2]; exact hK
    · rw [if_neg hj2]; exact h.2 (j + 1) (by have : j < 8 := hj; omega)
/-- put on the pile, on both sides -/
theorem o_push {A : m_A} {gC gM : z_G} (h : z_R A gC gM) : ∃ gC2 gM2, s_Pile_put_61 0 gC = some gC2 ∧ s_Mod_known gM = some gM2 ∧ z_R (a_L A, a_K A, m_push (a_U A) (a_un A) (a_K A), A.2.2.2) gC2 gM2 := by
  obtain ⟨hA, hc, hd⟩ := h
  obtain ⟨gC2, a1, a2, a3⟩ := c_put hA.1 hA.2.2.1.1 hc.2.2.1 hc.2.1
  obtain ⟨gM2, b1, b2, b3, b4, b5⟩ := d_known hA.1 hA.2.2.1.1 hd.2.2.1 hd.2.1
  have hM := hA.1.2.2.2.1
  have s : ∀ k, ¬ ((9 ≤ k ∧ k < 33) ∨ k = 61 ∨ k = 62) → gC2 k = gC k := a3
  refine ⟨gC2, gM2, a1, b1, ⟨hA.1, hA.2.1, m_push_ok hA.2.2.1 hA.2.1, hA.2.2.2⟩, ⟨?_, ?_, a2, c_Q_fr hc.2.2.2.1 hA.2.2.2.1.1 (fun k hk => s k (by unfold z_qc at hk; omega)), ?_, ?_, ?_⟩, ⟨?_, ?_, b2, d_Q_fr hM hd.2.2.2.1 hA.2.2.2.1.1 (b4 3 (by decide)) (fun j h1 h2 => b5 j (by omega)), ?_, ?_, ?_⟩⟩
  · rw [s 43 (by decide), s 44 (by decide), s 45 (by decide), s 46 (by decide)]; exact hc.1
  · rw [s 0 (by decide), s 1 (by decide), s 2 (by decide)]; exact hc.2.1
  · rw [s 51 (by decide), s 52 (by decide), s 53 (by decide)]; exact hc.2.2.2.2.1
  · rw [s 57 (by decide), s 58 (by decide), s 59 (by decide), s 60 (by decide)]; exact hc.2.2.2.2.2.1
  · rw [s 39 (by decide), s 40 (by decide)]; exact hc.2.2.2.2.2.2
  · rw [b3 1 (by decide) (by decide)]; exact hd.1
  · exact d_K_fr hM hd.2.1 (fun j h1 h2 => b5 j (by omega))
  · rw [b3 1 (by decide) (by decide)]; exact hd.2.2.2.2.1
  · rw [b4 9 (by decide), b3 4 (by decide) (by decide), b3 5 (by decide) (by decide), b3 6 (by decide) (by decide)]; exact hd.2.2.2.2.2.1
  · rw [b4 4 (by decide), b3 3 (by decide) (by decide)]; exact hd.2.2.2.2.2.2
/-- the column is another one -/
theorem o_col {A : m_A} {K2 : m_K} {gC gM gC2 gM2 : z_G} (h : z_R A gC gM) (hK : ok_K (a_L A) K2) (hc2 : c_K (a_L A) K2 (gC2 0) (gC2 1) (gC2 2)) (hd2 : d_K (a_L A) K2 0 (gM2 2)) (ec : ∀ k, 3 ≤ k → gC2 k = gC k) (e0 : ∀ j, j ≠ 13 → j ≠ 14 → j ≠ 15 → j ≠ 16 → gM2 0 j = gM 0 j) (e1 : ∀ k, k ≠ 0 → k ≠ 2 → gM2 k = gM k) (e2 : ∀ j, 26 ≤ j → gM2 2 j = gM 2 j) : z_R (a_L A, K2, A.2.2) gC2 gM2 := by
  obtain ⟨hA, hc, hd⟩ := h
  have hM := hA.1.2.2.2.1
  refine ⟨⟨hA.1, hK, hA.2.2⟩, ⟨?_, hc2, c_U_fr hc.2.2.1 hA.2.2.1.1 (fun k hk => ec k (by unfold z_pc at hk; omega)), c_Q_fr hc.2.2.2.1 hA.2.2.2.1.1 (fun k hk => ec k (by unfold z_qc at hk; omega)), ?_, ?_, ?_⟩, ⟨?_, hd2, d_U_fr hM hd.2.2.1 hA.2.2.1.1 (e0 2 (by decide) (by decide) (by decide) (by decide)) (fun j h1 _ => e2 j h1), d_Q_fr hM hd.2.2.2.1 hA.2.2.2.1.1 (e0 3 (by decide) (by decide) (by decide) (by decide)) (fun j h1 _ => e2 j (by omega)), ?_, ?_, ?_⟩⟩
  · rw [ec 43 (by decide), ec 44 (by decide), ec 45 (by decide), ec 46 (by decide)]; exact hc.1
  · rw [ec 51 (by decide), ec 52 (by decide), ec 53 (by decide)]; exact hc.2.2.2.2.1
  · rw [ec 57 (by decide), ec 58 (by decide), ec 59 (by decide), ec 60 (by decide)]; exact hc.2.2.2.2.2.1
  · rw [ec 39 (by decide), ec 40 (by decide)]; exact hc.2.2.2.2.2.2
  · rw [e1 1 (by decide) (by decide)]; exact hd.1
  · rw [e1 1 (by decide) (by decide)]; exact hd.2.2.2.2.1
  · rw [e0 9 (by decide) (by decide) (by decide) (by decide), e1 4 (by decide) (by decide), e1 5 (by decide) (by decide), e1 6 (by decide) (by decide)]; exact hd.2.2.2.2.2.1
  · rw [e0 4 (by decide) (by decide) (by decide) (by decide), e1 3 (by decide) (by decide)]; exact hd.2.2.2.2.2.2
theorem o_order {A : m_A} {gC gM : z_G} (h : z_R A gC gM) (r n : Int32) : z_res (s_Top_order r n gC) (s_Mod_order r n gM) := by
  unfold s_Top_order s_Mod_order
  rw [(q_isOrder r n).1]
  rcases (q_isOrder r n).2 with h0 | ⟨h0, a, b, ha, hb, rfl, rfl⟩
  · rw [if_pos h0, if_pos h0]; exact z_same h
  · rw [if_neg h0, if_neg h0]
    obtain ⟨gC1, gM1, a1, b1, h1⟩ := o_push h
    rw [a1, b1]
    simp only [Option.bind_some]
    obtain ⟨hA, hc, hd⟩ := id h1
    obtain ⟨gC2, a2, a3, a4⟩ := c_obey (c := 0) (r := a) (n := b) (by decide) hA.1 hA.2.1 ha (by omega) hc.1 hc.2.1
    obtain ⟨gM2, b2, b3, b4, b5, b6⟩ := d_orders (b := 0) (r := a) (n := b) (by decide) hA.1 hA.2.1 ha (by omega) hd.1 hd.2.1
    rw [a2, show (0 : Int32) = nI 0 from rfl, b2]
    simp only [Option.bind_some]
    have h2 := o_col h1 (m_oK_ok (r := a) (n := b) hA.1 hA.2.1) a3 b3 (fun k hk => a4 k (by omega) (by omega)) b6 b4 (fun j hj => b5 j (Or.inr hj))
    obtain ⟨hA2, hc2, hd2⟩ := id h2
    rw [c_lostMen (c := 0) hA2.1 hA2.2.1 hc2.1 hc2.2.1, d_lost (b := 0) (by decide) hA2.1 hA2.2.1 hd2.1 hd2.2.1]
    exact z_same h2
