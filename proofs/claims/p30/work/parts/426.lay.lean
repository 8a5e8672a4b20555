/-! ===== fault and lay ===== -/
def b_0 : m_B := ((0, 0, 4, (fun _ => 0), (fun _ => 0), (fun _ => 0)), (fun _ => (0, 0, 0)), (fun _ => 0), 0, (fun _ => 0), (fun _ => 0))
theorem b_0_ok : ok_B b_0 := ⟨by show 0 ≤ 4; decide, by show 0 ≤ 6; decide, by show 4 ≤ 15; decide, fun h hh => absurd hh (Nat.not_lt_zero h), fun h hh => absurd hh (Nat.not_lt_zero h), by show 0 ≤ 6; decide, fun h hh => absurd hh (Nat.not_lt_zero h)⟩
theorem d_clear : ∀ (n fuel i : Nat) (g : z_G), i + n = 60 → n < fuel → ∃ g2, s_Mod_reads_L2 fuel (nI i) g = s_Mod_reads_L42 z_F (z_up (z_up (z_wr g2 1 70 4) 0 6 0) 0 8 0) ∧ d_fj g g2 ∧ (∀ j, i ≤ j → j < 60 → g2 1 (60 + j) = 0) ∧ ∀ j, j < 60 + i → g2 1 j = g 1 j := by
  intro n
  induction n with
  | zero =>
    intro fuel i g hi hf
    obtain ⟨f, rfl⟩ : ∃ f, fuel = f + 1 := ⟨fuel - 1, by omega⟩
    rw [s_Mod_reads_L2, if_pos (by rw [show (60 : Int32) = nI 60 from rfl, q_le (by omega) (by omega)]; omega)]
    simp only [q_let]
    exact ⟨g, rfl, d_fj.rf g, fun j h1 h2 => absurd h1 (by omega), fun _ _ => rfl⟩
  | succ n ih =>
    intro fuel i g hi hf
    obtain ⟨f, rfl⟩ : ∃ f, fuel = f + 1 := ⟨fuel - 1, by omega⟩
    rw [s_Mod_reads_L2, if_neg (by rw [show (60 : Int32) = nI 60 from rfl, q_le (by omega) (by omega)]; omega)]
    simp only [q_let]
    rw [show (60 : Int32) = nI 60 from rfl, q_add, q_ck (by omega) (by decide), q_wr (by omega), show nI i + 1 = nI (i + 1) from nI_1 i]
    obtain ⟨g2, a, b, c, d⟩ := ih f (i + 1) (z_up g 1 (60 + i) 0) (by omega) (by omega)
    refine ⟨g2, a, (d_fj1 (d_fj.rf g) (by omega)).tr b, fun j h1 h2 => ?_, fun j hj => ?_⟩
    · by_cases h3 : j = i
      · rw [h3, d _ (by omega), up_s]
      · exact c j (by omega) h2
    · rw [d j (by omega), up_n (by omega)]
theorem z_reads {A : m_A} {gC gM : z_G} (h : z_R A gC gM) : ∃ v gC2 w gM2, s_Read_readAll_40 (gC 39 1) gC = some (v, gC2) ∧ s_Mod_reads gM = some (w, gM2) ∧ c_fi gC gC2 ∧ d_fj gM gM2 ∧ r_rd v gC2 w gM2 := by
  obtain ⟨hA, hc, hd⟩ := h
  have ht := hA.2.2.2.2.2.2
  have hT := ht.1
  have hct := hc.2.2.2.2.2.2
  have hdt := hd.2.2.2.2.2.2
  obtain ⟨g1, a1, a2, a3, a4⟩ := d_clear 60 20000 0 gM (by decide) (by decide)
  have eM : s_Mod_reads gM = s_Mod_reads_L2 20000 (nI 0) gM := by
    unfold s_Mod_reads z_F
    rfl
  rw [eM, a1, show (70 : Int32) = nI 70 from rfl, q_wr (by decide)]
  have eC : s_Read_readAll_40 (gC 39 1) gC = s_Read_readAll_40_L37 20000 (nI (a_T A)) (nI 0) (nI 0) (z_up (z_up (z_up (z_up gC 47 0 0) 47 1 0) 47 2 4) 54 2 0) := by
    unfold s_Read_readAll_40 z_F
    simp only [q_let]
    rw [hct.1]
    rfl
  rw [eC]
  have f1 : d_fj gM (z_up (z_up (z_up g1 1 70 4) 0 6 0) 0 8 0) := d_fj0 (d_fj0 (d_fj1 a2 (by decide)) (by decide)) (by decide)
  have f0 : c_fi gC (z_up (z_up (z_up (z_up gC 47 0 0) 47 1 0) 47 2 4) 54 2 0) := c_fi_up (c_fi_up (c_fi_up (c_fi_up (c_fi.rf gC) (by decide)) (by decide)) (by decide)) (by decide)
  have key : ∀ n, n = 20000 → ∃ v gC2 w gM2, s_Read_readAll_40_L37 n (nI (a_T A)) (nI 0) (nI 0) (z_up (z_up (z_up (z_up gC 47 0 0) 47 1 0) 47 2 4) 54 2 0) = some (v, gC2) ∧ s_Mod_reads_L42 n (z_up (z_up (z_up g1 1 70 4) 0 6 0) 0 8 0) = some (w, gM2) ∧ c_fi gC gC2 ∧ d_fj gM gM2 ∧ r_rd v gC2 w gM2 := by
    intro n hn
    have hcB : c_B b_0 (z_up (z_up (z_up (z_up gC 47 0 0) 47 1 0) 47 2 4) 54 2 0) := by
      refine ⟨⟨?_, ?_, ?_, fun k hk => absurd hk (Nat.not_lt_zero k), fun k hk => absurd hk (Nat.not_lt_zero k)⟩, fun k hk => absurd hk (Nat.not_lt_zero k), up_s, fun k hk => absurd hk (Nat.not_lt_zero k)⟩
      · rw [up_c (by decide), up_n (by decide), up_n (by decide)]; exact up_s
      · rw [up_c (by decide), up_n (by decide)]; exact up_s
      · rw [up_c (by decide)]; exact up_s
    have hdB : d_B b_0 (z_up (z_up (z_up g1 1 70 4) 0 6 0) 0 8 0 1) := by
      refine ⟨?_, ?_, ?_, fun k hk => absurd hk (Nat.not_lt_zero k), fun k hk => absurd hk (Nat.not_lt_zero k), ?_, fun k hk => absurd hk (Nat.not_lt_zero k)⟩
      · rw [up_c (by decide), up_c (by decide), up_n (by decide)]; exact a3 8 (by decide) (by decide)
      · rw [up_c (by decide), up_c (by decide), up_n (by decide)]; exact a3 9 (by decide) (by decide)
      · rw [up_c (by decide), up_c (by decide)]; exact up_s
      · rw [up_c (by decide), up_c (by decide), up_n (by decide)]; exact a3 47 (by decide) (by decide)
    obtain ⟨v, gC2, w, gM2, j1, j2, j3, j4, j5⟩ := z_loop ht 201 0 0 n n b_0 (z_up (z_up (z_up (z_up gC 47 0 0) 47 1 0) 47 2 4) 54 2 0) (z_up (z_up (z_up g1 1 70 4) 0 6 0) 0 8 0) (by omega) (by omega) (by omega) (by omega) (by omega) b_0_ok hcB hdB (c_tx_fi hct f0) (d_tx_fj hdt f1) (by rw [up_n (by decide)]; exact up_s) up_s
    exact ⟨v, gC2, w, gM2, j1, j2, f0.tr j3, f1.tr j4, j5⟩
  have fin := key z_F (by unfold z_F; rfl)
  rw [show (z_F : Nat) = 20000 from rfl] at fin ⊢
  exact fin
theorem z_rd_R {A : m_A} {gC gM gC2 gM2 : z_G} (h : z_R A gC gM) (e : c_fi gC gC2) (e2 : d_fj gM gM2) : z_R A gC2 gM2 := ⟨h.1, c_R_fr h.1 h.2.1 (fun k hk => e k (by unfold z_lc at hk; omega)), d_R_fr h.1 h.2.2 (fun j a b c _ _ _ _ => e2.2.1 j a b c) e2.2.2 (fun j _ => by rw [e2.1 2 (by decide)]) (fun k hk _ => e2.1 k (by omega))⟩
theorem o_fault {A : m_A} {gC gM : z_G} (h : z_R A gC gM) : z_res (s_Top_fault gC) (s_Mod_fault gM) := by
  obtain ⟨v, gC2, w, gM2, a1, a2, a3, a4, a5⟩ := z_reads h
  unfold s_Top_fault s_Mod_fault
  rw [a1, a2]
  simp only [Option.bind_some]
  have hR := z_rd_R h a3 a4
  rcases a5 with ⟨b1, b2, _⟩ | ⟨q, b1, b2, b3, b4⟩
  · rw [b1, b2, if_neg (show ¬ (1 : Int32) = 0 by decide)]; exact z_same hR
  · rw [b2, b3, if_pos rfl, b4]; exact z_same hR
/-! laying it -/
theorem cp_in4 {g : z_G} {k0 k1 j : Nat} (hj : j < 4) : z_cp g k0 k1 0 0 4 k1 j = g k0 j := by
  have e : z_cp g k0 k1 0 0 4 k1 = va_cpy (g k0) (g k1) 0 0 4 := by
    show (va_up g k1 _) k1 = _
    simp [va_up]
  rw [e, pk_cpy_in (by omega) (by omega)]
  congr 1
  omega
def a_lay (A : m_A) (B : m_B) : m_A := (b_L B, (b_p B, b_r B, 0, 0), (0, a_un A), (0, a_kp A), (b_n B, b_rt B, b_rs B), (0, a_sa A, a_sb A, a_sc A), (a_T A, a_tx A))
theorem a_lay_ok {A : m_A} {B : m_B} (hA : ok_A A) (hB : ok_B B) (h1 : 1 ≤ l_H (b_L B)) (h2 : 1 ≤ l_M (b_L B)) : ok_A (a_lay A B) := ⟨⟨h1, hB.1, h2, hB.2.1, hB.2.2.1, hB.2.2.2.1, fun i hi => ⟨(hB.2.2.2.2.1 i hi).1, (hB.2.2.2.2.1 i hi).2.1⟩⟩, ⟨fun i hi => ⟨(hB.2.2.2.2.1 i hi).2.2.1, (hB.2.2.2.2.1 i hi).2.2.2⟩, by show 0 < 64; decide⟩, ⟨by show 0 ≤ 8; decide, fun k hk => absurd hk (Nat.not_lt_zero k)⟩, ⟨by show 0 ≤ 2; decide, fun k hk => absurd hk (Nat.not_lt_zero k)⟩, hB.2.2.2.2.2, by show 0 ≤ 6; decide, hA.2.2.2.2.2.2⟩
theorem c_lay {A : m_A} {B : m_B} {g : z_G} (hB : ok_B B) (hc : c_R A g) (hb : c_B B g) : c_R (a_lay A B) (s_Top_takeWhatWasRead g) := by
  have hM := hB.2.1
  have hH := hB.1
  unfold s_Top_takeWhatWasRead
  simp only [q_let]
  have eL : s_Land_copyFrom_47 g = z_cp (z_cp (z_cp (z_up (z_up (z_up g 43 0 (g 47 0)) 43 1 (g 47 1)) 43 2 (g 47 2)) 48 44 0 0 4) 49 45 0 0 6) 50 46 0 0 6 := by
    unfold s_Land_copyFrom_47
    simp only [q_let]
    rw [up_c (show 47 ≠ 43 by decide), up_c (show 47 ≠ 43 by decide), up_c (show 47 ≠ 43 by decide)]
  generalize hg1 : s_Land_copyFrom_47 g = g1 at *
  have s1 : ∀ k, ¬ (43 ≤ k ∧ k < 47) → g1 k = g k := fun k hk => by rw [eL, cp_c (by omega), cp_c (by omega), cp_c (by omega), up_c (by omega), up_c (by omega), up_c (by omega)]
  have hL1 : c_L (b_L B) (g1 43) (g1 44) (g1 45) (g1 46) := by
    rw [eL]
    refine ⟨?_, ?_, ?_, fun i hi => ?_, fun i hi => ?_⟩
    · rw [cp_c (by decide), cp_c (by decide), cp_c (by decide), up_n (by decide), up_n (by decide), up_s]; exact hb.1.1
    · rw [cp_c (by decide), cp_c (by decide), cp_c (by decide), up_n (by decide), up_s]; exact hb.1.2.1
    · rw [cp_c (by decide), cp_c (by decide), cp_c (by decide), up_s]; exact hb.1.2.2.1
    · rw [cp_c (by decide), cp_c (by decide), cp_in4 (by omega), up_c (by decide), up_c (by decide), up_c (by decide)]; exact hb.1.2.2.2.1 i hi
    · rw [cp_c (show 45 ≠ 46 by decide), cp_in (by omega), cp_in (by omega), cp_c (by decide), up_c (by decide), up_c (by decide), up_c (by decide), cp_c (by decide), cp_c (by decide), up_c (by decide), up_c (by decide), up_c (by decide)]; exact hb.1.2.2.2.2 i hi
  have hK1 : c_K (b_L B) (b_p B, b_r B, 0, 0) (g1 (3 * 2)) (g1 (3 * 2 + 1)) (g1 (3 * 2 + 2)) := by
    rw [s1 _ (by decide), s1 _ (by decide), s1 _ (by decide)]
    exact ⟨(hc.2.2.2.1.2.1 0 (by decide)).2, (hc.2.2.2.1.2.1 1 (by decide)).2, hb.2.1⟩
  obtain ⟨hK2, s2⟩ := c_copy (a := 0) (b := 2) (by decide) hM hK1
  generalize hg2 : s_Col_copyFrom 0 2 g1 = g2 at *
  have eR : s_Row_copyFrom_51_54 g2 = z_up (z_cp (z_cp g2 55 52 0 0 6) 56 53 0 0 6) 51 2 (g2 54 2) := by
    unfold s_Row_copyFrom_51_54
    simp only [q_let]
    rw [cp_c (show 54 ≠ 53 by decide), cp_c (show 54 ≠ 52 by decide)]
  generalize hg3 : s_Row_copyFrom_51_54 g2 = g3 at *
  have s3 : ∀ k, ¬ (51 ≤ k ∧ k < 54) → g3 k = g2 k := fun k hk => by rw [eR, up_c (by omega), cp_c (by omega), cp_c (by omega)]
  have s23 : ∀ k, 3 ≤ k → ¬ (43 ≤ k ∧ k < 47) → ¬ (51 ≤ k ∧ k < 54) → g3 k = g k := fun k h1 h2 h3 => by rw [s3 k h3, s2 k (by omega) (by omega) (by omega), s1 k h2]
  have hR3 : c_row (b_n B) (b_rt B) (b_rs B) (g3 51) (g3 52) (g3 53) := by
    have hn6 := hB.2.2.2.2.2.1
    have t : ∀ k, 54 ≤ k → k < 57 → g2 k = g k := fun k h1 h2 => by rw [s2 k (by omega) (by omega) (by omega), s1 k (by omega)]
    rw [eR]
    refine ⟨?_, fun i hi => ?_⟩
    · rw [up_s, t 54 (by decide) (by decide)]; exact hb.2.2.1
    · rw [up_c (show 52 ≠ 51 by decide), up_c (show 53 ≠ 51 by decide), cp_c (show 52 ≠ 53 by decide), cp_in (by omega), cp_in (by omega), cp_c (by decide), t 55 (by decide) (by decide), t 56 (by decide) (by decide)]; exact hb.2.2.2 i hi
  have s4 : ∀ k, k ≠ 57 → k ≠ 61 → k ≠ 63 → z_up (z_up (z_up g3 57 3 0) 61 1 0) 63 1 0 k = g3 k := fun k h1 h2 h3 => by rw [up_c h3, up_c h2, up_c h1]
  refine ⟨?_, ?_, ⟨?_, ?_⟩, ⟨?_, fun j hj => ?_, fun k hk => absurd hk (Nat.not_lt_zero k)⟩, ?_, ⟨?_, fun k hk => absurd hk (Nat.not_lt_zero k)⟩, ?_⟩
  · rw [s4 43 (by decide) (by decide) (by decide), s4 44 (by decide) (by decide) (by decide), s4 45 (by decide) (by decide) (by decide), s4 46 (by decide) (by decide) (by decide), s3 43 (by decide), s3 44 (by decide), s3 45 (by decide), s3 46 (by decide), s2 43 (by decide) (by decide) (by decide), s2 44 (by decide) (by decide) (by decide), s2 45 (by decide) (by decide) (by decide), s2 46 (by decide) (by decide) (by decide)]
    exact hL1
  · rw [s4 0 (by decide) (by decide) (by decide), s4 1 (by decide) (by decide) (by decide), s4 2 (by decide) (by decide) (by decide), s3 0 (by decide), s3 1 (by decide), s3 2 (by decide)]
    exact hK2
  · rw [up_c (by decide), up_s]; rfl
  · obtain ⟨p, p1, p2, _⟩ := hc.2.2.1.2
    refine ⟨p, fun j hj => ?_, p2, fun k hk => absurd hk (Nat.not_lt_zero k)⟩
    rw [s4 62 (by decide) (by decide) (by decide), s23 62 (by decide) (by decide) (by decide)]
    exact p1 j hj
  · rw [up_s]; rfl
  · rw [s4 64 (by decide) (by decide) (by decide), s23 64 (by decide) (by decide) (by decide), s4 6 (by decide) (by decide) (by decide), s23 6 (by decide) (by decide) (by decide)]
    exact hc.2.2.2.1.2.1 j hj
  · rw [s4 51 (by decide) (by decide) (by decide), s4 52 (by decide) (by decide) (by decide), s4 53 (by decide) (by decide) (by decide)]
    exact hR3
  · rw [up_c (by decide), up_c (by decide), up_s]; rfl
  · rw [s4 39 (by decide) (by decide) (by decide), s4 40 (by decide) (by decide) (by decide), s23 39 (by decide) (by decide) (by decide), s23 40 (by decide) (by decide) (by decide)]
    exact hc.2.2.2.2.2.2
theorem d_stands : ∀ (n fuel i : Nat) (g : z_G), i + n = 6 → n < fuel → ∃ g2, s_Mod_stands_L2 fuel (nI i) g = some g2 ∧ (∀ k, 3 ≤ k → g2 k = g k) ∧ g2 1 = g 1 ∧ (∀ j, i ≤ j → j < 6 → g2 2 j = g 1 (23 + j) ∧ g2 2 (6 + j) = g 1 (29 + j) ∧ g2 2 (12 + j) = g 1 (35 + j) ∧ g2 2 (18 + j) = g 1 (41 + j)) ∧ (∀ j, j < i → g2 2 j = g 2 j ∧ g2 2 (6 + j) = g 2 (6 + j) ∧ g2 2 (12 + j) = g 2 (12 + j) ∧ g2 2 (18 + j) = g 2 (18 + j)) ∧ g2 2 24 = 0 ∧ g2 2 25 = 0 ∧ g2 0 2 = 0 ∧ g2 0 3 = 0 ∧ g2 0 9 = 0 ∧ ∀ j, j ≠ 2 → j ≠ 3 → j ≠ 9 → g2 0 j = g 0 j := by
  intro n
  induction n with
  | zero =>
    intro fuel i g hi hf
    obtain ⟨f, rfl⟩ : ∃ f, fuel = f + 1 := ⟨fuel - 1, by omega⟩
    rw [s_Mod_stands_L2, if_pos (by rw [show (6 : Int32) = nI 6 from rfl, q_le (by omega) (by omega)]; omega)]
    simp only [q_let]
    rw [show (24 : Int32) = nI 24 from rfl, show (25 : Int32) = nI 25 from rfl, q_wr (by decide), q_wr (by decide)]
    refine ⟨_, rfl, fun k hk => ?_, ?_, fun j h1 h2 => absurd h1 (by omega), fun j hj => ?_, ?_, ?_, ?_, ?_, up_s, fun j h1 h2 h3 => ?_⟩
    · rw [up_c (by omega), up_c (by omega), up_c (by omega), up_c (by omega), up_c (by omega)]
    · rw [up_c (by decide), up_c (by decide), up_c (by decide), up_c (by decide), up_c (by decide)]
    · rw [up_c (by decide), up_c (by decide), up_c (by decide), up_n (by omega), up_n (by omega), up_n (by omega), up_n (by omega), up_n (by omega), up_n (by omega), up_n (by omega), up_n (by omega)]
      exact ⟨rfl, rfl, rfl, rfl⟩
    · rw [up_c (by decide), up_c (by decide), up_c (by decide), up_n (by decide), up_s]
    · rw [up_c (by decide), up_c (by decide), up_c (by decide), up_s]
    · rw [up_n (by decide), up_n (by decide), up_s]
    · rw [up_n (by decide), up_s]
    · rw [up_n h3, up_n h2, up_n h1, up_c (by decide), up_c (by decide)]
  | succ n ih =>
    intro fuel i g hi hf
    obtain ⟨f, rfl⟩ : ∃ f, fuel = f + 1 := ⟨fuel - 1, by omega⟩
    rw [s_Mod_stands_L2, if_neg (by rw [show (6 : Int32) = nI 6 from rfl, q_le (by omega) (by omega)]; omega)]
    simp only [q_let]
    rw [show (23 : Int32) = nI 23 from rfl, show (29 : Int32) = nI 29 from rfl, show (35 : Int32) = nI 35 from rfl, show (41 : Int32) = nI 41 from rfl, show (6 : Int32) = nI 6 from rfl, show (12 : Int32) = nI 12 from rfl, show (18 : Int32) = nI 18 from rfl, q_add, q_add, q_add, q_add, q_add, q_add, q_add, q_ck (by omega) (by decide), q_ck (by omega) (by decide), q_ck (by omega) (by decide), q_ck (by omega) (by decide), q_ck (by omega) (by decide), q_ck (by omega) (by decide), q_ck (by omega) (by decide), q_ck (by omega) (by decide), q_wr (by omega), q_wr (by omega), q_wr (by omega), q_wr (by omega), q_rd (by omega), q_rd (by omega), q_rd (by omega), q_rd (by omega), show nI i + 1 = nI (i + 1) from nI_1 i]
    rw [up_c (show 1 ≠ 2 by decide), up_c (show 1 ≠ 2 by decide), up_c (show 1 ≠ 2 by decide)]
    obtain ⟨g2, a1, a2, a3, a4, a5, a6⟩ := ih f (i + 1) (z_up (z_up (z_up (z_up g 2 i (g 1 (23 + i))) 2 (6 + i) (g 1 (29 + i))) 2 (12 + i) (g 1 (35 + i))) 2 (18 + i) (g 1 (41 + i))) (by omega) (by omega)
    refine ⟨g2, a1, fun k hk => by rw [a2 k hk, up_c (by omega), up_c (by omega), up_c (by omega), up_c (by omega)], by rw [a3, up_c (by decide), up_c (by decide), up_c (by decide), up_c (by decide)], fun j h1 h2 => ?_, fun j hj => ?_, a6.1, a6.2.1, a6.2.2.1, a6.2.2.2.1, a6.2.2.2.2.1, fun j h1 h2 h3 => by rw [a6.2.2.2.2.2 j h1 h2 h3, up_c (by decide), up_c (by decide), up_c (by decide), up_c (by decide)]⟩
    · by_cases h3 : j = i
      · have h5 := a5 j (by omega)
        subst h3
        refine ⟨?_, ?_, ?_, ?_⟩
        · rw [h5.1, up_n (by omega), up_n (by omega), up_n (by omega), up_s]
        · rw [h5.2.1, up_n (by omega), up_n (by omega), up_s]
        · rw [h5.2.2.1, up_n (by omega), up_s]
        · rw [h5.2.2.2, up_s]
      · have h5 := a4 j (by omega) h2
        rw [up_c (by decide), up_c (by decide), up_c (by decide), up_c (by decide)] at h5
        exact h5
    · have h5 := a5 j (by omega)
      refine ⟨?_, ?_, ?_, ?_⟩
      · rw [h5.1, up_n (by omega), up_n (by omega), up_n (by omega), up_n (by omega)]
      · rw [h5.2.1, up_n (by omega), up_n (by omega), up_n (by omega), up_n (by omega)]
      · rw [h5.2.2.1, up_n (by omega), up_n (by omega), up_n (by omega), up_n (by omega)]
      · rw [h5.2.2.2, up_n (by omega), up_n (by omega), up_n (by omega), up_n (by omega)]
theorem d_laid : ∀ (n fuel i : Nat) (g : z_G), i + n = 60 → n < fuel → ∃ g2, s_Mod_lay_L32 fuel (nI i) g = Option.bind (s_Mod_stands g2) (fun r11q => some ((s_Mod_men r11q), r11q)) ∧ (∀ k, k ≠ 1 → g2 k = g k) ∧ (∀ j, i ≤ j → j < 60 → g2 1 j = g 1 (60 + j)) ∧ ∀ j, (j < i ∨ 60 ≤ j) → g2 1 j = g 1 j := by
  intro n
  induction n with
  | zero =>
    intro fuel i g hi hf
    obtain ⟨f, rfl⟩ : ∃ f, fuel = f + 1 := ⟨fuel - 1, by omega⟩
    rw [s_Mod_lay_L32, if_pos (by rw [show (60 : Int32) = nI 60 from rfl, q_le (by omega) (by omega)]; omega)]
    exact ⟨g, rfl, fun _ _ => rfl, fun j h1 h2 => absurd h1 (by omega), fun _ _ => rfl⟩
  | succ n ih =>
    intro fuel i g hi hf
    obtain ⟨f, rfl⟩ : ∃ f, fuel = f + 1 := ⟨fuel - 1, by omega⟩
    rw [s_Mod_lay_L32, if_neg (by rw [show (60 : Int32) = nI 60 from rfl, q_le (by omega) (by omega)]; omega)]
    simp only [q_let]
    rw [show (60 : Int32) = nI 60 from rfl, q_add, q_ck (by omega) (by decide), q_ck (by omega) (by decide), q_wr (by omega), q_rd (by omega), show nI i + 1 = nI (i + 1) from nI_1 i]
    obtain ⟨g2, a, b, c, d⟩ := ih f (i + 1) (z_up g 1 i (g 1 (60 + i))) (by omega) (by omega)
    refine ⟨g2, a, fun k hk => by rw [b k hk, up_c hk], fun j h1 h2 => ?_, fun j hj => ?_⟩
    · by_cases h3 : j = i
      · rw [h3, d _ (by omega), up_s]
      · rw [c j (by omega) h2, up_n (by omega)]
    · rw [d j (by omega), up_n (by omega)]
theorem d_lay {A : m_A} {B : m_B} {g : z_G} (hB : ok_B B) (hd : d_R A g) (hb : d_B B (g 1)) : ∃ g2, s_Mod_lay_L32 z_F 0 g = some (nI (l_M (b_L B)), g2) ∧ d_R (a_lay A B) g2 := by
  have hM := hB.2.1
  have hH := hB.1
  have hn6 := hB.2.2.2.2.2.1
  obtain ⟨g1, a1, a2, a3, a4⟩ := d_laid 60 20000 0 g (by decide) (by decide)
  obtain ⟨g2, b1, b2, b3, b4, b5, b6, b7, b8, b9, b10, b11⟩ := d_stands 6 20000 0 g1 (by decide) (by decide)
  have e0 : s_Mod_lay_L32 z_F 0 g = s_Mod_lay_L32 20000 (nI 0) g := by unfold z_F; rfl
  have e1 : s_Mod_stands g1 = s_Mod_stands_L2 20000 (nI 0) g1 := by unfold s_Mod_stands z_F; rfl
  rw [e0, a1, e1, b1]
  simp only [Option.bind_some]
  have t : ∀ j, j < 60 → g2 1 j = g 1 (60 + j) := fun j hj => by rw [b3, a3 j (by omega) hj]
  have t1 : ∀ j, j < 60 → g1 1 j = g 1 (60 + j) := fun j hj => a3 j (by omega) hj
  have em : s_Mod_men g2 = nI (l_M (b_L B)) := by unfold s_Mod_men; rw [show (9 : Int32) = nI 9 from rfl, q_rd (by decide), t 9 (by decide)]; exact hb.2.1
  rw [em]
  refine ⟨g2, rfl, ⟨?_, ?_, ?_, fun i hi => ?_, fun i hi => ?_⟩, ⟨fun i hi => ?_, ?_, ?_⟩, ⟨b8, fun k hk => absurd hk (Nat.not_lt_zero k)⟩, ⟨b9, fun k hk => absurd hk (Nat.not_lt_zero k)⟩, ⟨?_, fun i hi => ?_⟩, ⟨b10, fun k hk => absurd hk (Nat.not_lt_zero k)⟩, ?_⟩
  · rw [t _ (by decide)]; exact hb.1
  · rw [t _ (by decide)]; exact hb.2.1
  · rw [t _ (by decide)]; exact hb.2.2.1
  · have hi2 : i < l_H (b_L B) := hi
    rw [t _ (by omega), t _ (by omega), show 60 + (4 + i) = 64 + i by omega]; exact hb.2.2.2.1 i hi
  · have hi2 : i < l_M (b_L B) := hi
    have := hb.2.2.2.2.1 i hi
    rw [t _ (by omega), t _ (by omega), show 60 + (11 + i) = 71 + i by omega, show 60 + (17 + i) = 77 + i by omega]; exact ⟨this.1, this.2.1⟩
  · have hi2 : i < l_M (b_L B) := hi
    have h5 := b4 i (by omega) (by omega)
    have := hb.2.2.2.2.1 i hi
    rw [show 0 + i = i by omega, show 0 + 6 + i = 6 + i by omega, show 0 + 12 + i = 12 + i by omega, show 0 + 18 + i = 18 + i by omega, h5.1, h5.2.1, h5.2.2.1, h5.2.2.2, t1 _ (by omega), t1 _ (by omega), t1 _ (by omega), t1 _ (by omega), show 60 + (23 + i) = 83 + i by omega, show 60 + (29 + i) = 89 + i by omega, show 60 + (35 + i) = 95 + i by omega, show 60 + (41 + i) = 101 + i by omega]
    exact ⟨this.2.2.1, this.2.2.2.1, this.2.2.2.2.1, this.2.2.2.2.2⟩
  · exact b6
  · exact b7
  · rw [t _ (by decide)]; exact hb.2.2.2.2.2.1
  · have hi2 : i < b_n B := hi
    rw [t _ (by omega), t _ (by omega), show 60 + (48 + i) = 108 + i by omega, show 60 + (54 + i) = 114 + i by omega]; exact hb.2.2.2.2.2.2 i hi
  · show d_tx (a_T A) (a_tx A) (g2 0 4) (g2 3)
    rw [b11 4 (by decide) (by decide) (by decide), a2 0 (by decide), b2 3 (by decide), a2 3 (by decide)]; exact hd.2.2.2.2.2.2
theorem o_lay {A : m_A} {gC gM : z_G} (h : z_R A gC gM) : z_res (s_Top_lay gC) (s_Mod_lay gM) := by
  obtain ⟨v, gC2, w, gM2, a1, a2, a3, a4, a5⟩ := z_reads h
  unfold s_Top_lay s_Mod_lay s_Top_lay_b30 s_Mod_lay_b27
  rw [a1, a2]
  simp only [Option.bind_some]
  have hR := z_rd_R h a3 a4
  rcases a5 with ⟨b1, b2, B, hB, hcB, hdB⟩ | ⟨q, b1, b2, b3, b4⟩
  · have hM := hB.2.1
    have hH := hB.1
    rw [b1, b2, if_pos rfl, if_neg (show ¬ (1 : Int32) = 0 by decide), (d_rd hdB).1, (d_rd hdB).2.1]
    unfold s_Read_hasHomeAndMan s_Read_hasHomeAndMan_b24
    have lH := q_le (a := l_H (b_L B)) (b := 0) (by omega) (by decide)
    have lM := q_le (a := l_M (b_L B)) (b := 0) (by omega) (by decide)
    have qH := q_eq (a := l_H (b_L B)) (b := 0) (by omega) (by decide)
    have qM := q_eq (a := l_M (b_L B)) (b := 0) (by omega) (by decide)
    rw [hcB.1.1, hcB.1.2.1]
    by_cases h1 : l_H (b_L B) = 0
    · rw [if_pos (show nI (l_H (b_L B)) ≤ 0 from lH.mpr (by omega)), if_pos rfl, if_pos (show nI (l_H (b_L B)) = 0 from qH.mpr h1)]; exact z_same hR
    · rw [if_neg (show ¬ nI (l_H (b_L B)) ≤ 0 from fun e => by have := lH.mp e; omega), if_neg (show ¬ nI (l_H (b_L B)) = 0 from fun e => h1 (qH.mp e))]
      by_cases h2 : l_M (b_L B) = 0
      · rw [if_pos (show nI (l_M (b_L B)) ≤ 0 from lM.mpr (by omega)), if_pos rfl, if_pos (show nI (l_M (b_L B)) = 0 from qM.mpr h2)]; exact z_same hR
      · rw [if_neg (show ¬ nI (l_M (b_L B)) ≤ 0 from fun e => by have := lM.mp e; omega), if_neg (show ¬ (1 : Int32) = 0 by decide), if_neg (show ¬ nI (l_M (b_L B)) = 0 from fun e => h2 (qM.mp e))]
        have c1 := c_lay hB hR.2.1 hcB
        obtain ⟨gM3, d1, d2⟩ := d_lay hB hR.2.2 hdB
        rw [d1, c1.1.2.1]
        exact z_same (A := a_lay A B) ⟨a_lay_ok hR.1 hB (by omega) (by omega), c1, d2⟩
  · rw [b2, b3, if_neg (show ¬ nI q = -4 from fun e9 => by
      have := congrArg Int32.toInt e9
      rw [nI_toInt (by omega)] at this
      have h10 : (q : Int) = -4 := this
      omega), if_pos rfl]
    exact z_same hR
