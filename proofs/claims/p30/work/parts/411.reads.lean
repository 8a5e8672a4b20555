/-! ===== toward, told, home, man, count ===== -/
def z_eqr (a b : Option Int32) : Prop := ∃ v, a = some v ∧ b = some v
theorem z_eqr1 {v : Int32} : z_eqr (some v) (some v) := ⟨v, rfl, rfl⟩
theorem o_toward (x y u v : Int32) : s_Top_toward x y u v = s_Mod_toward x y u v := by
  unfold s_Top_toward s_Mod_toward s_Top_toward_b17 s_Mod_toward_b49
  rw [m_isCell, m_isCell, q_in15, q_in15, q_in15, q_in15]
  by_cases h1 : s_Top_isWithin x 0 15 = 0
  · simp [h1]
  · by_cases h2 : s_Top_isWithin y 0 15 = 0
    · simp [h1, h2]
    · by_cases h3 : s_Top_isWithin u 0 15 = 0
      · simp [h1, h2, h3]
      · by_cases h4 : s_Top_isWithin v 0 15 = 0
        · simp [h1, h2, h3, h4]
        · simp only [h1, h2, h3, h4, or_self, if_false]
          obtain ⟨a, ha, rfl⟩ := q_w0 (n := 15) (by decide) h1
          obtain ⟨b, hb, rfl⟩ := q_w0 (n := 15) (by decide) h2
          obtain ⟨c, hc, rfl⟩ := q_w0 (n := 15) (by decide) h3
          obtain ⟨d, hd, rfl⟩ := q_w0 (n := 15) (by decide) h4
          rw [if_neg (by decide), if_neg (by decide)]
          simp only [q_let]
          have e1 : s_Ways_cellAt (nI a) (nI b) = nI (16 * b + a) := by unfold s_Ways_cellAt; rw [show (16 : Int32) = nI 16 from rfl, q_mul, q_add]
          have e2 : s_Ways_cellAt (nI c) (nI d) = nI (16 * d + c) := by unfold s_Ways_cellAt; rw [show (16 : Int32) = nI 16 from rfl, q_mul, q_add]
          rw [e1, e2, m_wayTo (by omega) (by omega) (by omega) (by omega), m_modway (by omega) (by omega) (by omega) (by omega)]
          have hw := m_way_lt (x := a) (y := b) (u := c) (v := d) (by omega) (by omega) (by omega) (by omega)
          by_cases h8 : m_way a b c d = 8
          · rw [if_pos h8, if_pos h8, if_neg (by decide)]
          · rw [if_neg h8, if_neg h8, if_pos (nI_pos' (by omega))]
theorem o_told {A : m_A} {gC gM : z_G} (h : z_R A gC gM) (x : Int32) : z_eqr (s_Top_told x gC) (s_Mod_told x gM) := by
  obtain ⟨hA, hc, hd⟩ := id h
  have hn6 := hA.2.2.2.2.1.1
  unfold s_Top_told s_Mod_told
  have e47 : z_rd gM 1 47 = nI (a_n A) := by rw [show (47 : Int32) = nI 47 from rfl, q_rd (by decide)]; exact hd.2.2.2.2.1.1
  rw [e47, hc.2.2.2.2.1.1]
  by_cases h0 : 0 ≤ x
  · rw [if_pos h0, if_pos h0]
    rcases pk_ix x (n := a_n A) (by omega) with h1 | h1 | ⟨k, hk, rfl⟩
    · exact absurd h0 (Int32.not_le.mpr h1)
    · rw [if_pos h1, if_neg (Int32.not_lt.mpr h1)]; exact z_eqr1
    · rw [if_neg (by rw [q_le (by omega) (by omega)]; omega), if_pos (by rw [q_lt (by omega) (by omega)]; exact hk)]
      unfold s_Row_asTold_51
      rw [q_ck (by omega) (by decide), q_ck (by omega) (by decide), show (48 : Int32) = nI 48 from rfl, show (54 : Int32) = nI 54 from rfl, q_add, q_add, q_ck (by omega) (by decide), q_ck (by omega) (by decide), q_rd (by omega), q_rd (by omega), q_rd (by omega), q_rd (by omega), (hc.2.2.2.2.1.2 k hk).1, (hc.2.2.2.2.1.2 k hk).2, (hd.2.2.2.2.1.2 k hk).1, (hd.2.2.2.2.1.2 k hk).2]
      exact z_eqr1
  · rw [if_neg h0, if_neg h0]; exact z_eqr1
theorem o_home {A : m_A} {gC gM : z_G} (h : z_R A gC gM) (x w : Int32) : z_eqr (s_Top_home x w gC) (s_Mod_home x w gM) := by
  obtain ⟨hA, hc, hd⟩ := id h
  have hH := hA.1.2.1
  have hH1 := hA.1.1
  unfold s_Top_home s_Mod_home s_Top_home_b26 s_Mod_home_b42
  have e8 : z_rd gM 1 8 = nI (l_H (a_L A)) := by rw [show (8 : Int32) = nI 8 from rfl, q_rd (by decide)]; exact hd.1.1
  have e1 : (nI (l_H (a_L A)) - 1 : Int32) = nI (l_H (a_L A) - 1) := q_sub (b := 1) hH1
  rw [e8, hc.1.1, e1, q_in1, show s_Mod_in (Int32.toInt64 x) 0 (Int32.toInt64 (nI (l_H (a_L A) - 1))) = s_Top_isWithin x 0 (nI (l_H (a_L A) - 1)) from q_in x 0 _]
  by_cases h0 : s_Top_isWithin x 0 (nI (l_H (a_L A) - 1)) = 0
  · rw [if_pos h0, if_pos h0]; exact z_eqr1
  · rw [if_neg h0, if_neg h0]
    by_cases h1 : s_Top_isWithin w 0 1 = 0
    · rw [if_pos h1, if_pos h1]; exact z_eqr1
    · rw [if_neg h1, if_neg h1]
      obtain ⟨i, hi, rfl⟩ := q_w0 (by omega) h0
      obtain ⟨j, hj, rfl⟩ := q_w0 (n := 1) (by decide) h1
      have hi2 : i < l_H (a_L A) := by omega
      have hcell := hA.1.2.2.2.2.2.1 i hi2
      have em : (4 * nI j + nI i : Int32) = nI (4 * j + i) := by rw [show (4 : Int32) = nI 4 from rfl, q_mul, q_add]
      rw [em, q_ck (by omega) (by decide), q_ck (by omega) (by decide), q_ck (by omega) (by decide), q_rd (by omega), q_rd (by omega), hc.1.2.2.2.1 i hi2]
      unfold s_Ways_columnOf s_Ways_rowOf
      rw [show (16 : Int32) = nI 16 from rfl, q_rem (by omega) (by decide) (by decide), q_div (by omega) (by decide) (by decide)]
      rcases (show j = 0 ∨ j = 1 by omega) with rfl | rfl
      · rw [if_pos (by decide), show 4 * 0 + i = i by omega, (hd.1.2.2.2.1 i hi2).1]; exact z_eqr1
      · rw [if_neg (by decide), show 4 * 1 + i = 4 + i by omega, (hd.1.2.2.2.1 i hi2).2]; exact z_eqr1
/-! at home -/
def m_isH (L : m_L) (K : m_K) (i : Nat) : Bool := decide (16 * (k_p K i).2.1 + (k_p K i).1 = l_c L (l_l L i))
theorem c_isHome {L : m_L} {K : m_K} {c i : Nat} {g : z_G} (hL : ok_L L) (hK : ok_K L K) (hi : i < l_M L) (hl : c_L L (g 43) (g 44) (g 45) (g 46)) (h : c_K L K (g (3 * c)) (g (3 * c + 1)) (g (3 * c + 2))) : s_Col_isAtHome c (nI i) g = some (if m_isH L K i = true then 1 else 0) := by
  have hM := hL.2.2.2.1
  have hH := hL.2.1
  have hl4 := (hL.2.2.2.2.2.2 i hi).1
  have hcell := hL.2.2.2.2.2.1 _ hl4
  have hq := (hK.1 i hi).1
  unfold s_Col_isAtHome
  rw [q_ck (by omega) (by decide), q_ck (by omega) (by decide), q_rd (by omega), q_rd (by omega), (hl.2.2.2.2 i hi).1, q_ck (by omega) (by decide), q_rd (by omega), hl.2.2.2.1 _ hl4, (h.2.2 i hi).1]
  unfold m_sp
  rw [(m_parts hq.1 hq.2.1 hq.2.2).2.1]
  unfold m_isH
  have b1 := hq.1
  have b2 := hq.2.1
  by_cases h1 : 16 * (k_p K i).2.1 + (k_p K i).1 = l_c L (l_l L i)
  · rw [if_pos (by rw [h1]), decide_eq_true h1, if_pos rfl]
  · rw [if_neg (fun e => h1 (q_inj (by omega) (by omega) e)), decide_eq_false h1, if_neg (by decide)]
theorem d_isHome {L : m_L} {K : m_K} {b i : Nat} {g : z_G} (hb : b + 26 ≤ 312) (hL : ok_L L) (hK : ok_K L K) (hi : i < l_M L) (hl : d_L L (g 1)) (h : d_K L K b (g 2)) : s_Mod_isHome (nI b) (nI i) g = some (if m_isH L K i = true then 1 else 0) := by
  have hM := hL.2.2.2.1
  have hH := hL.2.1
  have hl4 := (hL.2.2.2.2.2.2 i hi).1
  have hcell := hL.2.2.2.2.2.1 _ hl4
  have hq := (hK.1 i hi).1
  have b1 := hq.1
  have b2 := hq.2.1
  unfold s_Mod_isHome s_Mod_isHome_b53
  rw [show (11 : Int32) = nI 11 from rfl, show (6 : Int32) = nI 6 from rfl, show (4 : Int32) = nI 4 from rfl]
  simp only [q_let, q_add]
  rw [q_ck (by omega) (by decide), q_rd (by omega), (hl.2.2.2.2 i hi).1, q_ck (by omega) (by decide), q_ck (by omega) (by decide), q_add, q_rd (by omega), q_rd (by omega), q_ck (by omega) (by decide), q_ck (by omega) (by decide), q_rd (by omega), q_rd (by omega), (h.1 i hi).1, (h.1 i hi).2.1, (hl.2.2.2.1 _ hl4).1, (hl.2.2.2.1 _ hl4).2]
  unfold m_isH
  by_cases h1 : (k_p K i).1 = l_c L (l_l L i) % 16
  · rw [if_pos (by rw [h1])]
    by_cases h2 : (k_p K i).2.1 = l_c L (l_l L i) / 16
    · rw [if_pos (by rw [h2]), decide_eq_true (by omega), if_pos rfl]
    · rw [if_neg (fun e => h2 (q_inj (by omega) (by omega) e)), decide_eq_false (by omega), if_neg (by decide)]
  · rw [if_neg (fun e => h1 (q_inj (by omega) (by omega) e)), decide_eq_false (by omega), if_neg (by decide)]
theorem q_b10 {b : Bool} {α : Type} {a c : α} : (if (if b = true then (1 : Int32) else 0) = 0 then a else c) = if b = true then c else a := by
  cases b
  · simp
  · simp
theorem o_man {A : m_A} {gC gM : z_G} (h : z_R A gC gM) (x w : Int32) : z_eqr (s_Top_man x w gC) (s_Mod_man x w gM) := by
  obtain ⟨hA, hc, hd⟩ := id h
  have hM := hA.1.2.2.2.1
  unfold s_Top_man s_Mod_man s_Mod_man_b20
  rw [(q_isMan h x).1]
  rcases (q_isMan h x).2 with h0 | ⟨h0, i, hi, rfl⟩
  · rw [if_pos h0, if_pos h0]; exact z_eqr1
  · rw [if_neg h0, if_neg h0]
    have hq := (hA.2.1.1 i hi).1
    have k1 := hd.2.1.1 i hi
    have hp := m_parts hq.1 hq.2.1 hq.2.2
    have s1 : gC 1 i = nI (m_sp (k_p (a_K A) i)) := (hc.2.1.2.2 i hi).1
    have sp : ∀ w2, s_Top_man_b60 gC (nI i) w2 = some (s_Ways_partOf (nI (m_sp (k_p (a_K A) i))) w2) := fun w2 => by
      unfold s_Top_man_b60
      rw [q_ck (by omega) (by decide), q_rd (by omega), s1]
    have e8 : s_Mod_in (Int32.toInt64 w) 0 8 = s_Top_isWithin w 0 8 := q_in w 0 8
    rw [e8]
    by_cases h1 : s_Top_isWithin w 0 8 = 0
    · rw [if_pos h1]
      have nz : ∀ k, k ≤ 8 → ¬ w = nI k := fun k hk e => by
        rw [e, show (8 : Int32) = nI 8 from rfl, q_w1 (by decide) hk] at h1
        exact absurd h1 (by decide)
      rw [if_neg (show ¬ w = 0 from nz 0 (by decide)), if_neg (show ¬ w = 1 from nz 1 (by decide)), if_neg (show ¬ w = 2 from nz 2 (by decide)), if_neg (show ¬ w = 3 from nz 3 (by decide)), if_neg (show ¬ w = 4 from nz 4 (by decide)), if_neg (show ¬ w = 5 from nz 5 (by decide)), if_neg (show ¬ w = 6 from nz 6 (by decide)), if_neg (show ¬ w = 7 from nz 7 (by decide)), if_neg (show ¬ w = 8 from nz 8 (by decide))]
      exact z_eqr1
    · rw [if_neg h1]
      obtain ⟨k, hk, rfl⟩ := q_w0 (n := 8) (by decide) h1
      have z0 : ∀ a, a < 312 → z_rd gM 2 (nI a) = gM 2 a := fun a ha => q_rd (by omega)
      rcases (show k = 0 ∨ k = 1 ∨ k = 2 ∨ k = 3 ∨ k = 4 ∨ k = 5 ∨ k = 6 ∨ k = 7 ∨ k = 8 by omega) with rfl | rfl | rfl | rfl | rfl | rfl | rfl | rfl | rfl
      · rw [if_pos (by decide), if_pos (by decide), sp, q_ck (by omega) (by decide), q_rd (by omega)]
        unfold s_Ways_partOf
        rw [if_pos (by decide)]
        unfold m_sp
        rw [hp.2.1, hp.2.2.1, show i = 0 + i by omega, k1.1, Nat.zero_add]
        exact z_eqr1
      · rw [if_neg (by decide), if_pos (by decide), if_neg (by decide), if_pos (by decide), sp, show (6 : Int32) = nI 6 from rfl, q_add, q_ck (by omega) (by decide), q_rd (by omega)]
        unfold s_Ways_partOf
        rw [if_neg (by decide), if_pos (by decide)]
        unfold m_sp
        have k2 := k1.2.1
        rw [show 0 + 6 + i = 6 + i by omega] at k2
        rw [hp.2.1, hp.2.2.2, k2]
        exact z_eqr1
      · rw [if_neg (by decide), if_neg (by decide), if_pos (by decide), if_neg (by decide), if_neg (by decide), if_pos (by decide), sp, show (12 : Int32) = nI 12 from rfl, q_add, q_ck (by omega) (by decide), q_rd (by omega)]
        unfold s_Ways_partOf
        rw [if_neg (by decide), if_neg (by decide)]
        unfold m_sp
        have k2 := k1.2.2.1
        rw [show 0 + 12 + i = 12 + i by omega] at k2
        rw [hp.1, k2]
        exact z_eqr1
      · rw [if_neg (by decide), if_neg (by decide), if_neg (by decide), if_pos (by decide), if_neg (by decide), if_neg (by decide), if_neg (by decide), if_pos (by decide), show (11 : Int32) = nI 11 from rfl, q_add, q_ck (by omega) (by decide), q_ck (by omega) (by decide), q_rd (by omega), q_rd (by omega), (hc.1.2.2.2.2 i hi).1, (hd.1.2.2.2.2 i hi).1]
        exact z_eqr1
      · have k2 := k1.2.2.2
        rw [show 0 + 18 + i = 18 + i by omega] at k2
        rw [if_neg (by decide), if_neg (by decide), if_neg (by decide), if_neg (by decide), if_pos (by decide), if_neg (by decide), if_neg (by decide), if_neg (by decide), if_neg (by decide), if_pos (by decide), show (18 : Int32) = nI 18 from rfl, q_add, q_ck (by omega) (by decide), q_ck (by omega) (by decide), q_rd (by omega), q_rd (by omega), (hc.2.1.2.2 i hi).2, k2]
        exact z_eqr1
      · rw [if_neg (by decide), if_neg (by decide), if_neg (by decide), if_neg (by decide), if_neg (by decide), if_pos (by decide), if_neg (by decide), if_neg (by decide), if_neg (by decide), if_neg (by decide), if_neg (by decide), if_pos (by decide), show (17 : Int32) = nI 17 from rfl, q_add, q_ck (by omega) (by decide), q_ck (by omega) (by decide), q_rd (by omega), q_rd (by omega), (hc.1.2.2.2.2 i hi).2, (hd.1.2.2.2.2 i hi).2]
        exact z_eqr1
      · have e1 : s_Col_isTied 0 (nI i) gC = if m_ti (k_t (a_K A)) i = true then 1 else 0 := c_isTied (c := 0) hA.1 hA.2.1 hi hc.2.1
        have t24 : gM 2 24 = nI (k_t (a_K A)) := hd.2.1.2.1
        rw [if_neg (by decide), if_neg (by decide), if_neg (by decide), if_neg (by decide), if_neg (by decide), if_neg (by decide), if_pos (by decide), if_neg (by decide), if_neg (by decide), if_neg (by decide), if_neg (by decide), if_neg (by decide), if_neg (by decide), if_pos (by decide), e1, show (24 : Int32) = nI 24 from rfl, q_rd (by decide), t24, m_bit _ hA.2.1.2 i (by omega)]
        unfold s_Top_asNumber
        rw [q_b10]
        exact z_eqr1
      · have e1 : s_Col_isLost 0 (nI i) gC = _ := c_isLost (c := 0) hA.1 hA.2.1 hi hc.1 hc.2.1
        have e2 : s_Mod_isLost (nI 0) (nI i) gM = _ := d_isLost (b := 0) (by decide) hA.1 hA.2.1 hi hd.1 hd.2.1
        rw [if_neg (by decide), if_neg (by decide), if_neg (by decide), if_neg (by decide), if_neg (by decide), if_neg (by decide), if_neg (by decide), if_pos (by decide), if_neg (by decide), if_neg (by decide), if_neg (by decide), if_neg (by decide), if_neg (by decide), if_neg (by decide), if_neg (by decide), if_pos (by decide), e1, show (0 : Int32) = nI 0 from rfl, e2]
        simp only [Option.bind_some]
        unfold s_Top_asNumber s_Mod_man_b171 s_Mod_man_b167
        by_cases hl : m_isL (a_L A) (a_K A) i = true
        · exact ⟨1, by rw [if_pos hl]; rfl, by rw [if_pos hl]; rfl⟩
        · exact ⟨0, by rw [if_neg hl]; rfl, by rw [if_neg hl]; rfl⟩
      · have e1 : s_Col_isAtHome 0 (nI i) gC = _ := c_isHome (c := 0) hA.1 hA.2.1 hi hc.1 hc.2.1
        have e2 : s_Mod_isHome (nI 0) (nI i) gM = _ := d_isHome (b := 0) (by decide) hA.1 hA.2.1 hi hd.1 hd.2.1
        rw [if_neg (by decide), if_neg (by decide), if_neg (by decide), if_neg (by decide), if_neg (by decide), if_neg (by decide), if_neg (by decide), if_neg (by decide), if_pos (by decide), if_neg (by decide), if_neg (by decide), if_neg (by decide), if_neg (by decide), if_neg (by decide), if_neg (by decide), if_neg (by decide), if_neg (by decide), e1, show (0 : Int32) = nI 0 from rfl, e2]
        simp only [Option.bind_some]
        unfold s_Top_asNumber s_Mod_man_b171 s_Mod_man_b167
        by_cases hl : m_isH (a_L A) (a_K A) i = true
        · exact ⟨1, by rw [if_pos hl]; rfl, by rw [if_pos hl]; rfl⟩
        · exact ⟨0, by rw [if_neg hl]; rfl, by rw [if_neg hl]; rfl⟩
theorem o_count {A : m_A} {gC gM : z_G} (h : z_R A gC gM) (x : Int32) : z_eqr (s_Top_count x gC) (s_Mod_count x gM) := by
  obtain ⟨hA, hc, hd⟩ := id h
  unfold s_Top_count s_Mod_count
  have r1 : ∀ a, a < 120 → z_rd gM 1 (nI a) = gM 1 a := fun a ha => q_rd (by omega)
  have r2 : ∀ a, a < 312 → z_rd gM 2 (nI a) = gM 2 a := fun a ha => q_rd (by omega)
  have e0 : z_rd gM 1 8 = nI (l_H (a_L A)) := (r1 8 (by decide)).trans hd.1.1
  have e1 : s_Mod_men gM = nI (l_M (a_L A)) := (r1 9 (by decide)).trans hd.1.2.1
  have e2 : z_rd gM 1 47 = nI (a_n A) := (r1 47 (by decide)).trans hd.2.2.2.2.1.1
  have e3 : z_rd gM 2 25 = k_g (a_K A) := (r2 25 (by decide)).trans hd.2.1.2.2
  have e4 : z_rd gM 2 24 = nI (k_t (a_K A)) := (r2 24 (by decide)).trans hd.2.1.2.1
  have e5 : s_Col_lostMen 0 gC = _ := c_lostMen (c := 0) hA.1 hA.2.1 hc.1 hc.2.1
  have e6 : s_Mod_lost 0 gM = _ := d_lost (b := 0) (by decide) hA.1 hA.2.1 hd.1 hd.2.1
  have e7 : s_Col_tiedMen 0 gC = s_Int_bitCount (nI (k_t (a_K A))) := by
    unfold s_Col_tiedMen
    show s_Int_bitCount (gC 0 2) = _
    rw [hc.2.1.1]
  have e8 : gC 0 3 = k_g (a_K A) := hc.2.1.2.1
  rw [e0, e1, e2, e3, e4, e5, e6, e7, e8, hc.1.1, hc.1.2.1, hc.2.2.2.2.1.1, hc.2.2.2.2.2.1.1, hc.2.2.1.1, hc.2.2.2.1.1, hc.2.2.2.2.2.2.1, hd.2.2.2.2.2.1.1, hd.2.2.1.1, hd.2.2.2.1.1, hd.2.2.2.2.2.2.1, m_bits _ hA.2.1.2]
  simp only [Option.bind_some]
  by_cases h0 : x = 0
  · rw [if_pos h0]; exact z_eqr1
  rw [if_neg h0]
  by_cases h1 : x = 1
  · rw [if_pos h1]; exact z_eqr1
  rw [if_neg h1]
  by_cases h2 : x = 2
  · rw [if_pos h2]; exact z_eqr1
  rw [if_neg h2]
  by_cases h3 : x = 3
  · rw [if_pos h3]; exact z_eqr1
  rw [if_neg h3]
  by_cases h4 : x = 4
  · rw [if_pos h4]; exact z_eqr1
  rw [if_neg h4]
  by_cases h5 : x = 5
  · rw [if_pos h5]; exact z_eqr1
  rw [if_neg h5]
  by_cases h6 : x = 6
  · rw [if_pos h6]; exact z_eqr1
  rw [if_neg h6]
  by_cases h7 : x = 7
  · rw [if_pos h7]; exact z_eqr1
  rw [if_neg h7]
  by_cases h8 : x = 8
  · rw [if_pos h8]; exact z_eqr1
  rw [if_neg h8]
  by_cases h9 : x = 9
  · rw [if_pos h9]; exact z_eqr1
  rw [if_neg h9]
  exact z_eqr1
