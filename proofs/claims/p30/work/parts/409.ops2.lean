/-! ===== keep, back, tell, noRow, seen, forget, write, wipe ===== -/
theorem o_keep {A : m_A} {gC gM : z_G} (h : z_R A gC gM) : z_res (s_Top_keep gC) (s_Mod_keep gM) := by
  obtain ⟨hA, hc, hd⟩ := id h
  have hM := hA.1.2.2.2.1
  have hQ := hA.2.2.2.1.1
  unfold s_Top_keep s_Mod_keep
  rw [hc.2.2.2.1.1, hd.2.2.2.1.1, show (2 : Int32) = nI 2 from rfl]
  by_cases h2 : a_Q A < 2
  · rw [if_pos (by rw [q_lt (by omega) (by omega)]; exact h2), if_neg (fun e => by have := q_inj (by omega) (by omega) e; omega)]
    have e64 := (hc.2.2.2.1.2.1 (a_Q A) h2).1
    have hc3 := c_copy (L := a_L A) (K := a_K A) (a := 11 + a_Q A) (b := 0) (g := gC) (by omega) hM hc.2.1
    have e63 : s_Col_copyFrom (11 + a_Q A) 0 gC 63 = gC 63 := hc3.2 63 (by omega) (by omega) (by omega)
    have eC : s_Pile_put_63 0 gC = some (z_up (s_Col_copyFrom (11 + a_Q A) 0 gC) 63 1 (nI (a_Q A + 1))) := by
      unfold s_Pile_put_63 s_Pile_put_63_b16
      rw [hc.2.2.2.1.1, show (2 : Int32) = nI 2 from rfl, if_pos (by rw [q_lt (by omega) (by omega)]; exact h2), q_ck (by omega) (by decide)]
      simp only [q_let]
      have eq : Int32.toNatClampNeg (z_rd gC 64 (nI (a_Q A))) = 11 + a_Q A := by rw [q_rd (by omega), e64, nI_clamp (by omega)]
      rw [eq, q_ckt (by simp; omega), e63, hc.2.2.2.1.1, show nI (a_Q A) + 1 = nI (a_Q A + 1) from nI_1 _]
    rw [eC]
    simp only [Option.bind_some]
    rw [show (9 : Int32) = nI 9 from rfl, q_add, show (26 : Int32) = nI 26 from rfl, q_mul, show (0 : Int32) = nI 0 from rfl]
    obtain ⟨gM1, b1, b2, b3, b4⟩ := d_copies (a := 0) (b := (9 + a_Q A) * 26) (g := gM) (by omega) (by omega) (by omega)
    rw [b1]
    simp only [Option.bind_some, q_let]
    have f0 : gM1 0 3 = nI (a_Q A) := by rw [b4 0 (by decide)]; exact hd.2.2.2.1.1
    rw [f0, show nI (a_Q A) + 1 = nI (a_Q A + 1) from nI_1 _, up_s, up_s]
    have f1 : ∀ k, ¬ (33 ≤ k ∧ k < 39) → k ≠ 63 → z_up (s_Col_copyFrom (11 + a_Q A) 0 gC) 63 1 (nI (a_Q A + 1)) k = gC k := fun k h3 h4 => by rw [up_c h4, hc3.2 k (by omega) (by omega) (by omega)]
    refine ⟨_, _, _, (a_L A, a_K A, A.2.2.1, (a_Q A + 1, fun j => if j = a_Q A then a_K A else a_kp A j), A.2.2.2.2), rfl, rfl, ⟨hA.1, hA.2.1, hA.2.2.1, ⟨by show a_Q A + 1 ≤ 2; omega, fun j hj => ?_⟩, hA.2.2.2.2⟩, ⟨?_, ?_, c_U_fr hc.2.2.1 hA.2.2.1.1 (fun k hk => f1 k (by unfold z_pc at hk; omega) (by unfold z_pc at hk; omega)), ⟨up_s, fun j hj => ?_, fun j hj => ?_⟩, ?_, ?_, ?_⟩, ⟨?_, ?_, d_U_fr hM hd.2.2.1 hA.2.2.1.1 (by rw [up_n (by decide), b4 0 (by decide)]) (fun j h1 h2 => by rw [up_c (by decide)]; exact b3 j (by omega)), ⟨up_s, fun j hj => ?_⟩, ?_, ?_, ?_⟩⟩
    · show ok_K (a_L A) (if j = a_Q A then a_K A else a_kp A j)
      by_cases h5 : j = a_Q A
      · rw [if_pos h5]; exact hA.2.1
      · rw [if_neg h5]; exact hA.2.2.2.1.2 j (by have : j < a_Q A + 1 := hj; omega)
    · rw [f1 43 (by decide) (by decide), f1 44 (by decide) (by decide), f1 45 (by decide) (by decide), f1 46 (by decide) (by decide)]; exact hc.1
    · rw [f1 0 (by decide) (by decide), f1 1 (by decide) (by decide), f1 2 (by decide) (by decide)]; exact hc.2.1
    · rw [f1 64 (by decide) (by decide), f1 6 (by omega) (by omega)]; exact hc.2.2.2.1.2.1 j hj
    · have hj2 : j < a_Q A + 1 := hj
      show c_K (a_L A) (if j = a_Q A then a_K A else a_kp A j) _ _ _
      rw [up_c (by omega), up_c (by omega), up_c (by omega)]
      by_cases h5 : j = a_Q A
      · rw [if_pos h5, h5]; exact hc3.1
      · rw [if_neg h5, hc3.2 _ (by omega) (by omega) (by omega), hc3.2 _ (by omega) (by omega) (by omega), hc3.2 _ (by omega) (by omega) (by omega)]
        exact hc.2.2.2.1.2.2 j (by omega)
    · rw [f1 51 (by decide) (by decide), f1 52 (by decide) (by decide), f1 53 (by decide) (by decide)]; exact hc.2.2.2.2.1
    · rw [f1 57 (by decide) (by decide), f1 58 (by decide) (by decide), f1 59 (by decide) (by decide), f1 60 (by decide) (by decide)]; exact hc.2.2.2.2.2.1
    · rw [f1 39 (by decide) (by decide), f1 40 (by decide) (by decide)]; exact hc.2.2.2.2.2.2
    · rw [up_c (by decide), b4 1 (by decide)]; exact hd.1
    · rw [up_c (by decide)]; exact d_K_fr hM hd.2.1 (fun j h1 h2 => b3 j (by omega))
    · have hj2 : j < a_Q A + 1 := hj
      show d_K (a_L A) (if j = a_Q A then a_K A else a_kp A j) _ _
      rw [up_c (by decide)]
      by_cases h5 : j = a_Q A
      · rw [if_pos h5, h5]
        exact d_K_at hM hd.2.1 (fun q hq => by rw [show 26 * (9 + a_Q A) + q = (9 + a_Q A) * 26 + q by omega, b2 q hq])
      · rw [if_neg h5]
        exact d_K_fr hM (hd.2.2.2.1.2 j (by omega)) (fun q h1 h3 => b3 q (by omega))
    · rw [up_c (by decide), b4 1 (by decide)]; exact hd.2.2.2.2.1
    · rw [up_n (by decide), up_c (by decide), up_c (by decide), up_c (by decide), b4 0 (by decide), b4 4 (by decide), b4 5 (by decide), b4 6 (by decide)]; exact hd.2.2.2.2.2.1
    · rw [up_n (by decide), up_c (by decide), b4 0 (by decide), b4 3 (by decide)]; exact hd.2.2.2.2.2.2
  · have hQ2 : a_Q A = 2 := by omega
    rw [if_neg (by rw [q_lt (by omega) (by omega)]; exact h2), if_pos (by rw [hQ2])]
    exact z_same h
theorem o_back {A : m_A} {gC gM : z_G} (h : z_R A gC gM) : z_res (s_Top_back gC) (s_Mod_back gM) := by
  obtain ⟨hA, hc, hd⟩ := id h
  have hM := hA.1.2.2.2.1
  have hQ := hA.2.2.2.1.1
  obtain ⟨eU, p, hp, hi, hk⟩ := hc.2.2.1
  unfold s_Top_back s_Mod_back
  rw [hc.2.2.2.1.1, hd.2.2.2.1.1]
  by_cases h0 : a_Q A = 0
  · rw [if_pos (by rw [h0]; rfl), if_pos (by rw [h0]; rfl)]; exact z_same h
  · have hn : ¬ nI (a_Q A) = (0 : Int32) := fun e => h0 (q_inj (b := 0) (by omega) (by omega) e)
    rw [if_neg hn, if_neg hn]
    have e64 := (hc.2.2.2.1.2.1 (a_Q A - 1) (by omega)).1
    have eC : s_Pile_takeInto_63 0 gC = some (s_Col_copyFrom 0 (11 + (a_Q A - 1)) (z_up gC 63 1 (nI (a_Q A - 1)))) := by
      unfold s_Pile_takeInto_63
      simp only [q_let]
      rw [hc.2.2.2.1.1, show (1 : Int32) = nI 1 from rfl, q_sub (by omega), up_s, q_ck (by omega) (by decide), q_rd (by omega), up_c (by decide), e64, nI_clamp (by omega), q_ckt (by simp; omega)]
    rw [eC]
    simp only [Option.bind_some, q_let]
    have em : (nI (a_Q A) - 1 : Int32) = nI (a_Q A - 1) := q_sub (b := 1) (by omega)
    rw [em, up_s, show (9 : Int32) = nI 9 from rfl, q_add, show (26 : Int32) = nI 26 from rfl, q_mul]
    obtain ⟨gM1, b1, b2, b3, b4⟩ := d_copies (a := (9 + (a_Q A - 1)) * 26) (b := 0) (g := z_up gM 0 3 (nI (a_Q A - 1))) (by omega) (by omega) (by omega)
    rw [show (0 : Int32) = nI 0 from rfl, b1]
    simp only [Option.bind_some, q_let]
    have hcol := hc.2.2.2.1.2.2 (a_Q A - 1) (by omega)
    have hc3 := c_copy (L := a_L A) (K := a_kp A (a_Q A - 1)) (a := 0) (b := 11 + (a_Q A - 1)) (g := z_up gC 63 1 (nI (a_Q A - 1))) (by omega) hM (by rw [up_c (by omega), up_c (by omega), up_c (by omega)]; exact hcol)
    have f1 : ∀ k, 3 ≤ k → k ≠ 61 → k ≠ 63 → z_up (s_Col_copyFrom 0 (11 + (a_Q A - 1)) (z_up gC 63 1 (nI (a_Q A - 1)))) 61 1 (nI 0) k = gC k := fun k h3 h4 h5 => by rw [up_c h4, hc3.2 k (by omega) (by omega) (by omega), up_c h5]
    have f63 : z_up (s_Col_copyFrom 0 (11 + (a_Q A - 1)) (z_up gC 63 1 (nI (a_Q A - 1)))) 61 1 (nI 0) 63 1 = nI (a_Q A - 1) := by rw [up_c (by decide), hc3.2 63 (by decide) (by decide) (by decide), up_s]
    have m2 : gM1 2 = gM1 2 := rfl
    have g3 : z_up gM1 0 2 (nI 0) 0 3 = nI (a_Q A - 1) := by rw [up_n (by decide), b4 0 (by decide), up_s]
    have e2 : z_up gM 0 3 (nI (a_Q A - 1)) 2 = gM 2 := up_c (by decide)
    have q0 : ∀ j, j ≠ 2 → j ≠ 3 → z_up gM1 0 2 (nI 0) 0 j = gM 0 j := fun j h3 h4 => by rw [up_n h3, b4 0 (by decide), up_n h4]
    have q1 : ∀ k, k ≠ 0 → k ≠ 2 → z_up gM1 0 2 (nI 0) k = gM k := fun k h3 h4 => by rw [up_c h3, b4 k h4, up_c h3]
    have q2 : ∀ j, 26 ≤ j → z_up gM1 0 2 (nI 0) 2 j = gM 2 j := fun j hj => by rw [up_c (by decide), b3 j (by omega), e2]
    rw [f63, g3]
    refine ⟨_, _, _, (a_L A, a_kp A (a_Q A - 1), (0, a_un A), (a_Q A - 1, a_kp A), A.2.2.2.2), rfl, rfl, ⟨hA.1, hA.2.2.2.1.2 _ (by omega), ⟨by show 0 ≤ 8; omega, fun j hj => absurd hj (Nat.not_lt_zero j)⟩, ⟨by show a_Q A - 1 ≤ 2; omega, fun j hj => hA.2.2.2.1.2 j (by have : j < a_Q A - 1 := hj; omega)⟩, hA.2.2.2.2⟩, ⟨?_, ?_, ⟨up_s, p, fun j hj => ?_, hi, fun j hj => absurd hj (Nat.not_lt_zero j)⟩, ⟨f63, fun j hj => ?_, fun j hj => ?_⟩, ?_, ?_, ?_⟩, ⟨?_, ?_, ⟨up_s, fun j hj => absurd hj (Nat.not_lt_zero j)⟩, ⟨g3, fun j hj => ?_⟩, ?_, ?_, ?_⟩⟩
    · rw [f1 43 (by decide) (by decide) (by decide), f1 44 (by decide) (by decide) (by decide), f1 45 (by decide) (by decide) (by decide), f1 46 (by decide) (by decide) (by decide)]; exact hc.1
    · rw [up_c (by decide), up_c (by decide), up_c (by decide)]; exact hc3.1
    · rw [f1 62 (by decide) (by decide) (by decide)]; exact hp j hj
    · rw [f1 64 (by decide) (by decide) (by decide), f1 6 (by decide) (by decide) (by decide)]; exact hc.2.2.2.1.2.1 j hj
    · have hj2 : j < a_Q A - 1 := hj
      rw [f1 _ (by omega) (by omega) (by omega), f1 _ (by omega) (by omega) (by omega), f1 _ (by omega) (by omega) (by omega)]; exact hc.2.2.2.1.2.2 j (by omega)
    · rw [f1 51 (by decide) (by decide) (by decide), f1 52 (by decide) (by decide) (by decide), f1 53 (by decide) (by decide) (by decide)]; exact hc.2.2.2.2.1
    · rw [f1 57 (by decide) (by decide) (by decide), f1 58 (by decide) (by decide) (by decide), f1 59 (by decide) (by decide) (by decide), f1 60 (by decide) (by decide) (by decide)]; exact hc.2.2.2.2.2.1
    · rw [f1 39 (by decide) (by decide) (by decide), f1 40 (by decide) (by decide) (by decide)]; exact hc.2.2.2.2.2.2
    · rw [q1 1 (by decide) (by decide)]; exact hd.1
    · rw [up_c (by decide)]
      exact d_K_at hM (hd.2.2.2.1.2 (a_Q A - 1) (by omega)) (fun j hj => by rw [b2 j hj, e2, show 26 * (9 + (a_Q A - 1)) + j = (9 + (a_Q A - 1)) * 26 + j by omega])
    · have hj2 : j < a_Q A - 1 := hj
      exact d_K_fr hM (hd.2.2.2.1.2 j (by omega)) (fun q h1 h2 => q2 q (by omega))
    · rw [q1 1 (by decide) (by decide)]; exact hd.2.2.2.2.1
    · rw [q0 9 (by decide) (by decide), q1 4 (by decide) (by decide), q1 5 (by decide) (by decide), q1 6 (by decide) (by decide)]; exact hd.2.2.2.2.2.1
    · rw [q0 4 (by decide) (by decide), q1 3 (by decide) (by decide)]; exact hd.2.2.2.2.2.2
theorem o_tell {A : m_A} {gC gM : z_G} (h : z_R A gC gM) (r n : Int32) : z_res (s_Top_tell r n gC) (s_Mod_tell r n gM) := by
  obtain ⟨hA, hc, hd⟩ := id h
  have hM := hA.1.2.2.2.1
  have hn6 := hA.2.2.2.2.1.1
  unfold s_Top_tell s_Mod_tell
  rw [(q_isOrder r n).1]
  rcases (q_isOrder r n).2 with h0 | ⟨h0, a, b, ha, hb, rfl, rfl⟩
  · rw [if_pos h0, if_pos h0]; exact z_same h
  · rw [if_neg h0, if_neg h0]
    have e47 : z_rd gM 1 47 = nI (a_n A) := by rw [show (47 : Int32) = nI 47 from rfl, q_rd (by decide)]; exact hd.2.2.2.2.1.1
    rw [e47]
    by_cases h6 : a_n A < 6
    · have eC : s_Row_add_51 (nI a) (nI b) gC = some (1, z_up (z_up (z_up gC 52 (a_n A) (nI a)) 53 (a_n A) (nI b)) 51 2 (nI (a_n A + 1))) := by
        unfold s_Row_add_51
        have e51 : gC 51 2 = nI (a_n A) := hc.2.2.2.2.1.1
        rw [e51, show (6 : Int32) = nI 6 from rfl, if_pos (by rw [q_lt (by omega) (by omega)]; exact h6), q_ck h6 (by decide)]
        simp only [q_let]
        rw [q_wr (by omega), up_c (by decide), e51, q_ck h6 (by decide), q_wr (by omega), up_c (by decide), up_c (by decide), e51, show nI (a_n A) + 1 = nI (a_n A + 1) from nI_1 _]
      have eM : s_Mod_tells 0 (nI a) (nI b) gM = some (z_up (z_up (z_up gM 1 (48 + a_n A) (nI a)) 1 (54 + a_n A) (nI b)) 1 47 (nI (a_n A + 1))) := by
        unfold s_Mod_tells
        simp only [q_let]
        rw [show (0 : Int32) = nI 0 from rfl, show (47 : Int32) = nI 47 from rfl, show (48 : Int32) = nI 48 from rfl, show (54 : Int32) = nI 54 from rfl]
        simp only [q_add, Nat.zero_add]
        have e47b : z_rd gM 1 (nI 47) = nI (a_n A) := e47
        rw [q_ck (by omega) (by decide), e47b, q_add, q_add, q_ck (by omega) (by decide), q_ck (by omega) (by decide), q_ck (by omega) (by decide), q_wr (by omega), q_wr (by omega), q_wr (by omega), show nI (a_n A) + 1 = nI (a_n A + 1) from nI_1 _]
      have ne6 : ¬ nI (a_n A) = (6 : Int32) := fun e => by have := q_inj (b := 6) (by omega) (by omega) e; omega
      rw [eC, if_neg ne6, eM]
      simp only [Option.bind_some]
      rw [if_neg (by decide), up_s, show (47 : Int32) = nI 47 from rfl, q_rd (by decide), up_s]
      refine ⟨_, _, _, (a_L A, a_K A, A.2.2.1, A.2.2.2.1, (a_n A + 1, (fun k => if k = a_n A then a else a_rt A k), fun k => if k = a_n A then b else a_rs A k), A.2.2.2.2.2), rfl, rfl, ⟨hA.1, hA.2.1, hA.2.2.1, hA.2.2.2.1, ⟨by show a_n A + 1 ≤ 6; omega, fun k hk => ?_⟩, hA.2.2.2.2.2⟩, ⟨?_, ?_, c_U_fr hc.2.2.1 hA.2.2.1.1 (fun k hk => by unfold z_pc at hk; rw [up_c (by omega), up_c (by omega), up_c (by omega)]), c_Q_fr hc.2.2.2.1 hA.2.2.2.1.1 (fun k hk => by unfold z_qc at hk; rw [up_c (by omega), up_c (by omega), up_c (by omega)]), ⟨up_s, fun k hk => ?_⟩, ?_, ?_⟩, ⟨d_L_fr hA.1 hd.1 (fun j hj => by rw [up_n (by omega), up_n (by omega), up_n (by omega)]), ?_, d_U_fr hM hd.2.2.1 hA.2.2.1.1 (by rw [up_c (by decide), up_c (by decide), up_c (by decide)]) (fun j _ _ => by rw [up_c (by decide), up_c (by decide), up_c (by decide)]), d_Q_fr hM hd.2.2.2.1 hA.2.2.2.1.1 (by rw [up_c (by decide), up_c (by decide), up_c (by decide)]) (fun j _ _ => by rw [up_c (by decide), up_c (by decide), up_c (by decide)]), ⟨up_s, fun k hk => ?_⟩, ?_, ?_⟩⟩
      · have hk2 : k < a_n A + 1 := hk
        show (if k = a_n A then a else a_rt A k) < 8 ∧ (if k = a_n A then b else a_rs A k) < 10
        by_cases h7 : k = a_n A
        · rw [if_pos h7, if_pos h7]; exact ⟨ha, hb⟩
        · rw [if_neg h7, if_neg h7]; exact hA.2.2.2.2.1.2 k (by omega)
      · rw [up_c (by decide), up_c (by decide), up_c (by decide), up_c (by decide), up_c (by decide), up_c (by decide), up_c (by decide), up_c (by decide), up_c (by decide), up_c (by decide), up_c (by decide), up_c (by decide)]; exact hc.1
      · rw [up_c (by decide), up_c (by decide), up_c (by decide), up_c (by decide), up_c (by decide), up_c (by decide), up_c (by decide), up_c (by decide), up_c (by decide)]; exact hc.2.1
      · have hk2 : k < a_n A + 1 := hk
        show _ = nI (if k = a_n A then a else a_rt A k) ∧ _ = nI (if k = a_n A then b else a_rs A k)
        rw [up_c (show 52 ≠ 51 by decide), up_c (show 52 ≠ 53 by decide), up_c (show 53 ≠ 51 by decide)]
        by_cases h7 : k = a_n A
        · rw [if_pos h7, if_pos h7, h7, up_s, up_s]; exact ⟨rfl, rfl⟩
        · rw [if_neg h7, if_neg h7, up_n h7, up_n h7, up_c (show 53 ≠ 52 by decide)]; exact hc.2.2.2.2.1.2 k (by omega)
      · rw [up_c (by decide), up_c (by decide), up_c (by decide), up_c (by decide), up_c (by decide), up_c (by decide), up_c (by decide), up_c (by decide), up_c (by decide), up_c (by decide), up_c (by decide), up_c (by decide)]; exact hc.2.2.2.2.2.1
      · rw [up_c (by decide), up_c (by decide), up_c (by decide), up_c (by decide), up_c (by decide), up_c (by decide)]; exact hc.2.2.2.2.2.2
      · rw [up_c (by decide), up_c (by decide), up_c (by decide)]; exact hd.2.1
      · have hk2 : k < a_n A + 1 := hk
        show _ = nI (if k = a_n A then a else a_rt A k) ∧ _ = nI (if k = a_n A then b else a_rs A k)
        rw [up_n (by omega), up_n (by omega)]
        by_cases h7 : k = a_n A
        · rw [if_pos h7, if_pos h7, h7, up_s, up_n (by omega), up_s]; exact ⟨rfl, rfl⟩
        · rw [if_neg h7, if_neg h7, up_n (by omega), up_n (by omega), up_n (by omega), up_n (by omega)]; exact hd.2.2.2.2.1.2 k (by omega)
      · rw [up_c (by decide), up_c (by decide), up_c (by decide), up_c (by decide), up_c (by decide), up_c (by decide), up_c (by decide), up_c (by decide), up_c (by decide), up_c (by decide), up_c (by decide), up_c (by decide)]; exact hd.2.2.2.2.2.1
      · rw [up_c (by decide), up_c (by decide), up_c (by decide), up_c (by decide), up_c (by decide), up_c (by decide)]; exact hd.2.2.2.2.2.2
    · have h66 : a_n A = 6 := by omega
      have eC : s_Row_add_51 (nI a) (nI b) gC = some (0, gC) := by
        unfold s_Row_add_51
        rw [hc.2.2.2.2.1.1, show (6 : Int32) = nI 6 from rfl, if_neg (by rw [q_lt (by omega) (by omega)]; exact h6)]
      rw [eC, if_pos (by rw [h66]; rfl)]
      simp only [Option.bind_some]
      rw [if_pos trivial]
      exact z_same h
