/-! ===== noRow, seen, forget, write, wipe ===== -/
theorem q_2 {v : Int32} {g : z_G} : (v, g).1 = v ∧ (v, g).2 = g := ⟨rfl, rfl⟩
theorem o_noRow {A : m_A} {gC gM : z_G} (h : z_R A gC gM) : z_res (some (s_Top_noRow gC)) (some (s_Mod_noRow gM)) := by
  obtain ⟨hA, hc, hd⟩ := id h
  have hM := hA.1.2.2.2.1
  unfold s_Top_noRow s_Mod_noRow
  simp only [q_let]
  have e47 : z_rd gM 1 47 = nI (a_n A) := by rw [show (47 : Int32) = nI 47 from rfl, q_rd (by decide)]; exact hd.2.2.2.2.1.1
  rw [e47, hc.2.2.2.2.1.1, show (47 : Int32) = nI 47 from rfl, q_wr (by decide), show (0 : Int32) = nI 0 from rfl]
  refine ⟨_, _, _, (a_L A, a_K A, A.2.2.1, A.2.2.2.1, (0, a_rt A, a_rs A), (0, a_sa A, a_sb A, a_sc A), A.2.2.2.2.2.2), rfl, rfl, ⟨hA.1, hA.2.1, hA.2.2.1, hA.2.2.2.1, ⟨by show 0 ≤ 6; omega, fun k hk => absurd hk (Nat.not_lt_zero k)⟩, by show 0 ≤ 6; omega, hA.2.2.2.2.2.2⟩, ⟨?_, ?_, c_U_fr hc.2.2.1 hA.2.2.1.1 (fun k hk => by unfold z_pc at hk; rw [up_c (by omega), up_c (by omega)]), c_Q_fr hc.2.2.2.1 hA.2.2.2.1.1 (fun k hk => by unfold z_qc at hk; rw [up_c (by omega), up_c (by omega)]), ⟨?_, fun k hk => absurd hk (Nat.not_lt_zero k)⟩, ⟨up_s, fun k hk => absurd hk (Nat.not_lt_zero k)⟩, ?_⟩, ⟨d_L_fr hA.1 hd.1 (fun j hj => by rw [up_c (by decide), up_n (by omega)]), ?_, d_U_fr hM hd.2.2.1 hA.2.2.1.1 (by rw [up_n (by decide), up_c (by decide)]) (fun j _ _ => by rw [up_c (by decide), up_c (by decide)]), d_Q_fr hM hd.2.2.2.1 hA.2.2.2.1.1 (by rw [up_n (by decide), up_c (by decide)]) (fun j _ _ => by rw [up_c (by decide), up_c (by decide)]), ⟨?_, fun k hk => absurd hk (Nat.not_lt_zero k)⟩, ⟨up_s, fun k hk => absurd hk (Nat.not_lt_zero k)⟩, ?_⟩⟩
  · rw [up_c (show 43 ≠ 57 by decide), up_c (show 43 ≠ 51 by decide), up_c (show 44 ≠ 57 by decide), up_c (show 44 ≠ 51 by decide), up_c (show 45 ≠ 57 by decide), up_c (show 45 ≠ 51 by decide), up_c (show 46 ≠ 57 by decide), up_c (show 46 ≠ 51 by decide)]; exact hc.1
  · rw [up_c (show 0 ≠ 57 by decide), up_c (show 0 ≠ 51 by decide), up_c (show 1 ≠ 57 by decide), up_c (show 1 ≠ 51 by decide), up_c (show 2 ≠ 57 by decide), up_c (show 2 ≠ 51 by decide)]; exact hc.2.1
  · rw [up_c (show 51 ≠ 57 by decide), up_s]
  · rw [up_c (show 39 ≠ 57 by decide), up_c (show 39 ≠ 51 by decide), up_c (show 40 ≠ 57 by decide), up_c (show 40 ≠ 51 by decide)]; exact hc.2.2.2.2.2.2
  · rw [up_c (show 2 ≠ 0 by decide), up_c (show 2 ≠ 1 by decide)]; exact hd.2.1
  · rw [up_c (show 1 ≠ 0 by decide), up_s]
  · rw [up_n (show 4 ≠ 9 by decide), up_c (show 0 ≠ 1 by decide), up_c (show 3 ≠ 0 by decide), up_c (show 3 ≠ 1 by decide)]; exact hd.2.2.2.2.2.2
theorem o_forget {A : m_A} {gC gM : z_G} (h : z_R A gC gM) : z_res (some (s_Top_forget gC)) (some (s_Mod_forget gM)) := by
  obtain ⟨hA, hc, hd⟩ := id h
  have hM := hA.1.2.2.2.1
  unfold s_Top_forget s_Mod_forget
  simp only [q_let]
  rw [hc.2.2.2.2.2.1.1, hd.2.2.2.2.2.1.1, show (0 : Int32) = nI 0 from rfl]
  refine ⟨_, _, _, (a_L A, a_K A, A.2.2.1, A.2.2.2.1, A.2.2.2.2.1, (0, a_sa A, a_sb A, a_sc A), A.2.2.2.2.2.2), rfl, rfl, ⟨hA.1, hA.2.1, hA.2.2.1, hA.2.2.2.1, hA.2.2.2.2.1, by show 0 ≤ 6; omega, hA.2.2.2.2.2.2⟩, ⟨?_, ?_, c_U_fr hc.2.2.1 hA.2.2.1.1 (fun k hk => by unfold z_pc at hk; rw [up_c (by omega)]), c_Q_fr hc.2.2.2.1 hA.2.2.2.1.1 (fun k hk => by unfold z_qc at hk; rw [up_c (by omega)]), ?_, ⟨up_s, fun k hk => absurd hk (Nat.not_lt_zero k)⟩, ?_⟩, ⟨?_, ?_, d_U_fr hM hd.2.2.1 hA.2.2.1.1 (by rw [up_n (by decide)]) (fun j _ _ => by rw [up_c (by decide)]), d_Q_fr hM hd.2.2.2.1 hA.2.2.2.1.1 (by rw [up_n (by decide)]) (fun j _ _ => by rw [up_c (by decide)]), ?_, ⟨up_s, fun k hk => absurd hk (Nat.not_lt_zero k)⟩, ?_⟩⟩
  · rw [up_c (show 43 ≠ 57 by decide), up_c (show 44 ≠ 57 by decide), up_c (show 45 ≠ 57 by decide), up_c (show 46 ≠ 57 by decide)]; exact hc.1
  · rw [up_c (show 0 ≠ 57 by decide), up_c (show 1 ≠ 57 by decide), up_c (show 2 ≠ 57 by decide)]; exact hc.2.1
  · rw [up_c (show 51 ≠ 57 by decide), up_c (show 52 ≠ 57 by decide), up_c (show 53 ≠ 57 by decide)]; exact hc.2.2.2.2.1
  · rw [up_c (show 39 ≠ 57 by decide), up_c (show 40 ≠ 57 by decide)]; exact hc.2.2.2.2.2.2
  · rw [up_c (show 1 ≠ 0 by decide)]; exact hd.1
  · rw [up_c (show 2 ≠ 0 by decide)]; exact hd.2.1
  · rw [up_c (show 1 ≠ 0 by decide)]; exact hd.2.2.2.2.1
  · rw [up_n (show 4 ≠ 9 by decide), up_c (show 3 ≠ 0 by decide)]; exact hd.2.2.2.2.2.2
theorem o_wipe {A : m_A} {gC gM : z_G} (h : z_R A gC gM) : z_res (some (s_Top_wipe gC)) (some (s_Mod_wipe gM)) := by
  obtain ⟨hA, hc, hd⟩ := id h
  have hM := hA.1.2.2.2.1
  unfold s_Top_wipe s_Mod_wipe
  simp only [q_let]
  rw [hc.2.2.2.2.2.2.1, hd.2.2.2.2.2.2.1, show (0 : Int32) = nI 0 from rfl]
  refine ⟨_, _, _, (a_L A, a_K A, A.2.2.1, A.2.2.2.1, A.2.2.2.2.1, A.2.2.2.2.2.1, (0, a_tx A)), rfl, rfl, ⟨hA.1, hA.2.1, hA.2.2.1, hA.2.2.2.1, hA.2.2.2.2.1, hA.2.2.2.2.2.1, ⟨by show 0 ≤ 200; omega, fun k hk => absurd hk (Nat.not_lt_zero k)⟩⟩, ⟨?_, ?_, c_U_fr hc.2.2.1 hA.2.2.1.1 (fun k hk => by unfold z_pc at hk; rw [up_c (by omega)]), c_Q_fr hc.2.2.2.1 hA.2.2.2.1.1 (fun k hk => by unfold z_qc at hk; rw [up_c (by omega)]), ?_, ?_, ⟨up_s, fun k hk => absurd hk (Nat.not_lt_zero k)⟩⟩, ⟨?_, ?_, d_U_fr hM hd.2.2.1 hA.2.2.1.1 (by rw [up_n (by decide)]) (fun j _ _ => by rw [up_c (by decide)]), d_Q_fr hM hd.2.2.2.1 hA.2.2.2.1.1 (by rw [up_n (by decide)]) (fun j _ _ => by rw [up_c (by decide)]), ?_, ?_, ⟨up_s, fun k hk => absurd hk (Nat.not_lt_zero k)⟩⟩⟩
  · rw [up_c (show 43 ≠ 39 by decide), up_c (show 44 ≠ 39 by decide), up_c (show 45 ≠ 39 by decide), up_c (show 46 ≠ 39 by decide)]; exact hc.1
  · rw [up_c (show 0 ≠ 39 by decide), up_c (show 1 ≠ 39 by decide), up_c (show 2 ≠ 39 by decide)]; exact hc.2.1
  · rw [up_c (show 51 ≠ 39 by decide), up_c (show 52 ≠ 39 by decide), up_c (show 53 ≠ 39 by decide)]; exact hc.2.2.2.2.1
  · rw [up_c (show 57 ≠ 39 by decide), up_c (show 58 ≠ 39 by decide), up_c (show 59 ≠ 39 by decide), up_c (show 60 ≠ 39 by decide)]; exact hc.2.2.2.2.2.1
  · rw [up_c (show 1 ≠ 0 by decide)]; exact hd.1
  · rw [up_c (show 2 ≠ 0 by decide)]; exact hd.2.1
  · rw [up_c (show 1 ≠ 0 by decide)]; exact hd.2.2.2.2.1
  · rw [up_n (show 9 ≠ 4 by decide), up_c (show 4 ≠ 0 by decide), up_c (show 5 ≠ 0 by decide), up_c (show 6 ≠ 0 by decide)]; exact hd.2.2.2.2.2.1
theorem q_w32 {x : Int32} (h : s_Top_isWithin x 32 126 ≠ 0) : ∃ a, 32 ≤ a ∧ a ≤ 126 ∧ x = nI a := by
  rw [q_isW] at h
  by_cases h1 : x < 32 ∨ 126 < x
  · simp [h1] at h
  · have h2 : ¬ x < 32 := fun e => h1 (Or.inl e)
    have h3 : ¬ 126 < x := fun e => h1 (Or.inr e)
    rcases pk_ix x (n := 127) (by decide) with h4 | h4 | ⟨j, hj, h4⟩
    · exfalso
      apply h2
      rw [Int32.lt_iff_toInt_lt] at h4 ⊢
      have e0 : (0 : Int32).toInt = 0 := by decide
      have e1 : (32 : Int32).toInt = 32 := by decide
      omega
    · exfalso
      apply h3
      rw [Int32.le_iff_toInt_le] at h4
      rw [Int32.lt_iff_toInt_lt]
      have e0 : (nI 127).toInt = 127 := by decide
      have e1 : (126 : Int32).toInt = 126 := by decide
      omega
    · refine ⟨j, ?_, by omega, h4⟩
      rcases Nat.lt_or_ge j 32 with h5 | h5
      · exfalso
        apply h2
        rw [h4, show (32 : Int32) = nI 32 from rfl, q_lt (by omega) (by omega)]
        exact h5
      · exact h5
set_option maxRecDepth 20000 in
theorem q_chr : ∀ a, a < 127 → vp_nar .char ((Int32.toUInt32 (nI a) % 65536).toInt32) = nI a ∧ vp_nar .byte ((Int32.toInt8 (nI a)).toInt32) = nI a := by decide +kernel
theorem o_write {A : m_A} {gC gM : z_G} (h : z_R A gC gM) (x : Int32) : z_res (s_Top_write x gC) (s_Mod_write x gM) := by
  obtain ⟨hA, hc, hd⟩ := id h
  have hM := hA.1.2.2.2.1
  have hT := hA.2.2.2.2.2.2.1
  unfold s_Top_write s_Mod_write
  rw [show s_Mod_in (Int32.toInt64 x) 32 126 = s_Top_isWithin x 32 126 from q_in x 32 126]
  by_cases h0 : s_Top_isWithin x 32 126 = 0
  · rw [if_pos h0, if_pos h0]; exact z_same h
  · rw [if_neg h0, if_neg h0, hc.2.2.2.2.2.2.1, hd.2.2.2.2.2.2.1, show (200 : Int32) = nI 200 from rfl]
    obtain ⟨a, ha1, ha2, rfl⟩ := q_w32 h0
    by_cases h2 : a_T A < 200
    · rw [if_pos (by rw [q_lt (by omega) (by omega)]; exact h2), if_neg (fun e => by have := q_inj (by omega) (by omega) e; omega), q_ck h2 (by decide), q_ck h2 (by decide)]
      simp only [q_let]
      rw [q_wr (by omega), q_wr (by omega), (q_chr a (by omega)).1, (q_chr a (by omega)).2, up_c (show 39 ≠ 40 by decide), up_c (show 0 ≠ 3 by decide), hc.2.2.2.2.2.2.1, hd.2.2.2.2.2.2.1, show nI (a_T A) + 1 = nI (a_T A + 1) from nI_1 _, up_s, up_s]
      refine ⟨_, _, _, (a_L A, a_K A, A.2.2.1, A.2.2.2.1, A.2.2.2.2.1, A.2.2.2.2.2.1, (a_T A + 1, fun j => if j = a_T A then a else a_tx A j)), rfl, rfl, ⟨hA.1, hA.2.1, hA.2.2.1, hA.2.2.2.1, hA.2.2.2.2.1, hA.2.2.2.2.2.1, ⟨by show a_T A + 1 ≤ 200; omega, fun k hk => ?_⟩⟩, ⟨?_, ?_, c_U_fr hc.2.2.1 hA.2.2.1.1 (fun k hk => by unfold z_pc at hk; rw [up_c (by omega), up_c (by omega)]), c_Q_fr hc.2.2.2.1 hA.2.2.2.1.1 (fun k hk => by unfold z_qc at hk; rw [up_c (by omega), up_c (by omega)]), ?_, ?_, ⟨up_s, fun k hk => ?_⟩⟩, ⟨?_, ?_, d_U_fr hM hd.2.2.1 hA.2.2.1.1 (by rw [up_n (by decide), up_c (by decide)]) (fun j _ _ => by rw [up_c (by decide), up_c (by decide)]), d_Q_fr hM hd.2.2.2.1 hA.2.2.2.1.1 (by rw [up_n (by decide), up_c (by decide)]) (fun j _ _ => by rw [up_c (by decide), up_c (by decide)]), ?_, ?_, ⟨up_s, fun k hk => ?_⟩⟩⟩
      · have hk2 : k < a_T A + 1 := hk
        show 32 ≤ (if k = a_T A then a else a_tx A k) ∧ (if k = a_T A then a else a_tx A k) ≤ 126
        by_cases h7 : k = a_T A
        · rw [if_pos h7]; exact ⟨ha1, ha2⟩
        · rw [if_neg h7]; exact hA.2.2.2.2.2.2.2 k (by omega)
      · rw [up_c (show 43 ≠ 39 by decide), up_c (show 43 ≠ 40 by decide), up_c (show 44 ≠ 39 by decide), up_c (show 44 ≠ 40 by decide), up_c (show 45 ≠ 39 by decide), up_c (show 45 ≠ 40 by decide), up_c (show 46 ≠ 39 by decide), up_c (show 46 ≠ 40 by decide)]; exact hc.1
      · rw [up_c (show 0 ≠ 39 by decide), up_c (show 0 ≠ 40 by decide), up_c (show 1 ≠ 39 by decide), up_c (show 1 ≠ 40 by decide), up_c (show 2 ≠ 39 by decide), up_c (show 2 ≠ 40 by decide)]; exact hc.2.1
      · rw [up_c (show 51 ≠ 39 by decide), up_c (show 51 ≠ 40 by decide), up_c (show 52 ≠ 39 by decide), up_c (show 52 ≠ 40 by decide), up_c (show 53 ≠ 39 by decide), up_c (show 53 ≠ 40 by decide)]; exact hc.2.2.2.2.1
      · rw [up_c (show 57 ≠ 39 by decide), up_c (show 57 ≠ 40 by decide), up_c (show 58 ≠ 39 by decide), up_c (show 58 ≠ 40 by decide), up_c (show 59 ≠ 39 by decide), up_c (show 59 ≠ 40 by decide), up_c (show 60 ≠ 39 by decide), up_c (show 60 ≠ 40 by decide)]; exact hc.2.2.2.2.2.1
      · have hk2 : k < a_T A + 1 := hk
        show _ = nI (if k = a_T A then a else a_tx A k)
        rw [up_c (show 40 ≠ 39 by decide)]
        by_cases h7 : k = a_T A
        · rw [if_pos h7, h7, up_s]
        · rw [if_neg h7, up_n h7]; exact hc.2.2.2.2.2.2.2 k (by omega)
      · rw [up_c (show 1 ≠ 0 by decide), up_c (show 1 ≠ 3 by decide)]; exact hd.1
      · rw [up_c (show 2 ≠ 0 by decide), up_c (show 2 ≠ 3 by decide)]; exact hd.2.1
      · rw [up_c (show 1 ≠ 0 by decide), up_c (show 1 ≠ 3 by decide)]; exact hd.2.2.2.2.1
      · rw [up_n (show 9 ≠ 4 by decide), up_c (show 0 ≠ 3 by decide), up_c (show 4 ≠ 0 by decide), up_c (show 4 ≠ 3 by decide), up_c (show 5 ≠ 0 by decide), up_c (show 5 ≠ 3 by decide), up_c (show 6 ≠ 0 by decide), up_c (show 6 ≠ 3 by decide)]; exact hd.2.2.2.2.2.1
      · have hk2 : k < a_T A + 1 := hk
        show _ = nI (if k = a_T A then a else a_tx A k)
        rw [up_c (show 3 ≠ 0 by decide)]
        by_cases h7 : k = a_T A
        · rw [if_pos h7, h7, up_s]
        · rw [if_neg h7, up_n h7]; exact hd.2.2.2.2.2.2.2 k (by omega)
    · have hT2 : a_T A = 200 := by omega
      rw [if_neg (by rw [q_lt (by omega) (by omega)]; exact h2), if_pos (by rw [hT2])]
      exact z_same h
theorem o_seen {A : m_A} {gC gM : z_G} (h : z_R A gC gM) (x t f : Int32) : z_res (s_Top_seen x t f gC) (s_Mod_seen x t f gM) := by
  obtain ⟨hA, hc, hd⟩ := id h
  have hM := hA.1.2.2.2.1
  have hS := hA.2.2.2.2.2.1
  unfold s_Top_seen s_Mod_seen s_Top_seen_b33 s_Mod_seen_b37
  have e47 : z_rd gM 1 47 = nI (a_n A) := by rw [show (47 : Int32) = nI 47 from rfl, q_rd (by decide)]; exact hd.2.2.2.2.1.1
  rw [(q_isMan h x).1, e47, hc.2.2.2.2.1.1, q_in7, show s_Mod_in (Int32.toInt64 t) 1 (Int32.toInt64 (nI (a_n A))) = s_Top_isWithin t 1 (nI (a_n A)) from q_in t 1 _]
  by_cases h0 : s_Top_isMan x gC = 0
  · rw [if_pos h0, if_pos h0]; exact z_same h
  · rw [if_neg h0, if_neg h0]
    by_cases h1 : s_Top_isWithin t 1 (nI (a_n A)) = 0
    · rw [if_pos h1, if_pos h1]; exact z_same h
    · rw [if_neg h1, if_neg h1]
      by_cases h2 : s_Top_isWithin f 0 7 = 0
      · rw [if_pos h2, if_pos h2]; exact z_same h
      · rw [if_neg h2, if_neg h2]
        have e57 : gC 57 3 = nI (a_S A) := hc.2.2.2.2.2.1.1
        have e09 : gM 0 9 = nI (a_S A) := hd.2.2.2.2.2.1.1
        by_cases h6 : a_S A < 6
        · have eC : s_Sight_add x t f gC = some (1, z_up (z_up (z_up (z_up gC 58 (a_S A) x) 59 (a_S A) t) 60 (a_S A) f) 57 3 (nI (a_S A + 1))) := by
            unfold s_Sight_add
            rw [e57, show (6 : Int32) = nI 6 from rfl, if_pos (by rw [q_lt (by omega) (by omega)]; exact h6), q_ck h6 (by decide)]
            simp only [q_let]
            rw [q_wr (by omega), up_c (show 57 ≠ 58 by decide), e57, q_ck h6 (by decide), q_wr (by omega), up_c (show 57 ≠ 59 by decide), up_c (show 57 ≠ 58 by decide), e57, q_ck h6 (by decide), q_wr (by omega), up_c (show 57 ≠ 60 by decide), up_c (show 57 ≠ 59 by decide), up_c (show 57 ≠ 58 by decide), e57, show nI (a_S A) + 1 = nI (a_S A + 1) from nI_1 _]
          rw [eC, e09, show (6 : Int32) = nI 6 from rfl, if_neg (fun e => by have := q_inj (by omega) (by omega) e; omega), q_ck h6 (by decide)]
          simp only [Option.bind_some, q_let]
          rw [if_neg (by decide), q_wr (by omega), up_c (show 0 ≠ 4 by decide), e09, q_ck h6 (by decide), q_wr (by omega), up_c (show 0 ≠ 5 by decide), up_c (show 0 ≠ 4 by decide), e09, q_ck h6 (by decide), q_wr (by omega), up_c (show 0 ≠ 6 by decide), up_c (show 0 ≠ 5 by decide), up_c (show 0 ≠ 4 by decide), e09, show nI (a_S A) + 1 = nI (a_S A + 1) from nI_1 _, up_s, up_s]
          refine ⟨_, _, _, (a_L A, a_K A, A.2.2.1, A.2.2.2.1, A.2.2.2.2.1, (a_S A + 1, (fun k => if k = a_S A then x else a_sa A k), (fun k => if k = a_S A then t else a_sb A k), (fun k => if k = a_S A then f else a_sc A k)), A.2.2.2.2.2.2), rfl, rfl, ⟨hA.1, hA.2.1, hA.2.2.1, hA.2.2.2.1, hA.2.2.2.2.1, by show a_S A + 1 ≤ 6; omega, hA.2.2.2.2.2.2⟩, ⟨?_, ?_, c_U_fr hc.2.2.1 hA.2.2.1.1 (fun k hk => by unfold z_pc at hk; rw [up_c (by omega), up_c (by omega), up_c (by omega), up_c (by omega)]), c_Q_fr hc.2.2.2.1 hA.2.2.2.1.1 (fun k hk => by unfold z_qc at hk; rw [up_c (by omega), up_c (by omega), up_c (by omega), up_c (by omega)]), ?_, ⟨up_s, fun k hk => ?_⟩, ?_⟩, ⟨?_, ?_, d_U_fr hM hd.2.2.1 hA.2.2.1.1 (by rw [up_n (by decide), up_c (by decide), up_c (by decide), up_c (by decide)]) (fun j _ _ => by rw [up_c (by decide), up_c (by decide), up_c (by decide), up_c (by decide)]), d_Q_fr hM hd.2.2.2.1 hA.2.2.2.1.1 (by rw [up_n (by decide), up_c (by decide), up_c (by decide), up_c (by decide)]) (fun j _ _ => by rw [up_c (by decide), up_c (by decide), up_c (by decide), up_c (by decide)]), ?_, ⟨up_s, fun k hk => ?_⟩, ?_⟩⟩
          · have s : ∀ q, q < 57 → z_up (z_up (z_up (z_up gC 58 (a_S A) x) 59 (a_S A) t) 60 (a_S A) f) 57 3 (nI (a_S A + 1)) q = gC q := fun q hq => by rw [up_c (by omega), up_c (by omega), up_c (by omega), up_c (by omega)]
            rw [s 43 (by decide), s 44 (by decide), s 45 (by decide), s 46 (by decide)]; exact hc.1
          · have s : ∀ q, q < 57 → z_up (z_up (z_up (z_up gC 58 (a_S A) x) 59 (a_S A) t) 60 (a_S A) f) 57 3 (nI (a_S A + 1)) q = gC q := fun q hq => by rw [up_c (by omega), up_c (by omega), up_c (by omega), up_c (by omega)]
            rw [s 0 (by decide), s 1 (by decide), s 2 (by decide)]; exact hc.2.1
          · have s : ∀ q, q < 57 → z_up (z_up (z_up (z_up gC 58 (a_S A) x) 59 (a_S A) t) 60 (a_S A) f) 57 3 (nI (a_S A + 1)) q = gC q := fun q hq => by rw [up_c (by omega), up_c (by omega), up_c (by omega), up_c (by omega)]
            rw [s 51 (by decide), s 52 (by decide), s 53 (by decide)]; exact hc.2.2.2.2.1
          · have hk2 : k < a_S A + 1 := hk
            show _ = (if k = a_S A then x else a_sa A k) ∧ _ = (if k = a_S A then t else a_sb A k) ∧ _ = (if k = a_S A then f else a_sc A k)
            rw [up_c (show 58 ≠ 57 by decide), up_c (show 58 ≠ 60 by decide), up_c (show 58 ≠ 59 by decide), up_c (show 59 ≠ 57 by decide), up_c (show 59 ≠ 60 by decide), up_c (show 60 ≠ 57 by decide)]
            by_cases h7 : k = a_S A
            · rw [if_pos h7, if_pos h7, if_pos h7, h7, up_s, up_s, up_s]; exact ⟨rfl, rfl, rfl⟩
            · rw [if_neg h7, if_neg h7, if_neg h7, up_n h7, up_n h7, up_n h7, up_c (show 59 ≠ 58 by decide), up_c (show 60 ≠ 59 by decide), up_c (show 60 ≠ 58 by decide)]; exact hc.2.2.2.2.2.1.2 k (by omega)
          · have s : ∀ q, q < 57 → z_up (z_up (z_up (z_up gC 58 (a_S A) x) 59 (a_S A) t) 60 (a_S A) f) 57 3 (nI (a_S A + 1)) q = gC q := fun q hq => by rw [up_c (by omega), up_c (by omega), up_c (by omega), up_c (by omega)]
            rw [s 39 (by decide), s 40 (by decide)]; exact hc.2.2.2.2.2.2
          · rw [up_c (show 1 ≠ 0 by decide), up_c (show 1 ≠ 6 by decide), up_c (show 1 ≠ 5 by decide), up_c (show 1 ≠ 4 by decide)]; exact hd.1
          · rw [up_c (show 2 ≠ 0 by decide), up_c (show 2 ≠ 6 by decide), up_c (show 2 ≠ 5 by decide), up_c (show 2 ≠ 4 by decide)]; exact hd.2.1
          · rw [up_c (show 1 ≠ 0 by decide), up_c (show 1 ≠ 6 by decide), up_c (show 1 ≠ 5 by decide), up_c (show 1 ≠ 4 by decide)]; exact hd.2.2.2.2.1
          · have hk2 : k < a_S A + 1 := hk
            show _ = (if k = a_S A then x else a_sa A k) ∧ _ = (if k = a_S A then t else a_sb A k) ∧ _ = (if k = a_S A then f else a_sc A k)
            rw [up_c (show 4 ≠ 0 by decide), up_c (show 4 ≠ 6 by decide), up_c (show 4 ≠ 5 by decide), up_c (show 5 ≠ 0 by decide), up_c (show 5 ≠ 6 by decide), up_c (show 6 ≠ 0 by decide)]
            by_cases h7 : k = a_S A
            · rw [if_pos h7, if_pos h7, if_pos h7, h7, up_s, up_s, up_s]; exact ⟨rfl, rfl, rfl⟩
            · rw [if_neg h7, if_neg h7, if_neg h7, up_n h7, up_n h7, up_n h7, up_c (show 5 ≠ 4 by decide), up_c (show 6 ≠ 5 by decide), up_c (show 6 ≠ 4 by decide)]; exact hd.2.2.2.2.2.1.2 k (by omega)
          · rw [up_n (show 4 ≠ 9 by decide), up_c (show 0 ≠ 6 by decide), up_c (show 0 ≠ 5 by decide), up_c (show 0 ≠ 4 by decide), up_c (show 3 ≠ 0 by decide), up_c (show 3 ≠ 6 by decide), up_c (show 3 ≠ 5 by decide), up_c (show 3 ≠ 4 by decide)]; exact hd.2.2.2.2.2.2
        · have h66 : a_S A = 6 := by omega
          have eC : s_Sight_add x t f gC = some (0, gC) := by
            unfold s_Sight_add
            rw [e57, show (6 : Int32) = nI 6 from rfl, if_neg (by rw [q_lt (by omega) (by omega)]; exact h6)]
          rw [eC, e09, if_pos (by rw [h66]; rfl)]
          simp only [Option.bind_some]
          rw [if_pos trivial]
          exact z_same h
