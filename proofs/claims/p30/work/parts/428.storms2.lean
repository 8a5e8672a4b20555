theorem g_cd2 {a b : Nat} (k fuel c : Nat) (h1 : b < 2 ^ k) (h2 : b ≤ a) (h0 : 0 < a) (h3 : a < 2147483648) (h4 : c + 2 * k + 3 ≤ 64) (h5 : 2 * k + 3 < fuel) : s_Top_sharedDivisor_L7 fuel (nI a) (nI b) (nI c) = some (z_max 1 (nI (Nat.gcd a b))) := by
  by_cases h : b < a
  · exact g_cd k fuel c h1 h h3 (by omega) (by omega)
  · have he : b = a := by omega
    subst he
    obtain ⟨f, rfl⟩ : ∃ f, fuel = f + 1 := ⟨fuel - 1, by omega⟩
    have hb0 : ¬ nI b ≤ 0 := fun e => by
      have := (q_le (a := b) (b := 0) (by omega) (by decide)).mp e
      omega
    have hbn : ¬ nI b = 0 := fun e => by have := q_inj (b := 0) (by omega) (by decide) e; omega
    rw [s_Top_sharedDivisor_L7, if_neg (by rw [show (64 : Int32) = nI 64 from rfl, q_le (by omega) (by omega)]; omega), if_neg hb0, q_ckt (decide_eq_true hbn), q_rem (by omega) (by omega) (by omega), show nI c + 1 = nI (c + 1) from nI_1 c, Nat.mod_self]
    rw [g_cd 0 f (c + 1) (by decide) h0 h3 (by omega) (by omega), Nat.gcd_zero_right, Nat.gcd_self]
theorem q_sh : ∀ n, n < 7 → ((1 : Int32) <<< (nI n &&& 31)) = nI (2 ^ n) := by decide +kernel
theorem q_max1 {a : Nat} (h : 0 < a) (h2 : a < 2147483648) : z_max 1 (nI a) = nI a := by
  unfold z_max
  by_cases h3 : (1 : Int32) < nI a
  · rw [if_pos h3]
  · rw [if_neg h3]
    have h4 : ¬ nI 1 < nI a := h3
    rw [q_lt (by omega) (by omega)] at h4
    rw [show a = 1 by omega]
    rfl
theorem q_cellE {q : Nat × Nat × Nat} {a b : Nat} (hq : m_in q) (ha : a < 16) (hb : b < 16) : (s_Ways_cellOf (nI (m_sp q)) = nI (16 * b + a)) = (q.1 = a ∧ q.2.1 = b) := by
  have e : s_Ways_cellOf (nI (m_sp q)) = nI (16 * q.2.1 + q.1) := (m_parts hq.1 hq.2.1 hq.2.2).2.1
  have h1 := hq.1
  have h2 := hq.2.1
  rw [e, q_eq (by omega) (by omega)]
  apply propext
  constructor
  · intro h; omega
  · intro h; omega
theorem o_storms {A : m_A} {gC gM : z_G} (h : z_R A gC gM) (x1 x2 x3 x4 x5 : Int32) : z_rM A (s_Top_storms x1 x2 x3 x4 x5 gC) (s_Mod_storms x1 x2 x3 x4 x5 gM) := by
  obtain ⟨hA, hc, hd⟩ := id h
  have hn6 := hA.2.2.2.2.1.1
  have hM := hA.1.2.2.2.1
  unfold s_Top_storms s_Mod_storms s_Top_storms_b37 s_Mod_storms_b56
  rw [(q_isMan h x1).1, m_isCell, q_in15, q_in15, show s_Mod_in (Int32.toInt64 x4) 0 10 = s_Top_isWithin x4 0 10 from q_in x4 0 10, q_in1]
  rcases (q_isMan h x1).2 with h1 | ⟨h1, i, hi, rfl⟩
  · rw [if_pos h1, if_pos h1]; exact z_rM1 hd
  · rw [if_neg h1, if_neg h1]
    by_cases h2 : s_Top_isWithin x2 0 15 = 0
    · rw [if_pos (Or.inl h2), if_pos rfl, if_pos h2]; exact z_rM1 hd
    · rw [if_neg h2]
      by_cases h3 : s_Top_isWithin x3 0 15 = 0
      · rw [if_pos (Or.inr h3), if_pos rfl, if_pos h3]; exact z_rM1 hd
      · rw [if_neg (c := s_Top_isWithin x2 0 15 = 0 ∨ s_Top_isWithin x3 0 15 = 0) (fun e => e.elim h2 h3), if_neg (show ¬ (1 : Int32) = 0 by decide), if_neg h3]
        by_cases h4 : s_Top_isWithin x4 0 10 = 0
        · rw [if_pos h4, if_pos h4]; exact z_rM1 hd
        · rw [if_neg h4, if_neg h4]
          by_cases h5 : s_Top_isWithin x5 0 1 = 0
          · rw [if_pos h5, if_pos h5]; exact z_rM1 hd
          · rw [if_neg h5, if_neg h5]
            obtain ⟨a, ha, rfl⟩ := q_w0 (n := 15) (by decide) h2
            obtain ⟨b, hb, rfl⟩ := q_w0 (n := 15) (by decide) h3
            obtain ⟨w, hw, rfl⟩ := q_w0 (n := 10) (by decide) h4
            simp only [q_let]
            have e1 : s_Ways_cellAt (nI a) (nI b) = nI (16 * b + a) := by unfold s_Ways_cellAt; rw [show (16 : Int32) = nI 16 from rfl, q_mul, q_add]
            rw [e1]
            have hp64 : ∀ m, m < 2 ^ a_n A → m < 64 := by
              intro m hm
              have : (2 : Nat) ^ a_n A ≤ 2 ^ 6 := Nat.pow_le_pow_right (by decide) hn6
              omega
            have hb1 : ∀ m o, (nI (m_bt m o) = 1) = (m_bt m o = 1) := fun m o => q_eq (b := 1) (by have := m_bt_lt m o; omega) (by decide)
            -- the class: where he is behind storm m
            have kC : ∀ (m : Nat), m < 64 → ∀ (d fuel o : Nat), d < fuel → o + d = a_n A → s_Top_spotBehindStorm_L13 gC fuel (nI i) (nI m) (nI (m_sp (m_it (a_L A) (a_K A) (a_rt A) (m_rs A m) i o))) (nI o) = some (nI (m_sp (m_end A i m))) := by
              intro m hm d
              induction d with
              | zero =>
                intro fuel o hfu ho
                obtain ⟨q, rfl⟩ : ∃ q, fuel = q + 1 := ⟨fuel - 1, by omega⟩
                rw [s_Top_spotBehindStorm_L13, hc.2.2.2.2.1.1, if_pos (by rw [q_le (by omega) (by omega)]; omega), show o = a_n A by omega]
                rfl
              | succ d ih =>
                intro fuel o hfu ho
                obtain ⟨q, rfl⟩ : ∃ q, fuel = q + 1 := ⟨fuel - 1, by omega⟩
                have hro := hA.2.2.2.2.1.2 o (by omega)
                rw [s_Top_spotBehindStorm_L13, hc.2.2.2.2.1.1, if_neg (by rw [q_le (by omega) (by omega)]; omega)]
                simp only [q_let]
                rw [q_ck (by omega) (by decide), q_ck (by omega) (by decide), q_rd (by omega), q_rd (by omega), (hc.2.2.2.2.1.2 o (by omega)).1, (hc.2.2.2.2.1.2 o (by omega)).2, q_bt m hm o (by omega), (q_mx _ hro.2 _ (m_bt_lt m o)).1, c_after hA.1 hA.2.1 hi (m_it_in hA.1 hA.2.1 hi o) hro.1 (by omega) hc.1 hc.2.1]
                simp only [Option.bind_some]
                rw [show nI o + 1 = nI (o + 1) from nI_1 o]
                exact ih q (o + 1) (by omega) (by omega)
            have kW : ∀ (m : Nat), m < 64 → ∀ (d fuel o : Nat), d < fuel → o + d = a_n A → s_Top_weightOf_L5 gC fuel (nI m) (nI w) (nI (m_wt w m o)) (nI o) = some (nI (m_wt w m (a_n A))) := by
              intro m hm d
              induction d with
              | zero =>
                intro fuel o hfu ho
                obtain ⟨q, rfl⟩ : ∃ q, fuel = q + 1 := ⟨fuel - 1, by omega⟩
                rw [s_Top_weightOf_L5, hc.2.2.2.2.1.1, if_pos (by rw [q_le (by omega) (by omega)]; omega), show o = a_n A by omega]
              | succ d ih =>
                intro fuel o hfu ho
                obtain ⟨q, rfl⟩ : ∃ q, fuel = q + 1 := ⟨fuel - 1, by omega⟩
                rw [s_Top_weightOf_L5, hc.2.2.2.2.1.1, if_neg (by rw [q_le (by omega) (by omega)]; omega), q_bt m hm o (by omega)]
                unfold s_Top_weightOf_b36
                have e3 := ih q (o + 1) (by omega) (by omega)
                rw [show m_wt w m (o + 1) = m_wt w m o * m_wf w m o from rfl] at e3
                rw [show nI o + 1 = nI (o + 1) from nI_1 o]
                by_cases hbt : m_bt m o = 1
                · rw [if_pos ((hb1 m o).mpr hbt), q_mul]
                  unfold m_wf at e3
                  rw [if_pos hbt] at e3
                  exact e3
                · rw [if_neg (fun e => hbt ((hb1 m o).mp e)), show (10 : Int32) = nI 10 from rfl, q_sub hw, q_mul]
                  unfold m_wf at e3
                  rw [if_neg hbt] at e3
                  exact e3
            have hS : ∀ m, m ≤ 2 ^ a_n A → m_sS A i a b w m ≤ 10 ^ a_n A := by
              intro m hm
              have h9 := m_sS_le A i a b w m
              have mono : ∀ k, m_sT (a_n A) w m ≤ m_sT (a_n A) w (m + k) := by
                intro k
                induction k with
                | zero => exact Nat.le_refl _
                | succ k ih => exact Nat.le_trans ih (Nat.le_add_right _ _)
              have h10 := mono (2 ^ a_n A - m)
              rw [show m + (2 ^ a_n A - m) = 2 ^ a_n A by omega, m_sT_all _ (by omega) w (by omega)] at h10
              omega
            have hp10 : (10 : Nat) ^ a_n A ≤ 1000000 := by
              have : (10 : Nat) ^ a_n A ≤ 10 ^ 6 := Nat.pow_le_pow_right (by decide) hn6
              omega
            have hp0 : 0 < (10 : Nat) ^ a_n A := Nat.pos_of_ne_zero (fun e => by have := Nat.pow_eq_zero.mp e; omega)
            have hS9 := hS _ (Nat.le_refl _)
            have hg0 : 0 < Nat.gcd (10 ^ a_n A) (m_sS A i a b w (2 ^ a_n A)) := Nat.gcd_pos_of_pos_left _ hp0
            have hg1 : Nat.gcd (10 ^ a_n A) (m_sS A i a b w (2 ^ a_n A)) ≤ 10 ^ a_n A := Nat.le_of_dvd hp0 (Nat.gcd_dvd_left _ _)
            have kX : ∀ (S : Nat), S ≤ 10 ^ a_n A → ∀ (d fuel o : Nat), d < fuel → o + d = a_n A → s_Top_storms_L106 gC fuel x5 (nI S) (nI (10 ^ o)) (nI o) = some (if x5 = 0 then nI S / nI (Nat.gcd (10 ^ a_n A) S) else nI (10 ^ a_n A) / nI (Nat.gcd (10 ^ a_n A) S)) := by
              intro S hS1 d
              have hgS0 : 0 < Nat.gcd (10 ^ a_n A) S := Nat.gcd_pos_of_pos_left _ hp0
              have hgS1 : Nat.gcd (10 ^ a_n A) S ≤ 10 ^ a_n A := Nat.le_of_dvd hp0 (Nat.gcd_dvd_left _ _)
              induction d with
              | zero =>
                intro fuel o hfu ho
                obtain ⟨q, rfl⟩ : ∃ q, fuel = q + 1 := ⟨fuel - 1, by omega⟩
                have ho2 : o = a_n A := by omega
                subst ho2
                have eg : s_Top_sharedDivisor (nI (10 ^ a_n A)) (nI S) = some (nI (Nat.gcd (10 ^ a_n A) S)) := by
                  have e9 : s_Top_sharedDivisor (nI (10 ^ a_n A)) (nI S) = s_Top_sharedDivisor_L7 20000 (nI (10 ^ a_n A)) (nI S) (nI 0) := by
                    unfold s_Top_sharedDivisor z_F
                    rfl
                  rw [e9, g_cd2 20 20000 0 (by have : (2 : Nat) ^ 20 = 1048576 := rfl; omega) hS1 hp0 (by omega) (by decide) (by decide), q_max1 hgS0 (by omega)]
                rw [s_Top_storms_L106, hc.2.2.2.2.1.1, if_pos (by rw [q_le (by omega) (by omega)]; omega), eg]
                simp only [Option.bind_some]
                unfold s_Top_storms_b152
                have hn0 : ¬ nI (Nat.gcd (10 ^ a_n A) S) = 0 := fun e => by have := q_inj (b := 0) (by omega) (by decide) e; omega
                rw [q_ckt (decide_eq_true hn0), q_ckt (decide_eq_true hn0)]
                by_cases hx5 : x5 = 0
                · rw [if_pos hx5, if_pos hx5]
                · rw [if_neg hx5, if_neg hx5]
              | succ d ih =>
                intro fuel o hfu ho
                obtain ⟨q, rfl⟩ : ∃ q, fuel = q + 1 := ⟨fuel - 1, by omega⟩
                rw [s_Top_storms_L106, hc.2.2.2.2.1.1, if_neg (by rw [q_le (by omega) (by omega)]; omega), show (10 : Int32) = nI 10 from rfl, q_mul, show nI o + 1 = nI (o + 1) from nI_1 o, ← Nat.pow_succ]
                exact ih q (o + 1) (by omega) (by omega)
            have spotE : ∀ m, m < 64 → s_Top_spotBehindStorm (nI i) (nI m) gC = some (nI (m_sp (m_end A i m))) := by
              intro m hm
              have s1 : gC 1 i = nI (m_sp (k_p (a_K A) i)) := (hc.2.1.2.2 i hi).1
              have e9 : s_Top_spotBehindStorm (nI i) (nI m) gC = s_Top_spotBehindStorm_L13 gC 20000 (nI i) (nI m) (nI (m_sp (m_it (a_L A) (a_K A) (a_rt A) (m_rs A m) i 0))) (nI 0) := by
                unfold s_Top_spotBehindStorm
                rw [q_ck (by omega) (by decide), q_rd (by omega), s1]
                unfold z_F
                rfl
              rw [e9]
              exact kC m hm (a_n A) 20000 0 (by omega) (by omega)
            have wtE : ∀ m, m < 64 → s_Top_weightOf (nI m) (nI w) gC = some (nI (m_wt w m (a_n A))) := by
              intro m hm
              have e9 : s_Top_weightOf (nI m) (nI w) gC = s_Top_weightOf_L5 gC 20000 (nI m) (nI w) (nI (m_wt w m 0)) (nI 0) := by
                unfold s_Top_weightOf z_F
                rfl
              rw [e9]
              exact kW m hm (a_n A) 20000 0 (by omega) (by omega)
            have endin : ∀ m, m_in (m_end A i m) := fun m => m_it_in hA.1 hA.2.1 hi _
            have kL : ∀ (d fuel m : Nat), d < fuel → m + d = 2 ^ a_n A → s_Top_storms_L52 gC fuel (nI i) (nI w) x5 (nI (16 * b + a)) (nI (m_sS A i a b w m)) (nI m) = some (if x5 = 0 then nI (m_sS A i a b w (2 ^ a_n A)) / nI (Nat.gcd (10 ^ a_n A) (m_sS A i a b w (2 ^ a_n A))) else nI (10 ^ a_n A) / nI (Nat.gcd (10 ^ a_n A) (m_sS A i a b w (2 ^ a_n A)))) := by
              intro d
              induction d with
              | zero =>
                intro fuel m hfu hm
                obtain ⟨q, rfl⟩ : ∃ q, fuel = q + 1 := ⟨fuel - 1, by omega⟩
                have hm2 : m = 2 ^ a_n A := by omega
                have h64 : (2 : Nat) ^ a_n A ≤ 2 ^ 6 := Nat.pow_le_pow_right (by decide) hn6
                have h65 : (2 : Nat) ^ 6 = 64 := rfl
                rw [s_Top_storms_L52, hc.2.2.2.2.1.1, q_sh _ (by omega), if_pos (by rw [q_le (by omega) (by omega)]; omega), hm2]
                have fin := kX _ hS9 (a_n A) z_F 0 (by unfold z_F; omega) (by omega)
                exact fin
              | succ d ih =>
                intro fuel m hfu hm
                obtain ⟨q, rfl⟩ : ∃ q, fuel = q + 1 := ⟨fuel - 1, by omega⟩
                have hm64 := hp64 m (by omega)
                have h64 : (2 : Nat) ^ a_n A ≤ 2 ^ 6 := Nat.pow_le_pow_right (by decide) hn6
                have h65 : (2 : Nat) ^ 6 = 64 := rfl
                rw [s_Top_storms_L52, hc.2.2.2.2.1.1, q_sh _ (by omega), if_neg (by rw [q_le (by omega) (by omega)]; omega), spotE m hm64]
                simp only [Option.bind_some]
                unfold s_Top_storms_b94
                have e3 := ih q (m + 1) (by omega) (by omega)
                rw [show m_sS A i a b w (m + 1) = m_sS A i a b w m + (if m_hit A i a b m = true then m_wt w m (a_n A) else 0) from rfl] at e3
                rw [show nI m + 1 = nI (m + 1) from nI_1 m]
                by_cases hh : (m_end A i m).1 = a ∧ (m_end A i m).2.1 = b
                · rw [if_pos ((q_cellE (endin m) (by omega) (by omega)).mpr hh), wtE m hm64]
                  simp only [Option.bind_some]
                  rw [q_add]
                  rw [if_pos (show m_hit A i a b m = true from decide_eq_true hh)] at e3
                  exact e3
                · rw [if_neg (fun e => hh ((q_cellE (endin m) (by omega) (by omega)).mp e))]
                  rw [if_neg (show ¬ m_hit A i a b m = true from fun e => hh (of_decide_eq_true e)), Nat.add_zero] at e3
                  exact e3
            -- the reference
            have e47 : ∀ g1 : z_G, d_scr gM g1 → z_rd g1 1 47 = nI (a_n A) := fun g1 hs => by rw [show (47 : Int32) = nI 47 from rfl, q_rd (by decide), hs.1 1 (by decide)]; exact hd.2.2.2.2.1.1
            have kM : ∀ (k67 : Int32 → Int32 → Int32 → Int32 → Int32 → Int32 → Int32 → Int32 → z_G → Option (Int32 × z_G)) (x6 x7 m : Nat), m < 64 → ∀ (d fuel o : Nat) (g1 : z_G), d < fuel → o + d = a_n A → d_scr gM g1 → g1 0 13 = nI (m_it (a_L A) (a_K A) (a_rt A) (m_rs A m) i o).1 → g1 0 14 = nI (m_it (a_L A) (a_K A) (a_rt A) (m_rs A m) i o).2.1 → g1 0 15 = nI (m_it (a_L A) (a_K A) (a_rt A) (m_rs A m) i o).2.2 → g1 0 16 = k_g (a_K A) + nI o → ∃ g2, d_scr gM g2 ∧ s_Mod_storms_L93 k67 fuel (nI i) (nI a) (nI b) (nI w) x5 (nI x6) (nI x7) (nI m) (nI (m_wt w m o)) (nI o) g1 = k67 (nI i) (nI a) (nI b) (nI w) x5 (nI (x6 + (if m_hit A i a b m = true then m_wt w m (a_n A) else 0))) (nI (x7 + m_wt w m (a_n A))) (nI (m + 1)) g2 := by
              intro k67 x6 x7 m hm d
              induction d with
              | zero =>
                intro fuel o g1 hfu ho hs e1 e2 e3 e4
                obtain ⟨q, rfl⟩ : ∃ q, fuel = q + 1 := ⟨fuel - 1, by omega⟩
                have ho2 : o = a_n A := by omega
                subst ho2
                have hin := endin m
                have hin1 := hin.1
                have hin2 := hin.2.1
                refine ⟨g1, hs, ?_⟩
                rw [s_Mod_storms_L93, e47 g1 hs, if_pos (by rw [q_le (by omega) (by omega)]; omega), e1, e2]
                unfold s_Mod_storms_b204 s_Mod_storms_b205
                rw [q_add x7 _, show nI m + 1 = nI (m + 1) from nI_1 m]
                by_cases h6 : (m_end A i m).1 = a
                · rw [if_pos (show nI (m_it (a_L A) (a_K A) (a_rt A) (m_rs A m) i (a_n A)).1 = nI a from congrArg nI h6)]
                  by_cases h7 : (m_end A i m).2.1 = b
                  · rw [if_pos (show nI (m_it (a_L A) (a_K A) (a_rt A) (m_rs A m) i (a_n A)).2.1 = nI b from congrArg nI h7), if_pos (show m_hit A i a b m = true from decide_eq_true ⟨h6, h7⟩), q_add]
                  · rw [if_neg (show ¬ nI (m_it (a_L A) (a_K A) (a_rt A) (m_rs A m) i (a_n A)).2.1 = nI b from fun e => h7 (q_inj (a := (m_end A i m).2.1) (by omega) (by omega) e)), if_neg (show ¬ m_hit A i a b m = true from fun e => h7 (of_decide_eq_true e).2), Nat.add_zero x6, Int32.add_zero]
                · rw [if_neg (show ¬ nI (m_it (a_L A) (a_K A) (a_rt A) (m_rs A m) i (a_n A)).1 = nI a from fun e => h6 (q_inj (a := (m_end A i m).1) (by omega) (by omega) e)), if_neg (show ¬ m_hit A i a b m = true from fun e => h6 (of_decide_eq_true e).1), Nat.add_zero x6, Int32.add_zero]
              | succ d ih =>
                intro fuel o g1 hfu ho hs e1 e2 e3 e4
                obtain ⟨q, rfl⟩ : ∃ q, fuel = q + 1 := ⟨fuel - 1, by omega⟩
                have hro := hA.2.2.2.2.1.2 o (by omega)
                obtain ⟨g2, a1, a2, a3, a4, a5, a6⟩ := d_more (rt := a_rt A) (rs := m_rs A m) (o := o) hA hd hi hro.1 (by unfold m_rs; omega) hs e1 e2 e3 e4
                have step : ∀ s1 : Int32, s1 = nI (m_wf w m o) → s_Mod_storms_b127 k67 (s_Mod_storms_L93 k67 q) (nI i) (nI a) (nI b) (nI w) x5 (nI x6) (nI x7) (nI m) (nI o) s1 (nI (m_wt w m o)) g1 = s_Mod_storms_L93 k67 q (nI i) (nI a) (nI b) (nI w) x5 (nI x6) (nI x7) (nI m) (nI (m_wt w m (o + 1))) (nI (o + 1)) g2 := by
                  intro s1 hs1
                  unfold s_Mod_storms_b127
                  rw [show (48 : Int32) = nI 48 from rfl, show (54 : Int32) = nI 54 from rfl, q_add, q_add, q_ck (by omega) (by decide), q_ck (by omega) (by decide), q_rd (by omega), q_rd (by omega), hs.1 1 (by decide), (hd.2.2.2.2.1.2 o (by omega)).1, (hd.2.2.2.2.1.2 o (by omega)).2, q_bt m hm o (by omega), (q_mx _ hro.2 _ (m_bt_lt m o)).2, show (0 : Int32) = nI 0 from rfl, show a_rs A o - m_bt m o = m_rs A m o from rfl, a1]
                  simp only [Option.bind_some]
                  rw [hs1, q_mul, show nI o + 1 = nI (o + 1) from nI_1 o]
                  rfl
                obtain ⟨g3, b1, b2⟩ := ih q (o + 1) g2 (by omega) (by omega) a2 a3 a4 a5 a6
                refine ⟨g3, b1, ?_⟩
                rw [← b2, s_Mod_storms_L93, e47 g1 hs, if_neg (by rw [q_le (by omega) (by omega)]; omega), q_has, q_bt m hm o (by omega)]
                by_cases hbt : m_bt m o = 1
                · rw [if_pos ((hb1 m o).mpr hbt), if_neg (show ¬ (1 : Int32) = 0 by decide)]
                  exact step _ (by unfold m_wf; rw [if_pos hbt])
                · rw [if_neg (fun e => hbt ((hb1 m o).mp e)), if_pos (show (0 : Int32) = 0 from rfl)]
                  exact step _ (by unfold m_wf; rw [if_neg hbt, show (10 : Int32) = nI 10 from rfl, q_sub hw])
            have kN : ∀ (d fuel m : Nat) (g1 : z_G), d < fuel → m + d = 2 ^ a_n A → d_scr gM g1 → ∃ g2, d_scr gM g2 ∧ s_Mod_storms_L67 fuel (nI i) (nI a) (nI b) (nI w) x5 (nI (m_sS A i a b w m)) (nI (m_sT (a_n A) w m)) (nI m) g1 = some ((if x5 = 0 then nI (m_sS A i a b w (2 ^ a_n A)) / nI (Nat.gcd (10 ^ a_n A) (m_sS A i a b w (2 ^ a_n A))) else nI (10 ^ a_n A) / nI (Nat.gcd (10 ^ a_n A) (m_sS A i a b w (2 ^ a_n A)))), g2) := by
              intro d
              have h64 : (2 : Nat) ^ a_n A ≤ 2 ^ 6 := Nat.pow_le_pow_right (by decide) hn6
              have h65 : (2 : Nat) ^ 6 = 64 := rfl
              induction d with
              | zero =>
                intro fuel m g1 hfu hm hs
                obtain ⟨q, rfl⟩ : ∃ q, fuel = q + 1 := ⟨fuel - 1, by omega⟩
                have hm2 : m = 2 ^ a_n A := by omega
                refine ⟨g1, hs, ?_⟩
                rw [s_Mod_storms_L67, e47 g1 hs, q_sh _ (by omega), if_pos (by rw [q_le (by omega) (by omega)]; omega), hm2, m_sT_all _ (by omega) w (by omega)]
                have gl : ∀ f, f = 19999 → s_Mod_storms_L222 (f + 1) x5 (nI (m_sS A i a b w (2 ^ a_n A))) (nI (10 ^ a_n A)) (nI (m_sS A i a b w (2 ^ a_n A))) (nI (10 ^ a_n A)) g1 = some ((if x5 = 0 then nI (m_sS A i a b w (2 ^ a_n A)) / nI (Nat.gcd (10 ^ a_n A) (m_sS A i a b w (2 ^ a_n A))) else nI (10 ^ a_n A) / nI (Nat.gcd (10 ^ a_n A) (m_sS A i a b w (2 ^ a_n A)))), g1) := by
                  intro f hf
                  have hn0 : ¬ nI (10 ^ a_n A) = 0 := fun e => by have := q_inj (b := 0) (by omega) (by decide) e; omega
                  have hlt : m_sS A i a b w (2 ^ a_n A) % 10 ^ a_n A < 10 ^ a_n A := Nat.mod_lt _ hp0
                  rw [s_Mod_storms_L222, if_neg hn0, q_ckt (decide_eq_true hn0), q_rem (by omega) hp0 (by omega), g_cdM 20 f (by have : (2 : Nat) ^ 20 = 1048576 := rfl; omega) hlt (by omega) (by omega)]
                  have eg : Nat.gcd (10 ^ a_n A) (m_sS A i a b w (2 ^ a_n A) % 10 ^ a_n A) = Nat.gcd (10 ^ a_n A) (m_sS A i a b w (2 ^ a_n A)) := by rw [Nat.gcd_comm, ← Nat.gcd_rec]
                  rw [eg]
                have fin := gl 19999 rfl
                rw [show (z_F : Nat) = 19999 + 1 from rfl]
                exact fin
              | succ d ih =>
                intro fuel m g1 hfu hm hs
                obtain ⟨q, rfl⟩ : ∃ q, fuel = q + 1 := ⟨fuel - 1, by omega⟩
                have hm64 := hp64 m (by omega)
                rw [s_Mod_storms_L67, e47 g1 hs, q_sh _ (by omega), if_neg (by rw [q_le (by omega) (by omega)]; omega)]
                have hd1 := d_R_scr hA hd hs
                obtain ⟨g2, a1, a2, a3, a4, a5, a6⟩ := d_pick0 (a_rt A) (m_rs A m) hA hd1 hi
                rw [a1]
                simp only [Option.bind_some]
                obtain ⟨g3, b1, b2⟩ := kM (s_Mod_storms_L67 q) (m_sS A i a b w m) (m_sT (a_n A) w m) m hm64 (a_n A) z_F 0 g2 (by unfold z_F; omega) (by omega) (hs.tr a2) a3 a4 a5 a6
                have b3 : s_Mod_storms_L93 (s_Mod_storms_L67 q) z_F (nI i) (nI a) (nI b) (nI w) x5 (nI (m_sS A i a b w m)) (nI (m_sT (a_n A) w m)) (nI m) 1 0 g2 = _ := b2
                rw [b3]
                exact ih q (m + 1) g3 (by omega) (by omega) b1
            obtain ⟨g2, b1, b2⟩ := kN (2 ^ a_n A) z_F 0 gM (by have : (2 : Nat) ^ a_n A ≤ 2 ^ 6 := Nat.pow_le_pow_right (by decide) hn6; have h65 : (2 : Nat) ^ 6 = 64 := rfl; unfold z_F; omega) (by omega) ⟨fun _ _ => rfl, fun _ _ _ _ _ => rfl⟩
            have b3 := kL (2 ^ a_n A) z_F 0 (by have : (2 : Nat) ^ a_n A ≤ 2 ^ 6 := Nat.pow_le_pow_right (by decide) hn6; have h65 : (2 : Nat) ^ 6 = 64 := rfl; unfold z_F; omega) (by omega)
            exact ⟨_, g2, b3, b2, d_R_scr hA hd b1⟩
