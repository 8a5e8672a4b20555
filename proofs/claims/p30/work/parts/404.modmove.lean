/-! ===== the reference's march, pick, go, orders ===== -/
theorem q_in15 (x : Int32) : s_Mod_in x.toInt64 0 15 = s_Top_isWithin x 0 15 := q_in x 0 15
theorem q_in7 (x : Int32) : s_Mod_in x.toInt64 0 7 = s_Top_isWithin x 0 7 := q_in x 0 7
theorem q_in9 (x : Int32) : s_Mod_in x.toInt64 0 9 = s_Top_isWithin x 0 9 := q_in x 0 9
theorem q_in1 (x : Int32) : s_Mod_in x.toInt64 0 1 = s_Top_isWithin x 0 1 := q_in x 0 1
theorem d_marchL {f n : Nat} (hf : f < 8) (hn : n < 1000) : ∀ (d fuel i x y : Nat) (g : z_G), d < fuel → i + d = n → x < 16 → y < 16 → g 0 13 = nI x → g 0 14 = nI y → ∃ g2, s_Mod_marches_L94 fuel (nI n) (z_cs f) (z_rs f) (nI i) g = some g2 ∧ g2 0 13 = nI (m_mv f d (x, y)).1 ∧ g2 0 14 = nI (m_mv f d (x, y)).2 ∧ (∀ k, k ≠ 0 → g2 k = g k) ∧ ∀ j, j ≠ 13 → j ≠ 14 → g2 0 j = g 0 j := by
  intro d
  induction d with
  | zero =>
    intro fuel i x y g hfu hi hx hy e1 e2
    obtain ⟨k, rfl⟩ : ∃ k, fuel = k + 1 := ⟨fuel - 1, by omega⟩
    rw [s_Mod_marches_L94, if_pos (by rw [q_le (by omega) (by omega)]; omega)]
    exact ⟨g, rfl, e1, e2, fun _ _ => rfl, fun _ _ _ => rfl⟩
  | succ d ih =>
    intro fuel i x y g hfu hi hx hy e1 e2
    obtain ⟨k, rfl⟩ : ∃ k, fuel = k + 1 := ⟨fuel - 1, by omega⟩
    rw [s_Mod_marches_L94, if_neg (by rw [q_le (by omega) (by omega)]; omega), e1, e2, q_in15, q_in15]
    simp only [s_Mod_marches_b156, z_let]
    rw [show nI i + 1 = nI (i + 1) from nI_1 i]
    by_cases h : m_ok f x y = true
    · obtain ⟨h1, h2, h3, h4⟩ := m_step_yes hx hy hf h
      rw [h1, h2, if_neg (by decide), if_neg (by decide), up_n (by decide), e2, h3, h4]
      have hl := m_st_lt (f := f) (p := (x, y)) ⟨hx, hy⟩
      have e5 : m_st f (x, y) = (x + m_cx f - 1, y + m_cy f - 1) := by unfold m_st; rw [if_pos h]
      rw [e5] at hl
      obtain ⟨g2, a1, a2, a3, a4, a5⟩ := ih k (i + 1) (x + m_cx f - 1) (y + m_cy f - 1) (z_up (z_up g 0 13 (nI (x + m_cx f - 1))) 0 14 (nI (y + m_cy f - 1))) (by omega) (by omega) hl.1 hl.2 (by rw [up_n (by decide), up_s]) (by rw [up_s])
      refine ⟨g2, a1, ?_, ?_, fun q hq => ?_, fun j h6 h7 => ?_⟩
      · rw [a2, ← e5]; rfl
      · rw [a3, ← e5]; rfl
      · rw [a4 q hq, up_c hq, up_c hq]
      · rw [a5 j h6 h7, up_n h7, up_n h6]
    · have h0 := m_step_no hx hy hf h
      rw [m_isCell] at h0
      obtain ⟨g2, a1, a2, a3, a4, a5⟩ := ih k (i + 1) x y g (by omega) (by omega) hx hy e1 e2
      have e6 : m_mv f (d + 1) (x, y) = m_mv f d (x, y) := by rw [m_mv_stay (p := (x, y)) h, m_mv_stay (p := (x, y)) h]
      refine ⟨g2, ?_, by rw [e6]; exact a2, by rw [e6]; exact a3, a4, a5⟩
      by_cases h1 : s_Top_isWithin (nI x + z_cs f) 0 15 = 0
      · rw [if_pos h1]; exact a1
      · rw [if_neg h1]
        by_cases h2 : s_Top_isWithin (nI y + z_rs f) 0 15 = 0
        · rw [if_pos h2]; exact a1
        · exfalso
          rw [if_neg (by simp [h1, h2])] at h0
          exact absurd h0 (by decide)
def q_dx (f : Int32) : Int32 := if f = 0 then 0 else if f = 4 then 0 else if 4 ≤ f then (-1) else 1
def q_dy (f : Int32) : Int32 := if f = 2 then 0 else if f = 6 then 0 else if s_Mod_in (Int32.toInt64 f) 3 5 = 0 then (-1) else 1
theorem q_dxy : ∀ f, f < 8 → q_dx (nI f) = z_cs f ∧ q_dy (nI f) = z_rs f := by decide +kernel
theorem d_dirT {x2 dx : Int32} {gg : z_G} : s_Mod_marches_b45 x2 dx gg = s_Mod_marches_L94 z_F x2 dx (q_dy (gg 0 15)) 0 gg := by
  unfold s_Mod_marches_b45 s_Mod_marches_b63 s_Mod_marches_b89 q_dy
  generalize s_Mod_marches_L94 z_F = F
  by_cases h1 : gg 0 15 = 2
  · rw [if_pos h1, if_pos h1]
  · rw [if_neg h1, if_neg h1]
    by_cases h2 : gg 0 15 = 6
    · rw [if_pos h2, if_pos h2]
    · rw [if_neg h2, if_neg h2]
      by_cases h3 : s_Mod_in (Int32.toInt64 (gg 0 15)) 3 5 = 0
      · rw [if_pos h3, if_pos h3]
      · rw [if_neg h3, if_neg h3]
theorem d_dir {x2 : Int32} {gg : z_G} (f : Nat) (hf : f < 8) (h : gg 0 15 = nI f) : (if (gg 0 15) = 0 then (s_Mod_marches_b28 x2 gg) else (if (gg 0 15) = 4 then (s_Mod_marches_b28 x2 gg) else (if 4 ≤ (gg 0 15) then (s_Mod_marches_b45 x2 (-1) gg) else (s_Mod_marches_b45 x2 1 gg)))) = s_Mod_marches_L94 z_F x2 (z_cs f) (z_rs f) 0 gg := by
  have e : (if (gg 0 15) = 0 then (s_Mod_marches_b28 x2 gg) else (if (gg 0 15) = 4 then (s_Mod_marches_b28 x2 gg) else (if 4 ≤ (gg 0 15) then (s_Mod_marches_b45 x2 (-1) gg) else (s_Mod_marches_b45 x2 1 gg)))) = s_Mod_marches_L94 z_F x2 (q_dx (gg 0 15)) (q_dy (gg 0 15)) 0 gg := by
    unfold s_Mod_marches_b28 q_dx
    simp only [d_dirT]
    generalize s_Mod_marches_L94 z_F = F
    by_cases h1 : gg 0 15 = 0
    · rw [if_pos h1, if_pos h1]
    · rw [if_neg h1, if_neg h1]
      by_cases h2 : gg 0 15 = 4
      · rw [if_pos h2, if_pos h2]
      · rw [if_neg h2, if_neg h2]
        by_cases h3 : 4 ≤ gg 0 15
        · rw [if_pos h3, if_pos h3]
        · rw [if_neg h3, if_neg h3]
  rw [e, h, (q_dxy f hf).1, (q_dxy f hf).2]
theorem q_and7 (a : Nat) (h : a < 4294967296) : nI a &&& 7 = nI (a % 8) := pk_andN (n := a) (by omega) 3 (by decide)
theorem d_marches {x y f r n : Nat} {g : z_G} (hx : x < 16) (hy : y < 16) (hf : f < 8) (hr : r < 8) (hn : n < 1000) (e1 : g 0 13 = nI x) (e2 : g 0 14 = nI y) (e3 : g 0 15 = nI f) : ∃ g2, s_Mod_marches (nI r) (nI n) g = some g2 ∧ g2 0 13 = nI (m_ord x y f r n).1 ∧ g2 0 14 = nI (m_ord x y f r n).2.1 ∧ g2 0 15 = nI (m_ord x y f r n).2.2 ∧ (∀ k, k ≠ 0 → g2 k = g k) ∧ ∀ j, j ≠ 13 → j ≠ 14 → j ≠ 15 → g2 0 j = g 0 j := by
  unfold s_Mod_marches
  simp only [z_let]
  have e4 : (z_up g 0 15 ((g 0 15 + nI r) &&& 7)) 0 15 = nI ((f + r) % 8) := by rw [up_s, e3, q_add, q_and7 _ (by omega)]
  rw [d_dir ((f + r) % 8) (Nat.mod_lt _ (by decide)) e4]
  obtain ⟨g2, a1, a2, a3, a4, a5⟩ := d_marchL (f := (f + r) % 8) (n := n) (Nat.mod_lt _ (by decide)) hn n z_F 0 x y (z_up g 0 15 ((g 0 15 + nI r) &&& 7)) (by unfold z_F; omega) (by omega) hx hy (by rw [up_n (by decide)]; exact e1) (by rw [up_n (by decide)]; exact e2)
  refine ⟨g2, a1, a2, a3, ?_, fun k hk => ?_, fun j h1 h2 h3 => ?_⟩
  · rw [a5 15 (by decide) (by decide), e4]; rfl
  · rw [a4 k hk, up_c hk]
  · rw [a5 j h1 h2, up_n h3]
theorem d_picks {L : m_L} {K : m_K} {b i : Nat} {g : z_G} (hb : b + 26 ≤ 312) (hL : ok_L L) (hi : i < l_M L) (h : d_K L K b (g 2)) : ∃ g2, s_Mod_picks (nI b) (nI i) g = some g2 ∧ g2 0 13 = nI (k_p K i).1 ∧ g2 0 14 = nI (k_p K i).2.1 ∧ g2 0 15 = nI (k_p K i).2.2 ∧ g2 0 16 = k_g K ∧ (∀ k, k ≠ 0 → g2 k = g k) ∧ ∀ j, j ≠ 13 → j ≠ 14 → j ≠ 15 → j ≠ 16 → g2 0 j = g 0 j := by
  have hM := hL.2.2.2.1
  unfold s_Mod_picks
  simp only [z_let, q_lit, q_add]
  rw [q_ck (by omega) (by decide), q_ck (by omega) (by decide), q_ck (by omega) (by decide), q_ck (by omega) (by decide)]
  refine ⟨_, rfl, ?_, ?_, ?_, ?_, fun k hk => ?_, fun j h1 h2 h3 h4 => ?_⟩
  · rw [up_n (by decide), up_n (by decide), up_n (by decide), up_s, q_rd (by omega)]; exact (h.1 i hi).1
  · rw [up_n (by decide), up_n (by decide), up_s, q_rd (by omega), up_c (by decide)]; exact (h.1 i hi).2.1
  · rw [up_n (by decide), up_s, q_rd (by omega), up_c (by decide), up_c (by decide)]; exact (h.1 i hi).2.2.1
  · rw [up_s, q_rd (by omega), up_c (by decide), up_c (by decide), up_c (by decide)]; exact h.2.2
  · rw [up_c hk, up_c hk, up_c hk, up_c hk]
  · rw [up_n h4, up_n h3, up_n h2, up_n h1]
theorem d_has {t i : Nat} (ht : t < 64) (hi : i < 6) : s_Mod_has (nI t) (nI i) = if m_ti t i = true then 1 else 0 := by
  unfold s_Mod_has
  rw [m_bit t ht i hi]
  by_cases h : m_ti t i = true
  · simp [h]
  · simp [h]
theorem d_goes {L : m_L} {K : m_K} {b i r n : Nat} {q : Nat × Nat × Nat} {gv : Int32} {g : z_G} (hb : b + 26 ≤ 312) (hL : ok_L L) (hK : ok_K L K) (hi : i < l_M L) (hr : r < 8) (hn : n < 1000) (hq : m_in q) (hl : d_L L (g 1)) (h : d_K L K b (g 2)) (e1 : g 0 13 = nI q.1) (e2 : g 0 14 = nI q.2.1) (e3 : g 0 15 = nI q.2.2) (e4 : g 0 16 = gv) : ∃ g2, s_Mod_goes (nI b) (nI i) (nI r) (nI n) g = some g2 ∧ g2 0 13 = nI (m_go (m_ord q.1 q.2.1 q.2.2 r n) (m_pu L K i) (l_k L i) (q_par (gv + 1))).1 ∧ g2 0 14 = nI (m_go (m_ord q.1 q.2.1 q.2.2 r n) (m_pu L K i) (l_k L i) (q_par (gv + 1))).2.1 ∧ g2 0 15 = nI (m_go (m_ord q.1 q.2.1 q.2.2 r n) (m_pu L K i) (l_k L i) (q_par (gv + 1))).2.2 ∧ g2 0 16 = gv + 1 ∧ (∀ k, k ≠ 0 → g2 k = g k) ∧ ∀ j, j ≠ 13 → j ≠ 14 → j ≠ 15 → j ≠ 16 → g2 0 j = g 0 j := by
  have hM := hL.2.2.2.1
  have hH := hL.2.1
  have hl4 := (hL.2.2.2.2.2.2 i hi).1
  have hk5 := (hL.2.2.2.2.2.2 i hi).2
  have hr4 := (hK.1 i hi).2
  unfold s_Mod_goes
  obtain ⟨ga, a1, a2, a3, a4, a5, a6⟩ := d_marches (r := r) (n := n) hq.1 hq.2.1 hq.2.2 hr hn e1 e2 e3
  rw [a1]
  simp only [Option.bind_some, z_let, q_lit, q_add]
  have hin := m_ord_in (x := q.1) (y := q.2.1) (f := q.2.2) (r := r) (n := n) hq.1 hq.2.1
  have f1 : ∀ k, k ≠ 0 → z_up ga 0 16 (ga 0 16 + nI 1) k = g k := fun k hk => by rw [up_c hk, a5 k hk]
  have b16 : ga 0 16 = gv := by rw [a6 16 (by decide) (by decide) (by decide), e4]
  have n1 : gv + nI 1 = gv + 1 := rfl
  rw [b16, n1]
  rw [b16, n1] at f1
  generalize hgb : z_up ga 0 16 (gv + 1) = gb at f1 ⊢
  have c13 : gb 0 13 = nI (m_ord q.1 q.2.1 q.2.2 r n).1 := by rw [← hgb, up_n (by decide)]; exact a2
  have c14 : gb 0 14 = nI (m_ord q.1 q.2.1 q.2.2 r n).2.1 := by rw [← hgb, up_n (by decide)]; exact a3
  have c15 : gb 0 15 = nI (m_ord q.1 q.2.1 q.2.2 r n).2.2 := by rw [← hgb, up_n (by decide)]; exact a4
  have c16 : gb 0 16 = gv + 1 := by rw [← hgb, up_s]
  have c0 : ∀ j, j ≠ 13 → j ≠ 14 → j ≠ 15 → j ≠ 16 → gb 0 j = g 0 j := fun j h1 h2 h3 h4 => by rw [← hgb, up_n h4, a6 j h1 h2 h3]
  rw [q_ck (by omega) (by decide), q_ck (by omega) (by decide)]
  have d1 : z_rd gb 1 (nI (11 + i)) = nI (l_l L i) := by rw [q_rd (by omega), f1 1 (by decide)]; exact (hl.2.2.2.2 i hi).1
  have d2 : z_rd gb 2 (nI (b + 24)) = nI (k_t K) := by rw [q_rd (by omega), f1 2 (by decide)]; exact h.2.1
  have d3 : z_rd gb 2 (nI (b + 18 + i)) = nI (k_r K i) := by rw [q_rd (by omega), f1 2 (by decide)]; exact (h.1 i hi).2.2.2
  rw [d1, d2, d3, d_has hK.2 (show i < 6 by omega)]
  have stay : ∀ hpu : m_pu L K i = 256, ∃ g2, some gb = some g2 ∧ g2 0 13 = nI (m_go (m_ord q.1 q.2.1 q.2.2 r n) (m_pu L K i) (l_k L i) (q_par (gv + 1))).1 ∧ g2 0 14 = nI (m_go (m_ord q.1 q.2.1 q.2.2 r n) (m_pu L K i) (l_k L i) (q_par (gv + 1))).2.1 ∧ g2 0 15 = nI (m_go (m_ord q.1 q.2.1 q.2.2 r n) (m_pu L K i) (l_k L i) (q_par (gv + 1))).2.2 ∧ g2 0 16 = gv + 1 ∧ (∀ k, k ≠ 0 → g2 k = g k) ∧ ∀ j, j ≠ 13 → j ≠ 14 → j ≠ 15 → j ≠ 16 → g2 0 j = g 0 j := by
    intro hpu
    unfold m_go
    rw [if_pos hpu]
    exact ⟨gb, rfl, c13, c14, c15, c16, f1, c0⟩
  by_cases ht : m_ti (k_t K) i = true
  · rw [if_pos ht, if_neg (by decide)]
    exact stay (by unfold m_pu; rw [if_pos (Or.inl ht)])
  · rw [if_neg ht, if_pos (show (0 : Int32) = nI 0 from rfl), q_ck (by omega) (by decide)]
    by_cases he : l_l L i = k_r K i
    · have hpu : m_pu L K i = l_c L (k_r K i) := by unfold m_pu; rw [if_neg (by simp [ht, he])]
      have hc := hL.2.2.2.2.2.1 _ hr4
      rw [if_pos (by rw [he]), q_add, q_ck (by omega) (by decide), q_ck (by omega) (by decide), q_ck (by omega) (by decide)]
      have d4 : z_rd gb 1 (nI (17 + i)) = nI (l_k L i) := by rw [q_rd (by omega), f1 1 (by decide)]; exact (hl.2.2.2.2 i hi).2
      have d5 : z_rd gb 1 (nI (l_l L i)) = nI (l_c L (k_r K i) % 16) := by rw [q_rd (by omega), f1 1 (by decide), he]; exact (hl.2.2.2.1 _ hr4).1
      have d6 : z_rd gb 1 (nI (4 + l_l L i)) = nI (l_c L (k_r K i) / 16) := by rw [q_rd (by omega), f1 1 (by decide), he]; exact (hl.2.2.2.1 _ hr4).2
      rw [d4, d5, d6, c16, m_mhalts hin.1 hin.2.1 hin.2.2 (Nat.mod_lt _ (by decide)) (by omega) hk5 c13 c14 c15]
      unfold m_go
      rw [hpu, if_neg (by omega)]
      refine ⟨_, rfl, ?_, ?_, ?_, ?_, fun k hk => ?_, fun j h1 h2 h3 h4 => ?_⟩
      · rw [up_n (by decide)]; exact c13
      · rw [up_n (by decide)]; exact c14
      · rw [up_s]
      · rw [up_n (by decide)]; exact c16
      · rw [up_c hk]; exact f1 k hk
      · rw [up_n h3]; exact c0 j h1 h2 h3 h4
    · rw [if_neg (fun h9 => he (q_inj (by omega) (by omega) h9).symm)]
      exact stay (by unfold m_pu; rw [if_pos (Or.inr he)])
