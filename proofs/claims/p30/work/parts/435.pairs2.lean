def y_f8 (g g2 : z_G) : Prop := ∀ k, k ≠ 7 → k ≠ 8 → g2 k = g k
theorem y_tk {l : List Nat} {M j : Nat} (h : j < M) : (l.take M).getD j 0 = l.getD j 0 := by
  rw [List.getD_eq_getElem?_getD, List.getD_eq_getElem?_getD, List.getElem?_take, if_pos h]
theorem y_ct_tk {A : m_A} {l : List Nat} : y_ct A (l_M (a_L A)) (l.take (l_M (a_L A))) = y_ct A (l_M (a_L A)) l := by
  unfold y_ct
  exact y_cn_eq _ (fun j hj => by simp only [y_tk hj])
theorem y_vl_y {M : Nat} {l : List Nat} (hM : M ≤ 6) (h : y_vl M l = true) : ∀ j, j < M → l.getD j 0 < M := by
  intro j hj
  unfold y_vl at h
  rw [Bool.and_eq_true, Bool.and_eq_true] at h
  have h1 : l.length = 6 := of_decide_eq_true h.1
  have h2 := List.all_eq_true.mp h.2.2
  have h3 : j < (l.take M).length := by rw [List.length_take]; omega
  have h4 := h2 _ (List.getElem_mem h3)
  have h5 : (l.take M).getD j 0 = (l.take M)[j] := by rw [List.getD_eq_getElem?_getD, List.getElem?_eq_getElem h3]; rfl
  rw [← y_tk hj, h5]
  exact of_decide_eq_true h4
theorem y_55 {A : m_A} {l : List Nat} {g : z_G} {x1 x2 : Int32} (k45 : Int32 → Int32 → Int32 → z_G → Option (Int32 × z_G)) (hA : ok_A A) (hl : d_L (a_L A) (g 1)) (hk : d_K (a_L A) (a_K A) 0 (g 2)) (h : y_7 l g) (hv : ∀ j, j < l_M (a_L A) → l.getD j 0 < l_M (a_L A)) : ∀ (d fuel j : Nat), d < fuel → j + d = l_M (a_L A) → s_Mod_pairs_L55 k45 fuel x1 x2 (nI (y_ct A j l)) (nI j) g = s_Mod_pairs_L111 k45 z_F x1 x2 (nI (y_ct A (l_M (a_L A)) l)) 0 g := by
  have hM := hA.1.2.2.2.1
  have hH := hA.1.2.1
  have em : s_Mod_men g = nI (l_M (a_L A)) := by unfold s_Mod_men; rw [show (9 : Int32) = nI 9 from rfl, q_rd (by decide)]; exact hl.2.1
  intro d
  induction d with
  | zero =>
    intro fuel j hf hj
    obtain ⟨f, rfl⟩ : ∃ k, fuel = k + 1 := ⟨fuel - 1, by omega⟩
    rw [s_Mod_pairs_L55, em, if_pos (by rw [q_le (by omega) (by omega)]; omega), show j = l_M (a_L A) by omega]
  | succ d ih =>
    intro fuel j hf hj
    obtain ⟨f, rfl⟩ : ∃ k, fuel = k + 1 := ⟨fuel - 1, by omega⟩
    have hlj := hv j (by omega)
    have b1 := (hA.1.2.2.2.2.2.2 j (by omega)).1
    have b2 := (hA.2.1.1 _ hlj).2
    have e9 := (hk.1 _ hlj).2.2.2
    rw [show 0 + 18 + l.getD j 0 = 18 + l.getD j 0 by omega] at e9
    rw [s_Mod_pairs_L55, em, if_neg (by rw [q_le (by omega) (by omega)]; omega), q_ck (by omega) (by decide), show z_rd g 7 (nI j) = nI (l.getD j 0) from (q_rd (by omega)).trans (h.2.2 j (by omega)), show (18 : Int32) = nI 18 from rfl, show (11 : Int32) = nI 11 from rfl, q_add, q_add, q_ck (by omega) (by decide), q_ck (by omega) (by decide), q_rd (by omega), q_rd (by omega), e9, (hl.2.2.2.2 j (by omega)).1]
    unfold s_Mod_pairs_b99
    have ec : y_ct A (j + 1) l = y_ct A j l + (if l_l (a_L A) j = k_r (a_K A) (l.getD j 0) then 0 else 1) := by
      unfold y_ct
      rw [m_cn]
      by_cases h1 : l_l (a_L A) j = k_r (a_K A) (l.getD j 0)
      · rw [if_pos h1, if_neg (show ¬ decide (l_l (a_L A) j ≠ k_r (a_K A) (l.getD j 0)) = true from fun e => (of_decide_eq_true e) h1)]
      · rw [if_neg h1, if_pos (show decide (l_l (a_L A) j ≠ k_r (a_K A) (l.getD j 0)) = true from decide_eq_true h1)]
    have e3 := ih f (j + 1) (by omega) (by omega)
    rw [ec] at e3
    rw [show nI j + 1 = nI (j + 1) from nI_1 j]
    by_cases h1 : l_l (a_L A) j = k_r (a_K A) (l.getD j 0)
    · rw [if_pos (show nI (k_r (a_K A) (l.getD j 0)) = nI (l_l (a_L A) j) by rw [h1]), show (0 : Int32) = nI 0 from rfl, q_add]
      rw [if_pos h1] at e3
      exact e3
    · rw [if_neg (show ¬ nI (k_r (a_K A) (l.getD j 0)) = nI (l_l (a_L A) j) from fun e => h1 (q_inj (by omega) (by omega) e).symm), show (1 : Int32) = nI 1 from rfl, q_add]
      rw [if_neg h1] at e3
      exact e3
theorem y_111 {x1 x2 x4 : Int32} (k45 : Int32 → Int32 → Int32 → z_G → Option (Int32 × z_G)) (h : ¬ x4 ≤ x2) : ∀ (d fuel j : Nat) (g : z_G), d < fuel → j + d = 6 → ∃ g2, s_Mod_pairs_L111 k45 fuel x1 x2 x4 (nI j) g = s_Mod_pairs_b144 k45 x1 x2 x4 g2 ∧ (∀ k, k ≠ 8 → g2 k = g k) ∧ (∀ i, j ≤ i → i < 6 → g2 8 i = g 7 i) ∧ ∀ i, i < j → g2 8 i = g 8 i := by
  intro d
  induction d with
  | zero =>
    intro fuel j g hf hj
    obtain ⟨f, rfl⟩ : ∃ k, fuel = k + 1 := ⟨fuel - 1, by omega⟩
    rw [s_Mod_pairs_L111, if_pos (by rw [show (6 : Int32) = nI 6 from rfl, q_le (by omega) (by omega)]; omega)]
    exact ⟨g, rfl, fun _ _ => rfl, fun i h1 h2 => absurd h1 (by omega), fun _ _ => rfl⟩
  | succ d ih =>
    intro fuel j g hf hj
    obtain ⟨f, rfl⟩ : ∃ k, fuel = k + 1 := ⟨fuel - 1, by omega⟩
    rw [s_Mod_pairs_L111, if_neg (by rw [show (6 : Int32) = nI 6 from rfl, q_le (by omega) (by omega)]; omega), if_neg h, q_ck (by omega) (by decide), q_ck (by omega) (by decide)]
    simp only [q_let]
    rw [q_wr (by omega), q_rd (by omega), show nI j + 1 = nI (j + 1) from nI_1 j]
    obtain ⟨g2, a1, a2, a3, a4⟩ := ih f (j + 1) (z_up g 8 j (g 7 j)) (by omega) (by omega)
    refine ⟨g2, a1, fun k hk => by rw [a2 k hk, up_c hk], fun i h1 h2 => ?_, fun i hi => by rw [a4 i (by omega), up_n (by omega)]⟩
    by_cases h3 : i = j
    · rw [h3, a4 j (by omega), up_s]
    · rw [a3 i (by omega) h2, up_c (by decide)]
theorem y_45 {A : m_A} {x1 : Int32} (hA : ok_A A) : ∀ (k fuel : Nat) (l : List Nat) (g : z_G) (x2 : Int32) (S : Option (Nat × List Nat)), k < fuel → y_ok (l_M (a_L A)) k l = true → y_7 l g → d_L (a_L A) (g 1) → d_K (a_L A) (a_K A) 0 (g 2) → y_B (l_M (a_L A)) S x2 (g 8) → ∃ g2 x3 f2, s_Mod_pairs_L45 fuel x1 x2 1 g = s_Mod_pairs_L45 (f2 + 1) x1 x3 0 g2 ∧ y_f8 g g2 ∧ y_B (l_M (a_L A)) ((y_sq (l_M (a_L A)) k l).foldl (y_sp A) S) x3 (g2 8) := by
  have hM := hA.1.2.2.2.1
  intro k
  induction k with
  | zero => intro fuel l g x2 S hf hok; exact absurd hok (by simp [y_ok])
  | succ k ih =>
    intro fuel l g x2 S hf hok h7 hl hk hS
    obtain ⟨f, rfl⟩ : ∃ k, fuel = k + 1 := ⟨fuel - 1, by omega⟩
    rw [y_ok, Bool.and_eq_true] at hok
    have hv := y_vl_y hM hok.1
    have e0 := y_55 (x1 := x1) (x2 := x2) (s_Mod_pairs_L45 f) hA hl hk h7 hv (l_M (a_L A)) z_F 0 (by unfold z_F; omega) (by omega)
    have e1 : s_Mod_pairs_L45 (f + 1) x1 x2 1 g = s_Mod_pairs_L111 (s_Mod_pairs_L45 f) z_F x1 x2 (nI (y_ct A (l_M (a_L A)) l)) 0 g := by
      rw [s_Mod_pairs_L45, if_neg (show ¬ (1 : Int32) = 0 by decide), ← e0]
      rfl
    have hcl := m_cn_le (fun j => decide (l_l (a_L A) j ≠ k_r (a_K A) (l.getD j 0))) (l_M (a_L A))
    have hct : y_ct A (l_M (a_L A)) l ≤ 6 := by unfold y_ct; omega
    -- the better of both
    have bet : ∃ g2, s_Mod_pairs_L111 (s_Mod_pairs_L45 f) z_F x1 x2 (nI (y_ct A (l_M (a_L A)) l)) 0 g = s_Mod_pairs_b144 (s_Mod_pairs_L45 f) x1 x2 (nI (y_ct A (l_M (a_L A)) l)) g2 ∧ (∀ k, k ≠ 8 → g2 k = g k) ∧ y_B (l_M (a_L A)) (y_sp A S (l.take (l_M (a_L A)))) (s_Mod_larger x2 (nI (y_ct A (l_M (a_L A)) l))) (g2 8) := by
      have big : ¬ nI (y_ct A (l_M (a_L A)) l) ≤ x2 → ∃ g2, s_Mod_pairs_L111 (s_Mod_pairs_L45 f) z_F x1 x2 (nI (y_ct A (l_M (a_L A)) l)) 0 g = s_Mod_pairs_b144 (s_Mod_pairs_L45 f) x1 x2 (nI (y_ct A (l_M (a_L A)) l)) g2 ∧ (∀ k, k ≠ 8 → g2 k = g k) ∧ y_B (l_M (a_L A)) (some (y_ct A (l_M (a_L A)) (l.take (l_M (a_L A))), l.take (l_M (a_L A)))) (s_Mod_larger x2 (nI (y_ct A (l_M (a_L A)) l))) (g2 8) := by
        intro hb
        obtain ⟨g2, a1, a2, a3, _⟩ := y_111 (x1 := x1) (s_Mod_pairs_L45 f) hb 6 z_F 0 g (by unfold z_F; omega) (by omega)
        refine ⟨g2, a1, a2, ?_⟩
        show y_ct A (l_M (a_L A)) (l.take (l_M (a_L A))) ≤ 6 ∧ s_Mod_larger x2 (nI (y_ct A (l_M (a_L A)) l)) = nI (y_ct A (l_M (a_L A)) (l.take (l_M (a_L A)))) ∧ _
        rw [y_ct_tk]
        refine ⟨hct, ?_, fun j hj => ?_⟩
        · unfold s_Mod_larger
          rw [if_neg hb]
        · rw [a3 j (by omega) (by omega), y_tk hj]
          exact h7.2.2 j (by omega)
      cases S with
      | none =>
        have hv2 : x2 = -1 := hS
        exact big (by
          rw [hv2]
          intro e
          have h1 := Int32.le_iff_toInt_le.mp e
          rw [nI_toInt (by omega)] at h1
          have h2 : (y_ct A (l_M (a_L A)) l : Int) ≤ -1 := h1
          omega)
      | some s =>
        obtain ⟨n, l0⟩ := s
        have hv2 : n ≤ 6 ∧ x2 = nI n ∧ ∀ j, j < l_M (a_L A) → g 8 j = nI (l0.getD j 0) := hS
        have es : y_sp A (some (n, l0)) (l.take (l_M (a_L A))) = if n < y_ct A (l_M (a_L A)) l then some (y_ct A (l_M (a_L A)) (l.take (l_M (a_L A))), l.take (l_M (a_L A))) else some (n, l0) := by
          show (if n < y_ct A (l_M (a_L A)) (l.take (l_M (a_L A))) then some (y_ct A (l_M (a_L A)) (l.take (l_M (a_L A))), l.take (l_M (a_L A))) else some (n, l0)) = _
          rw [y_ct_tk]
        rw [es]
        by_cases h1 : n < y_ct A (l_M (a_L A)) l
        · rw [if_pos h1]
          exact big (by rw [hv2.2.1, q_le (by omega) (by omega)]; omega)
        · rw [if_neg h1]
          have hle : nI (y_ct A (l_M (a_L A)) l) ≤ x2 := by rw [hv2.2.1, q_le (by omega) (by omega)]; omega
          refine ⟨g, ?_, fun _ _ => rfl, hv2.1, ?_, hv2.2.2⟩
          · rw [show z_F = 19999 + 1 from rfl, s_Mod_pairs_L111, if_neg (show ¬ (6 : Int32) ≤ 0 by decide), if_pos hle]
          · unfold s_Mod_larger
            rw [if_pos hle]; exact hv2.2.1
    obtain ⟨g2, b1, b2, b3⟩ := bet
    have h72 : y_7 l g2 := ⟨h7.1, h7.2.1, fun j hj => by rw [b2 7 (by decide)]; exact h7.2.2 j hj⟩
    obtain ⟨v1, v2⟩ := y_gives hA (g := g2) (by rw [b2 1 (by decide)]; exact hl) h72
    rw [e1, b1]
    unfold s_Mod_pairs_b144
    simp only [q_let]
    have ef : (y_sq (l_M (a_L A)) (k + 1) l).foldl (y_sp A) S = (match y_np (l_M (a_L A)) l with
      | none => []
      | some l2 => y_sq (l_M (a_L A)) k l2).foldl (y_sp A) (y_sp A S (l.take (l_M (a_L A)))) := rfl
    rw [ef]
    have hok2 := hok.2
    cases hn : y_np (l_M (a_L A)) l with
    | none =>
      rw [v1 hn]
      simp only [Option.bind_some]
      obtain ⟨f, rfl⟩ : ∃ k, f = k + 1 := ⟨f - 1, by omega⟩
      exact ⟨g2, _, f, rfl, fun k a b => b2 k b, b3⟩
    | some l2 =>
      obtain ⟨g3, c1, c2, c3⟩ := v2 l2 hn
      rw [hn] at hok2
      rw [c1]
      simp only [Option.bind_some]
      obtain ⟨g4, x3, f2, d1, d2, d3⟩ := ih f l2 g3 _ _ (by omega) hok2 c3 (by rw [c2 1 (by decide), b2 1 (by decide)]; exact hl) (by rw [c2 2 (by decide), b2 2 (by decide)]; exact hk) (by rw [c2 8 (by decide)]; exact b3)
      exact ⟨g4, x3, f2, d1, fun k a b => by rw [d2 k a b, c2 k a, b2 k b], d3⟩
theorem y_22 : ∀ (d fuel j : Nat) (g : z_G) (x1 : Int32), d < fuel → j + d = 6 → ∃ g2, s_Mod_pairs_L22 fuel x1 (nI j) g = s_Mod_pairs_L45 z_F x1 (-1) 1 g2 ∧ (∀ k, k ≠ 7 → g2 k = g k) ∧ (∀ i, j ≤ i → i < 6 → g2 7 i = nI i) ∧ ∀ i, i < j → g2 7 i = g 7 i := by
  intro d
  induction d with
  | zero =>
    intro fuel j g x1 hf hj
    obtain ⟨f, rfl⟩ : ∃ k, fuel = k + 1 := ⟨fuel - 1, by omega⟩
    rw [s_Mod_pairs_L22, if_pos (by rw [show (6 : Int32) = nI 6 from rfl, q_le (by omega) (by omega)]; omega)]
    exact ⟨g, rfl, fun _ _ => rfl, fun i h1 h2 => absurd h1 (by omega), fun _ _ => rfl⟩
  | succ d ih =>
    intro fuel j g x1 hf hj
    obtain ⟨f, rfl⟩ : ∃ k, fuel = k + 1 := ⟨fuel - 1, by omega⟩
    rw [s_Mod_pairs_L22, if_neg (by rw [show (6 : Int32) = nI 6 from rfl, q_le (by omega) (by omega)]; omega), q_ck (by omega) (by decide)]
    simp only [q_let]
    rw [q_wr (by omega), show nI j + 1 = nI (j + 1) from nI_1 j]
    obtain ⟨g2, a1, a2, a3, a4⟩ := ih f (j + 1) (z_up g 7 j (nI j)) x1 (by omega) (by omega)
    refine ⟨g2, a1, fun k hk => by rw [a2 k hk, up_c hk], fun i h1 h2 => ?_, fun i hi => by rw [a4 i (by omega), up_n (by omega)]⟩
    by_cases h3 : i = j
    · rw [h3, a4 j (by omega), up_s]
    · exact a3 i (by omega) h2
theorem y_sp_s {A : m_A} {S : Option (Nat × List Nat)} {l : List Nat} : ∃ x, y_sp A S l = some x := by
  cases S with
  | none => exact ⟨_, rfl⟩
  | some s =>
    obtain ⟨n, l0⟩ := s
    show ∃ x, (if n < y_ct A (l_M (a_L A)) l then some (y_ct A (l_M (a_L A)) l, l) else some (n, l0)) = some x
    by_cases h : n < y_ct A (l_M (a_L A)) l
    · rw [if_pos h]; exact ⟨_, rfl⟩
    · rw [if_neg h]; exact ⟨_, rfl⟩
theorem y_fold_s {A : m_A} : ∀ (ls : List (List Nat)) (x : Nat × List Nat), ∃ y, ls.foldl (y_sp A) (some x) = some y := by
  intro ls
  induction ls with
  | nil => intro x; exact ⟨x, rfl⟩
  | cons l ls ih =>
    intro x
    rw [List.foldl_cons]
    obtain ⟨y, hy⟩ := y_sp_s (A := A) (S := some x) (l := l)
    rw [hy]
    exact ih y
theorem o_pairs {A : m_A} {gC gM : z_G} (h : z_R A gC gM) (x1 : Int32) : z_res (s_Top_pairs x1 gC) (s_Mod_pairs x1 gM) := by
  obtain ⟨hA, hc, hd⟩ := id h
  have hM := hA.1.2.2.2.1
  have hM1 := hA.1.2.2.1
  -- both deals
  obtain ⟨gC2, a1, a2, a3⟩ := y_deal hA (l_M (a_L A)) 8 (by omega) 0 0 [] (z_up gC 67 1 (-1)) none (by omega) rfl (by decide) (by rw [up_c (by decide), up_c (by decide), up_c (by decide), up_c (by decide)]; exact hc.1) (by rw [up_c (by decide), up_c (by decide), up_c (by decide)]; exact hc.2.1) (fun j hj => absurd hj (Nat.not_lt_zero j)) up_s
  have eD : s_Deal_deal 0 gC = some gC2 := by
    unfold s_Deal_deal
    simp only [q_let]
    have a1b : s_Deal_dealTo 8 0 0 0 0 (z_up gC 67 1 (-1)) = some gC2 := a1
    rw [a1b]
    rfl
  obtain ⟨gM1, b1, b2, b3, _⟩ := y_22 6 z_F 0 gM x1 (by unfold z_F; omega) (by omega)
  have h7 : y_7 y_id gM1 := by
    refine ⟨rfl, by decide, fun j hj => ?_⟩
    rw [b3 j (by omega) hj]
    rcases (show j = 0 ∨ j = 1 ∨ j = 2 ∨ j = 3 ∨ j = 4 ∨ j = 5 by omega) with rfl | rfl | rfl | rfl | rfl | rfl <;> rfl
  obtain ⟨gM2, x3, f2, c1, c2, c3⟩ := y_45 (x1 := x1) hA 721 z_F y_id gM1 (-1) none (by unfold z_F; omega) (y_all_ok _ (by omega)) h7 (by rw [b2 1 (by decide)]; exact hd.1) (by rw [b2 2 (by decide)]; exact hd.2.1) rfl
  have eq := eq_of_beq (y_all_eq (l_M (a_L A)) (by omega) hM1)
  rw [eq] at c3
  obtain ⟨y, hy⟩ : ∃ y, (y_pl (l_M (a_L A)) (l_M (a_L A)) 0 []).foldl (y_sp A) none = some y := by
    rw [← eq]
    obtain ⟨z, hz⟩ := y_sp_s (A := A) (S := none) (l := y_id.take (l_M (a_L A)))
    have := y_fold_s (A := A) (match y_np (l_M (a_L A)) y_id with
      | none => []
      | some l2 => y_sq (l_M (a_L A)) 720 l2) z
    rw [← hz] at this
    exact this
  obtain ⟨n, l⟩ := y
  rw [hy] at a3 c3
  have a3b : n ≤ 6 ∧ gC2 67 1 = nI n ∧ ∀ j, j < l_M (a_L A) → gC2 68 j = nI (l.getD j 0) := a3
  have c3b : n ≤ 6 ∧ x3 = nI n ∧ ∀ j, j < l_M (a_L A) → gM2 8 j = nI (l.getD j 0) := c3
  have hR : z_R A gC2 gM2 := ⟨hA, c_R_fr hA hc (fun k hk => by unfold z_lc at hk; rw [a2.1 k (by omega) (by omega) (by omega), up_c (by omega)]), d_R_fr hA hd (fun j _ _ _ _ _ _ _ => by rw [c2 0 (by decide) (by decide), b2 0 (by decide)]) (fun j _ => by rw [c2 1 (by decide) (by decide), b2 1 (by decide)]) (fun j _ => by rw [c2 2 (by decide) (by decide), b2 2 (by decide)]) (fun k h1 h2 => by rw [c2 k (by omega) (by omega), b2 k (by omega)])⟩
  have em : s_Mod_men gM = nI (l_M (a_L A)) := by unfold s_Mod_men; rw [show (9 : Int32) = nI 9 from rfl, q_rd (by decide)]; exact hd.1.2.1
  have eR : s_Mod_pairs_L22 z_F x1 0 gM = s_Mod_pairs_L45 (f2 + 1) x1 x3 0 gM2 := by
    have b1b : s_Mod_pairs_L22 z_F x1 0 gM = _ := b1
    rw [b1b, c1]
  unfold s_Top_pairs s_Mod_pairs s_Top_pairs_b15
  rw [em, show s_Mod_in (Int32.toInt64 x1) (-1) (Int32.toInt64 (nI (l_M (a_L A)) - 1)) = s_Top_isWithin x1 (-1) (nI (l_M (a_L A)) - 1) from q_in x1 (-1) _, eD, eR, s_Mod_pairs_L45, if_pos (show (0 : Int32) = 0 from rfl)]
  simp only [Option.bind_some]
  by_cases hx : x1 = -1
  · subst hx
    have ew : s_Top_isWithin (-1) (-1) (nI (l_M (a_L A)) - 1) = 1 := by
      rw [q_isW, if_neg]
      rintro (e | e)
      · exact absurd e (by decide)
      · rw [show (1 : Int32) = nI 1 from rfl, q_sub hM1, Int32.lt_iff_toInt_lt, nI_toInt (by omega)] at e
        have h2 : ((l_M (a_L A) - 1 : Nat) : Int) < -1 := e
        omega
    rw [if_pos rfl, if_pos rfl, ew, if_neg (show ¬ (1 : Int32) = 0 by decide), if_neg (show ¬ (0 : Int32) ≤ -1 by decide), a3b.2.1, c3b.2.1]
    exact z_same hR
  · have ew : s_Top_isWithin x1 (-1) (nI (l_M (a_L A)) - 1) = s_Top_isMan x1 gC := by
      have e2 : s_Top_isMan x1 gC = s_Top_isWithin x1 0 (nI (l_M (a_L A)) - 1) := by
        unfold s_Top_isMan
        rw [hc.1.2.1]
      rw [e2, q_isW, q_isW]
      have e3 : (x1 < -1) = (x1 < 0) := by
        apply propext
        rw [Int32.lt_iff_toInt_lt, Int32.lt_iff_toInt_lt]
        have h1 : (-1 : Int32).toInt = -1 := by decide
        have h2 : (0 : Int32).toInt = 0 := by decide
        have h3 : x1.toInt ≠ -1 := fun e => hx (Int32.toInt_inj.mp (by rw [e, h1]))
        rw [h1, h2]
        omega
      simp only [e3]
    rw [if_neg hx, if_neg hx, ew]
    rcases (q_isMan h x1).2 with h1 | ⟨h1, i, hi, rfl⟩
    · rw [if_pos h1, if_pos h1]; exact z_same h
    · rw [if_neg h1, if_neg h1, if_pos (show (0 : Int32) ≤ nI i from (q_le (a := 0) (b := i) (by decide) (by omega)).mpr (by omega)), q_ck (by omega) (by decide), q_ck (by omega) (by decide), q_rd (by omega), q_rd (by omega), a3b.2.2 i hi, c3b.2.2 i hi]
      exact z_same hR
