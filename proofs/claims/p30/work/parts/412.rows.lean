/-! ===== behind, homeward, strayed ===== -/
def d_scr (g g2 : z_G) : Prop := (∀ k, k ≠ 0 → g2 k = g k) ∧ ∀ j, j ≠ 13 → j ≠ 14 → j ≠ 15 → j ≠ 16 → g2 0 j = g 0 j
theorem d_scr.tr {g g2 g3 : z_G} (h : d_scr g g2) (h2 : d_scr g2 g3) : d_scr g g3 := ⟨fun k hk => (h2.1 k hk).trans (h.1 k hk), fun j a b c d => (h2.2 j a b c d).trans (h.2 j a b c d)⟩
theorem d_R_scr {A : m_A} {g g2 : z_G} (hA : ok_A A) (h : d_R A g) (e : d_scr g g2) : d_R A g2 := d_R_fr hA h (fun j _ _ _ a b c d => e.2 j a b c d) (fun j _ => by rw [e.1 1 (by decide)]) (fun j _ => by rw [e.1 2 (by decide)]) (fun k h1 _ => e.1 k (by omega))
/-- a man's way over orders rt, rs -/
def m_it (L : m_L) (K : m_K) (rt rs : Nat → Nat) (i : Nat) : Nat → Nat × Nat × Nat
  | 0 => k_p K i
  | o + 1 => m_go (m_ord (m_it L K rt rs i o).1 (m_it L K rt rs i o).2.1 (m_it L K rt rs i o).2.2 (rt o) (rs o)) (m_pu L K i) (l_k L i) (q_par (k_g K + nI o + 1))
theorem m_it_in {L : m_L} {K : m_K} {rt rs : Nat → Nat} {i : Nat} (hL : ok_L L) (hK : ok_K L K) (hi : i < l_M L) : ∀ o, m_in (m_it L K rt rs i o)
  | 0 => (hK.1 i hi).1
  | o + 1 => m_go_in (m_ord_in (m_it_in hL hK hi o).1 (m_it_in hL hK hi o).2.1) (m_pu_le hL hK hi) (hL.2.2.2.2.2.2 i hi).2
theorem c_after {L : m_L} {K : m_K} {i r n : Nat} {q : Nat × Nat × Nat} {x : Int32} {g : z_G} (hL : ok_L L) (hK : ok_K L K) (hi : i < l_M L) (hq : m_in q) (hr : r < 8) (hn : n < 1000) (hl : c_L L (g 43) (g 44) (g 45) (g 46)) (h : c_K L K (g 0) (g 1) (g 2)) : s_Top_spotAfter (nI i) (nI (m_sp q)) (nI r) (nI n) x g = some (nI (m_sp (m_go (m_ord q.1 q.2.1 q.2.2 r n) (m_pu L K i) (l_k L i) (q_par (k_g K + x + 1))))) := by
  have hM := hL.2.2.2.1
  unfold s_Top_spotAfter
  have e : s_Col_pullOn 0 (nI i) g = _ := c_pullOn (c := 0) hL hK hi hl h
  rw [e]
  simp only [Option.bind_some]
  rw [q_ck (by omega) (by decide), q_rd (by omega), (hl.2.2.2.2 i hi).2, h.2.1, m_ordered hq hr hn (m_pu_le hL hK hi) (hL.2.2.2.2.2.2 i hi).2]
  rfl
/-- one more order of a man, in the reference's scratch -/
theorem d_more {A : m_A} {g g1 : z_G} {i o : Nat} {rt rs : Nat → Nat} (hA : ok_A A) (hd : d_R A g) (hi : i < l_M (a_L A)) (hr : rt o < 8) (hn : rs o < 1000) (hs : d_scr g g1) (e1 : g1 0 13 = nI (m_it (a_L A) (a_K A) rt rs i o).1) (e2 : g1 0 14 = nI (m_it (a_L A) (a_K A) rt rs i o).2.1) (e3 : g1 0 15 = nI (m_it (a_L A) (a_K A) rt rs i o).2.2) (e4 : g1 0 16 = k_g (a_K A) + nI o) : ∃ g2, s_Mod_goes (nI 0) (nI i) (nI (rt o)) (nI (rs o)) g1 = some g2 ∧ d_scr g g2 ∧ g2 0 13 = nI (m_it (a_L A) (a_K A) rt rs i (o + 1)).1 ∧ g2 0 14 = nI (m_it (a_L A) (a_K A) rt rs i (o + 1)).2.1 ∧ g2 0 15 = nI (m_it (a_L A) (a_K A) rt rs i (o + 1)).2.2 ∧ g2 0 16 = k_g (a_K A) + nI (o + 1) := by
  have hd1 := d_R_scr hA hd hs
  obtain ⟨g2, a1, a2, a3, a4, a5, a6, a7⟩ := d_goes (b := 0) (gv := k_g (a_K A) + nI o) (r := rt o) (n := rs o) (by decide) hA.1 hA.2.1 hi hr hn (m_it_in (rt := rt) (rs := rs) hA.1 hA.2.1 hi o) hd1.1 hd1.2.1 e1 e2 e3 e4
  exact ⟨g2, a1, hs.tr ⟨a6, a7⟩, a2, a3, a4, by rw [a5, show k_g (a_K A) + nI (o + 1) = k_g (a_K A) + (nI o + 1) by rw [nI_1], Int32.add_assoc]⟩
theorem d_pick0 {A : m_A} {g : z_G} {i : Nat} (rt rs : Nat → Nat) (hA : ok_A A) (hd : d_R A g) (hi : i < l_M (a_L A)) : ∃ g1, s_Mod_picks 0 (nI i) g = some g1 ∧ d_scr g g1 ∧ g1 0 13 = nI (m_it (a_L A) (a_K A) rt rs i 0).1 ∧ g1 0 14 = nI (m_it (a_L A) (a_K A) rt rs i 0).2.1 ∧ g1 0 15 = nI (m_it (a_L A) (a_K A) rt rs i 0).2.2 ∧ g1 0 16 = k_g (a_K A) + nI 0 := by
  obtain ⟨g1, a1, a2, a3, a4, a5, a6, a7⟩ := d_picks (b := 0) (i := i) (by decide) hA.1 hi hd.2.1
  exact ⟨g1, a1, ⟨a6, a7⟩, a2, a3, a4, by rw [a5]; exact (Int32.add_zero _).symm⟩
/-- the class reads, the reference writes its scratch -/
def z_rM (A : m_A) (a : Option Int32) (b : Option (Int32 × z_G)) : Prop := ∃ (v : Int32) (gM : z_G), a = some v ∧ b = some (v, gM) ∧ d_R A gM
theorem z_rM1 {A : m_A} {v : Int32} {gM : z_G} (h : d_R A gM) : z_rM A (some v) (some (v, gM)) := ⟨v, gM, rfl, rfl, h⟩
theorem o_behind {A : m_A} {gC gM : z_G} (h : z_R A gC gM) (x y w : Int32) : z_rM A (s_Top_behind x y w gC) (s_Mod_behind x y w gM) := by
  obtain ⟨hA, hc, hd⟩ := id h
  have hn6 := hA.2.2.2.2.1.1
  have hM := hA.1.2.2.2.1
  unfold s_Top_behind s_Mod_behind s_Top_behind_b32 s_Mod_behind_b37
  have e47 : z_rd gM 1 47 = nI (a_n A) := by rw [show (47 : Int32) = nI 47 from rfl, q_rd (by decide)]; exact hd.2.2.2.2.1.1
  rw [(q_isMan h y).1, e47, hc.2.2.2.2.1.1, show s_Mod_in (Int32.toInt64 w) 0 2 = s_Top_isWithin w 0 2 from q_in w 0 2, show s_Mod_in (Int32.toInt64 x) 0 (Int32.toInt64 (nI (a_n A))) = s_Top_isWithin x 0 (nI (a_n A)) from q_in x 0 _]
  by_cases h0 : s_Top_isWithin x 0 (nI (a_n A)) = 0
  · rw [if_pos h0, if_pos h0]; exact z_rM1 hd
  · rw [if_neg h0, if_neg h0]
    rcases (q_isMan h y).2 with h1 | ⟨h1, i, hi, rfl⟩
    · rw [if_pos h1, if_pos h1]; exact z_rM1 hd
    · rw [if_neg h1, if_neg h1]
      by_cases h2 : s_Top_isWithin w 0 2 = 0
      · rw [if_pos h2, if_pos h2]; exact z_rM1 hd
      · rw [if_neg h2, if_neg h2]
        obtain ⟨k, hk, rfl⟩ := q_w0 (by omega) h0
        obtain ⟨j, hj, rfl⟩ := q_w0 (n := 2) (by decide) h2
        have s1 : gC 1 i = nI (m_sp (k_p (a_K A) i)) := (hc.2.1.2.2 i hi).1
        rw [q_ck (by omega) (by decide), q_rd (by omega), s1]
        have kC : ∀ (d fuel o : Nat), d < fuel → o + d = k → s_Top_behind_L48 gC fuel (nI k) (nI i) (nI j) (nI (m_sp (m_it (a_L A) (a_K A) (a_rt A) (a_rs A) i o))) (nI o) = some (s_Ways_partOf (nI (m_sp (m_it (a_L A) (a_K A) (a_rt A) (a_rs A) i k))) (nI j)) := by
          intro d
          induction d with
          | zero =>
            intro fuel o hfu ho
            obtain ⟨q, rfl⟩ : ∃ q, fuel = q + 1 := ⟨fuel - 1, by omega⟩
            rw [s_Top_behind_L48, if_pos (by rw [q_le (by omega) (by omega)]; omega), show o = k by omega]
          | succ d ih =>
            intro fuel o hfu ho
            obtain ⟨q, rfl⟩ : ∃ q, fuel = q + 1 := ⟨fuel - 1, by omega⟩
            have hro := hA.2.2.2.2.1.2 o (by omega)
            rw [s_Top_behind_L48, if_neg (by rw [q_le (by omega) (by omega)]; omega), q_ck (by omega) (by decide), q_ck (by omega) (by decide), q_rd (by omega), q_rd (by omega), (hc.2.2.2.2.1.2 o (by omega)).1, (hc.2.2.2.2.1.2 o (by omega)).2, c_after hA.1 hA.2.1 hi (m_it_in hA.1 hA.2.1 hi o) hro.1 (by omega) hc.1 hc.2.1]
            simp only [Option.bind_some]
            rw [show nI o + 1 = nI (o + 1) from nI_1 o]
            exact ih q (o + 1) (by omega) (by omega)
        have kM : ∀ (d fuel o : Nat) (g1 : z_G), d < fuel → o + d = k → d_scr gM g1 → g1 0 13 = nI (m_it (a_L A) (a_K A) (a_rt A) (a_rs A) i o).1 → g1 0 14 = nI (m_it (a_L A) (a_K A) (a_rt A) (a_rs A) i o).2.1 → g1 0 15 = nI (m_it (a_L A) (a_K A) (a_rt A) (a_rs A) i o).2.2 → g1 0 16 = k_g (a_K A) + nI o → ∃ g2, d_scr gM g2 ∧ s_Mod_behind_L48 fuel (nI k) (nI i) (nI j) (nI o) g1 = some (s_Ways_partOf (nI (m_sp (m_it (a_L A) (a_K A) (a_rt A) (a_rs A) i k))) (nI j), g2) := by
          intro d
          induction d with
          | zero =>
            intro fuel o g1 hfu ho hs e1 e2 e3 e4
            obtain ⟨q, rfl⟩ : ∃ q, fuel = q + 1 := ⟨fuel - 1, by omega⟩
            have hko : o = k := by omega
            subst hko
            have hq := m_it_in (rt := a_rt A) (rs := a_rs A) hA.1 hA.2.1 hi o
            have hp := m_parts hq.1 hq.2.1 hq.2.2
            rw [s_Mod_behind_L48, if_pos (by rw [q_le (by omega) (by omega)]; omega), e1, e2, e3]
            refine ⟨g1, hs, ?_⟩
            unfold s_Ways_partOf m_sp
            rw [hp.1, hp.2.1, hp.2.2.1, hp.2.2.2]
            rcases (show j = 0 ∨ j = 1 ∨ j = 2 by omega) with rfl | rfl | rfl <;> rfl
          | succ d ih =>
            intro fuel o g1 hfu ho hs e1 e2 e3 e4
            obtain ⟨q, rfl⟩ : ∃ q, fuel = q + 1 := ⟨fuel - 1, by omega⟩
            have hro := hA.2.2.2.2.1.2 o (by omega)
            rw [s_Mod_behind_L48, if_neg (by rw [q_le (by omega) (by omega)]; omega), show (48 : Int32) = nI 48 from rfl, show (54 : Int32) = nI 54 from rfl, q_add, q_add, q_ck (by omega) (by decide), q_ck (by omega) (by decide), q_rd (by omega), q_rd (by omega), hs.1 1 (by decide), (hd.2.2.2.2.1.2 o (by omega)).1, (hd.2.2.2.2.1.2 o (by omega)).2, show (0 : Int32) = nI 0 from rfl]
            obtain ⟨g2, a1, a2, a3, a4, a5, a6⟩ := d_more (rt := a_rt A) (rs := a_rs A) (o := o) hA hd hi hro.1 (by omega) hs e1 e2 e3 e4
            rw [a1]
            simp only [Option.bind_some]
            rw [show nI o + 1 = nI (o + 1) from nI_1 o]
            exact ih q (o + 1) g2 (by omega) (by omega) a2 a3 a4 a5 a6
        obtain ⟨g1, a1, a2, a3, a4, a5, a6⟩ := d_pick0 (a_rt A) (a_rs A) hA hd hi
        rw [a1]
        simp only [Option.bind_some]
        obtain ⟨g2, b1, b2⟩ := kM k z_F 0 g1 (by unfold z_F; omega) (by omega) a2 a3 a4 a5 a6
        have b3 := kC k z_F 0 (by unfold z_F; omega) (by omega)
        exact ⟨_, g2, b3, b2, d_R_scr hA hd b1⟩
theorem o_homeward {A : m_A} {gC gM : z_G} (h : z_R A gC gM) (y : Int32) : z_rM A (s_Top_homeward y gC) (s_Mod_homeward y gM) := by
  obtain ⟨hA, hc, hd⟩ := id h
  have hM := hA.1.2.2.2.1
  have hH := hA.1.2.1
  unfold s_Top_homeward s_Mod_homeward
  rw [(q_isMan h y).1]
  rcases (q_isMan h y).2 with h1 | ⟨h1, i, hi, rfl⟩
  · rw [if_pos h1, if_pos h1]; exact z_rM1 hd
  · rw [if_neg h1, if_neg h1]
    have hl4 := (hA.1.2.2.2.2.2.2 i hi).1
    have hcell := hA.1.2.2.2.2.2.1 _ hl4
    have s1 : gC 1 i = nI (m_sp (k_p (a_K A) i)) := (hc.2.1.2.2 i hi).1
    simp only [q_let]
    rw [q_ck (by omega) (by decide), q_ck (by omega) (by decide), show z_rd gC 45 (nI i) = nI (l_l (a_L A) i) from (q_rd (by omega)).trans (hc.1.2.2.2.2 i hi).1, q_ck (by omega) (by decide), q_rd (by omega), q_rd (by omega), hc.1.2.2.2.1 _ hl4, s1, show (11 : Int32) = nI 11 from rfl, q_add, q_ck (by omega) (by decide), q_rd (by omega), (hd.1.2.2.2.2 i hi).1]
    obtain ⟨g1, a1, a2, a3, a4, a5, a6⟩ := d_pick0 (fun _ => 0) (fun _ => 1) hA hd hi
    rw [a1]
    simp only [Option.bind_some]
    have key : ∀ (d fuel o : Nat) (g1 : z_G), d < fuel → o + d = 61 → d_scr gM g1 → g1 0 13 = nI (m_it (a_L A) (a_K A) (fun _ => 0) (fun _ => 1) i o).1 → g1 0 14 = nI (m_it (a_L A) (a_K A) (fun _ => 0) (fun _ => 1) i o).2.1 → g1 0 15 = nI (m_it (a_L A) (a_K A) (fun _ => 0) (fun _ => 1) i o).2.2 → g1 0 16 = k_g (a_K A) + nI o → ∃ v g2, d_scr gM g2 ∧ s_Top_homeward_L41 gC fuel (nI i) (nI (l_c (a_L A) (l_l (a_L A) i))) (nI (m_sp (m_it (a_L A) (a_K A) (fun _ => 0) (fun _ => 1) i o))) (nI o) = some v ∧ s_Mod_homeward_L28 fuel (nI i) (nI (l_l (a_L A) i)) (nI o) g1 = some (v, g2) := by
      intro d
      induction d with
      | zero =>
        intro fuel o g1 hfu ho hs e1 e2 e3 e4
        obtain ⟨q, rfl⟩ : ∃ q, fuel = q + 1 := ⟨fuel - 1, by omega⟩
        have h60 : nI 60 < nI o := by rw [q_lt (by omega) (by omega)]; omega
        rw [s_Top_homeward_L41, s_Mod_homeward_L28, show (60 : Int32) = nI 60 from rfl, if_pos h60, if_pos h60]
        exact ⟨_, g1, hs, rfl, rfl⟩
      | succ d ih =>
        intro fuel o g1 hfu ho hs e1 e2 e3 e4
        obtain ⟨q, rfl⟩ : ∃ q, fuel = q + 1 := ⟨fuel - 1, by omega⟩
        have hq := m_it_in (rt := fun _ => 0) (rs := fun _ => 1) hA.1 hA.2.1 hi o
        have hp := m_parts hq.1 hq.2.1 hq.2.2
        have b1 := hq.1
        have b2 := hq.2.1
        have h60 : ¬ nI 60 < nI o := by rw [q_lt (by omega) (by omega)]; omega
        rw [s_Top_homeward_L41, s_Mod_homeward_L28, show (60 : Int32) = nI 60 from rfl, if_neg h60, if_neg h60, q_ck (by omega) (by decide), show (4 : Int32) = nI 4 from rfl, q_add, q_ck (by omega) (by decide), q_rd (by omega), q_rd (by omega), hs.1 1 (by decide), (hd.1.2.2.2.1 _ hl4).1, (hd.1.2.2.2.1 _ hl4).2, e1, e2]
        have ec : s_Ways_cellOf (nI (m_sp (m_it (a_L A) (a_K A) (fun _ => 0) (fun _ => 1) i o))) = nI (16 * (m_it (a_L A) (a_K A) (fun _ => 0) (fun _ => 1) i o).2.1 + (m_it (a_L A) (a_K A) (fun _ => 0) (fun _ => 1) i o).1) := by unfold m_sp; exact hp.2.1
        rw [ec]
        have nxt : 16 * (m_it (a_L A) (a_K A) (fun _ => 0) (fun _ => 1) i o).2.1 + (m_it (a_L A) (a_K A) (fun _ => 0) (fun _ => 1) i o).1 ≠ l_c (a_L A) (l_l (a_L A) i) → ∃ v g2, d_scr gM g2 ∧ (Option.bind (s_Top_spotAfter (nI i) (nI (m_sp (m_it (a_L A) (a_K A) (fun _ => 0) (fun _ => 1) i o))) 0 1 (nI o) gC) fun r11q => s_Top_homeward_L41 gC q (nI i) (nI (l_c (a_L A) (l_l (a_L A) i))) r11q (nI o + 1)) = some v ∧ s_Mod_homeward_b64 (s_Mod_homeward_L28 q) (nI i) (nI (l_l (a_L A) i)) (nI o) g1 = some (v, g2) := by
          intro _
          have ea : s_Top_spotAfter (nI i) (nI (m_sp (m_it (a_L A) (a_K A) (fun _ => 0) (fun _ => 1) i o))) 0 1 (nI o) gC = some (nI (m_sp (m_it (a_L A) (a_K A) (fun _ => 0) (fun _ => 1) i (o + 1)))) := c_after (r := 0) (n := 1) hA.1 hA.2.1 hi hq (by decide) (by decide) hc.1 hc.2.1
          obtain ⟨g2, c1, c2, c3, c4, c5, c6⟩ := d_more (rt := fun _ => 0) (rs := fun _ => 1) (o := o) hA hd hi (by decide) (by decide) hs e1 e2 e3 e4
          unfold s_Mod_homeward_b64
          have c1b : s_Mod_goes 0 (nI i) 0 1 g1 = some g2 := c1
          rw [ea, c1b]
          simp only [Option.bind_some]
          rw [show nI o + 1 = nI (o + 1) from nI_1 o]
          exact ih q (o + 1) g2 (by omega) (by omega) c2 c3 c4 c5 c6
        by_cases hx : (m_it (a_L A) (a_K A) (fun _ => 0) (fun _ => 1) i o).1 = l_c (a_L A) (l_l (a_L A) i) % 16
        · rw [if_pos (show nI (m_it (a_L A) (a_K A) (fun _ => 0) (fun _ => 1) i o).1 = nI (l_c (a_L A) (l_l (a_L A) i) % 16) by rw [hx])]
          by_cases hy : (m_it (a_L A) (a_K A) (fun _ => 0) (fun _ => 1) i o).2.1 = l_c (a_L A) (l_l (a_L A) i) / 16
          · rw [if_pos (show nI (m_it (a_L A) (a_K A) (fun _ => 0) (fun _ => 1) i o).2.1 = nI (l_c (a_L A) (l_l (a_L A) i) / 16) by rw [hy]), if_pos (by congr 1; omega)]
            exact ⟨_, g1, hs, rfl, rfl⟩
          · rw [if_neg (fun e => hy (q_inj (by omega) (by omega) e)), if_neg (fun e => by have := q_inj (by omega) (by omega) e; omega)]
            exact nxt (by omega)
        · rw [if_neg (fun e => hx (q_inj (by omega) (by omega) e)), if_neg (fun e => by have := q_inj (by omega) (by omega) e; omega)]
          exact nxt (by omega)
    obtain ⟨v, g2, b1, b2, b3⟩ := key 61 z_F 0 g1 (by unfold z_F; omega) (by omega) a2 a3 a4 a5 a6
    exact ⟨v, g2, b2, b3, d_R_scr hA hd b1⟩
