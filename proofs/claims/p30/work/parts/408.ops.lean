/-! ===== tie, swap, undo, tell, noRow, seen, forget, keep, back, write, wipe ===== -/
def m_tog (t i : Nat) : Nat := if m_ti t i = true then t - 2 ^ i else t + 2 ^ i
set_option maxRecDepth 20000 in
theorem m_togI : ∀ t, t < 64 → ∀ i, i < 6 → (nI t ^^^ ((1 : Int32) <<< (nI i &&& 31))) = nI (m_tog t i) ∧ m_tog t i < 64 := by decide +kernel
set_option maxRecDepth 20000 in
theorem m_bits : ∀ t, t < 64 → s_Mod_bits (nI t) = some (s_Int_bitCount (nI t)) := by decide +kernel
theorem o_tie {A : m_A} {gC gM : z_G} (h : z_R A gC gM) (x b : Int32) : z_res (s_Top_tie x b gC) (s_Mod_tie x b gM) := by
  unfold s_Top_tie s_Mod_tie
  rw [(q_isMan h x).1]
  rcases (q_isMan h x).2 with h0 | ⟨h0, i, hi, rfl⟩
  · rw [if_pos h0, if_pos h0]; exact z_same h
  · rw [if_neg h0, if_neg h0]
    obtain ⟨hA, hc, hd⟩ := id h
    have hM := hA.1.2.2.2.1
    have e1 : s_Col_isTied 0 (nI i) gC = if m_ti (k_t (a_K A)) i = true then 1 else 0 := c_isTied (c := 0) hA.1 hA.2.1 hi hc.2.1
    have e2 : s_Mod_has (z_rd gM 2 24) (nI i) = if m_ti (k_t (a_K A)) i = true then 1 else 0 := by
      rw [show (24 : Int32) = nI 24 from rfl, q_rd (by decide)]
      have e3 : gM 2 24 = nI (k_t (a_K A)) := hd.2.1.2.1
      rw [e3, d_has hA.2.1.2 (by omega)]
    rw [e1, e2]
    by_cases hb : (if m_ti (k_t (a_K A)) i = true then (1 : Int32) else 0) = b
    · rw [if_pos hb, if_pos hb]; exact z_same h
    · rw [if_neg hb, if_neg hb]
      obtain ⟨gC1, gM1, a1, b1, h1⟩ := o_push h
      rw [a1, b1]
      obtain ⟨hA1, hc1, hd1⟩ := id h1
      have t1 : gC1 0 2 = nI (k_t (a_K A)) := hc1.2.1.1
      have t2 : z_rd gM1 2 24 = nI (k_t (a_K A)) := by rw [show (24 : Int32) = nI 24 from rfl, q_rd (by decide)]; exact hd1.2.1.2.1
      have tg := m_togI (k_t (a_K A)) hA.2.1.2 i (by omega)
      have eC : s_Col_changeTie 0 (nI i) gC1 = z_up gC1 0 2 (nI (m_tog (k_t (a_K A)) i)) := by
        unfold s_Col_changeTie
        simp only [q_let]
        show z_up gC1 0 2 (gC1 0 2 ^^^ _) = _
        rw [t1, tg.1]
      simp only [Option.bind_some, q_let]
      rw [eC, t2, tg.1, show (24 : Int32) = nI 24 from rfl, q_wr (by decide), q_rd (by decide), up_s, m_bits _ tg.2]
      simp only [Option.bind_some]
      have e5 : s_Col_tiedMen 0 (z_up gC1 0 2 (nI (m_tog (k_t (a_K A)) i))) = s_Int_bitCount (nI (m_tog (k_t (a_K A)) i)) := by
        unfold s_Col_tiedMen
        show s_Int_bitCount (z_up gC1 0 2 _ 0 2) = _
        rw [up_s]
      rw [e5]
      refine z_same (o_col (K2 := (k_p (a_K A), k_r (a_K A), m_tog (k_t (a_K A)) i, k_g (a_K A))) h1 ⟨hA.2.1.1, tg.2⟩ ⟨up_s, ?_, ?_⟩ ⟨fun j hj => ?_, up_s, ?_⟩ (fun k hk => up_c (by omega)) (fun j _ _ _ _ => by rw [up_c (by decide)]) (fun k _ hk => up_c hk) (fun j hj => up_n (by omega)))
      · rw [up_n (by decide)]; exact hc1.2.1.2.1
      · intro j hj; rw [up_c (by decide), up_c (by decide)]; exact hc1.2.1.2.2 j hj
      · have hj6 : j < 6 := by have : j < l_M (a_L A) := hj; omega
        rw [up_n (by omega), up_n (by omega), up_n (by omega), up_n (by omega)]; exact hd1.2.1.1 j hj
      · rw [up_n (by decide)]; exact hd1.2.1.2.2
theorem o_swap {A : m_A} {gC gM : z_G} (h : z_R A gC gM) (x y : Int32) : z_res (s_Top_swap x y gC) (s_Mod_swap x y gM) := by
  unfold s_Top_swap s_Mod_swap s_Top_swap_b21 s_Mod_swap_b21
  rw [(q_isMan h x).1, (q_isMan h y).1]
  rcases (q_isMan h x).2 with h0 | ⟨h0, i, hi, rfl⟩
  · rw [if_pos h0, if_pos h0]; exact z_same h
  · rw [if_neg h0, if_neg h0]
    rcases (q_isMan h y).2 with h2 | ⟨h2, j, hj, rfl⟩
    · rw [if_pos h2, if_pos h2]; exact z_same h
    · rw [if_neg h2, if_neg h2]
      by_cases hxy : nI i = nI j
      · rw [if_pos hxy, if_pos hxy]; exact z_same h
      · rw [if_neg hxy, if_neg hxy]
        have hij : i ≠ j := fun e => hxy (by rw [e])
        obtain ⟨gC1, gM1, a1, b1, h1⟩ := o_push h
        rw [a1, b1]
        obtain ⟨hA, hc, hd⟩ := id h1
        have hM : l_M (a_L A) ≤ 6 := hA.1.2.2.2.1
        simp only [Option.bind_some, q_let]
        rw [show (18 : Int32) = nI 18 from rfl]
        simp only [q_add]
        rw [q_ck (by omega) (by decide), q_ck (by omega) (by decide), q_ck (by omega) (by decide), q_ck (by omega) (by decide), q_ck (by omega) (by decide)]
        rw [q_ck (by omega) (by decide), q_ck (by omega) (by decide), q_ck (by omega) (by decide), q_ck (by omega) (by decide), q_ck (by omega) (by decide)]
        have r1 : ∀ q, q < l_M (a_L A) → gC1 2 q = nI (k_r (a_K A) q) := fun q hq => (hc.2.1.2.2 q hq).2
        have r2 : ∀ q, q < l_M (a_L A) → gM1 2 (18 + q) = nI (k_r (a_K A) q) := fun q hq => by
          have := (hd.2.1.1 q hq).2.2.2
          rw [show 0 + 18 + q = 18 + q by omega] at this
          exact this
        rw [q_wr (by omega), q_wr (by omega), q_wr (by omega), q_wr (by omega), q_rd (by omega), q_rd (by omega), q_rd (by omega), q_rd (by omega), q_rd (by omega), q_rd (by omega), r1 i hi, r1 j hj, r2 i hi, r2 j hj]
        rw [up_n (by omega), up_s, up_n (by omega), up_s]
        refine z_same (o_col (K2 := (k_p (a_K A), (fun q => if q = j then k_r (a_K A) i else if q = i then k_r (a_K A) j else k_r (a_K A) q), k_t (a_K A), k_g (a_K A))) h1 ⟨fun q hq => ⟨(hA.2.1.1 q hq).1, ?_⟩, hA.2.1.2⟩ ⟨?_, ?_, fun q hq => ⟨?_, ?_⟩⟩ ⟨fun q hq => ?_, ?_, ?_⟩ (fun k hk => by rw [up_c (by omega), up_c (by omega)]) (fun j _ _ _ _ => by rw [up_c (by decide), up_c (by decide)]) (fun k _ hk => by rw [up_c hk, up_c hk]) (fun q hq => by rw [up_n (by omega), up_n (by omega)]))
        · show (if q = j then k_r (a_K A) i else if q = i then k_r (a_K A) j else k_r (a_K A) q) < _
          by_cases h3 : q = j
          · rw [if_pos h3]; exact (hA.2.1.1 i hi).2
          · rw [if_neg h3]
            by_cases h4 : q = i
            · rw [if_pos h4]; exact (hA.2.1.1 j hj).2
            · rw [if_neg h4]; exact (hA.2.1.1 q hq).2
        · rw [up_c (by decide), up_c (by decide)]; exact hc.2.1.1
        · rw [up_c (by decide), up_c (by decide)]; exact hc.2.1.2.1
        · rw [up_c (by decide), up_c (by decide)]; exact (hc.2.1.2.2 q hq).1
        · show _ = nI (if q = j then k_r (a_K A) i else if q = i then k_r (a_K A) j else k_r (a_K A) q)
          by_cases h3 : q = j
          · rw [h3, up_s, if_pos rfl]
          · rw [up_n h3, if_neg h3]
            by_cases h4 : q = i
            · rw [h4, up_s, if_pos rfl]
            · rw [up_n h4, if_neg h4]; exact r1 q hq
        · have hq6 : q < 6 := by have : q < l_M (a_L A) := hq; omega
          have h5 := hd.2.1.1 q hq
          refine ⟨by rw [up_n (by omega), up_n (by omega)]; exact h5.1, by rw [up_n (by omega), up_n (by omega)]; exact h5.2.1, by rw [up_n (by omega), up_n (by omega)]; exact h5.2.2.1, ?_⟩
          show _ = nI (if q = j then k_r (a_K A) i else if q = i then k_r (a_K A) j else k_r (a_K A) q)
          rw [show 0 + 18 + q = 18 + q by omega]
          by_cases h3 : q = j
          · rw [h3, up_s, if_pos rfl]
          · rw [up_n (by omega), if_neg h3]
            by_cases h4 : q = i
            · rw [h4, up_s, if_pos rfl]
            · rw [up_n (by omega), if_neg h4]; exact r2 q hq
        · rw [up_n (by omega), up_n (by omega)]; exact hd.2.1.2.1
        · rw [up_n (by omega), up_n (by omega)]; exact hd.2.1.2.2
/-- the column becomes another one that stands on a pile; the piles' heights change -/
theorem o_undo {A : m_A} {gC gM : z_G} (h : z_R A gC gM) : z_res (s_Top_undo gC) (s_Mod_undo gM) := by
  obtain ⟨hA, hc, hd⟩ := id h
  have hM := hA.1.2.2.2.1
  have hU := hA.2.2.1.1
  obtain ⟨e1, p, hp, hi, hk⟩ := hc.2.2.1
  unfold s_Top_undo s_Mod_undo
  rw [e1, hd.2.2.1.1]
  by_cases h0 : a_U A = 0
  · rw [if_pos (by rw [h0]; rfl), if_pos (by rw [h0]; rfl)]; exact z_same h
  · have hn : ¬ nI (a_U A) = (0 : Int32) := fun e => h0 (q_inj (b := 0) (by omega) (by omega) e)
    rw [if_neg hn, if_neg hn]
    have hpU := hp (a_U A - 1) (by omega)
    have eC : s_Pile_takeInto_61 0 gC = some (s_Col_copyFrom 0 (p (a_U A - 1)) (z_up gC 61 1 (nI (a_U A - 1)))) := by
      unfold s_Pile_takeInto_61
      simp only [q_let]
      rw [e1, show (1 : Int32) = nI 1 from rfl, q_sub (by omega), up_s, q_ck (by omega) (by decide), q_rd (by omega), up_c (by decide), hpU.1, nI_clamp (by omega), q_ckt (by simp; omega)]
    rw [eC]
    simp only [Option.bind_some]
    rw [show (26 : Int32) = nI 26 from rfl, q_mul, show (0 : Int32) = nI 0 from rfl]
    obtain ⟨gM1, b1, b2, b3, b4⟩ := d_copies (a := a_U A * 26) (b := 0) (g := gM) (by omega) (by omega) (by omega)
    rw [b1]
    simp only [Option.bind_some, q_let]
    have hcol := hk (a_U A - 1) (by omega)
    have hc3 := c_copy (L := a_L A) (K := a_un A (a_U A - 1)) (a := 0) (b := p (a_U A - 1)) (g := z_up gC 61 1 (nI (a_U A - 1))) (by omega) hM (by rw [up_c (by omega), up_c (by omega), up_c (by omega)]; exact hcol)
    have f0 : gM1 0 2 = nI (a_U A) := by rw [b4 0 (by decide)]; exact hd.2.2.1.1
    have f1 : ∀ k, 3 ≤ k → k ≠ 61 → s_Col_copyFrom 0 (p (a_U A - 1)) (z_up gC 61 1 (nI (a_U A - 1))) k = gC k := fun k hk2 h61 => by rw [hc3.2 k (by omega) (by omega) (by omega), up_c h61]
    have f61 : s_Col_copyFrom 0 (p (a_U A - 1)) (z_up gC 61 1 (nI (a_U A - 1))) 61 1 = nI (a_U A - 1) := by rw [hc3.2 61 (by decide) (by decide) (by decide), up_s]
    rw [f61, f0, show (1 : Int32) = nI 1 from rfl, q_sub (by omega), up_s]
    refine ⟨_, _, _, (a_L A, a_un A (a_U A - 1), (a_U A - 1, a_un A), A.2.2.2), rfl, rfl, ⟨hA.1, hA.2.2.1.2 _ (by omega), ⟨by show a_U A - 1 ≤ 8; omega, fun j hj => hA.2.2.1.2 j (by have : j < a_U A - 1 := hj; omega)⟩, hA.2.2.2⟩, ⟨?_, hc3.1, ⟨f61, p, fun j hj => ?_, hi, fun j hj => ?_⟩, c_Q_fr hc.2.2.2.1 hA.2.2.2.1.1 (fun k hk2 => f1 k (by unfold z_qc at hk2; omega) (by unfold z_qc at hk2; omega)), ?_, ?_, ?_⟩, ⟨?_, ?_, ⟨up_s, fun j hj => ?_⟩, d_Q_fr hM hd.2.2.2.1 hA.2.2.2.1.1 (by rw [up_n (by decide), b4 0 (by decide)]) (fun j h1 h2 => by rw [up_c (by decide)]; exact b3 j (by omega)), ?_, ?_, ?_⟩⟩
    · rw [f1 43 (by decide) (by decide), f1 44 (by decide) (by decide), f1 45 (by decide) (by decide), f1 46 (by decide) (by decide)]; exact hc.1
    · rw [f1 62 (by decide) (by decide)]; exact hp j hj
    · have hj2 : j < a_U A - 1 := hj
      have h5 := hp j (by omega)
      rw [f1 _ (by omega) (by omega), f1 _ (by omega) (by omega), f1 _ (by omega) (by omega)]; exact hk j (by omega)
    · rw [f1 51 (by decide) (by decide), f1 52 (by decide) (by decide), f1 53 (by decide) (by decide)]; exact hc.2.2.2.2.1
    · rw [f1 57 (by decide) (by decide), f1 58 (by decide) (by decide), f1 59 (by decide) (by decide), f1 60 (by decide) (by decide)]; exact hc.2.2.2.2.2.1
    · rw [f1 39 (by decide) (by decide), f1 40 (by decide) (by decide)]; exact hc.2.2.2.2.2.2
    · rw [up_c (by decide), b4 1 (by decide)]; exact hd.1
    · rw [up_c (by decide)]
      exact d_K_at hM (hd.2.2.1.2 (a_U A - 1) (by omega)) (fun j hj => by rw [b2 j hj, show 26 * (1 + (a_U A - 1)) + j = a_U A * 26 + j by omega])
    · have hj2 : j < a_U A - 1 := hj
      rw [up_c (by decide)]
      exact d_K_fr hM (hd.2.2.1.2 j (by omega)) (fun q h1 h2 => b3 q (by omega))
    · rw [up_c (by decide), b4 1 (by decide)]; exact hd.2.2.2.2.1
    · rw [up_n (by decide), up_c (by decide), up_c (by decide), up_c (by decide), b4 0 (by decide), b4 4 (by decide), b4 5 (by decide), b4 6 (by decide)]; exact hd.2.2.2.2.2.1
    · rw [up_n (by decide), up_c (by decide), b4 0 (by decide), b4 3 (by decide)]; exact hd.2.2.2.2.2.2
