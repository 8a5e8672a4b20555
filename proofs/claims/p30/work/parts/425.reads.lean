/-! ===== the whole text, both ways ===== -/
theorem m_ch_le {T : Nat} {tx : Nat → Nat} : ∀ (rs : List (Int32 × Int32)) (e : Nat) (vs : List Nat) (e2 : Nat), e ≤ T → m_ch T tx rs (some e) = some (vs, e2) → e2 ≤ T := by
  intro rs
  induction rs with
  | nil =>
    intro e vs e2 he h
    have h2 : some (([] : List Nat), e) = some (vs, e2) := h
    have h3 := congrArg Prod.snd (Option.some.inj h2)
    simp only at h3
    omega
  | cons r rs ih =>
    intro e vs e2 he h
    cases hm : m_mr T tx r.1 r.2 (some e) with
    | none => rw [m_ch_n hm] at h; exact absurd h (by simp)
    | some ve =>
      obtain ⟨v, e1⟩ := ve
      have h1 := m_mr_le hm
      rw [m_ch_s hm] at h
      cases hs : m_ch T tx rs (some e1) with
      | none => rw [hs] at h; exact absurd h (by simp)
      | some wq =>
        obtain ⟨ws, q⟩ := wq
        rw [hs] at h
        have h3 := congrArg Prod.snd (Option.some.inj h)
        have := ih e1 ws q h1 hs
        simp only at h3
        omega
theorem y_it_le {B B2 : m_B} {T p e : Nat} {tx : Nat → Nat} (h : y_it B T tx p = some (B2, e)) : e ≤ T := by
  cases hk : k_rr B (tx p) with
  | none => rw [y_it_n hk] at h; exact absurd h (by simp)
  | some rr =>
    obtain ⟨r, rs⟩ := rr
    cases ha : m_al3 T tx r rs (p + 1) with
    | none => rw [y_it_n2 hk ha] at h; exact absurd h (by simp)
    | some ve =>
      obtain ⟨vs, e2⟩ := ve
      rw [y_it_s hk ha] at h
      have h3 := congrArg Prod.snd (Option.some.inj h)
      simp only at h3
      subst h3
      cases hn : m_nr T tx r.1 r.2 (p + 1) with
      | none => rw [m_a3n hn] at ha; exact absurd ha (by simp)
      | some ve =>
        obtain ⟨v, e1⟩ := ve
        rw [m_a3s hn] at ha
        cases hs : m_ch T tx rs (some e1) with
        | none => rw [hs] at ha; exact absurd ha (by simp)
        | some wq =>
          obtain ⟨ws, q⟩ := wq
          rw [hs] at ha
          have h4 := congrArg Prod.snd (Option.some.inj ha)
          have := m_ch_le rs e1 ws q (m_nr_le hn) hs
          simp only at h4
          omega
/-- the reference's frame over the whole reading -/
def d_fj (g g2 : z_G) : Prop := (∀ k, 2 ≤ k → g2 k = g k) ∧ (∀ j, j ≠ 6 → j ≠ 7 → j ≠ 8 → g2 0 j = g 0 j) ∧ ∀ j, j < 60 → g2 1 j = g 1 j
theorem d_fj.rf (g : z_G) : d_fj g g := ⟨fun _ _ => rfl, fun _ _ _ _ => rfl, fun _ _ => rfl⟩
theorem d_fj.tr {g g2 g3 : z_G} (h : d_fj g g2) (h2 : d_fj g2 g3) : d_fj g g3 := ⟨fun k hk => (h2.1 k hk).trans (h.1 k hk), fun j a b c => (h2.2.1 j a b c).trans (h.2.1 j a b c), fun j hj => (h2.2.2 j hj).trans (h.2.2 j hj)⟩
theorem d_fi.fj {g g2 : z_G} (h : d_fi g g2) : d_fj g g2 := ⟨h.1, fun j a _ c => h.2.1 j a c, h.2.2⟩
theorem d_fj0 {g g2 : z_G} {j : Nat} {v : Int32} (h : d_fj g g2) (hj : j = 6 ∨ j = 7 ∨ j = 8) : d_fj g (z_up g2 0 j v) := ⟨fun k hk => by rw [up_c (by omega)]; exact h.1 k hk, fun i a b c => by rw [up_n (by omega)]; exact h.2.1 i a b c, fun i hi => by rw [up_c (by decide)]; exact h.2.2 i hi⟩
theorem d_fj1 {g g2 : z_G} {j : Nat} {v : Int32} (h : d_fj g g2) (hj : 60 ≤ j) : d_fj g (z_up g2 1 j v) := ⟨fun k hk => by rw [up_c (by omega)]; exact h.1 k hk, fun i a b c => by rw [up_c (by decide)]; exact h.2.1 i a b c, fun i hi => by rw [up_n (by omega)]; exact h.2.2 i hi⟩
theorem d_tx_fj {T : Nat} {tx : Nat → Nat} {g g2 : z_G} (h : d_tx T tx (g 0 4) (g 3)) (e : d_fj g g2) : d_tx T tx (g2 0 4) (g2 3) := by
  rw [e.1 3 (by decide), e.2.1 4 (by decide) (by decide) (by decide)]; exact h
theorem c_tx_fi {T : Nat} {tx : Nat → Nat} {g g2 : z_G} (h : c_tx T tx (g 39) (g 40)) (e : c_fi g g2) : c_tx T tx (g2 39) (g2 40) := by
  rw [e 39 (by decide), e 40 (by decide)]; exact h
theorem d_wrong (f : Nat) (g : z_G) : ∃ g2, s_Mod_reads_b105 (s_Mod_reads_L42 (f + 1)) g = some (0, g2) ∧ d_fj g g2 ∧ g2 0 7 = g 0 7 := by
  have b126 : ∀ g1 : z_G, g1 0 8 = 1 → s_Mod_reads_L42 (f + 1) g1 = some (0, g1) := by
    intro g1 h
    rw [s_Mod_reads_L42]
    unfold s_Mod_reads_b126
    rw [h, if_neg (show ¬ (1 : Int32) = 0 by decide), if_neg (show ¬ (1 : Int32) = 0 by decide), ite_self]
  unfold s_Mod_reads_b105 s_Mod_reads_b110
  rw [q_ckt (show z_bit 1 = true from rfl)]
  simp only [q_let]
  rw [b126 _ (by rw [up_n (by decide), up_s])]
  exact ⟨_, rfl, d_fj0 (d_fj0 (d_fj.rf g) (by decide)) (by decide), by rw [up_n (by decide), up_n (by decide)]⟩
def r_rd (v : Int32) (gC : z_G) (w : Int32) (gM : z_G) : Prop := (v = -4 ∧ w = 1 ∧ ∃ B, ok_B B ∧ c_B B gC ∧ d_B B (gM 1)) ∨ ∃ q, q < 200 ∧ v = nI q ∧ w = 0 ∧ gM 0 7 = nI q
theorem z_loop {T : Nat} {tx : Nat → Nat} (ht : ok_tx T tx) : ∀ (n p c fC fM : Nat) (B : m_B) (gC gM : z_G), T - p < n → n ≤ fC → n ≤ fM → p ≤ T → c ≤ p → ok_B B → c_B B gC → d_B B (gM 1) → c_tx T tx (gC 39) (gC 40) → d_tx T tx (gM 0 4) (gM 3) → gM 0 6 = nI p → gM 0 8 = 0 → ∃ v gC2 w gM2, s_Read_readAll_40_L37 fC (nI T) (nI p) (nI c) gC = some (v, gC2) ∧ s_Mod_reads_L42 fM gM = some (w, gM2) ∧ c_fi gC gC2 ∧ d_fj gM gM2 ∧ r_rd v gC2 w gM2 := by
  have hT := ht.1
  intro n
  induction n with
  | zero => intro p c fC fM B gC gM h; exact absurd h (by omega)
  | succ n ih =>
    intro p c fC fM B gC gM hn hfC hfM hp hcp hB hc hd hct hdt h6 h8
    obtain ⟨fC, rfl⟩ : ∃ k, fC = k + 1 := ⟨fC - 1, by omega⟩
    obtain ⟨fM, rfl⟩ : ∃ k, fM = k + 1 := ⟨fM - 1, by omega⟩
    by_cases hpT : p < T
    · obtain ⟨v, gC2, a1, a2, a3⟩ := c_item hB hc ht hct hpT
      have f1 : d_fj gM (z_up (z_up gM 0 7 (nI p)) 0 6 (nI (p + 1))) := d_fj0 (d_fj0 (d_fj.rf gM) (by decide)) (by decide)
      obtain ⟨gM2, b1, b2, b3⟩ := d_item (g := z_up (z_up gM 0 7 (nI p)) 0 6 (nI (p + 1))) hB (by rw [up_c (by decide), up_c (by decide)]; exact hd) ht (d_tx_fj hdt f1) hpT up_s (by rw [up_n (by decide), up_n (by decide)]; exact h8)
      have f2 := f1.tr b2.fj
      have e7 : gM2 0 7 = nI p := by rw [b2.2.1 7 (by decide) (by decide), up_n (by decide), up_s]
      have eC : s_Read_readAll_40_L37 (fC + 1) (nI T) (nI p) (nI c) gC = if v = -1 then some (nI p, gC2) else s_Read_readAll_40_L37 fC (nI T) v (nI (c + 1)) gC2 := by
        rw [s_Read_readAll_40_L37, if_neg (by rw [show (200 : Int32) = nI 200 from rfl, q_le (by omega) (by omega)]; omega), if_neg (by rw [q_le (by omega) (by omega)]; omega), a1, show nI c + 1 = nI (c + 1) from nI_1 c]
        simp only [Option.bind_some]
      have eM : s_Mod_reads_L42 (fM + 1) gM = if gM2 0 8 = 0 then (s_Mod_next gM2).bind (fun r31q => if r31q = 59 then s_Mod_reads_b110 (s_Mod_reads_L42 fM) 0 gM2 else s_Mod_reads_b105 (s_Mod_reads_L42 fM) gM2) else s_Mod_reads_b105 (s_Mod_reads_L42 fM) gM2 := by
        rw [s_Mod_reads_L42, hdt.1, h6, if_neg (by rw [q_le (by omega) (by omega)]; omega), h8, if_pos (show (0 : Int32) = 0 from rfl)]
        simp only [q_let]
        rw [d_next (T := T) (p := p) (tx := tx) hT (by omega) (by rw [up_n (by decide), up_c (by decide)]; exact hdt) (by rw [up_n (by decide)]; exact h6), if_pos hpT]
        simp only [Option.bind_some]
        rw [up_n (show 6 ≠ 7 by decide), h6, show nI p + 1 = nI (p + 1) from nI_1 p, b1]
        simp only [Option.bind_some]
      rw [eC, eM]
      obtain ⟨fM, rfl⟩ : ∃ k, fM = k + 1 := ⟨fM - 1, by omega⟩
      obtain ⟨g3, w1, w2, w3⟩ := d_wrong fM gM2
      rcases a3 with ⟨B2, e, i1, i2, i3, i4, i5, i6, i7⟩ | ⟨i1, i2⟩
      · rw [i1] at b3
        have hne : ¬ v = -1 := by
          rw [i4]
          intro e9
          have := congrArg Int32.toInt e9
          rw [nI_toInt (by omega)] at this
          have h10 : ((e + 1 : Nat) : Int) = -1 := this
          omega
        rw [if_neg hne, i4, b3.1, if_pos (show (0 : Int32) = 0 from rfl), d_next hT (by omega) (d_tx_fj hdt f2) b3.2.1, if_pos i2]
        simp only [Option.bind_some]
        rw [if_pos (show nI (tx e) = 59 by rw [i3]; rfl)]
        unfold s_Mod_reads_b110
        rw [q_ckt (show z_bit 0 = true from rfl)]
        simp only [q_let]
        rw [up_n (show 6 ≠ 8 by decide), b3.2.1, show nI e + 1 = nI (e + 1) from nI_1 e]
        have f3 : d_fj gM (z_up (z_up gM2 0 8 0) 0 6 (nI (e + 1))) := d_fj0 (d_fj0 f2 (by decide)) (by decide)
        obtain ⟨v2, gC3, w, gM3, j1, j2, j3, j4, j5⟩ := ih (e + 1) (c + 1) fC (fM + 1) B2 gC2 (z_up (z_up gM2 0 8 0) 0 6 (nI (e + 1))) (by omega) (by omega) (by omega) (by omega) (by omega) i6 i5 (by rw [up_c (by decide), up_c (by decide)]; exact b3.2.2) (c_tx_fi hct a2) (d_tx_fj hdt f3) up_s (by rw [up_n (by decide), up_s])
        exact ⟨v2, gC3, w, gM3, j1, j2, a2.tr j3, f3.tr j4, j5⟩
      · rw [if_pos i1]
        have er : (if gM2 0 8 = 0 then (s_Mod_next gM2).bind (fun r31q => if r31q = 59 then s_Mod_reads_b110 (s_Mod_reads_L42 (fM + 1)) 0 gM2 else s_Mod_reads_b105 (s_Mod_reads_L42 (fM + 1)) gM2) else s_Mod_reads_b105 (s_Mod_reads_L42 (fM + 1)) gM2) = s_Mod_reads_b105 (s_Mod_reads_L42 (fM + 1)) gM2 := by
          cases hit : y_it B T tx p with
          | none =>
            rw [hit] at b3
            have b8 : gM2 0 8 = 1 := b3
            rw [b8, if_neg (show ¬ (1 : Int32) = 0 by decide)]
          | some q =>
            obtain ⟨B2, e⟩ := q
            have hno := i2 B2 e hit
            have hle := y_it_le hit
            rw [hit] at b3
            rw [b3.1, if_pos (show (0 : Int32) = 0 from rfl), d_next hT (by omega) (d_tx_fj hdt f2) b3.2.1]
            simp only [Option.bind_some]
            by_cases he : e < T
            · have := ht.2 e he
              rw [if_pos he, if_neg (show ¬ nI (tx e) = 59 from fun e9 => hno ⟨he, q_inj (b := 59) (by omega) (by decide) e9⟩)]
            · rw [if_neg he, if_neg (show ¬ (-1 : Int32) = 59 by decide)]
        rw [er, w1]
        exact ⟨_, _, _, _, rfl, rfl, a2, f2.tr w2, Or.inr ⟨p, by omega, rfl, rfl, by rw [w3]; exact e7⟩⟩
    · have hpe : p = T := by omega
      subst hpe
      have eC : s_Read_readAll_40_L37 (fC + 1) (nI p) (nI p) (nI c) gC = some (-4, gC) := by
        rw [s_Read_readAll_40_L37]
        unfold s_Read_readAll_40_b76
        rw [if_pos (show nI p ≤ nI p by rw [q_le (by omega) (by omega)]; omega), ite_self]
      have eM : s_Mod_reads_L42 (fM + 1) gM = some (1, gM) := by
        rw [s_Mod_reads_L42, hdt.1, h6, if_pos (by rw [q_le (by omega) (by omega)]; omega)]
        unfold s_Mod_reads_b126
        rw [h8, if_pos (show (0 : Int32) = 0 from rfl)]
      rw [eC, eM]
      exact ⟨_, _, _, _, rfl, rfl, c_fi.rf gC, d_fj.rf gM, Or.inl ⟨rfl, rfl, B, hB, hc, hd⟩⟩
