/-! ===== lean, strays ===== -/
def m_look (K : m_K) (f : Nat) (i : Nat) : Bool := decide ((k_p K i).2.2 = f)
theorem c_look {L : m_L} {K : m_K} {c f : Nat} {g : z_G} (hf : f < 8) (hL : ok_L L) (hK : ok_K L K) (hl : c_L L (g 43) (g 44) (g 45) (g 46)) (h : c_K L K (g (3 * c)) (g (3 * c + 1)) (g (3 * c + 2))) : s_Col_menLooking c (nI f) g = some (nI (m_cn (m_look K f) (l_M L))) := by
  have hM := hL.2.2.2.1
  have key : ∀ (d fuel i : Nat), d < fuel → i + d = l_M L → s_Col_menLooking_L5 c g fuel (nI f) (nI (m_cn (m_look K f) i)) (nI i) = some (nI (m_cn (m_look K f) (l_M L))) := by
    intro d
    induction d with
    | zero =>
      intro fuel i hfu hi
      obtain ⟨k, rfl⟩ : ∃ k, fuel = k + 1 := ⟨fuel - 1, by omega⟩
      rw [s_Col_menLooking_L5, if_pos (by rw [hl.2.1, q_le (by omega) (by omega)]; omega), show i = l_M L by omega]
    | succ d ih =>
      intro fuel i hfu hi
      obtain ⟨k, rfl⟩ : ∃ k, fuel = k + 1 := ⟨fuel - 1, by omega⟩
      have hiM : i < l_M L := by omega
      have ki := (hK.1 i hiM).1
      have e8 : s_Ways_lookOf (nI (m_sp (k_p K i))) = nI (k_p K i).2.2 := (m_parts ki.1 ki.2.1 ki.2.2).1
      rw [s_Col_menLooking_L5, if_neg (by rw [hl.2.1, q_le (by omega) (by omega)]; omega), q_ck (by omega) (by decide), q_rd (by omega), (h.2.2 i hiM).1, e8]
      simp only [s_Col_menLooking_b34, q_let]
      rw [show nI i + 1 = nI (i + 1) from nI_1 i]
      have e := ih k (i + 1) (by omega) (by omega)
      have e2 : m_cn (m_look K f) (i + 1) = m_cn (m_look K f) i + (if m_look K f i = true then 1 else 0) := rfl
      have k8 := ki.2.2
      by_cases h1 : (k_p K i).2.2 = f
      · have h2 : m_look K f i = true := decide_eq_true h1
        rw [if_pos h2] at e2
        rw [if_pos (by rw [h1]), show s_Top_asNumber 1 = nI 1 from rfl, q_add, ← e2]
        exact e
      · have h2 : ¬ m_look K f i = true := fun h3 => h1 (of_decide_eq_true h3)
        rw [if_neg h2] at e2
        rw [if_neg (fun h3 => h1 (q_inj (by omega) (by omega) h3)), show s_Top_asNumber 0 = nI 0 from rfl, q_add, ← e2]
        exact e
  have fin := key (l_M L) z_F 0 (by unfold z_F; omega) (by omega)
  unfold s_Col_menLooking
  exact fin
theorem d_look {L : m_L} {K : m_K} {f : Nat} {g : z_G} (k19 : Int32 → Int32 → Int32 → Int32 → Option (Int32)) (x1 x2 x3 : Int32) (hf : f < 8) (hL : ok_L L) (hK : ok_K L K) (hl : d_L L (g 1)) (h : d_K L K 0 (g 2)) : ∀ (d fuel i : Nat), d < fuel → i + d = l_M L → s_Mod_lean_L32 g k19 fuel x1 x2 x3 (nI f) (nI (m_cn (m_look K f) i)) (nI i) = if nI (m_cn (m_look K f) (l_M L)) ≤ x3 then k19 x1 x2 x3 (nI (f + 1)) else k19 x1 (nI f) (nI (m_cn (m_look K f) (l_M L))) (nI (f + 1)) := by
  have hM := hL.2.2.2.1
  have em : s_Mod_men g = nI (l_M L) := by unfold s_Mod_men; rw [show (9 : Int32) = nI 9 from rfl, q_rd (by decide)]; exact hl.2.1
  intro d
  induction d with
  | zero =>
    intro fuel i hfu hi
    obtain ⟨k, rfl⟩ : ∃ k, fuel = k + 1 := ⟨fuel - 1, by omega⟩
    rw [s_Mod_lean_L32, em, if_pos (by rw [q_le (by omega) (by omega)]; omega), show i = l_M L by omega]
    simp only [s_Mod_lean_b84, q_let, s_Mod_larger]
    rw [show nI f + 1 = nI (f + 1) from nI_1 f]
    by_cases h1 : nI (m_cn (m_look K f) (l_M L)) ≤ x3
    · rw [if_pos h1, if_pos h1, if_pos h1]
    · rw [if_neg h1, if_neg h1, if_neg h1]
  | succ d ih =>
    intro fuel i hfu hi
    obtain ⟨k, rfl⟩ : ∃ k, fuel = k + 1 := ⟨fuel - 1, by omega⟩
    have hiM : i < l_M L := by omega
    have ki := (hK.1 i hiM).1
    have e12 : g 2 (12 + i) = nI (k_p K i).2.2 := by
      have := (h.1 i hiM).2.2.1
      rw [Nat.zero_add] at this
      exact this
    rw [s_Mod_lean_L32, em, if_neg (by rw [q_le (by omega) (by omega)]; omega), show (12 : Int32) = nI 12 from rfl, q_add, q_ck (by omega) (by decide), q_rd (by omega), e12]
    simp only [s_Mod_lean_b63]
    rw [show nI i + 1 = nI (i + 1) from nI_1 i]
    have e := ih k (i + 1) (by omega) (by omega)
    have e2 : m_cn (m_look K f) (i + 1) = m_cn (m_look K f) i + (if m_look K f i = true then 1 else 0) := rfl
    have k8 := ki.2.2
    by_cases h1 : (k_p K i).2.2 = f
    · have h2 : m_look K f i = true := decide_eq_true h1
      rw [if_pos h2] at e2
      rw [if_pos (by rw [h1]), show (1 : Int32) = nI 1 from rfl, q_add, ← e2]
      exact e
    · have h2 : ¬ m_look K f i = true := fun h3 => h1 (of_decide_eq_true h3)
      rw [if_neg h2] at e2
      rw [if_neg (fun h3 => h1 (q_inj (by omega) (by omega) h3)), show (0 : Int32) = nI 0 from rfl, q_add, ← e2]
      exact e
theorem o_lean {A : m_A} {gC gM : z_G} (h : z_R A gC gM) (w : Int32) : z_eqr (s_Top_lean w gC) (s_Mod_lean w gM) := by
  obtain ⟨hA, hc, hd⟩ := id h
  have hM := hA.1.2.2.2.1
  unfold s_Top_lean s_Mod_lean
  rw [q_in1]
  by_cases h0 : s_Top_isWithin w 0 1 = 0
  · rw [if_pos h0, if_pos h0]; exact z_eqr1
  · rw [if_neg h0, if_neg h0]
    have key : ∀ (d fuel f : Nat) (x2 x3 : Int32), d < fuel → f + d = 8 → z_eqr (s_Top_lean_L18 gC fuel w x2 x3 (nI f)) (s_Mod_lean_L19 gM fuel w x2 x3 (nI f)) := by
      intro d
      induction d with
      | zero =>
        intro fuel f x2 x3 hfu hf
        obtain ⟨k, rfl⟩ : ∃ k, fuel = k + 1 := ⟨fuel - 1, by omega⟩
        have hle : (8 : Int32) ≤ nI f := by rw [show (8 : Int32) = nI 8 from rfl, q_le (by omega) (by omega)]; omega
        rw [s_Top_lean_L18, s_Mod_lean_L19, if_pos hle, if_pos hle]
        by_cases hw : w = 0
        · rw [if_pos hw]; exact z_eqr1
        · rw [if_neg hw]; exact z_eqr1
      | succ d ih =>
        intro fuel f x2 x3 hfu hf
        obtain ⟨k, rfl⟩ : ∃ k, fuel = k + 1 := ⟨fuel - 1, by omega⟩
        have hle : ¬ (8 : Int32) ≤ nI f := by rw [show (8 : Int32) = nI 8 from rfl, q_le (by omega) (by omega)]; omega
        have eC : s_Col_menLooking 0 (nI f) gC = _ := c_look (c := 0) (f := f) (by omega) hA.1 hA.2.1 hc.1 hc.2.1
        have eM := d_look (f := f) (s_Mod_lean_L19 gM k) w x2 x3 (by omega) hA.1 hA.2.1 hd.1 hd.2.1 (l_M (a_L A)) z_F 0 (by unfold z_F; omega) (by omega)
        have e0 : nI (m_cn (m_look (a_K A) f) 0) = 0 := rfl
        have e00 : nI 0 = (0 : Int32) := rfl
        rw [e0, e00] at eM
        rw [s_Top_lean_L18, s_Mod_lean_L19, if_neg hle, if_neg hle, eC, eM]
        simp only [Option.bind_some, s_Top_lean_b52]
        rw [show nI f + 1 = nI (f + 1) from nI_1 f]
        by_cases h1 : nI (m_cn (m_look (a_K A) f) (l_M (a_L A))) ≤ x3
        · rw [if_pos h1, if_pos h1]; exact ih k (f + 1) x2 x3 (by omega) (by omega)
        · rw [if_neg h1, if_neg h1]; exact ih k (f + 1) _ _ (by omega) (by omega)
    have fin := key 8 z_F 0 0 0 (by unfold z_F; omega) (by omega)
    rw [show nI 0 = (0 : Int32) from rfl] at fin
    exact fin
/-! strays -/
theorem m_ord0 {q : Nat × Nat × Nat} (h : m_in q) : m_ord q.1 q.2.1 q.2.2 0 0 = q := by
  obtain ⟨x, y, f⟩ := q
  have hf : f < 8 := h.2.2
  show ((m_mv ((f + 0) % 8) 0 (x, y)).1, (m_mv ((f + 0) % 8) 0 (x, y)).2, (f + 0) % 8) = (x, y, f)
  rw [Nat.add_zero, Nat.mod_eq_of_lt hf]
  rfl
theorem m_go_xy (q : Nat × Nat × Nat) (pu k : Nat) (p : Bool) : (m_go q pu k p).1 = q.1 ∧ (m_go q pu k p).2.1 = q.2.1 := by
  unfold m_go
  by_cases h : pu = 256
  · simp [h]
  · simp [h]
def m_so (t i : Nat) : Nat := t ||| 2 ^ i
set_option maxRecDepth 20000 in
theorem q_so : ∀ t, t < 64 → ∀ i, i < 6 → (nI t ||| (1 <<< (nI i &&& 31))) = nI (m_so t i) ∧ m_so t i < 64 := by decide +kernel
set_option maxRecDepth 20000 in
theorem q_bits : ∀ t, t < 64 → s_Mod_bits (nI t) = some (s_Int_bitCount (nI t)) := by decide +kernel
theorem o_strays {A : m_A} {gC gM : z_G} (h : z_R A gC gM) (w : Int32) : z_rM A (s_Top_strays w gC) (s_Mod_strays w gM) := by
  obtain ⟨hA, hc, hd⟩ := id h
  have hM := hA.1.2.2.2.1
  unfold s_Top_strays s_Mod_strays
  rw [q_in1]
  by_cases h0 : s_Top_isWithin w 0 1 = 0
  · rw [if_pos h0, if_pos h0]; exact z_rM1 hd
  · rw [if_neg h0, if_neg h0]
    have key : ∀ (d fuel i t : Nat) (g1 : z_G), d < fuel → i + d = l_M (a_L A) → t < 64 → d_R A g1 → z_rM A (s_Top_strays_L15 gC fuel w (nI t) (nI i)) (s_Mod_strays_L16 fuel w (nI t) (nI i) g1) := by
      intro d
      induction d with
      | zero =>
        intro fuel i t g1 hfu hi ht hd1
        obtain ⟨k, rfl⟩ : ∃ k, fuel = k + 1 := ⟨fuel - 1, by omega⟩
        have em : s_Mod_men g1 = nI (l_M (a_L A)) := by unfold s_Mod_men; rw [show (9 : Int32) = nI 9 from rfl, q_rd (by decide)]; exact hd1.1.2.1
        have hle : nI (l_M (a_L A)) ≤ nI i := by rw [q_le (by omega) (by omega)]; omega
        rw [s_Top_strays_L15, s_Mod_strays_L16, hc.1.2.1, em, if_pos hle, if_pos hle]
        by_cases hw : w = 0
        · rw [if_pos hw, if_pos hw, q_bits t ht]; exact z_rM1 hd1
        · rw [if_neg hw, if_neg hw]; exact z_rM1 hd1
      | succ d ih =>
        intro fuel i t g1 hfu hi ht hd1
        obtain ⟨k, rfl⟩ : ∃ k, fuel = k + 1 := ⟨fuel - 1, by omega⟩
        have hiM : i < l_M (a_L A) := by omega
        have em : s_Mod_men g1 = nI (l_M (a_L A)) := by unfold s_Mod_men; rw [show (9 : Int32) = nI 9 from rfl, q_rd (by decide)]; exact hd1.1.2.1
        have hle : ¬ nI (l_M (a_L A)) ≤ nI i := by rw [q_le (by omega) (by omega)]; omega
        have eC : s_Col_pullOn 0 (nI i) gC = _ := c_pullOn (c := 0) hA.1 hA.2.1 hiM hc.1 hc.2.1
        have ki := (hA.2.1.1 i hiM).1
        have k5 := (hA.1.2.2.2.2.2.2 i hiM).2
        have s1 : gC 1 i = nI (m_sp (k_p (a_K A) i)) := (hc.2.1.2.2 i hiM).1
        have s46 : gC 46 i = nI (l_k (a_L A) i) := (hc.1.2.2.2.2 i hiM).2
        have s03 : gC 0 3 = k_g (a_K A) := hc.2.1.2.1
        obtain ⟨g2, a1, a2, a3, a4, a5, a6, a7⟩ := d_picks (b := 0) (i := i) (by decide) hA.1 hiM hd1.2.1
        have hd2 : d_R A g2 := d_R_scr hA hd1 ⟨a6, a7⟩
        obtain ⟨g3, b1, b2, b3, b4, b5, b6, b7⟩ := d_goes (b := 0) (r := 0) (n := 0) (by decide) hA.1 hA.2.1 hiM (by decide) (by decide) ki hd2.1 hd2.2.1 a2 a3 a4 a5
        have hd3 : d_R A g3 := d_R_scr hA hd2 ⟨b6, b7⟩
        have e00 : nI 0 = (0 : Int32) := rfl
        rw [e00] at a1 b1
        rw [m_ord0 ki] at b4
        have e12 : g3 2 (12 + i) = nI (k_p (a_K A) i).2.2 := by
          have := (hd3.2.1.1 i hiM).2.2.1
          rw [Nat.zero_add] at this
          exact this
        have mi := m_go_in (k := l_k (a_L A) i) (p := q_par (k_g (a_K A) + 1)) ki (m_pu_le hA.1 hA.2.1 hiM) k5
        have mxy := m_go_xy (k_p (a_K A) i) (m_pu (a_L A) (a_K A) i) (l_k (a_L A) i) (q_par (k_g (a_K A) + 1))
        rw [s_Top_strays_L15, s_Mod_strays_L16, hc.1.2.1, em, if_neg hle, if_neg hle, q_ck (by omega) (by decide), eC, a1]
        simp only [Option.bind_some, s_Top_strays_b83, s_Mod_strays_b62, q_let]
        rw [b1]
        simp only [Option.bind_some]
        rw [q_ck (by omega) (by decide), q_rd (by omega), q_rd (by omega), s1, s46, s03, m_haltedP ki (m_pu_le hA.1 hA.2.1 hiM) k5, show (12 : Int32) = nI 12 from rfl, q_add, q_ck (by omega) (by decide), q_rd (by omega), e12, b4, show nI i + 1 = nI (i + 1) from nI_1 i, (q_so t ht i (by omega)).1]
        generalize m_go (k_p (a_K A) i) (m_pu (a_L A) (a_K A) i) (l_k (a_L A) i) (q_par (k_g (a_K A) + 1)) = z at mi mxy ⊢
        have l1 := m_sp_lt mi
        have l2 := m_sp_lt ki
        have l3 := mi.2.2
        have l4 := ki.2.2
        by_cases h1 : z.2.2 = (k_p (a_K A) i).2.2
        · have h2 : m_sp z = m_sp (k_p (a_K A) i) := by unfold m_sp; rw [mxy.1, mxy.2, h1]
          rw [if_pos (by rw [h2]), if_pos (by rw [h1]), show nI t ||| (0 : Int32) = nI t from Int32.or_zero]
          exact ih k (i + 1) t g3 (by omega) (by omega) ht hd3
        · have h2 : m_sp z ≠ m_sp (k_p (a_K A) i) := by unfold m_sp; rw [mxy.1, mxy.2]; omega
          rw [if_neg (fun e => h2 (q_inj (by omega) (by omega) e)), if_neg (fun e => h1 (q_inj (by omega) (by omega) e))]
          exact ih k (i + 1) _ g3 (by omega) (by omega) (q_so t ht i (by omega)).2 hd3
    have fin := key (l_M (a_L A)) z_F 0 0 gM (by unfold z_F; omega) (by omega) (by decide) hd
    rw [show nI 0 = (0 : Int32) from rfl] at fin
    exact fin
