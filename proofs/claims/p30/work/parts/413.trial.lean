/-! ===== strayed, march: a trial column ===== -/
def t_R (A : m_A) (gC gM : z_G) (K : m_K) (gC1 gM1 : z_G) : Prop := ok_K (a_L A) K ∧ c_K (a_L A) K (gC1 3) (gC1 4) (gC1 5) ∧ d_K (a_L A) K 286 (gM1 2) ∧ (∀ k, k ≠ 3 → k ≠ 4 → k ≠ 5 → gC1 k = gC k) ∧ (∀ j, j < 286 → gM1 2 j = gM 2 j) ∧ (∀ k, k ≠ 0 → k ≠ 2 → gM1 k = gM k) ∧ ∀ j, j ≠ 13 → j ≠ 14 → j ≠ 15 → j ≠ 16 → gM1 0 j = gM 0 j
theorem t_end {A : m_A} {gC gM gC1 gM1 : z_G} {K : m_K} (h : z_R A gC gM) (t : t_R A gC gM K gC1 gM1) : z_R A gC1 gM1 := by
  obtain ⟨hA, hc, hd⟩ := h
  refine ⟨hA, c_R_fr hA hc (fun k hk => t.2.2.2.1 k (by unfold z_lc at hk; omega) (by unfold z_lc at hk; omega) (by unfold z_lc at hk; omega)), d_R_fr hA hd (fun j _ _ _ a b c d => t.2.2.2.2.2.2 j a b c d) (fun j _ => by rw [t.2.2.2.2.2.1 1 (by decide) (by decide)]) (fun j hj => t.2.2.2.2.1 j hj) (fun k h1 _ => t.2.2.2.2.2.1 k (by omega) (by omega))⟩
theorem t_init {A : m_A} {gC gM : z_G} (h : z_R A gC gM) : ∃ gM1, s_Mod_copies 0 286 gM = some gM1 ∧ t_R A gC gM (a_K A) (s_Col_copyFrom 1 0 gC) gM1 := by
  obtain ⟨hA, hc, hd⟩ := h
  have hM := hA.1.2.2.2.1
  obtain ⟨gM1, b1, b2, b3, b4⟩ := d_copies (a := 0) (b := 286) (g := gM) (by decide) (by decide) (by decide)
  have hc3 := c_copy (L := a_L A) (K := a_K A) (a := 1) (b := 0) (g := gC) (by decide) hM hc.2.1
  refine ⟨gM1, b1, hA.2.1, hc3.1, d_K_at hM hd.2.1 (fun j hj => b2 j hj), fun k a b c => hc3.2 k (by omega) (by omega) (by omega), fun j hj => b3 j (Or.inl hj), fun k _ h2 => b4 k h2, fun j _ _ _ _ => by rw [b4 0 (by decide)]⟩
theorem t_step {A : m_A} {gC gM gC1 gM1 : z_G} {K : m_K} {r n : Nat} (h : z_R A gC gM) (t : t_R A gC gM K gC1 gM1) (hr : r < 8) (hn : n < 1000) : ∃ gC2 gM2, s_Col_obey 1 (nI r) (nI n) gC1 = some gC2 ∧ s_Mod_orders 286 (nI r) (nI n) gM1 = some gM2 ∧ t_R A gC gM (m_oK (a_L A) K r n) gC2 gM2 := by
  have h1 := t_end h t
  obtain ⟨hA, hc, hd⟩ := id h1
  obtain ⟨gC2, a1, a2, a3⟩ := c_obey (c := 1) (r := r) (n := n) (by decide) hA.1 t.1 hr hn hc.1 t.2.1
  obtain ⟨gM2, b1, b2, b3, b4, b5⟩ := d_orders (b := 286) (r := r) (n := n) (by decide) hA.1 t.1 hr hn hd.1 t.2.2.1
  refine ⟨gC2, gM2, a1, b1, m_oK_ok hA.1 t.1, a2, b2, fun k x y z => ?_, fun j hj => ?_, fun k x y => ?_, fun j x y z w => ?_⟩
  · rw [a3 k (by omega) (by omega)]; exact t.2.2.2.1 k x y z
  · rw [b4 j (Or.inl hj)]; exact t.2.2.2.2.1 j hj
  · rw [b3 k x y]; exact t.2.2.2.2.2.1 k x y
  · rw [b5 j x y z w]; exact t.2.2.2.2.2.2 j x y z w
theorem t_lost {A : m_A} {gC gM gC1 gM1 : z_G} {K : m_K} (h : z_R A gC gM) (t : t_R A gC gM K gC1 gM1) : s_Col_lostMen 1 gC1 = some (nI (m_lost (a_L A) K)) ∧ s_Mod_lost 286 gM1 = some (nI (m_lost (a_L A) K)) := by
  obtain ⟨hA, hc, hd⟩ := t_end h t
  exact ⟨c_lostMen (c := 1) hA.1 t.1 hc.1 t.2.1, d_lost (b := 286) (by decide) hA.1 t.1 hd.1 t.2.2.1⟩
theorem o_strayed {A : m_A} {gC gM : z_G} (h : z_R A gC gM) : z_res (s_Top_strayed gC) (s_Mod_strayed gM) := by
  obtain ⟨hA, hc, hd⟩ := id h
  have hn6 := hA.2.2.2.2.1.1
  have hM := hA.1.2.2.2.1
  have key : ∀ (d fuel o : Nat) (K : m_K) (gC1 gM1 : z_G), d < fuel → o + d = a_n A → t_R A gC gM K gC1 gM1 → z_res (s_Top_strayed_L13 fuel (nI o) gC1) (s_Mod_strayed_L10 fuel (nI o) gM1) := by
    intro d
    induction d with
    | zero =>
      intro fuel o K gC1 gM1 hfu ho t
      obtain ⟨q, rfl⟩ : ∃ q, fuel = q + 1 := ⟨fuel - 1, by omega⟩
      have h1 := t_end h t
      have e51 : gC1 51 2 = nI (a_n A) := h1.2.1.2.2.2.2.1.1
      have e47 : z_rd gM1 1 47 = nI (a_n A) := by rw [show (47 : Int32) = nI 47 from rfl, q_rd (by decide)]; exact h1.2.2.2.2.2.2.1.1
      have hle : nI (a_n A) ≤ nI o := by rw [q_le (by omega) (by omega)]; omega
      rw [s_Top_strayed_L13, s_Mod_strayed_L10, e51, e47, if_pos hle, if_pos hle]
      exact z_same h1
    | succ d ih =>
      intro fuel o K gC1 gM1 hfu ho t
      obtain ⟨q, rfl⟩ : ∃ q, fuel = q + 1 := ⟨fuel - 1, by omega⟩
      have h1 := t_end h t
      have e51 : gC1 51 2 = nI (a_n A) := h1.2.1.2.2.2.2.1.1
      have e47 : z_rd gM1 1 47 = nI (a_n A) := by rw [show (47 : Int32) = nI 47 from rfl, q_rd (by decide)]; exact h1.2.2.2.2.2.2.1.1
      have hle : ¬ nI (a_n A) ≤ nI o := by rw [q_le (by omega) (by omega)]; omega
      have hro := hA.2.2.2.2.1.2 o (by omega)
      have ro := h1.2.1.2.2.2.2.1.2 o (by omega)
      have mo := h1.2.2.2.2.2.2.1.2 o (by omega)
      rw [s_Top_strayed_L13, s_Mod_strayed_L10, e51, e47, if_neg hle, if_neg hle, q_ck (by omega) (by decide), q_ck (by omega) (by decide), show (48 : Int32) = nI 48 from rfl, show (54 : Int32) = nI 54 from rfl, q_add, q_add, q_ck (by omega) (by decide), q_ck (by omega) (by decide), q_rd (by omega), q_rd (by omega), q_rd (by omega), q_rd (by omega), ro.1, ro.2, mo.1, mo.2]
      obtain ⟨gC2, gM2, a1, a2, a3⟩ := t_step (r := a_rt A o) (n := a_rs A o) h t hro.1 (by omega)
      rw [a1, a2]
      simp only [Option.bind_some]
      rw [(t_lost h a3).1, (t_lost h a3).2]
      simp only [Option.bind_some]
      rw [show nI o + 1 = nI (o + 1) from nI_1 o]
      by_cases hz : nI (m_lost (a_L A) (m_oK (a_L A) K (a_rt A o) (a_rs A o))) ≤ 0
      · rw [if_pos hz, if_pos hz]
        exact ih q (o + 1) _ gC2 gM2 (by omega) (by omega) a3
      · rw [if_neg hz, if_neg hz]
        exact z_same (t_end h a3)
  obtain ⟨gM1, b1, t⟩ := t_init h
  unfold s_Top_strayed s_Mod_strayed
  rw [b1]
  simp only [Option.bind_some]
  have fin := key (a_n A) z_F 0 _ _ _ (by unfold z_F; omega) (by omega) t
  rw [show nI 0 = (0 : Int32) from rfl] at fin
  exact fin
/-! march -/
def m_dr (z k : Nat) : Nat := (7919 * z + 6151 * k + 1) * (7919 * z + 6151 * k + 1) % 65521 / 8
theorem q_draw {z k : Nat} (hz : z < 10000) (hk : k < 100) : s_Top_drawOf (nI z) (nI k) = nI (m_dr z k) := by
  unfold s_Top_drawOf m_dr
  simp only [q_let]
  have e1 : (7919 : Int64) = lN 7919 := rfl
  have e2 : (6151 : Int64) = lN 6151 := rfl
  have e3 : (1 : Int64) = lN 1 := rfl
  have e4 : (65521 : Int64) = lN 65521 := rfl
  have e5 : (8 : Int64) = lN 8 := rfl
  have hb : 7919 * z + 6151 * k + 1 < 80000000 := by omega
  rw [e1, e2, e3, e4, e5, nI_l (by omega), nI_l (by omega), lN_mul, lN_mul, lN_add, lN_add, lN_mul]
  generalize 7919 * z + 6151 * k + 1 = a at hb ⊢
  have hsq : a * a < 2 ^ 63 := by
    have h1 : a * a ≤ 80000000 * 80000000 := Nat.mul_le_mul (by omega) (by omega)
    omega
  unfold z_remL
  rw [pk_lRem hsq (by decide) (by decide)]
  have hm : a * a % 65521 < 65521 := Nat.mod_lt _ (by decide)
  rw [pk_lDiv (by omega) (by decide) (by decide), lN_i]
theorem m_dr_lt (z k : Nat) : m_dr z k < 8191 := by
  unfold m_dr
  have hm : (7919 * z + 6151 * k + 1) * (7919 * z + 6151 * k + 1) % 65521 < 65521 := Nat.mod_lt _ (by decide)
  omega
theorem c_any {L : m_L} {K : m_K} {c : Nat} {g : z_G} (hL : ok_L L) (hK : ok_K L K) (hl : c_L L (g 43) (g 44) (g 45) (g 46)) (h : c_K L K (g (3 * c)) (g (3 * c + 1)) (g (3 * c + 2))) : ∃ b, s_Col_isAnybodyAtHome c g = some b := by
  have hM := hL.2.2.2.1
  have key : ∀ (d fuel i : Nat), d < fuel → i + d = l_M L → ∃ b, s_Col_isAnybodyAtHome_L2 c g fuel (nI i) = some b := by
    intro d
    induction d with
    | zero =>
      intro fuel i hfu hi
      obtain ⟨k, rfl⟩ : ∃ k, fuel = k + 1 := ⟨fuel - 1, by omega⟩
      rw [s_Col_isAnybodyAtHome_L2, if_pos (by rw [hl.2.1, q_le (by omega) (by omega)]; omega)]
      exact ⟨_, rfl⟩
    | succ d ih =>
      intro fuel i hfu hi
      obtain ⟨k, rfl⟩ : ∃ k, fuel = k + 1 := ⟨fuel - 1, by omega⟩
      rw [s_Col_isAnybodyAtHome_L2, if_neg (by rw [hl.2.1, q_le (by omega) (by omega)]; omega), c_isHome hL hK (by omega) hl h]
      simp only [Option.bind_some]
      rw [q_b10, show nI i + 1 = nI (i + 1) from nI_1 i]
      by_cases h1 : m_isH L K i = true
      · rw [if_pos h1]; exact ⟨_, rfl⟩
      · rw [if_neg h1]; exact ih k (i + 1) (by omega) (by omega)
  exact key (l_M L) z_F 0 (by unfold z_F; omega) (by omega)
theorem d_homes {L : m_L} {K : m_K} {b : Nat} {g : z_G} (k50 : Int32 → Int32 → Int32 → Int32 → Int32 → z_G → Option (Int32 × z_G)) (hb : b = 286) (hL : ok_L L) (hK : ok_K L K) (hl : d_L L (g 1)) (h : d_K L K b (g 2)) (x1 x2 x3 x5 : Int32) : ∀ (d fuel i : Nat) (x4 : Int32), d < fuel → i + d = l_M L → ∃ y, s_Mod_march_L112 k50 fuel x1 x2 x3 x4 x5 (nI i) g = k50 x1 x2 x3 y (x5 + 1) g := by
  subst hb
  have hM := hL.2.2.2.1
  have em : s_Mod_men g = nI (l_M L) := by unfold s_Mod_men; rw [show (9 : Int32) = nI 9 from rfl, q_rd (by decide)]; exact hl.2.1
  intro d
  induction d with
  | zero =>
    intro fuel i x4 hfu hi
    obtain ⟨k, rfl⟩ : ∃ k, fuel = k + 1 := ⟨fuel - 1, by omega⟩
    rw [s_Mod_march_L112, em, if_pos (by rw [q_le (by omega) (by omega)]; omega)]
    exact ⟨_, rfl⟩
  | succ d ih =>
    intro fuel i x4 hfu hi
    obtain ⟨k, rfl⟩ : ∃ k, fuel = k + 1 := ⟨fuel - 1, by omega⟩
    have e : s_Mod_isHome 286 (nI i) g = _ := d_isHome (b := 286) (by decide) hL hK (show i < l_M L by omega) hl h
    rw [s_Mod_march_L112, em, if_neg (by rw [q_le (by omega) (by omega)]; omega), e]
    simp only [Option.bind_some, s_Mod_march_b140]
    rw [q_b10, show nI i + 1 = nI (i + 1) from nI_1 i]
    by_cases h1 : m_isH L K i = true
    · rw [if_pos h1]; exact ih k (i + 1) _ (by omega) (by omega)
    · rw [if_neg h1]; exact ih k (i + 1) _ (by omega) (by omega)
/-- both answer; what = 0: the same -/
def z_rs2 (w : Int32) (a b : Option (Int32 × z_G)) : Prop := ∃ (v u : Int32) (gC gM : z_G) (A : m_A), a = some (v, gC) ∧ b = some (u, gM) ∧ z_R A gC gM ∧ (w = 0 → v = u)
theorem o_march {A : m_A} {gC gM : z_G} (h : z_R A gC gM) (z n w : Int32) : z_rs2 w (s_Top_march z n w gC) (s_Mod_march z n w gM) := by
  obtain ⟨hA, hc, hd⟩ := id h
  have hM := hA.1.2.2.2.1
  have same : z_rs2 w (some ((-1), gC)) (some ((-1), gM)) := ⟨_, _, _, _, A, rfl, rfl, h, fun _ => rfl⟩
  unfold s_Top_march s_Mod_march s_Top_march_b30 s_Mod_march_b34
  rw [q_in1, show s_Mod_in (Int32.toInt64 z) 0 9999 = s_Top_isWithin z 0 9999 from q_in z 0 9999, show s_Mod_in (Int32.toInt64 n) 1 40 = s_Top_isWithin n 1 40 from q_in n 1 40]
  by_cases h0 : s_Top_isWithin z 0 9999 = 0
  · rw [if_pos h0, if_pos h0]; exact same
  · rw [if_neg h0, if_neg h0]
    by_cases h1 : s_Top_isWithin n 1 40 = 0
    · rw [if_pos h1, if_pos h1]; exact same
    · rw [if_neg h1, if_neg h1]
      by_cases h2 : s_Top_isWithin w 0 1 = 0
      · rw [if_pos h2, if_pos h2]; exact same
      · rw [if_neg h2, if_neg h2]
        obtain ⟨a, ha, rfl⟩ := q_w0 (n := 9999) (by decide) h0
        have hnn : ∃ b, b ≤ 40 ∧ n = nI b := by
          refine q_w0 (n := 40) (by decide) ?_
          rw [q_isW] at h1 ⊢
          intro h3
          apply h1
          by_cases h4 : n < 1 ∨ 40 < n
          · rw [if_pos h4]
          · exfalso
            have h7 : ¬ (n < 0 ∨ 40 < n) := by
              intro h5
              rcases h5 with h6 | h6
              · refine h4 (Or.inl ?_)
                rw [Int32.lt_iff_toInt_lt] at h6 ⊢
                have q0 : (0 : Int32).toInt = 0 := by decide
                have q1 : (1 : Int32).toInt = 1 := by decide
                omega
              · exact h4 (Or.inr h6)
            rw [show nI 40 = (40 : Int32) from rfl, if_neg h7] at h3
            exact absurd h3 (by decide)
        obtain ⟨b, hb, rfl⟩ := hnn
        have key : ∀ (d fuel o : Nat) (K : m_K) (gC1 gM1 : z_G) (p q : Int32), d < fuel → o + d = b → t_R A gC gM K gC1 gM1 → z_rs2 w (s_Top_march_L49 fuel (nI a) (nI b) w p (nI o) gC1) (s_Mod_march_L50 fuel (nI a) (nI b) w q (nI o) gM1) := by
          intro d
          induction d with
          | zero =>
            intro fuel o K gC1 gM1 p q hfu ho t
            obtain ⟨k, rfl⟩ : ∃ k, fuel = k + 1 := ⟨fuel - 1, by omega⟩
            have hle : nI b ≤ nI o := by rw [q_le (by omega) (by omega)]; omega
            rw [s_Top_march_L49, s_Mod_march_L50, if_pos hle, if_pos hle, (t_lost h t).1, (t_lost h t).2]
            simp only [Option.bind_some]
            by_cases hw : w = 0
            · rw [if_pos hw, if_pos hw]; exact ⟨_, _, _, _, A, rfl, rfl, t_end h t, fun _ => rfl⟩
            · rw [if_neg hw, if_neg hw]; exact ⟨_, _, _, _, A, rfl, rfl, t_end h t, fun e => absurd e hw⟩
          | succ d ih =>
            intro fuel o K gC1 gM1 p q hfu ho t
            obtain ⟨k, rfl⟩ : ∃ k, fuel = k + 1 := ⟨fuel - 1, by omega⟩
            have hle : ¬ nI b ≤ nI o := by rw [q_le (by omega) (by omega)]; omega
            have hdr := q_draw (z := a) (k := o) (by omega) (by omega)
            have hdr2 := hdr
            unfold s_Top_drawOf at hdr2
            simp only [q_let] at hdr2
            rw [s_Top_march_L49, s_Mod_march_L50, if_neg hle, if_neg hle]
            simp only [q_let]
            have hlt := m_dr_lt a o
            have e8 : z_rem (nI (m_dr a o)) 8 = nI (m_dr a o % 8) := q_rem (d := 8) (by omega) (by decide) (by decide)
            have e4 : z_rem (nI (m_dr a o) / 8) 4 = nI (m_dr a o / 8 % 4) := by
              rw [show (8 : Int32) = nI 8 from rfl, q_div (by omega) (by decide) (by decide)]
              exact q_rem (d := 4) (by omega) (by decide) (by decide)
            rw [hdr, hdr2, e8, e4]
            obtain ⟨gC2, gM2, a1, a2, a3⟩ := t_step (r := m_dr a o % 8) (n := m_dr a o / 8 % 4) h t (Nat.mod_lt _ (by decide)) (by omega)
            rw [a1, a2]
            simp only [Option.bind_some]
            have h3 := t_end h a3
            obtain ⟨bb, hbb⟩ := c_any (c := 1) h3.1.1 a3.1 h3.2.1.1 a3.2.1
            obtain ⟨y, hy⟩ := d_homes (s_Mod_march_L50 k) rfl h3.1.1 a3.1 h3.2.2.1 a3.2.2.1 (nI a) (nI b) w (nI o) (l_M (a_L A)) z_F 0 q (by unfold z_F; omega) (by omega)
            have hy2 : s_Mod_march_L112 (s_Mod_march_L50 k) z_F (nI a) (nI b) w q (nI o) 0 gM2 = _ := hy
            rw [hbb, hy2]
            simp only [Option.bind_some, s_Top_march_b103]
            rw [show nI o + 1 = nI (o + 1) from nI_1 o]
            by_cases hbz : bb = 0
            · rw [if_pos hbz]; exact ih k (o + 1) _ gC2 gM2 p y (by omega) (by omega) a3
            · rw [if_neg hbz]; exact ih k (o + 1) _ gC2 gM2 (p + 1) y (by omega) (by omega) a3
        obtain ⟨gM1, b1, t⟩ := t_init h
        rw [b1]
        simp only [Option.bind_some]
        exact key b z_F 0 _ _ _ 0 0 (by unfold z_F; omega) (by omega) t
