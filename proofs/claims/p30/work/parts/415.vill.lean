/-! ===== villages ===== -/
def m_al (sa sb sc : Nat → Int32) (x y z : Int32) : Nat → Bool
  | 0 => true
  | k + 1 => m_al sa sb sc x y z k && !(decide (sa k = x ∧ sb k = y ∧ ¬ sc k = z))
theorem m_al_no {sa sb sc : Nat → Int32} {x y z : Int32} {k : Nat} (h : m_al sa sb sc x y z k = false) : ∀ n, k ≤ n → m_al sa sb sc x y z n = false := by
  intro n
  induction n with
  | zero => intro hk; have : k = 0 := by omega
            subst this; exact h
  | succ n ih =>
    intro hk
    by_cases h1 : k = n + 1
    · subst h1; exact h
    · have h2 := ih (by omega)
      show (m_al sa sb sc x y z n && _) = false
      rw [h2]; rfl
theorem m_al_y {sa sb sc : Nat → Int32} {x y z : Int32} {k : Nat} (h : ¬ (sa k = x ∧ sb k = y ∧ ¬ sc k = z)) : m_al sa sb sc x y z (k + 1) = m_al sa sb sc x y z k := by
  show (m_al sa sb sc x y z k && !(decide (sa k = x ∧ sb k = y ∧ ¬ sc k = z))) = _
  rw [decide_eq_false h]; simp
theorem m_al_n {sa sb sc : Nat → Int32} {x y z : Int32} {k : Nat} (h : sa k = x ∧ sb k = y ∧ ¬ sc k = z) : m_al sa sb sc x y z (k + 1) = false := by
  show (m_al sa sb sc x y z k && !(decide (sa k = x ∧ sb k = y ∧ ¬ sc k = z))) = _
  rw [decide_eq_true h]; simp
theorem c_allows {A : m_A} {g : z_G} (hA : ok_A A) (hc : c_R A g) (x y z : Int32) : s_Sight_allows x y z g = some (if m_al (a_sa A) (a_sb A) (a_sc A) x y z (a_S A) = true then 1 else 0) := by
  have hS := hA.2.2.2.2.2.1
  have e57 : g 57 3 = nI (a_S A) := hc.2.2.2.2.2.1.1
  have key : ∀ (d fuel k : Nat), d < fuel → k + d = a_S A → m_al (a_sa A) (a_sb A) (a_sc A) x y z k = true → s_Sight_allows_L3 g fuel x y z (nI k) = some (if m_al (a_sa A) (a_sb A) (a_sc A) x y z (a_S A) = true then 1 else 0) := by
    intro d
    induction d with
    | zero =>
      intro fuel k hfu hk hal
      obtain ⟨q, rfl⟩ : ∃ q, fuel = q + 1 := ⟨fuel - 1, by omega⟩
      have hk2 : k = a_S A := by omega
      rw [s_Sight_allows_L3, e57, if_pos (by rw [q_le (by omega) (by omega)]; omega), ← hk2, if_pos hal]
    | succ d ih =>
      intro fuel k hfu hk hal
      obtain ⟨q, rfl⟩ : ∃ q, fuel = q + 1 := ⟨fuel - 1, by omega⟩
      have s := hc.2.2.2.2.2.1.2 k (by omega)
      have n := ih q (k + 1) (by omega) (by omega)
      rw [s_Sight_allows_L3, e57, if_neg (by rw [q_le (by omega) (by omega)]; omega), q_ck (by omega) (by decide), q_ck (by omega) (by decide), q_ck (by omega) (by decide), q_rd (by omega), q_rd (by omega), q_rd (by omega), s.1, s.2.1, s.2.2]
      simp only [s_Sight_allows_b47]
      rw [show nI k + 1 = nI (k + 1) from nI_1 k]
      by_cases h1 : a_sa A k = x
      · rw [if_pos h1]
        by_cases h2 : a_sb A k = y
        · rw [if_pos h2]
          by_cases h3 : a_sc A k = z
          · rw [if_pos h3]
            exact n (by rw [m_al_y (fun e => e.2.2 h3)]; exact hal)
          · rw [if_neg h3, m_al_no (m_al_n ⟨h1, h2, h3⟩) (a_S A) (by omega)]
            rfl
        · rw [if_neg h2]
          exact n (by rw [m_al_y (fun e => h2 e.2.1)]; exact hal)
      · rw [if_neg h1]
        exact n (by rw [m_al_y (fun e => h1 e.1)]; exact hal)
  have fin := key (a_S A) z_F 0 (by unfold z_F; omega) (by omega) rfl
  unfold s_Sight_allows
  exact fin
/-- a man's way if the village at c pulled him (kind 0) -/
def m_vt (A : m_A) (i c : Nat) : Nat → Nat × Nat × Nat
  | 0 => k_p (a_K A) i
  | o + 1 => m_go (m_ord (m_vt A i c o).1 (m_vt A i c o).2.1 (m_vt A i c o).2.2 (a_rt A o) (a_rs A o)) c 0 true
theorem m_vt_in {A : m_A} {i c : Nat} (hA : ok_A A) (hi : i < l_M (a_L A)) (hc : c < 256) : ∀ o, m_in (m_vt A i c o)
  | 0 => (hA.2.1.1 i hi).1
  | o + 1 => m_go_in (m_ord_in (m_vt_in hA hi hc o).1 (m_vt_in hA hi hc o).2.1) (by omega) (by decide)
def m_ft (A : m_A) (i c : Nat) : Nat → Bool
  | 0 => true
  | o + 1 => m_ft A i c o && m_al (a_sa A) (a_sb A) (a_sc A) (nI i) (nI (o + 1)) (nI (m_vt A i c (o + 1)).2.2) (a_S A)
theorem m_ft_no {A : m_A} {i c o : Nat} (h : m_ft A i c o = false) : ∀ n, o ≤ n → m_ft A i c n = false := by
  intro n
  induction n with
  | zero => intro hk; have : o = 0 := by omega
            subst this; exact h
  | succ n ih =>
    intro hk
    by_cases h1 : o = n + 1
    · subst h1; exact h
    · have h2 := ih (by omega)
      show (m_ft A i c n && _) = false
      rw [h2]; rfl
theorem c_fits {A : m_A} {g : z_G} {i c : Nat} (hA : ok_A A) (hc : c_R A g) (hi : i < l_M (a_L A)) (h256 : c < 256) : s_Sight_fits_51 (nI i) (nI (m_sp (k_p (a_K A) i))) (nI c) g = some (if m_ft A i c (a_n A) = true then 1 else 0) := by
  have hn6 := hA.2.2.2.2.1.1
  have hM := hA.1.2.2.2.1
  have e51 : g 51 2 = nI (a_n A) := hc.2.2.2.2.1.1
  have key : ∀ (d fuel o : Nat), d < fuel → o + d = a_n A → m_ft A i c o = true → s_Sight_fits_51_L6 g fuel (nI i) (nI c) (nI (m_sp (m_vt A i c o))) (nI o) = some (if m_ft A i c (a_n A) = true then 1 else 0) := by
    intro d
    induction d with
    | zero =>
      intro fuel o hfu ho hf
      obtain ⟨q, rfl⟩ : ∃ q, fuel = q + 1 := ⟨fuel - 1, by omega⟩
      have ho2 : o = a_n A := by omega
      rw [s_Sight_fits_51_L6, e51, if_pos (by rw [q_le (by omega) (by omega)]; omega), ← ho2, if_pos hf]
    | succ d ih =>
      intro fuel o hfu ho hf
      obtain ⟨q, rfl⟩ : ∃ q, fuel = q + 1 := ⟨fuel - 1, by omega⟩
      have s := hc.2.2.2.2.1.2 o (by omega)
      have hro := hA.2.2.2.2.1.2 o (by omega)
      have ki := m_vt_in (i := i) (c := c) hA hi h256 o
      have kj := m_vt_in (i := i) (c := c) hA hi h256 (o + 1)
      have n := ih q (o + 1) (by omega) (by omega)
      have e : s_Ways_ordered (nI (m_sp (m_vt A i c o))) (nI (a_rt A o)) (nI (a_rs A o)) (nI c) 0 0 = some (nI (m_sp (m_vt A i c (o + 1)))) := by
        have e1 := m_ordered (h := 0) (k := 0) (pu := c) ki hro.1 (show a_rs A o < 1000 by omega) (by omega) (by decide)
        rw [show q_pu c = nI c from if_neg (by omega), show nI 0 = (0 : Int32) from rfl, show q_par 0 = true from rfl] at e1
        exact e1
      have e8 : s_Ways_lookOf (nI (m_sp (m_vt A i c (o + 1)))) = nI (m_vt A i c (o + 1)).2.2 := (m_parts kj.1 kj.2.1 kj.2.2).1
      rw [s_Sight_fits_51_L6, e51, if_neg (by rw [q_le (by omega) (by omega)]; omega), q_ck (by omega) (by decide), q_ck (by omega) (by decide), q_rd (by omega), q_rd (by omega), s.1, s.2, e]
      simp only [Option.bind_some]
      rw [show nI o + 1 = nI (o + 1) from nI_1 o, e8, c_allows hA hc]
      simp only [Option.bind_some]
      rw [q_b10]
      have e2 : m_ft A i c (o + 1) = (m_ft A i c o && m_al (a_sa A) (a_sb A) (a_sc A) (nI i) (nI (o + 1)) (nI (m_vt A i c (o + 1)).2.2) (a_S A)) := rfl
      rw [hf, Bool.true_and] at e2
      by_cases h1 : m_al (a_sa A) (a_sb A) (a_sc A) (nI i) (nI (o + 1)) (nI (m_vt A i c (o + 1)).2.2) (a_S A) = true
      · rw [if_pos h1]
        exact n (by rw [e2]; exact h1)
      · rw [if_neg h1, m_ft_no (o := o + 1) (by rw [e2]; exact Bool.not_eq_true _ ▸ h1) (a_n A) (by omega)]
        rfl
  have fin := key (a_n A) z_F 0 (by unfold z_F; omega) (by omega) rfl
  unfold s_Sight_fits_51
  exact fin
set_option maxRecDepth 20000 in
theorem m_tn0 : ∀ w, w < 9 → ∀ f, f < 8 → ∀ p : Bool, m_tn w f 0 p = m_tn w f 0 true := by decide +kernel
theorem d_allows {A : m_A} {g : z_G} {f : Nat} (k12 : Int32 → Int32 → Int32 → Int32 → Int32 → z_G → Option (Int32 × z_G)) (hA : ok_A A) (hd : d_R A g) (x u v y : Int32) (hf : g 0 15 = nI f) (b : Bool) : ∀ (d fuel k : Nat), d < fuel → k + d = a_S A → s_Mod_isSo_L72 k12 fuel x u v (if (b && m_al (a_sa A) (a_sb A) (a_sc A) x (y + 1) (nI f) k) = true then 1 else 0) y (nI k) g = k12 x u v (if (b && m_al (a_sa A) (a_sb A) (a_sc A) x (y + 1) (nI f) (a_S A)) = true then 1 else 0) (y + 1) g := by
  have hS := hA.2.2.2.2.2.1
  have e09 : g 0 9 = nI (a_S A) := hd.2.2.2.2.2.1.1
  intro d
  induction d with
  | zero =>
    intro fuel k hfu hk
    obtain ⟨q, rfl⟩ : ∃ q, fuel = q + 1 := ⟨fuel - 1, by omega⟩
    rw [s_Mod_isSo_L72, e09, if_pos (by rw [q_le (by omega) (by omega)]; omega), show k = a_S A by omega]
  | succ d ih =>
    intro fuel k hfu hk
    obtain ⟨q, rfl⟩ : ∃ q, fuel = q + 1 := ⟨fuel - 1, by omega⟩
    have s := hd.2.2.2.2.2.1.2 k (by omega)
    have n := ih q (k + 1) (by omega) (by omega)
    rw [s_Mod_isSo_L72, e09, if_neg (by rw [q_le (by omega) (by omega)]; omega), q_b10, q_ck (by omega) (by decide), q_ck (by omega) (by decide), q_ck (by omega) (by decide), q_rd (by omega), q_rd (by omega), q_rd (by omega), s.1, s.2.1, s.2.2, hf]
    simp only [s_Mod_isSo_b129, s_Mod_isSo_b125, s_Mod_isSo_b130]
    rw [show nI k + 1 = nI (k + 1) from nI_1 k]
    by_cases h0 : (b && m_al (a_sa A) (a_sb A) (a_sc A) x (y + 1) (nI f) k) = true
    · rw [if_pos h0]
      have yes : ¬ (a_sa A k = x ∧ a_sb A k = y + 1 ∧ ¬ a_sc A k = nI f) → s_Mod_isSo_L72 k12 q x u v 1 y (nI (k + 1)) g = k12 x u v (if (b && m_al (a_sa A) (a_sb A) (a_sc A) x (y + 1) (nI f) (a_S A)) = true then 1 else 0) (y + 1) g := by
        intro e
        rw [m_al_y e, if_pos h0] at n
        exact n
      by_cases h1 : a_sa A k = x
      · rw [if_pos h1]
        by_cases h2 : a_sb A k = y + 1
        · rw [if_pos h2]
          by_cases h3 : a_sc A k = nI f
          · rw [if_pos h3]
            exact yes (fun e => e.2.2 h3)
          · rw [if_neg h3]
            rw [m_al_n ⟨h1, h2, h3⟩, Bool.and_false, if_neg (by decide)] at n
            exact n
        · rw [if_neg h2]; exact yes (fun e => h2 e.2.1)
      · rw [if_neg h1]; exact yes (fun e => h1 e.1)
    · rw [if_neg h0]
      have e0 : (b && m_al (a_sa A) (a_sb A) (a_sc A) x (y + 1) (nI f) (k + 1)) = false := by
        cases hb : b with
        | false => rfl
        | true =>
          rw [hb, Bool.true_and] at h0
          rw [Bool.true_and]
          exact m_al_no (k := k) (Bool.not_eq_true _ ▸ h0) (k + 1) (by omega)
      rw [e0, if_neg (by decide)] at n
      exact n
theorem d_fits {A : m_A} {g : z_G} {i c : Nat} (hA : ok_A A) (hd : d_R A g) (hi : i < l_M (a_L A)) (h256 : c < 256) : ∃ g2, s_Mod_isSo (nI i) (nI (c % 16)) (nI (c / 16)) g = some (if m_ft A i c (a_n A) = true then 1 else 0, g2) ∧ d_R A g2 := by
  have hn6 := hA.2.2.2.2.1.1
  have hM := hA.1.2.2.2.1
  have key : ∀ (d fuel o : Nat) (g1 : z_G), d < fuel → o + d = a_n A → d_R A g1 → g1 0 13 = nI (m_vt A i c o).1 → g1 0 14 = nI (m_vt A i c o).2.1 → g1 0 15 = nI (m_vt A i c o).2.2 → ∃ g2, s_Mod_isSo_L12 fuel (nI i) (nI (c % 16)) (nI (c / 16)) (if m_ft A i c o = true then 1 else 0) (nI o) g1 = some (if m_ft A i c (a_n A) = true then 1 else 0, g2) ∧ d_R A g2 := by
    intro d
    induction d with
    | zero =>
      intro fuel o g1 hfu ho hd1 e1 e2 e3
      obtain ⟨q, rfl⟩ : ∃ q, fuel = q + 1 := ⟨fuel - 1, by omega⟩
      have e47 : z_rd g1 1 47 = nI (a_n A) := by rw [show (47 : Int32) = nI 47 from rfl, q_rd (by decide)]; exact hd1.2.2.2.2.1.1
      rw [s_Mod_isSo_L12, e47, if_pos (by rw [q_le (by omega) (by omega)]; omega), show o = a_n A by omega]
      refine ⟨g1, ?_, hd1⟩
      by_cases h1 : m_ft A i c (a_n A) = true
      · rw [if_pos h1]; rfl
      · rw [if_neg h1]; rfl
    | succ d ih =>
      intro fuel o g1 hfu ho hd1 e1 e2 e3
      obtain ⟨q, rfl⟩ : ∃ q, fuel = q + 1 := ⟨fuel - 1, by omega⟩
      have e47 : z_rd g1 1 47 = nI (a_n A) := by rw [show (47 : Int32) = nI 47 from rfl, q_rd (by decide)]; exact hd1.2.2.2.2.1.1
      have mo := hd1.2.2.2.2.1.2 o (by omega)
      have hro := hA.2.2.2.2.1.2 o (by omega)
      have ki := m_vt_in (i := i) (c := c) hA hi h256 o
      have kj := m_vt_in (i := i) (c := c) hA hi h256 (o + 1)
      obtain ⟨g2, a1, a2, a3, a4, a5, a6⟩ := d_marches (r := a_rt A o) (n := a_rs A o) ki.1 ki.2.1 ki.2.2 hro.1 (by omega) e1 e2 e3
      have mi := m_ord_in (f := (m_vt A i c o).2.2) (r := a_rt A o) (n := a_rs A o) ki.1 ki.2.1
      rw [s_Mod_isSo_L12, e47, if_neg (by rw [q_le (by omega) (by omega)]; omega), show (48 : Int32) = nI 48 from rfl, show (54 : Int32) = nI 54 from rfl, q_add, q_add, q_ck (by omega) (by decide), q_ck (by omega) (by decide), q_rd (by omega), q_rd (by omega), mo.1, mo.2, a1]
      simp only [Option.bind_some, q_let]
      have hh := m_mhalts (h := z_up g2 0 16 (g2 0 16 + 1) 0 16) (k := 0) (u := c % 16) (v := c / 16) (g := z_up g2 0 16 (g2 0 16 + 1)) mi.1 mi.2.1 mi.2.2 (Nat.mod_lt _ (by decide)) (by omega) (by decide) (by rw [up_n (by decide)]; exact a2) (by rw [up_n (by decide)]; exact a3) (by rw [up_n (by decide)]; exact a4)
      rw [m_tn0 _ (m_way_lt mi.1 mi.2.1 (Nat.mod_lt _ (by decide)) (by omega)) _ mi.2.2, show nI 0 = (0 : Int32) from rfl] at hh
      rw [hh]
      have ev : m_vt A i c (o + 1) = m_go (m_ord (m_vt A i c o).1 (m_vt A i c o).2.1 (m_vt A i c o).2.2 (a_rt A o) (a_rs A o)) c 0 true := rfl
      unfold m_go at ev
      rw [if_neg (by omega)] at ev
      have hs : d_scr g1 (z_up (z_up g2 0 16 (g2 0 16 + 1)) 0 15 (nI (m_vt A i c (o + 1)).2.2)) := ⟨fun k hk => by rw [up_c hk, up_c hk]; exact a5 k hk, fun j h1 h2 h3 h4 => by rw [up_n h3, up_n h4]; exact a6 j h1 h2 h3⟩
      have hd3 := d_R_scr hA hd1 hs
      have f15 : z_up (z_up g2 0 16 (g2 0 16 + 1)) 0 15 (nI (m_vt A i c (o + 1)).2.2) 0 15 = nI (m_vt A i c (o + 1)).2.2 := up_s
      have al := d_allows (s_Mod_isSo_L12 q) hA hd3 (nI i) (nI (c % 16)) (nI (c / 16)) (nI o) f15 (m_ft A i c o) (a_S A) z_F 0 (by have := hA.2.2.2.2.2.1; unfold z_F; omega) (by omega)
      have b0 : (m_ft A i c o && m_al (a_sa A) (a_sb A) (a_sc A) (nI i) (nI o + 1) (nI (m_vt A i c (o + 1)).2.2) 0) = m_ft A i c o := Bool.and_true _
      rw [b0, show nI 0 = (0 : Int32) from rfl] at al
      have ev3 : m_tn (m_way (m_ord (m_vt A i c o).1 (m_vt A i c o).2.1 (m_vt A i c o).2.2 (a_rt A o) (a_rs A o)).1 (m_ord (m_vt A i c o).1 (m_vt A i c o).2.1 (m_vt A i c o).2.2 (a_rt A o) (a_rs A o)).2.1 (c % 16) (c / 16)) (m_ord (m_vt A i c o).1 (m_vt A i c o).2.1 (m_vt A i c o).2.2 (a_rt A o) (a_rs A o)).2.2 0 true = (m_vt A i c (o + 1)).2.2 := by rw [ev]
      rw [ev3, al, show nI o + 1 = nI (o + 1) from nI_1 o]
      refine ih q (o + 1) _ (by omega) (by omega) hd3 ?_ ?_ f15
      · rw [up_n (by decide), up_n (by decide), a2, ev]
      · rw [up_n (by decide), up_n (by decide), a3, ev]
  obtain ⟨g1, a1, a2, a3, a4, a5, a6, a7⟩ := d_picks (b := 0) (i := i) (by decide) hA.1 hi hd.2.1
  have fin := key (a_n A) z_F 0 g1 (by unfold z_F; omega) (by omega) (d_R_scr hA hd ⟨a6, a7⟩) a2 a3 a4
  rw [show nI 0 = (0 : Int32) from rfl] at fin a1
  unfold s_Mod_isSo
  rw [a1]
  simp only [Option.bind_some]
  exact fin
theorem o_villages {A : m_A} {gC gM : z_G} (h : z_R A gC gM) (x w : Int32) : z_rM A (s_Top_villages x w gC) (s_Mod_villages x w gM) := by
  obtain ⟨hA, hc, hd⟩ := id h
  have hM := hA.1.2.2.2.1
  unfold s_Top_villages s_Mod_villages s_Top_villages_b17 s_Mod_villages_b18
  rw [(q_isMan h x).1, q_in1]
  rcases (q_isMan h x).2 with h1 | ⟨h1, i, hi, rfl⟩
  · rw [if_pos h1, if_pos h1]; exact z_rM1 hd
  · rw [if_neg h1, if_neg h1]
    by_cases h0 : s_Top_isWithin w 0 1 = 0
    · rw [if_pos h0, if_pos h0]; exact z_rM1 hd
    · rw [if_neg h0, if_neg h0]
      obtain ⟨j, hj, rfl⟩ := q_w0 (n := 1) (by decide) h0
      have s1 : gC 1 i = nI (m_sp (k_p (a_K A) i)) := (hc.2.1.2.2 i hi).1
      -- the reference alone, once one was found
      have ref : ∀ (d fuel c m : Nat) (y : Int32) (g1 : z_G), d < fuel → c + d = 256 → 1 ≤ m → m ≤ c → d_R A g1 → ∃ g2, s_Mod_villages_L29 fuel (nI i) (nI 1) (nI m) y (nI c) g1 = some (y, g2) ∧ d_R A g2 := by
        intro d
        induction d with
        | zero =>
          intro fuel c m y g1 hfu hcd hm hmc hd1
          obtain ⟨q, rfl⟩ : ∃ q, fuel = q + 1 := ⟨fuel - 1, by omega⟩
          rw [s_Mod_villages_L29, show (256 : Int32) = nI 256 from rfl, if_pos (by rw [q_le (by omega) (by omega)]; omega), if_neg (by decide)]
          exact ⟨g1, rfl, hd1⟩
        | succ d ih =>
          intro fuel c m y g1 hfu hcd hm hmc hd1
          obtain ⟨q, rfl⟩ : ∃ q, fuel = q + 1 := ⟨fuel - 1, by omega⟩
          obtain ⟨g2, f1, f2⟩ := d_fits (c := c) hA hd1 hi (by omega)
          rw [s_Mod_villages_L29, show (256 : Int32) = nI 256 from rfl, if_neg (by rw [q_le (by omega) (by omega)]; omega), show (16 : Int32) = nI 16 from rfl, q_rem (by omega) (by decide) (by decide), q_div (by omega) (by decide) (by decide), f1]
          simp only [Option.bind_some, s_Mod_villages_b71, s_Mod_villages_b66]
          rw [q_b10, show nI c + 1 = nI (c + 1) from nI_1 c, show nI m + 1 = nI (m + 1) from nI_1 m, if_neg (show ¬ nI m = 0 from fun e => by have := q_inj (b := 0) (by omega) (by decide) e; omega)]
          by_cases h2 : m_ft A i c (a_n A) = true
          · rw [if_pos h2]; exact ih q (c + 1) (m + 1) y g2 (by omega) (by omega) (by omega) (by omega) f2
          · rw [if_neg h2]; exact ih q (c + 1) m y g2 (by omega) (by omega) (by omega) (by omega) f2
      have key : ∀ (d fuel c m : Nat) (y : Int32) (g1 : z_G), d < fuel → c + d = 256 → m ≤ c → (j = 1 → m = 0 ∧ y = -4) → d_R A g1 → z_rM A (s_Top_villages_L24 gC fuel (nI i) (nI j) (nI m) (nI c)) (s_Mod_villages_L29 fuel (nI i) (nI j) (nI m) y (nI c) g1) := by
        intro d
        induction d with
        | zero =>
          intro fuel c m y g1 hfu hcd hmc hj1 hd1
          obtain ⟨q, rfl⟩ : ∃ q, fuel = q + 1 := ⟨fuel - 1, by omega⟩
          have hle : (256 : Int32) ≤ nI c := by rw [show (256 : Int32) = nI 256 from rfl, q_le (by omega) (by omega)]; omega
          rw [s_Top_villages_L24, s_Mod_villages_L29, if_pos hle, if_pos hle]
          rcases (show j = 0 ∨ j = 1 by omega) with rfl | rfl
          · rw [if_neg (show ¬ nI 0 = 1 by decide), if_pos (show nI 0 = 0 from rfl)]; exact z_rM1 hd1
          · rw [if_pos (show nI 1 = 1 from rfl), if_neg (show ¬ nI 1 = 0 by decide), (hj1 rfl).2]; exact z_rM1 hd1
        | succ d ih =>
          intro fuel c m y g1 hfu hcd hmc hj1 hd1
          obtain ⟨q, rfl⟩ : ∃ q, fuel = q + 1 := ⟨fuel - 1, by omega⟩
          have hle : ¬ (256 : Int32) ≤ nI c := by rw [show (256 : Int32) = nI 256 from rfl, q_le (by omega) (by omega)]; omega
          obtain ⟨g2, f1, f2⟩ := d_fits (c := c) hA hd1 hi (by omega)
          rw [s_Top_villages_L24, s_Mod_villages_L29, if_neg hle, if_neg hle, show (16 : Int32) = nI 16 from rfl, q_rem (by omega) (by decide) (by decide), q_div (by omega) (by decide) (by decide), f1, q_ck (by omega) (by decide), q_rd (by omega), s1, c_fits hA hc hi (by omega)]
          simp only [Option.bind_some, s_Mod_villages_b71, s_Mod_villages_b66, s_Top_villages_b69]
          rw [q_b10, q_b10, show nI c + 1 = nI (c + 1) from nI_1 c, show nI m + 1 = nI (m + 1) from nI_1 m]
          by_cases h2 : m_ft A i c (a_n A) = true
          · rw [if_pos h2, if_pos h2]
            rcases (show j = 0 ∨ j = 1 by omega) with rfl | rfl
            · rw [if_neg (show ¬ nI 0 = 1 by decide)]
              by_cases h3 : nI m = 0
              · rw [if_pos h3]; exact ih q (c + 1) (m + 1) _ g2 (by omega) (by omega) (by omega) (fun e => absurd e (by decide)) f2
              · rw [if_neg h3]; exact ih q (c + 1) (m + 1) _ g2 (by omega) (by omega) (by omega) (fun e => absurd e (by decide)) f2
            · have hm0 := (hj1 rfl).1
              subst hm0
              rw [if_pos (show nI 1 = 1 from rfl), if_pos (show nI 0 = 0 from rfl)]
              obtain ⟨g3, r1, r2⟩ := ref d q (c + 1) (0 + 1) (nI c) g2 (by omega) (by omega) (by omega) (by omega) f2
              rw [r1]
              exact z_rM1 r2
          · rw [if_neg h2, if_neg h2]; exact ih q (c + 1) m y g2 (by omega) (by omega) (by omega) hj1 f2
      have fin := key 256 z_F 0 0 (-4) gM (by unfold z_F; omega) (by omega) (by omega) (fun _ => ⟨rfl, rfl⟩) hd
      rw [show nI 0 = (0 : Int32) from rfl] at fin
      exact fin
