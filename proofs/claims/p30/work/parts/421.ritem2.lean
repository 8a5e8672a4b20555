/-! ===== the reference's other items ===== -/
theorem m_mr_n {T v e : Nat} {s : Option Nat} {tx : Nat → Nat} {lo hi : Int32} (h : m_mr T tx lo hi s = some (v, e)) : v < 100 ∧ s_Top_isWithin (nI v) lo hi ≠ 0 := by
  cases s with
  | none => exact absurd h (by simp [m_mr])
  | some a =>
    have h2 : (if a < T ∧ tx a = 44 then m_nr T tx lo hi (a + 1) else none) = some (v, e) := h
    by_cases h1 : a < T ∧ tx a = 44
    · rw [if_pos h1] at h2
      have := m_nr_n h2
      exact ⟨(m_n_le this.1).2.2, this.2⟩
    · rw [if_neg h1] at h2; exact absurd h2 (by simp)
theorem m_mr_0 {T : Nat} {tx : Nat → Nat} {lo hi : Int32} : m_mr T tx lo hi none = none := rfl
theorem m_ch_0 {T : Nat} {tx : Nat → Nat} {rs : List (Int32 × Int32)} : m_ch T tx rs none = none := by
  cases rs with
  | nil => rfl
  | cons r rs => rfl
theorem m_ch_n {T : Nat} {tx : Nat → Nat} {r : Int32 × Int32} {rs : List (Int32 × Int32)} {s : Option Nat} (h : m_mr T tx r.1 r.2 s = none) : m_ch T tx (r :: rs) s = none := by
  rw [m_ch, h]
theorem m_ch_s {T v e : Nat} {tx : Nat → Nat} {r : Int32 × Int32} {rs : List (Int32 × Int32)} {s : Option Nat} (h : m_mr T tx r.1 r.2 s = some (v, e)) : m_ch T tx (r :: rs) s = (m_ch T tx rs (some e)).map (fun q => (v :: q.1, q.2)) := by
  rw [m_ch, h]
  simp only
  cases m_ch T tx rs (some e) with
  | none => rfl
  | some q => rfl
theorem m_a3n {T p : Nat} {tx : Nat → Nat} {r : Int32 × Int32} {rs : List (Int32 × Int32)} (h : m_nr T tx r.1 r.2 p = none) : m_al3 T tx r rs p = none := by
  unfold m_al3; rw [h]
theorem m_a3s {T p v e : Nat} {tx : Nat → Nat} {r : Int32 × Int32} {rs : List (Int32 × Int32)} (h : m_nr T tx r.1 r.2 p = some (v, e)) : m_al3 T tx r rs p = (m_ch T tx rs (some e)).map (fun q => (v :: q.1, q.2)) := by
  unfold m_al3
  rw [h]
  simp only
  cases m_ch T tx rs (some e) with
  | none => rfl
  | some q => rfl
/-- one link of the chain: what was read ahead, then one more -/
def m_lk (T : Nat) (tx : Nat → Nat) (r : Int32 × Int32) (o : Option (Nat × Nat)) : Option (Nat × Nat) := m_mr T tx r.1 r.2 (o.map Prod.snd)
theorem m_lk_0 {T : Nat} {tx : Nat → Nat} {r : Int32 × Int32} : m_lk T tx r none = none := rfl
theorem m_lk_le {T : Nat} {tx : Nat → Nat} {r : Int32 × Int32} {o : Option (Nat × Nat)} : ∀ a e, m_lk T tx r o = some (a, e) → e ≤ T := fun _ _ h => m_mr_le h
theorem m_lk_some {T : Nat} {tx : Nat → Nat} {r : Int32 × Int32} {o : Option (Nat × Nat)} {q : Nat × Nat} (h : m_lk T tx r o = some q) : ∃ a e, o = some (a, e) := by
  cases o with
  | none => exact absurd h (by simp [m_lk, m_mr])
  | some w => exact ⟨w.1, w.2, rfl⟩
theorem m_lc_n {T : Nat} {tx : Nat → Nat} {r : Int32 × Int32} {rs : List (Int32 × Int32)} {a b : Nat} (h : m_lk T tx r (some (a, b)) = none) : m_ch T tx (r :: rs) (some b) = none := m_ch_n h
theorem m_lc_s {T v e : Nat} {tx : Nat → Nat} {r : Int32 × Int32} {rs : List (Int32 × Int32)} {a b : Nat} (h : m_lk T tx r (some (a, b)) = some (v, e)) : m_ch T tx (r :: rs) (some b) = (m_ch T tx rs (some e)).map (fun q => (v :: q.1, q.2)) := m_ch_s h
theorem m_al_2 {T p : Nat} {tx : Nat → Nat} (r1 r2 : Int32 × Int32) : (m_lk T tx r2 (m_nr T tx r1.1 r1.2 p) = none → m_al3 T tx r1 [r2] p = none) ∧ ∀ a2 e2, m_lk T tx r2 (m_nr T tx r1.1 r1.2 p) = some (a2, e2) → ∃ a1 e1, m_nr T tx r1.1 r1.2 p = some (a1, e1) ∧ m_al3 T tx r1 [r2] p = some ([a1, a2], e2) := by
  constructor
  · intro h
    cases h1 : m_nr T tx r1.1 r1.2 p with
    | none => exact m_a3n h1
    | some q1 =>
      obtain ⟨a1, e1⟩ := q1
      rw [h1] at h; rw [m_a3s h1, m_lc_n h]; rfl
  · intro a2 e2 h
    obtain ⟨a1, e1, h1⟩ := m_lk_some h
    rw [h1] at h
    refine ⟨a1, e1, h1, ?_⟩
    rw [m_a3s h1, m_lc_s h]
    rfl
theorem m_al_6 {T p : Nat} {tx : Nat → Nat} (r1 r2 r3 r4 r5 r6 : Int32 × Int32) {o1 o2 o3 o4 o5 o6 : Option (Nat × Nat)} (h1 : m_nr T tx r1.1 r1.2 p = o1) (h2 : m_lk T tx r2 o1 = o2) (h3 : m_lk T tx r3 o2 = o3) (h4 : m_lk T tx r4 o3 = o4) (h5 : m_lk T tx r5 o4 = o5) (h6 : m_lk T tx r6 o5 = o6) : (o6 = none → m_al3 T tx r1 [r2, r3, r4, r5, r6] p = none) ∧ ∀ a6 e6, o6 = some (a6, e6) → ∃ a1 e1 a2 e2 a3 e3 a4 e4 a5 e5, o1 = some (a1, e1) ∧ o2 = some (a2, e2) ∧ o3 = some (a3, e3) ∧ o4 = some (a4, e4) ∧ o5 = some (a5, e5) ∧ m_al3 T tx r1 [r2, r3, r4, r5, r6] p = some ([a1, a2, a3, a4, a5, a6], e6) := by
  constructor
  · intro h7
    cases o1 with
    | none => exact m_a3n h1
    | some q1 =>
      obtain ⟨a1, e1⟩ := q1
      rw [m_a3s h1]
      cases o2 with
      | none => rw [m_lc_n h2]; rfl
      | some q2 =>
        obtain ⟨a2, e2⟩ := q2
        rw [m_lc_s h2]
        cases o3 with
        | none => rw [m_lc_n h3]; rfl
        | some q3 =>
          obtain ⟨a3, e3⟩ := q3
          rw [m_lc_s h3]
          cases o4 with
          | none => rw [m_lc_n h4]; rfl
          | some q4 =>
            obtain ⟨a4, e4⟩ := q4
            rw [m_lc_s h4]
            cases o5 with
            | none => rw [m_lc_n h5]; rfl
            | some q5 =>
              obtain ⟨a5, e5⟩ := q5
              subst h7
              rw [m_lc_s h5]
              rw [m_lc_n h6]; rfl
  · intro a6 e6 h7
    subst h7
    obtain ⟨a5, e5, rfl⟩ := m_lk_some h6
    obtain ⟨a4, e4, rfl⟩ := m_lk_some h5
    obtain ⟨a3, e3, rfl⟩ := m_lk_some h4
    obtain ⟨a2, e2, rfl⟩ := m_lk_some h3
    obtain ⟨a1, e1, rfl⟩ := m_lk_some h2
    refine ⟨a1, e1, a2, e2, a3, e3, a4, e4, a5, e5, rfl, rfl, rfl, rfl, rfl, ?_⟩
    rw [m_a3s h1, m_lc_s h2, m_lc_s h3, m_lc_s h4, m_lc_s h5, m_lc_s h6]
    rfl
theorem d_lk {T : Nat} {tx : Nat → Nat} {g : z_G} {o : Option (Nat × Nat)} {v0 : Int32} (r : Int32 × Int32) (ht : ok_tx T tx) (h : d_tx T tx (g 0 4) (g 3)) (ho : r_ok o v0 g) (hp : ∀ a e, o = some (a, e) → e ≤ T) : ∃ v g2, s_Mod_more r.1 r.2 g = some (v, g2) ∧ d_fr g g2 ∧ r_ok (m_lk T tx r o) v g2 := d_mor2 r.1 r.2 ht h ho hp
/-- a row's order -/
theorem d_itemO {B : m_B} {T p : Nat} {tx : Nat → Nat} {g : z_G} (hB : ok_B B) (hd : d_B B (g 1)) (ht : ok_tx T tx) (h : d_tx T tx (g 0 4) (g 3)) (hp : p ≤ T) (h6 : g 0 6 = nI p) : ∃ g2, s_Mod_item 111 g = some g2 ∧ d_fi g g2 ∧ ((∃ x y e, b_n B < 6 ∧ m_al3 T tx (0, 7) [(0, 9)] p = some ([x, y], e) ∧ g2 0 8 = 0 ∧ g2 0 6 = nI e ∧ d_B (k_row B x y) (g2 1)) ∨ ((b_n B = 6 ∨ m_al3 T tx (0, 7) [(0, 9)] p = none) ∧ g2 0 8 = 1)) := by
  have hT := ht.1
  have hn6 := hB.2.2.2.2.2.1
  unfold s_Mod_item
  rw [if_neg (show ¬ (111 : Int32) = 104 by decide), if_neg (show ¬ (111 : Int32) = 109 by decide), if_pos (show (111 : Int32) = 111 from rfl), (d_rd hd).2.2]
  by_cases h4 : b_n B = 6
  · rw [if_pos (show nI (b_n B) = 6 by rw [h4]; rfl)]
    unfold s_Mod_item_b263
    rw [q_ckt (show z_bit 1 = true from rfl)]
    simp only [q_let]
    rw [up_s, if_neg (show ¬ (1 : Int32) = 0 by decide)]
    unfold s_Mod_item_b284
    have f1 : d_fr g (z_up g 0 8 1) := d_fr8 (d_fr.rf g)
    obtain ⟨v, g2, a, b, c⟩ := d_lk (o := none) (v0 := 0) (0, 9) ht (d_tx_fr h f1) d_8 (fun _ _ e => absurd e (by simp))
    rw [a]
    simp only [Option.bind_some]
    have c8 : g2 0 8 = 1 := c
    rw [c8, if_neg (show ¬ (1 : Int32) = 0 by decide)]
    exact ⟨g2, rfl, (f1.tr b).fi, Or.inr ⟨Or.inl h4, c8⟩⟩
  · rw [if_neg (show ¬ nI (b_n B) = 6 from fun e => h4 (q_inj (b := 6) (by omega) (by decide) e))]
    unfold s_Mod_item_b263
    rw [q_ckt (show z_bit 0 = true from rfl)]
    simp only [q_let]
    rw [up_s, if_pos (show (0 : Int32) = 0 from rfl)]
    have f1 : d_fr g (z_up g 0 8 0) := d_fr8 (d_fr.rf g)
    obtain ⟨v1, g2, a1, b1, c1⟩ := d_number (p := p) 0 7 ht (by omega) (d_tx_fr h f1) (by rw [up_n (by decide)]; exact h6) up_s
    rw [a1]
    simp only [Option.bind_some]
    unfold s_Mod_item_b284
    have f2 := f1.tr b1
    obtain ⟨v2, g3, a2, b2, c2⟩ := d_lk (0, 9) ht (d_tx_fr h f2) c1 (fun _ _ e => m_nr_le e)
    have f3 := f2.tr b2
    rw [a2]
    simp only [Option.bind_some]
    have al := m_al_2 (T := T) (p := p) (tx := tx) (0, 7) (0, 9)
    cases o2 : m_lk T tx (0, 9) (m_nr T tx 0 7 p) with
    | none =>
      rw [o2] at c2
      have c8 : g3 0 8 = 1 := c2
      rw [c8, if_neg (show ¬ (1 : Int32) = 0 by decide)]
      exact ⟨g3, rfl, f3.fi, Or.inr ⟨Or.inr (al.1 o2), c8⟩⟩
    | some q2 =>
      obtain ⟨y, e2⟩ := q2
      obtain ⟨x, e1, o1, alx⟩ := al.2 y e2 o2
      have o1 : m_nr T tx 0 7 p = some (x, e1) := o1
      rw [o2] at c2
      rw [o1] at c1
      have hd3 := d_B_fr hd f3
      rw [c2.2.2, if_pos (show (0 : Int32) = 0 from rfl)]
      unfold s_Mod_tells s_Mod_item_b308
      simp only [q_let]
      rw [show (60 : Int32) + 47 = nI 107 from rfl, show (60 : Int32) + 48 = nI 108 from rfl, show (60 : Int32) + 54 = nI 114 from rfl, q_ck (by decide) (by decide), show z_rd g3 1 (nI 107) = nI (b_n B) from (d_rd hd3).2.2, q_add, q_add, q_ck (by omega) (by decide), q_ck (by omega) (by decide), q_ck (by omega) (by decide), q_wr (by omega), q_wr (by omega), q_wr (by omega), c1.1, c2.1, show nI (b_n B) + 1 = nI (b_n B + 1) from nI_1 _]
      simp only [Option.bind_some]
      have s : ∀ j, j ≠ 108 + b_n B → j ≠ 114 + b_n B → j ≠ 107 → z_up (z_up (z_up g3 1 (108 + b_n B) (nI x)) 1 (114 + b_n B) (nI y)) 1 107 (nI (b_n B + 1)) 1 j = g3 1 j := fun j h7 h8 h9 => by rw [up_n h9, up_n h8, up_n h7]
      have hM := hB.2.1
      refine ⟨_, rfl, d_fi1 (d_fi1 (d_fi1 f3.fi (by omega)) (by omega)) (by omega), Or.inl ⟨x, y, e2, by omega, alx, ?_, ?_, ?_⟩⟩
      · rw [up_c (by decide), up_c (by decide), up_c (by decide)]; exact c2.2.2
      · rw [up_c (by decide), up_c (by decide), up_c (by decide)]; exact c2.2.1
      · refine ⟨?_, ?_, ?_, fun i hi => ?_, fun i hi => ?_, up_s, fun i hi => ?_⟩
        · rw [s _ (by omega) (by omega) (by omega)]; exact hd3.1
        · rw [s _ (by omega) (by omega) (by omega)]; exact hd3.2.1
        · rw [s _ (by omega) (by omega) (by omega)]; exact hd3.2.2.1
        · have hi2 : i < l_H (b_L B) := hi
          have hH := hB.1
          rw [s _ (by omega) (by omega) (by omega), s _ (by omega) (by omega) (by omega)]; exact hd3.2.2.2.1 i hi
        · have hi2 : i < l_M (b_L B) := hi
          rw [s _ (by omega) (by omega) (by omega), s _ (by omega) (by omega) (by omega), s _ (by omega) (by omega) (by omega), s _ (by omega) (by omega) (by omega), s _ (by omega) (by omega) (by omega), s _ (by omega) (by omega) (by omega)]; exact hd3.2.2.2.2.1 i hi
        · have hi2 : i < b_n B + 1 := hi
          show _ = nI (if i = b_n B then x else b_rt B i) ∧ _ = nI (if i = b_n B then y else b_rs B i)
          by_cases h9 : i = b_n B
          · rw [if_pos h9, if_pos h9, h9, up_n (by omega), up_n (by omega), up_s, up_n (by omega), up_s]
            exact ⟨rfl, rfl⟩
          · rw [if_neg h9, if_neg h9, s _ (by omega) (by omega) (by omega), s _ (by omega) (by omega) (by omega)]
            exact hd3.2.2.2.2.2.2 i (by omega)
/-- how far the march goes -/
theorem d_itemD {B : m_B} {T p : Nat} {tx : Nat → Nat} {g : z_G} (hB : ok_B B) (hd : d_B B (g 1)) (ht : ok_tx T tx) (h : d_tx T tx (g 0 4) (g 3)) (hp : p ≤ T) (h6 : g 0 6 = nI p) (h8 : g 0 8 = 0) : ∃ g2, s_Mod_item 100 g = some g2 ∧ d_fi g g2 ∧ ((∃ x e, m_al3 T tx (1, 15) [] p = some ([x], e) ∧ g2 0 8 = 0 ∧ g2 0 6 = nI e ∧ d_B (k_far B x) (g2 1)) ∨ (m_al3 T tx (1, 15) [] p = none ∧ g2 0 8 = 1)) := by
  have hT := ht.1
  unfold s_Mod_item
  rw [if_neg (show ¬ (100 : Int32) = 104 by decide), if_neg (show ¬ (100 : Int32) = 109 by decide), if_neg (show ¬ (100 : Int32) = 111 by decide), if_pos (show (100 : Int32) = 100 from rfl)]
  obtain ⟨v1, g2, a1, b1, c1⟩ := d_number (p := p) 1 15 ht (by omega) h h6 h8
  rw [a1]
  simp only [Option.bind_some, q_let]
  rw [show (70 : Int32) = nI 70 from rfl, q_wr (by decide)]
  refine ⟨_, rfl, d_fi1 b1.fi (by decide), ?_⟩
  cases o1 : m_nr T tx 1 15 p with
  | none =>
    rw [o1] at c1
    exact Or.inr ⟨m_a3n (r := (1, 15)) o1, by rw [up_c (by decide)]; exact c1⟩
  | some q =>
    obtain ⟨x, e⟩ := q
    rw [o1] at c1
    have hd3 := d_B_fr hd b1
    have hM := hB.2.1
    have hH := hB.1
    have hn6 := hB.2.2.2.2.2.1
    have al : m_al3 T tx (1, 15) [] p = some ([x], e) := m_a3s (r := (1, 15)) (rs := []) o1
    refine Or.inl ⟨x, e, al, by rw [up_c (by decide)]; exact c1.2.2, by rw [up_c (by decide)]; exact c1.2.1, ?_, ?_, ?_, fun i hi => ?_, fun i hi => ?_, ?_, fun i hi => ?_⟩
    · rw [up_n (by decide)]; exact hd3.1
    · rw [up_n (by decide)]; exact hd3.2.1
    · rw [up_s]; exact c1.1
    · have hi2 : i < l_H (b_L B) := hi
      rw [up_n (by omega), up_n (by omega)]; exact hd3.2.2.2.1 i hi
    · have hi2 : i < l_M (b_L B) := hi
      rw [up_n (by omega), up_n (by omega), up_n (by omega), up_n (by omega), up_n (by omega), up_n (by omega)]; exact hd3.2.2.2.2.1 i hi
    · rw [up_n (by decide)]; exact hd3.2.2.2.2.2.1
    · have hi2 : i < b_n B := hi
      rw [up_n (by omega), up_n (by omega)]; exact hd3.2.2.2.2.2.2 i hi
theorem d_itemX {c : Nat} {g : z_G} (hc : c < 1000) (h1 : c ≠ 104) (h2 : c ≠ 109) (h3 : c ≠ 111) (h4 : c ≠ 100) : ∃ g2, s_Mod_item (nI c) g = some g2 ∧ d_fi g g2 ∧ g2 0 8 = 1 := by
  unfold s_Mod_item
  rw [if_neg (show ¬ nI c = 104 from fun e => h1 (q_inj (b := 104) (by omega) (by decide) e)), if_neg (show ¬ nI c = 109 from fun e => h2 (q_inj (b := 109) (by omega) (by decide) e)), if_neg (show ¬ nI c = 111 from fun e => h3 (q_inj (b := 111) (by omega) (by decide) e)), if_neg (show ¬ nI c = 100 from fun e => h4 (q_inj (b := 100) (by omega) (by decide) e))]
  simp only [q_let]
  exact ⟨_, rfl, (d_fr8 (d_fr.rf g)).fi, up_s⟩
