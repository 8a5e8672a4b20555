/-! the best of them so far -/
def y_ct (A : m_A) (n : Nat) (l : List Nat) : Nat := m_cn (fun j => decide (l_l (a_L A) j ≠ k_r (a_K A) (l.getD j 0))) n
def y_sp (A : m_A) (S : Option (Nat × List Nat)) (l : List Nat) : Option (Nat × List Nat) := match S with
  | none => some (y_ct A (l_M (a_L A)) l, l)
  | some (n, l0) => if n < y_ct A (l_M (a_L A)) l then some (y_ct A (l_M (a_L A)) l, l) else some (n, l0)
def y_B (M : Nat) (S : Option (Nat × List Nat)) (v : Int32) (c : Nat → Int32) : Prop := match S with
  | none => v = -1
  | some (n, l) => n ≤ 6 ∧ v = nI n ∧ ∀ j, j < M → c j = nI (l.getD j 0)
theorem y_cn_eq {f h : Nat → Bool} : ∀ n, (∀ j, j < n → f j = h j) → m_cn f n = m_cn h n
  | 0, _ => rfl
  | n + 1, e => by
    rw [m_cn, m_cn, y_cn_eq n (fun j hj => e j (by omega)), e n (by omega)]
theorem y_ct_ap {A : m_A} {pre : List Nat} {x i : Nat} (h : pre.length = i) : y_ct A (i + 1) (pre ++ [x]) = y_ct A i pre + (if l_l (a_L A) i = k_r (a_K A) x then 0 else 1) := by
  unfold y_ct
  rw [m_cn]
  have e1 : ∀ j, j < i → (pre ++ [x]).getD j 0 = pre.getD j 0 := fun j hj => by
    rw [List.getD_eq_getElem?_getD, List.getD_eq_getElem?_getD, List.getElem?_append_left (by omega)]
  have e2 : (pre ++ [x]).getD i 0 = x := by
    rw [List.getD_eq_getElem?_getD, List.getElem?_append_right (by omega), h, Nat.sub_self]
    rfl
  rw [y_cn_eq (h := fun j => decide (l_l (a_L A) j ≠ k_r (a_K A) (pre.getD j 0))) i (fun j hj => by simp only [e1 j hj]), e2]
  by_cases h1 : l_l (a_L A) i = k_r (a_K A) x
  · rw [if_pos h1, if_neg (show ¬ decide (l_l (a_L A) i ≠ k_r (a_K A) x) = true from fun e => (of_decide_eq_true e) h1)]
  · rw [if_neg h1, if_pos (show decide (l_l (a_L A) i ≠ k_r (a_K A) x) = true from decide_eq_true h1)]
theorem y_ap_D {pre : List Nat} {x i j : Nat} (h : pre.length = i) : (pre ++ [x]).getD j 0 = if j < i then pre.getD j 0 else if j = i then x else 0 := by
  by_cases h1 : j < i
  · rw [if_pos h1, List.getD_eq_getElem?_getD, List.getD_eq_getElem?_getD, List.getElem?_append_left (by omega)]
  · rw [if_neg h1, List.getD_eq_getElem?_getD, List.getElem?_append_right (by omega), h]
    by_cases h2 : j = i
    · rw [if_pos h2, h2, Nat.sub_self]; rfl
    · rw [if_neg h2, List.getElem?_eq_none (by show 1 ≤ j - i; omega)]; rfl
/-! the class deals -/
set_option maxRecDepth 20000 in
theorem q_or : ∀ t, t < 64 → ∀ x, x < 6 → m_ti t x = false → (nI t ||| (1 <<< (nI x &&& 31))) = nI (t + 2 ^ x) ∧ t + 2 ^ x < 64 := by decide +kernel
def y_fr (i : Nat) (g g2 : z_G) : Prop := (∀ k, k ≠ 67 → k ≠ 68 → k ≠ 69 → g2 k = g k) ∧ ∀ j, j < i → g2 69 j = g 69 j
theorem y_fr.tr {i : Nat} {g g2 g3 : z_G} (h : y_fr i g g2) (h2 : y_fr i g2 g3) : y_fr i g g3 := ⟨fun k a b c => (h2.1 k a b c).trans (h.1 k a b c), fun j hj => (h2.2 j hj).trans (h.2 j hj)⟩
theorem y_fr.mo {i i2 : Nat} {g g2 : z_G} (h : y_fr i2 g g2) (hi : i ≤ i2) : y_fr i g g2 := ⟨h.1, fun j hj => h.2 j (by omega)⟩
def y_dT (A : m_A) (d r : Nat) : Prop := ∀ (i t : Nat) (pre : List Nat) (g : z_G) (S : Option (Nat × List Nat)), i + r = l_M (a_L A) → pre.length = i → t < 64 → c_L (a_L A) (g 43) (g 44) (g 45) (g 46) → c_K (a_L A) (a_K A) (g 0) (g 1) (g 2) → (∀ j, j < i → g 69 j = nI (pre.getD j 0)) → y_B (l_M (a_L A)) S (g 67 1) (g 68) → ∃ g2, s_Deal_dealTo d (nI i) (nI t) (nI (y_ct A i pre)) 0 g = some g2 ∧ y_fr i g g2 ∧ y_B (l_M (a_L A)) ((y_pl (l_M (a_L A)) r t pre).foldl (y_sp A) S) (g2 67 1) (g2 68)
theorem y_deal {A : m_A} (hA : ok_A A) : ∀ (r d : Nat), r < d → y_dT A d r := by
  have hM := hA.1.2.2.2.1
  have hH := hA.1.2.1
  intro r
  induction r with
  | zero =>
    intro d hd i t pre g S hi hl ht hc hk h69 hS
    obtain ⟨d, rfl⟩ : ∃ k, d = k + 1 := ⟨d - 1, by omega⟩
    have hiM : i = l_M (a_L A) := by omega
    have hcl := m_cn_le (fun j => decide (l_l (a_L A) j ≠ k_r (a_K A) (pre.getD j 0))) i
    have hct : y_ct A i pre ≤ 6 := by unfold y_ct; omega
    have ef : (y_pl (l_M (a_L A)) 0 t pre).foldl (y_sp A) S = y_sp A S pre := rfl
    rw [s_Deal_dealTo, hc.2.1, if_pos (by rw [q_le (by omega) (by omega)]; omega), ef]
    unfold s_Deal_dealTo_b15
    have upd : ∃ g2, (z_let (z_up g 67 1 (nI (y_ct A i pre))) fun g16q => z_let (z_cp g16q 69 68 0 0 6) fun g17q => some g17q) = some g2 ∧ y_fr i g g2 ∧ g2 67 1 = nI (y_ct A i pre) ∧ ∀ j, j < l_M (a_L A) → g2 68 j = nI (pre.getD j 0) := by
      simp only [q_let]
      refine ⟨_, rfl, ⟨fun k a b c => by rw [cp_c b, up_c a], fun j hj => by rw [cp_c (by decide), up_c (by decide)]⟩, by rw [cp_c (by decide)]; exact up_s, fun j hj => ?_⟩
      rw [cp_in (by omega), up_c (by decide)]
      exact h69 j (by omega)
    cases S with
    | none =>
      have hv : g 67 1 = -1 := hS
      rw [hv, if_neg (show ¬ nI (y_ct A i pre) ≤ -1 from fun e => by
        have h1 := Int32.le_iff_toInt_le.mp e
        rw [nI_toInt (by omega)] at h1
        have h2 : (y_ct A i pre : Int) ≤ -1 := h1
        omega)]
      obtain ⟨g2, a1, a2, a3, a4⟩ := upd
      refine ⟨g2, a1, a2, ?_⟩
      show y_ct A (l_M (a_L A)) pre ≤ 6 ∧ g2 67 1 = nI (y_ct A (l_M (a_L A)) pre) ∧ _
      rw [← hiM]
      exact ⟨hct, a3, fun j hj => a4 j (by omega)⟩
    | some s =>
      obtain ⟨n, l0⟩ := s
      have hv : n ≤ 6 ∧ g 67 1 = nI n ∧ ∀ j, j < l_M (a_L A) → g 68 j = nI (l0.getD j 0) := hS
      rw [hv.2.1]
      have es : y_sp A (some (n, l0)) pre = if n < y_ct A (l_M (a_L A)) pre then some (y_ct A (l_M (a_L A)) pre, pre) else some (n, l0) := rfl
      rw [es]
      by_cases h1 : n < y_ct A (l_M (a_L A)) pre
      · rw [if_pos h1, if_neg (by rw [q_le (by omega) (by omega), hiM]; omega)]
        obtain ⟨g2, a1, a2, a3, a4⟩ := upd
        refine ⟨g2, a1, a2, ?_⟩
        show y_ct A (l_M (a_L A)) pre ≤ 6 ∧ g2 67 1 = nI (y_ct A (l_M (a_L A)) pre) ∧ _
        rw [← hiM]
        exact ⟨hct, a3, fun j hj => a4 j (by omega)⟩
      · rw [if_neg h1, if_pos (by rw [q_le (by omega) (by omega), hiM]; omega)]
        exact ⟨g, rfl, ⟨fun _ _ _ _ => rfl, fun _ _ => rfl⟩, hv⟩
  | succ r ih =>
    intro d hd i t pre g S hi hl ht hc hk h69 hS
    obtain ⟨d, rfl⟩ : ∃ k, d = k + 1 := ⟨d - 1, by omega⟩
    have ihd := ih d (by omega)
    have key : ∀ (m fuel x : Nat) (g : z_G) (S : Option (Nat × List Nat)), m < fuel → x + m = l_M (a_L A) → c_L (a_L A) (g 43) (g 44) (g 45) (g 46) → c_K (a_L A) (a_K A) (g 0) (g 1) (g 2) → (∀ j, j < i → g 69 j = nI (pre.getD j 0)) → y_B (l_M (a_L A)) S (g 67 1) (g 68) → ∃ g2, s_Deal_dealTo_L47 0 (s_Deal_dealTo d) fuel (nI i) (nI t) (nI (y_ct A i pre)) 0 (nI x) g = some g2 ∧ y_fr i g g2 ∧ y_B (l_M (a_L A)) ((y_rw (fun x => if m_ti t x = true then [] else y_pl (l_M (a_L A)) r (t + 2 ^ x) (pre ++ [x])) m x).foldl (y_sp A) S) (g2 67 1) (g2 68) := by
      intro m
      induction m with
      | zero =>
        intro fuel x g S hf hx hc hk h69 hS
        obtain ⟨f, rfl⟩ : ∃ k, fuel = k + 1 := ⟨fuel - 1, by omega⟩
        rw [s_Deal_dealTo_L47, hc.2.1, if_pos (by rw [q_le (by omega) (by omega)]; omega)]
        exact ⟨g, rfl, ⟨fun _ _ _ _ => rfl, fun _ _ => rfl⟩, hS⟩
      | succ m ihm =>
        intro fuel x g S hf hx hc hk h69 hS
        obtain ⟨f, rfl⟩ : ∃ k, fuel = k + 1 := ⟨fuel - 1, by omega⟩
        rw [s_Deal_dealTo_L47, hc.2.1, if_neg (by rw [q_le (by omega) (by omega)]; omega), m_bit t ht x (by omega), y_rw, List.foldl_append]
        unfold s_Deal_dealTo_b123
        rw [show nI x + 1 = nI (x + 1) from nI_1 x]
        by_cases hb : m_ti t x = true
        · rw [if_pos hb, if_pos hb, if_neg (show ¬ (1 : Int32) = 0 by decide)]
          exact ihm f (x + 1) g S (by omega) (by omega) hc hk h69 hS
        · have ho := q_or t ht x (by omega) (by rw [Bool.not_eq_true] at hb; exact hb)
          rw [if_neg hb, if_neg hb, if_pos (show (0 : Int32) = 0 from rfl), q_ck (by omega) (by decide)]
          simp only [q_let]
          rw [q_wr (by omega), q_ck (by omega) (by decide), q_ck (by omega) (by decide), q_rd (by omega), q_rd (by omega), up_c (show 45 ≠ 69 by decide), up_c (show 3 * 0 + 2 ≠ 69 by decide), (hc.2.2.2.2 i (by omega)).1, show g (3 * 0 + 2) x = nI (k_r (a_K A) x) from (hk.2.2 x (by omega)).2]
          have b1 := (hA.1.2.2.2.2.2.2 i (by omega)).1
          have b2 := (hA.2.1.1 x (by omega)).2
          have lp : (pre ++ [x]).length = i + 1 := by rw [List.length_append, hl]; rfl
          have go : ∀ s0 : Int32, s_Top_asNumber s0 = nI (if l_l (a_L A) i = k_r (a_K A) x then 0 else 1) → ∃ g2, s_Deal_dealTo_b97 0 (s_Deal_dealTo d) (s_Deal_dealTo_L47 0 (s_Deal_dealTo d) f) (nI i) (nI t) (nI (y_ct A i pre)) 0 (nI x) s0 (z_up g 69 i (nI x)) = some g2 ∧ y_fr i g g2 ∧ y_B (l_M (a_L A)) ((y_rw (fun x => if m_ti t x = true then [] else y_pl (l_M (a_L A)) r (t + 2 ^ x) (pre ++ [x])) m (x + 1)).foldl (y_sp A) ((y_pl (l_M (a_L A)) r (t + 2 ^ x) (pre ++ [x])).foldl (y_sp A) S)) (g2 67 1) (g2 68) := by
            intro s0 hs0
            unfold s_Deal_dealTo_b97 s_Deal_dealTo_b123
            simp only [q_let]
            rw [hs0, q_add, ← y_ct_ap hl, ho.1, show nI i + 1 = nI (i + 1) from nI_1 i, show nI x + 1 = nI (x + 1) from nI_1 x]
            obtain ⟨g2, a1, a2, a3⟩ := ihd (i + 1) (t + 2 ^ x) (pre ++ [x]) (z_up g 69 i (nI x)) S (by omega) lp ho.2 (by rw [up_c (by decide), up_c (by decide), up_c (by decide), up_c (by decide)]; exact hc) (by rw [up_c (by decide), up_c (by decide), up_c (by decide)]; exact hk) (fun j hj => by
              rw [y_ap_D hl]
              by_cases h9 : j < i
              · rw [if_pos h9, up_n (by omega)]; exact h69 j h9
              · rw [if_neg h9, if_pos (by omega), show j = i by omega, up_s]) (by rw [up_c (by decide), up_c (by decide)]; exact hS)
            rw [a1]
            simp only [Option.bind_some]
            have f1 : y_fr i g g2 := ⟨fun k a b c => by rw [a2.1 k a b c, up_c c], fun j hj => by rw [a2.2 j (by omega), up_n (by omega)]⟩
            obtain ⟨g3, b1, b2, b3⟩ := ihm f (x + 1) g2 _ (by omega) (by omega) (by rw [f1.1 43 (by decide) (by decide) (by decide), f1.1 44 (by decide) (by decide) (by decide), f1.1 45 (by decide) (by decide) (by decide), f1.1 46 (by decide) (by decide) (by decide)]; exact hc) (by rw [f1.1 0 (by decide) (by decide) (by decide), f1.1 1 (by decide) (by decide) (by decide), f1.1 2 (by decide) (by decide) (by decide)]; exact hk) (fun j hj => by rw [f1.2 j hj]; exact h69 j hj) a3
            exact ⟨g3, b1, f1.tr b2, b3⟩
          by_cases he : l_l (a_L A) i = k_r (a_K A) x
          · rw [if_pos (show nI (l_l (a_L A) i) = nI (k_r (a_K A) x) by rw [he])]
            exact go 0 (by rw [if_pos he]; rfl)
          · rw [if_neg (show ¬ nI (l_l (a_L A) i) = nI (k_r (a_K A) x) from fun e => he (q_inj (by omega) (by omega) e))]
            exact go 1 (by rw [if_neg he]; rfl)
    obtain ⟨g2, a1, a2, a3⟩ := key (l_M (a_L A)) z_F 0 g S (by unfold z_F; omega) (by omega) hc hk h69 hS
    refine ⟨g2, ?_, a2, a3⟩
    rw [s_Deal_dealTo, hc.2.1, if_neg (by rw [q_le (by omega) (by omega)]; omega), if_pos (show nI i < 6 from (q_lt (a := i) (b := 6) (by omega) (by decide)).mpr (by omega))]
    exact a1
