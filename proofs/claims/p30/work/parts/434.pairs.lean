/-! the reference's next way -/
def y_7 (l : List Nat) (g : z_G) : Prop := l.length = 6 ∧ (∀ j, j < 6 → l.getD j 0 < 6) ∧ ∀ j, j < 6 → g 7 j = nI (l.getD j 0)
def y_f7 (g g2 : z_G) : Prop := ∀ k, k ≠ 7 → g2 k = g k
theorem y_set_D {l : List Nat} {i j a : Nat} (h : j < l.length) : (l.set i a).getD j 0 = if i = j then a else l.getD j 0 := by
  rw [List.getD_eq_getElem?_getD, List.getD_eq_getElem?_getD, List.getElem?_set]
  by_cases h1 : i = j
  · subst h1
    rw [if_pos rfl, if_pos rfl, if_pos h]; rfl
  · rw [if_neg h1, if_neg h1]
theorem y_sw7 {l : List Nat} {g : z_G} {i j : Nat} (h : y_7 l g) (hi : i < 6) (hj : j < 6) : y_7 (y_sw l i j) (z_up (z_up g 7 i (nI (l.getD j 0))) 7 j (nI (l.getD i 0))) := by
  obtain ⟨h1, h2, h3⟩ := h
  have e : ∀ k, k < 6 → (y_sw l i j).getD k 0 = if j = k then l.getD i 0 else if i = k then l.getD j 0 else l.getD k 0 := by
    intro k hk
    unfold y_sw
    rw [y_set_D (by rw [List.length_set]; omega), y_set_D (by omega)]
  refine ⟨by unfold y_sw; rw [List.length_set, List.length_set]; exact h1, fun k hk => ?_, fun k hk => ?_⟩
  · rw [e k hk]
    by_cases a : j = k
    · rw [if_pos a]; exact h2 i hi
    · rw [if_neg a]
      by_cases b : i = k
      · rw [if_pos b]; exact h2 j hj
      · rw [if_neg b]; exact h2 k hk
  · rw [e k hk]
    by_cases a : j = k
    · rw [if_pos a, a, up_s]
    · rw [if_neg a, up_n (fun e => a e.symm)]
      by_cases b : i = k
      · rw [if_pos b, b, up_s]
      · rw [if_neg b, up_n (fun e => b e.symm)]; exact h3 k hk
theorem y_105 : ∀ (n fuel i j : Nat) (l : List Nat) (g : z_G), j ≤ i + 2 * n → n < fuel → i ≤ 6 → j < 6 → y_7 l g → ∃ g2, s_Mod_gives_L105 fuel (nI i) (nI j) g = some (1, g2) ∧ y_f7 g g2 ∧ y_7 (y_rv n l i j) g2 := by
  intro n
  induction n with
  | zero =>
    intro fuel i j l g hij hf hi hj h
    obtain ⟨f, rfl⟩ : ∃ k, fuel = k + 1 := ⟨fuel - 1, by omega⟩
    rw [s_Mod_gives_L105, if_pos (by rw [q_le (by omega) (by omega)]; omega)]
    exact ⟨g, rfl, fun _ _ => rfl, h⟩
  | succ n ih =>
    intro fuel i j l g hij hf hi hj h
    obtain ⟨f, rfl⟩ : ∃ k, fuel = k + 1 := ⟨fuel - 1, by omega⟩
    rw [s_Mod_gives_L105, y_rv]
    by_cases h1 : j ≤ i
    · rw [if_pos (by rw [q_le (by omega) (by omega)]; omega), if_pos h1]
      exact ⟨g, rfl, fun _ _ => rfl, h⟩
    · rw [if_neg (by rw [q_le (by omega) (by omega)]; omega), if_neg h1, q_ck (by omega) (by decide), q_ck (by omega) (by decide), q_ck (by omega) (by decide)]
      simp only [q_let]
      rw [q_ck (by omega) (by decide), q_wr (by omega), q_wr (by omega), q_rd (by omega), q_rd (by omega), h.2.2 i (by omega), h.2.2 j (by omega), show nI i + 1 = nI (i + 1) from nI_1 i, show nI j + (-1) = nI (j - 1) from by
        obtain ⟨t, rfl⟩ : ∃ t, j = t + 1 := ⟨j - 1, by omega⟩
        rw [← nI_1 t, Int32.add_assoc, show (1 : Int32) + -1 = 0 by decide, Int32.add_zero]
        rfl]
      obtain ⟨g2, a1, a2, a3⟩ := ih f (i + 1) (j - 1) (y_sw l i j) (z_up (z_up g 7 i (nI (l.getD j 0))) 7 j (nI (l.getD i 0))) (by omega) (by omega) (by omega) (by omega) (y_sw7 h (by omega) (by omega))
      exact ⟨g2, a1, fun k hk => by rw [a2 k hk, up_c hk, up_c hk], a3⟩
theorem y_46 {M p : Nat} {l : List Nat} {g : z_G} (hM : M ≤ 6) (hp : p + 1 < M) (h : y_7 l g) (hpl : l.getD p 0 ≤ l.getD (p + 1) 0) : ∀ (n fuel q : Nat), q = p + 1 + n → q < M → n < fuel → ∃ g2, s_Mod_gives_L46 fuel (nI M) (nI p) (nI q) g = some (1, g2) ∧ y_f7 g g2 ∧ y_7 (y_rv 6 (y_sw l p (y_fq l p q)) (p + 1) (M - 1)) g2 := by
  intro n
  have hit : ∀ (f q : Nat), p < q → q < M → l.getD p 0 ≤ l.getD q 0 → ∃ g2, s_Mod_gives_L46 (f + 1) (nI M) (nI p) (nI q) g = some (1, g2) ∧ y_f7 g g2 ∧ y_7 (y_rv 6 (y_sw l p q) (p + 1) (M - 1)) g2 := by
    intro f q h1 h2 h3
    have b1 := h.2.1 p (by omega)
    have b2 := h.2.1 q (by omega)
    rw [s_Mod_gives_L46, q_ck (by omega) (by decide), q_ck (by omega) (by decide), q_rd (by omega), q_rd (by omega), h.2.2 p (by omega), h.2.2 q (by omega), if_pos (by rw [q_le (by omega) (by omega)]; exact h3), q_ck (by omega) (by decide), q_ck (by omega) (by decide), q_ck (by omega) (by decide)]
    simp only [q_let]
    rw [q_ck (by omega) (by decide), q_wr (by omega), q_wr (by omega), show nI p + 1 = nI (p + 1) from nI_1 p, show (1 : Int32) = nI 1 from rfl, q_sub (by omega)]
    obtain ⟨g2, a1, a2, a3⟩ := y_105 6 z_F (p + 1) (M - 1) (y_sw l p q) _ (by omega) (by unfold z_F; omega) (by omega) (by omega) (y_sw7 h (i := p) (j := q) (by omega) (by omega))
    exact ⟨g2, a1, fun k hk => by rw [a2 k hk, up_c hk, up_c hk], a3⟩
  induction n with
  | zero =>
    intro fuel q hq hqM hf
    obtain ⟨f, rfl⟩ : ∃ k, fuel = k + 1 := ⟨fuel - 1, by omega⟩
    have hq2 : q = p + 1 := by omega
    subst hq2
    rw [y_fq, if_pos hpl]
    exact hit f (p + 1) (by omega) hqM hpl
  | succ n ih =>
    intro fuel q hq hqM hf
    obtain ⟨f, rfl⟩ : ∃ k, fuel = k + 1 := ⟨fuel - 1, by omega⟩
    obtain ⟨q, rfl⟩ : ∃ k, q = k + 1 := ⟨q - 1, by omega⟩
    rw [y_fq]
    by_cases h3 : l.getD p 0 ≤ l.getD (q + 1) 0
    · rw [if_pos h3]; exact hit f (q + 1) (by omega) hqM h3
    · have b1 := h.2.1 p (by omega)
      have b2 := h.2.1 (q + 1) (by omega)
      rw [if_neg h3, s_Mod_gives_L46, q_ck (by omega) (by decide), q_ck (by omega) (by decide), q_rd (by omega), q_rd (by omega), h.2.2 p (by omega), h.2.2 (q + 1) (by omega), if_neg (by rw [q_le (by omega) (by omega)]; exact h3), show nI (q + 1) + (-1) = nI q from by rw [← nI_1 q, Int32.add_assoc, show (1 : Int32) + -1 = 0 by decide, Int32.add_zero]]
      exact ih f q (by omega) (by omega) (by omega)
theorem y_9 {M : Nat} {l : List Nat} {g : z_G} (hM : M ≤ 6) (h : y_7 l g) : ∀ (k fuel : Nat), k < fuel → k < M → (y_pv l k = none → s_Mod_gives_L9 fuel (nI M) (nI k - 1) g = some (0, g)) ∧ ∀ p, y_pv l k = some p → ∃ g2, s_Mod_gives_L9 fuel (nI M) (nI k - 1) g = some (1, g2) ∧ y_f7 g g2 ∧ y_7 (y_rv 6 (y_sw l p (y_fq l p (M - 1))) (p + 1) (M - 1)) g2 := by
  intro k
  induction k with
  | zero =>
    intro fuel hf hk
    obtain ⟨f, rfl⟩ : ∃ k, fuel = k + 1 := ⟨fuel - 1, by omega⟩
    refine ⟨fun _ => ?_, fun p e => absurd e (by simp [y_pv])⟩
    rw [show nI 0 - 1 = (-1 : Int32) from rfl, s_Mod_gives_L9, if_pos (show (-1 : Int32) < 0 by decide)]
    rfl
  | succ k ih =>
    intro fuel hf hk
    obtain ⟨f, rfl⟩ : ∃ k, fuel = k + 1 := ⟨fuel - 1, by omega⟩
    have b1 := h.2.1 k (by omega)
    have b2 := h.2.1 (k + 1) (by omega)
    have e1 : nI (k + 1) - 1 = nI k := by rw [show (1 : Int32) = nI 1 from rfl, q_sub (by omega), show k + 1 - 1 = k by omega]
    rw [e1, s_Mod_gives_L9, if_neg (show ¬ nI k < 0 from fun e => by have := (q_lt (a := k) (b := 0) (by omega) (by decide)).mp e; omega), show nI k + 1 = nI (k + 1) from nI_1 k, q_ck (by omega) (by decide), q_ck (by omega) (by decide), q_rd (by omega), q_rd (by omega), h.2.2 k (by omega), h.2.2 (k + 1) (by omega), y_pv]
    by_cases h3 : l.getD k 0 ≤ l.getD (k + 1) 0
    · rw [if_pos h3, if_pos (by rw [q_le (by omega) (by omega)]; exact h3)]
      unfold s_Mod_gives_b36
      rw [if_pos (show (0 : Int32) ≤ nI k from (q_le (a := 0) (b := k) (by decide) (by omega)).mpr (by omega)), show (1 : Int32) = nI 1 from rfl, q_sub (by omega)]
      refine ⟨fun e => absurd e (by simp), fun p e => ?_⟩
      have := Option.some.inj e
      subst this
      exact y_46 hM (by omega) h h3 (M - 1 - (k + 1)) z_F (M - 1) (by omega) (by omega) (by unfold z_F; omega)
    · rw [if_neg h3, if_neg (by rw [q_le (by omega) (by omega)]; exact h3), show nI k + (-1) = nI k - 1 from by rw [Int32.sub_eq_add_neg]]
      exact ih f (by omega) (by omega)
theorem y_gives {A : m_A} {l : List Nat} {g : z_G} (hA : ok_A A) (hd : d_L (a_L A) (g 1)) (h : y_7 l g) : (y_np (l_M (a_L A)) l = none → s_Mod_gives g = some (0, g)) ∧ ∀ l2, y_np (l_M (a_L A)) l = some l2 → ∃ g2, s_Mod_gives g = some (1, g2) ∧ y_f7 g g2 ∧ y_7 l2 g2 := by
  have hM := hA.1.2.2.2.1
  have hM1 := hA.1.2.2.1
  have em : s_Mod_men g = nI (l_M (a_L A)) := by unfold s_Mod_men; rw [show (9 : Int32) = nI 9 from rfl, q_rd (by decide)]; exact hd.2.1
  have e2 : nI (l_M (a_L A)) - 2 = nI (l_M (a_L A) - 1) - 1 := by
    rw [show nI (l_M (a_L A) - 1) = nI (l_M (a_L A)) - nI 1 from (q_sub hM1).symm, Int32.sub_sub]
    rfl
  unfold s_Mod_gives
  simp only [q_let]
  rw [em, e2]
  obtain ⟨a1, a2⟩ := y_9 hM h (l_M (a_L A) - 1) z_F (by unfold z_F; omega) (by omega)
  unfold y_np
  cases hp : y_pv l (l_M (a_L A) - 1) with
  | none => exact ⟨fun _ => a1 hp, fun l2 e => absurd e (by simp)⟩
  | some p =>
    refine ⟨fun e => absurd e (by simp), fun l2 e => ?_⟩
    have := Option.some.inj e
    subst this
    exact a2 p hp
