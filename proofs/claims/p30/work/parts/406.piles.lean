/-! ===== copies, what can be undone, what is kept ===== -/
theorem cp_in {g : z_G} {k0 k1 j : Nat} (hj : j < 6) : z_cp g k0 k1 0 0 6 k1 j = g k0 j := by
  have e : z_cp g k0 k1 0 0 6 k1 = va_cpy (g k0) (g k1) 0 0 6 := by
    show (va_up g k1 _) k1 = _
    simp [va_up]
  rw [e, pk_cpy_in (by omega) (by omega)]
  congr 1
  omega
theorem cp_c {g : z_G} {k0 k1 a : Nat} {sp dp n : Int32} (h : a ≠ k1) : z_cp g k0 k1 sp dp n a = g a := by simp [z_cp, va_up, h]
theorem c_copy {L : m_L} {K : m_K} {a b : Nat} {g : z_G} (hab : a ≠ b) (hM : l_M L ≤ 6) (h : c_K L K (g (3 * b)) (g (3 * b + 1)) (g (3 * b + 2))) : c_K L K (s_Col_copyFrom a b g (3 * a)) (s_Col_copyFrom a b g (3 * a + 1)) (s_Col_copyFrom a b g (3 * a + 2)) ∧ ∀ k, k ≠ 3 * a → k ≠ 3 * a + 1 → k ≠ 3 * a + 2 → s_Col_copyFrom a b g k = g k := by
  unfold s_Col_copyFrom
  simp only [z_let]
  refine ⟨⟨?_, ?_, fun j hj => ⟨?_, ?_⟩⟩, fun k h1 h2 h3 => ?_⟩
  · rw [up_n (by decide), up_s, cp_c (by omega), cp_c (by omega)]; exact h.1
  · rw [up_s, up_c (by omega), cp_c (by omega), cp_c (by omega)]; exact h.2.1
  · rw [up_c (by omega), up_c (by omega), cp_c (by omega), cp_in (by omega)]; exact (h.2.2 j hj).1
  · rw [up_c (by omega), up_c (by omega), cp_in (by omega), cp_c (by omega)]; exact (h.2.2 j hj).2
  · rw [up_c h1, up_c h1, cp_c h3, cp_c h2]
/-- what can be undone: U of them, un 0 the oldest -/
def c_U (L : m_L) (U : Nat) (un : Nat → m_K) (g : z_G) : Prop := g 61 1 = nI U ∧ ∃ p : Nat → Nat, (∀ j, j < 8 → g 62 j = nI (p j) ∧ 3 ≤ p j ∧ p j < 11) ∧ (∀ i j, i < 8 → j < 8 → p i = p j → i = j) ∧ ∀ j, j < U → c_K L (un j) (g (3 * p j)) (g (3 * p j + 1)) (g (3 * p j + 2))
def m_push (U : Nat) (un : Nat → m_K) (K : m_K) : Nat × (Nat → m_K) := if U < 8 then (U + 1, fun j => if j = U then K else un j) else (8, fun j => if j = 7 then K else un (j + 1))
/-- cells that a put on the pile may change -/
def z_pc (k : Nat) : Prop := (9 ≤ k ∧ k < 33) ∨ k = 61 ∨ k = 62
theorem c_put16 {L : m_L} {K : m_K} {U : Nat} {un : Nat → m_K} {g : z_G} {p : Nat → Nat} (hL : ok_L L) (hU : U < 8) (e1 : g 61 1 = nI U) (hp : ∀ j, j < 8 → g 62 j = nI (p j) ∧ 3 ≤ p j ∧ p j < 11) (hi : ∀ i j, i < 8 → j < 8 → p i = p j → i = j) (hu : ∀ j, j < U → c_K L (un j) (g (3 * p j)) (g (3 * p j + 1)) (g (3 * p j + 2))) (h : c_K L K (g 0) (g 1) (g 2)) : ∃ g2, s_Pile_put_61_b16 0 g = some g2 ∧ c_U L (U + 1) (fun j => if j = U then K else un j) g2 ∧ ∀ k, ¬ z_pc k → g2 k = g k := by
  have hM := hL.2.2.2.1
  have hpU := hp U hU
  unfold s_Pile_put_61_b16
  rw [e1, q_ck hU (by decide)]
  simp only [z_let]
  have eq : Int32.toNatClampNeg (z_rd g 62 (nI U)) = p U := by rw [q_rd (by omega), hpU.1, nI_clamp (by omega)]
  rw [eq, q_ckt (by simp; omega)]
  have hc := c_copy (L := L) (K := K) (a := p U) (b := 0) (g := g) (by omega) hM h
  have e61 : s_Col_copyFrom (p U) 0 g 61 = g 61 := hc.2 61 (by omega) (by omega) (by omega)
  have e62 : s_Col_copyFrom (p U) 0 g 62 = g 62 := hc.2 62 (by omega) (by omega) (by omega)
  refine ⟨_, rfl, ⟨?_, p, fun j hj => ?_, hi, fun j hj => ?_⟩, fun k hk => ?_⟩
  · rw [up_s, e61, e1]; exact nI_1 U
  · rw [up_c (by decide), e62]; exact hp j hj
  · have hj8 : j < 8 := by omega
    have hpj := hp j hj8
    rw [up_c (by omega), up_c (by omega), up_c (by omega)]
    show c_K L (if j = U then K else un j) _ _ _
    by_cases hjU : j = U
    · subst hjU
      rw [if_pos rfl]
      exact hc.1
    · rw [if_neg hjU]
      have hne : p j ≠ p U := fun e => hjU (hi j U hj8 hU e)
      rw [hc.2 _ (by omega) (by omega) (by omega), hc.2 _ (by omega) (by omega) (by omega), hc.2 _ (by omega) (by omega) (by omega)]
      exact hu j (by omega)
  · have h1 : k ≠ 61 := fun e => hk (Or.inr (Or.inl e))
    have h2 : ¬ (9 ≤ k ∧ k < 33) := fun e => hk (Or.inl e)
    rw [up_c h1, hc.2 k (by omega) (by omega) (by omega)]
theorem c_dropL {p : Nat → Nat} (hp3 : ∀ j, j < 8 → 3 ≤ p j ∧ p j < 11) : ∀ (d fuel i : Nat) (g : z_G), d < fuel → i + d = 8 → 1 ≤ i → (∀ j, j < 8 → g 62 j = nI (if j + 1 < i then p (j + 1) else p j)) → ∃ g2, s_Pile_dropLowest_61_L9 fuel (p 0) (nI i) g = some g2 ∧ (∀ j, j < 8 → g2 62 j = nI (if j < 7 then p (j + 1) else p 0)) ∧ g2 61 1 = nI 7 ∧ ∀ k, k ≠ 61 → k ≠ 62 → g2 k = g k := by
  intro d
  induction d with
  | zero =>
    intro fuel i g hfu hi h1 h
    obtain ⟨k, rfl⟩ : ∃ k, fuel = k + 1 := ⟨fuel - 1, by omega⟩
    have hi8 : i = 8 := by omega
    subst hi8
    rw [s_Pile_dropLowest_61_L9, if_pos (by decide)]
    have e7 : (8 - 1 : Int32) = nI 7 := by decide
    simp only [z_let, e7]
    rw [q_ck (by decide) (by decide), q_wr (by decide)]
    refine ⟨_, rfl, fun j hj => ?_, up_s, fun q h2 h3 => by rw [up_c h2, up_c h3]⟩
    rw [up_c (by decide)]
    by_cases hj7 : j = 7
    · subst hj7
      rw [up_s, if_neg (by decide)]
    · rw [up_n hj7, h j hj, if_pos (by omega), if_pos (by omega)]
  | succ d ih =>
    intro fuel i g hfu hi h1 h
    obtain ⟨k, rfl⟩ : ∃ k, fuel = k + 1 := ⟨fuel - 1, by omega⟩
    have e0 := h i (by omega)
    rw [if_neg (by omega)] at e0
    have hpi := hp3 i (by omega)
    rw [s_Pile_dropLowest_61_L9, if_neg (by rw [show (8 : Int32) = nI 8 from rfl, q_le (by omega) (by omega)]; omega), q_ck (by omega) (by decide)]
    simp only [z_let]
    have eq : Int32.toNatClampNeg (z_rd g 62 (nI i)) = p i := by rw [q_rd (by omega), e0, nI_clamp (by omega)]
    rw [eq, q_ckt (by simp; omega), show (1 : Int32) = nI 1 from rfl, q_sub h1, q_ck (by omega) (by decide), q_wr (by omega), q_add]
    obtain ⟨g2, a1, a2, a3, a4⟩ := ih k (i + 1) (z_up g 62 (i - 1) (nI (p i))) (by omega) (by omega) (by omega) (fun j hj => by
      by_cases hji : j = i - 1
      · subst hji
        rw [up_s, if_pos (by omega), show i - 1 + 1 = i by omega]
      · rw [up_n hji, h j hj]
        by_cases h7 : j + 1 < i
        · rw [if_pos h7, if_pos (by omega)]
        · rw [if_neg h7, if_neg (by omega)])
    exact ⟨g2, a1, a2, a3, fun q h2 h3 => by rw [a4 q h2 h3, up_c h3]⟩
theorem c_put {L : m_L} {K : m_K} {U : Nat} {un : Nat → m_K} {g : z_G} (hL : ok_L L) (hU : U ≤ 8) (hu : c_U L U un g) (h : c_K L K (g 0) (g 1) (g 2)) : ∃ g2, s_Pile_put_61 0 g = some g2 ∧ c_U L (m_push U un K).1 (m_push U un K).2 g2 ∧ ∀ k, ¬ z_pc k → g2 k = g k := by
  obtain ⟨e1, p, hp, hi, hk⟩ := hu
  unfold s_Pile_put_61 m_push
  rw [e1, show (8 : Int32) = nI 8 from rfl]
  by_cases h8 : U < 8
  · rw [if_pos (by rw [q_lt (by omega) (by omega)]; exact h8), if_pos h8]
    exact c_put16 hL h8 e1 hp hi hk h
  · have hU8 : U = 8 := by omega
    subst hU8
    rw [if_neg (by rw [q_lt (by omega) (by omega)]; exact h8), if_neg h8]
    have e0 : s_Pile_dropLowest_61 g = s_Pile_dropLowest_61_L9 z_F (p 0) (nI 1) g := by
      unfold s_Pile_dropLowest_61
      simp only [z_let]
      have h0 := hp 0 (by decide)
      have eq : Int32.toNatClampNeg (z_rd g 62 0) = p 0 := by rw [show (0 : Int32) = nI 0 from rfl, q_rd (by decide), h0.1, nI_clamp (by omega)]
      rw [eq, q_ckt (by decide), q_ckt (by simp; omega)]
      rfl
    obtain ⟨ga, a1, a2, a3, a4⟩ := c_dropL (p := p) (fun j hj => (hp j hj).2) 7 z_F 1 g (by unfold z_F; omega) (by omega) (by omega) (fun j hj => by rw [if_neg (by omega)]; exact (hp j hj).1)
    rw [e0, a1]
    simp only [Option.bind_some]
    obtain ⟨g2, b1, b2, b3⟩ := c_put16 (L := L) (K := K) (U := 7) (un := fun j => un (j + 1)) (g := ga) (p := fun j => if j < 7 then p (j + 1) else p 0) hL (by decide) a3 (fun j hj => ⟨a2 j hj, by
      by_cases h7 : j < 7
      · rw [if_pos h7]; exact (hp (j + 1) (by omega)).2
      · rw [if_neg h7]; exact (hp 0 (by decide)).2⟩) (fun i j hi2 hj2 he => by
      by_cases h6 : i < 7
      · by_cases h7 : j < 7
        · simp only [h6, h7, if_true] at he
          have := hi (i + 1) (j + 1) (by omega) (by omega) he
          omega
        · simp only [h6, h7, if_true, if_false] at he
          have := hi (i + 1) 0 (by omega) (by omega) he
          omega
      · by_cases h7 : j < 7
        · simp only [h6, h7, if_true, if_false] at he
          have := hi 0 (j + 1) (by omega) (by omega) he
          omega
        · omega) (fun j hj => by
      have h9 := hp (j + 1) (by omega)
      have e9 : (if j < 7 then p (j + 1) else p 0) = p (j + 1) := by rw [if_pos hj]
      rw [e9, a4 _ (by omega) (by omega), a4 _ (by omega) (by omega), a4 _ (by omega) (by omega)]
      exact hk (j + 1) (by omega)) (by rw [a4 0 (by decide) (by decide), a4 1 (by decide) (by decide), a4 2 (by decide) (by decide)]; exact h)
    refine ⟨g2, b1, b2, fun k hk2 => ?_⟩
    rw [b3 k hk2, a4 k (fun e => hk2 (Or.inr (Or.inl e))) (fun e => hk2 (Or.inr (Or.inr e)))]
/-! the reference -/
theorem d_copyL {a b : Nat} (ha : a + 26 ≤ 312) (hb : b + 26 ≤ 312) (hab : a + 26 ≤ b ∨ b + 26 ≤ a) : ∀ (d fuel i : Nat) (g : z_G), d < fuel → i + d = 26 → ∃ g2, s_Mod_copies_L2 fuel (nI a) (nI b) (nI i) g = some g2 ∧ (∀ j, j < 26 → g2 2 (b + j) = if i ≤ j then g 2 (a + j) else g 2 (b + j)) ∧ (∀ j, j < b ∨ b + 26 ≤ j → g2 2 j = g 2 j) ∧ ∀ k, k ≠ 2 → g2 k = g k := by
  intro d
  induction d with
  | zero =>
    intro fuel i g hfu hi
    obtain ⟨k, rfl⟩ : ∃ k, fuel = k + 1 := ⟨fuel - 1, by omega⟩
    rw [s_Mod_copies_L2, if_pos (by rw [show (26 : Int32) = nI 26 from rfl, q_le (by omega) (by omega)]; omega)]
    exact ⟨g, rfl, fun j hj => by rw [if_neg (by omega)], fun _ _ => rfl, fun _ _ => rfl⟩
  | succ d ih =>
    intro fuel i g hfu hi
    obtain ⟨k, rfl⟩ : ∃ k, fuel = k + 1 := ⟨fuel - 1, by omega⟩
    rw [s_Mod_copies_L2, if_neg (by rw [show (26 : Int32) = nI 26 from rfl, q_le (by omega) (by omega)]; omega)]
    simp only [z_let, q_add]
    rw [q_ck (by omega) (by decide), q_ck (by omega) (by decide), q_wr (by omega), q_rd (by omega), show nI i + 1 = nI (i + 1) from nI_1 i]
    obtain ⟨g2, a1, a2, a3, a4⟩ := ih k (i + 1) (z_up g 2 (b + i) (g 2 (a + i))) (by omega) (by omega)
    refine ⟨g2, a1, fun j hj => ?_, fun j hj => ?_, fun q hq => by rw [a4 q hq, up_c hq]⟩
    · rw [a2 j hj]
      by_cases hji : j = i
      · subst hji
        rw [if_neg (by omega), if_pos (by omega), up_s]
      · by_cases h7 : i ≤ j
        · rw [if_pos (by omega), if_pos h7, up_n (by omega)]
        · rw [if_neg (by omega), if_neg h7, up_n (by omega)]
    · rw [a3 j hj, up_n (by omega)]
theorem d_copies {a b : Nat} {g : z_G} (ha : a + 26 ≤ 312) (hb : b + 26 ≤ 312) (hab : a + 26 ≤ b ∨ b + 26 ≤ a) : ∃ g2, s_Mod_copies (nI a) (nI b) g = some g2 ∧ (∀ j, j < 26 → g2 2 (b + j) = g 2 (a + j)) ∧ (∀ j, j < b ∨ b + 26 ≤ j → g2 2 j = g 2 j) ∧ ∀ k, k ≠ 2 → g2 k = g k := by
  obtain ⟨g2, a1, a2, a3, a4⟩ := d_copyL ha hb hab 26 z_F 0 g (by unfold z_F; omega) (by omega)
  exact ⟨g2, a1, fun j hj => by rw [a2 j hj, if_pos (by omega)], a3, a4⟩
theorem d_K_at {L : m_L} {K : m_K} {a b : Nat} {s t : Nat → Int32} (hM : l_M L ≤ 6) (h : d_K L K a s) (e : ∀ j, j < 26 → t (b + j) = s (a + j)) : d_K L K b t := by
  refine ⟨fun i hi => ?_, ?_, ?_⟩
  · have h1 := h.1 i hi
    refine ⟨?_, ?_, ?_, ?_⟩
    · rw [e i (by omega)]; exact h1.1
    · rw [show b + 6 + i = b + (6 + i) by omega, e (6 + i) (by omega), show a + (6 + i) = a + 6 + i by omega]; exact h1.2.1
    · rw [show b + 12 + i = b + (12 + i) by omega, e (12 + i) (by omega), show a + (12 + i) = a + 12 + i by omega]; exact h1.2.2.1
    · rw [show b + 18 + i = b + (18 + i) by omega, e (18 + i) (by omega), show a + (18 + i) = a + 18 + i by omega]; exact h1.2.2.2
  · rw [e 24 (by decide)]; exact h.2.1
  · rw [e 25 (by decide)]; exact h.2.2
def d_U (L : m_L) (U : Nat) (un : Nat → m_K) (g : z_G) : Prop := g 0 2 = nI U ∧ ∀ j, j < U → d_K L (un j) (26 * (1 + j)) (g 2)
theorem d_known46 {L : m_L} {K : m_K} {U : Nat} {un : Nat → m_K} {g : z_G} (hL : ok_L L) (hU : U < 8) (hu : d_U L U un g) (h : d_K L K 0 (g 2)) : ∃ g2, s_Mod_known_b46 g = some g2 ∧ d_U L (U + 1) (fun j => if j = U then K else un j) g2 ∧ (∀ k, k ≠ 0 → k ≠ 2 → g2 k = g k) ∧ (∀ j, j ≠ 2 → g2 0 j = g 0 j) ∧ ∀ j, j < 26 ∨ 234 ≤ j → g2 2 j = g 2 j := by
  have hM := hL.2.2.2.1
  unfold s_Mod_known_b46
  simp only [z_let]
  have e1 : z_up g 0 2 (g 0 2 + 1) 0 2 = nI (U + 1) := by rw [up_s, hu.1]; exact nI_1 U
  rw [e1, show (26 : Int32) = nI 26 from rfl, show (0 : Int32) = nI 0 from rfl, q_mul]
  obtain ⟨g2, a1, a2, a3, a4⟩ := d_copies (a := 0) (b := (U + 1) * 26) (g := z_up g 0 2 (g 0 2 + 1)) (by omega) (by omega) (by omega)
  rw [a1]
  simp only [Option.bind_some]
  have e2 : z_up g 0 2 (g 0 2 + 1) 2 = g 2 := up_c (by decide)
  refine ⟨g2, rfl, ⟨by rw [a4 0 (by decide)]; exact e1, fun j hj => ?_⟩, fun k h1 h2 => by rw [a4 k h2, up_c h1], fun j hj => by rw [a4 0 (by decide), up_n hj], fun j hj => by rw [a3 j (by omega), e2]⟩
  show d_K L (if j = U then K else un j) _ _
  by_cases hjU : j = U
  · subst hjU
    rw [if_pos rfl]
    exact d_K_at hM h (fun i hi => by rw [show 26 * (1 + j) + i = (j + 1) * 26 + i by omega, a2 i hi, e2])
  · rw [if_neg hjU]
    exact d_K_at hM (hu.2 j (by omega)) (fun i hi => by rw [a3 _ (by omega), e2])
theorem d_shiftL : ∀ (d fuel i : Nat) (g : z_G), d < fuel → i + d = 208 → 26 ≤ i → ∃ ga, s_Mod_known_L12 fuel (nI i) g = s_Mod_known_b46 (z_up ga 0 2 7) ∧ (∀ j, j < 208 → ga 2 j = if i ≤ j then g 2 (j + 26) else g 2 j) ∧ (∀ j, 208 ≤ j → ga 2 j = g 2 j) ∧ ∀ k, k ≠ 2 → ga k = g k := by
  intro d
  induction d with
  | zero =>
    intro fuel i g hfu hi h26
    obtain ⟨k, rfl⟩ : ∃ k, fuel = k + 1 := ⟨fuel - 1, by omega⟩
    rw [s_Mod_known_L12, if_pos (by rw [show (208 : Int32) = nI 208 from rfl, q_le (by omega) (by omega)]; omega)]
    simp only [q_let]
    exact ⟨g, rfl, fun j hj => by rw [if_neg (by omega)], fun _ _ => rfl, fun _ _ => rfl⟩
  | succ d ih =>
    intro fuel i g hfu hi h26
    obtain ⟨k, rfl⟩ : ∃ k, fuel = k + 1 := ⟨fuel - 1, by omega⟩
    rw [s_Mod_known_L12, if_neg (by rw [show (208 : Int32) = nI 208 from rfl, q_le (by omega) (by omega)]; omega)]
    rw [show (26 : Int32) = nI 26 from rfl]
    simp only [q_let, q_add]
    rw [q_ck (by omega) (by decide), q_ck (by omega) (by decide), q_wr (by omega), q_rd (by omega), show nI i + 1 = nI (i + 1) from nI_1 i]
    obtain ⟨g2, a1, a2, a3, a4⟩ := ih k (i + 1) (z_up g 2 i (g 2 (i + 26))) (by omega) (by omega) (by omega)
    refine ⟨g2, a1, fun j hj => ?_, fun j hj => by rw [a3 j hj, up_n (by omega)], fun q hq => by rw [a4 q hq, up_c hq]⟩
    rw [a2 j hj]
    by_cases hji : j = i
    · subst hji
      rw [if_neg (by omega), if_pos (by omega), up_s]
    · by_cases h7 : i ≤ j
      · rw [if_pos (by omega), if_pos h7, up_n (by omega)]
      · rw [if_neg (by omega), if_neg h7, up_n (by omega)]
theorem d_known {L : m_L} {K : m_K} {U : Nat} {un : Nat → m_K} {g : z_G} (hL : ok_L L) (hU : U ≤ 8) (hu : d_U L U un g) (h : d_K L K 0 (g 2)) : ∃ g2, s_Mod_known g = some g2 ∧ d_U L (m_push U un K).1 (m_push U un K).2 g2 ∧ (∀ k, k ≠ 0 → k ≠ 2 → g2 k = g k) ∧ (∀ j, j ≠ 2 → g2 0 j = g 0 j) ∧ ∀ j, j < 26 ∨ 234 ≤ j → g2 2 j = g 2 j := by
  have hM := hL.2.2.2.1
  unfold s_Mod_known m_push
  rw [hu.1, show (8 : Int32) = nI 8 from rfl]
  by_cases h8 : U < 8
  · rw [if_neg (fun e => by have := q_inj (by omega) (by omega) e; omega), if_pos h8]
    exact d_known46 hL h8 hu h
  · have hU8 : U = 8 := by omega
    subst hU8
    rw [if_pos rfl, if_neg h8]
    obtain ⟨ga, a1, a2, a3, a4⟩ := d_shiftL 182 z_F 26 g (by unfold z_F; omega) (by omega) (by omega)
    rw [show (26 : Int32) = nI 26 from rfl, a1]
    have e2 : z_up ga 0 2 7 2 = ga 2 := up_c (by decide)
    obtain ⟨g2, b1, b2, b3, b4, b5⟩ := d_known46 (L := L) (K := K) (U := 7) (un := fun j => un (j + 1)) (g := z_up ga 0 2 7) hL (by decide) ⟨by rw [up_s]; rfl, fun j hj => by
      rw [e2]
      exact d_K_at hM (hu.2 (j + 1) (by omega)) (fun i hi => by rw [a2 _ (by omega), if_pos (by omega), show 26 * (1 + j) + i + 26 = 26 * (1 + (j + 1)) + i by omega])⟩ (by
      rw [e2]
      exact d_K_at hM h (fun i hi => by rw [a2 _ (by omega), if_neg (by omega)]))
    refine ⟨g2, b1, b2, fun k h1 h2 => by rw [b3 k h1 h2, up_c h1, a4 k h2], fun j hj => by rw [b4 j hj, up_n hj, a4 0 (by decide)], fun j hj => ?_⟩
    rw [b5 j hj, e2]
    rcases hj with hj | hj
    · rw [a2 j (by omega), if_neg (by omega)]
    · rw [a3 j (by omega)]
