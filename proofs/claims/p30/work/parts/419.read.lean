/-! ===== what is read so far ===== -/
abbrev m_B : Type := m_L × (Nat → Nat × Nat × Nat) × (Nat → Nat) × Nat × (Nat → Nat) × (Nat → Nat)
abbrev b_L (B : m_B) : m_L := B.1
abbrev b_p (B : m_B) : Nat → Nat × Nat × Nat := B.2.1
abbrev b_r (B : m_B) : Nat → Nat := B.2.2.1
abbrev b_n (B : m_B) : Nat := B.2.2.2.1
abbrev b_rt (B : m_B) : Nat → Nat := B.2.2.2.2.1
abbrev b_rs (B : m_B) : Nat → Nat := B.2.2.2.2.2
def ok_B (B : m_B) : Prop := l_H (b_L B) ≤ 4 ∧ l_M (b_L B) ≤ 6 ∧ l_D (b_L B) ≤ 15 ∧ (∀ h, h < l_H (b_L B) → l_c (b_L B) h < 256) ∧ (∀ i, i < l_M (b_L B) → l_l (b_L B) i < l_H (b_L B) ∧ l_k (b_L B) i < 5 ∧ m_in (b_p B i) ∧ b_r B i < l_H (b_L B)) ∧ ok_row (b_n B) (b_rt B) (b_rs B)
def c_B (B : m_B) (g : z_G) : Prop := c_L (b_L B) (g 47) (g 48) (g 49) (g 50) ∧ (∀ i, i < l_M (b_L B) → g 7 i = nI (m_sp (b_p B i)) ∧ g 8 i = nI (b_r B i)) ∧ c_row (b_n B) (b_rt B) (b_rs B) (g 54) (g 55) (g 56)
def d_B (B : m_B) (ld : Nat → Int32) : Prop := ld 68 = nI (l_H (b_L B)) ∧ ld 69 = nI (l_M (b_L B)) ∧ ld 70 = nI (l_D (b_L B)) ∧ (∀ h, h < l_H (b_L B) → ld (60 + h) = nI (l_c (b_L B) h % 16) ∧ ld (64 + h) = nI (l_c (b_L B) h / 16)) ∧ (∀ i, i < l_M (b_L B) → ld (71 + i) = nI (l_l (b_L B) i) ∧ ld (77 + i) = nI (l_k (b_L B) i) ∧ ld (83 + i) = nI (b_p B i).1 ∧ ld (89 + i) = nI (b_p B i).2.1 ∧ ld (95 + i) = nI (b_p B i).2.2 ∧ ld (101 + i) = nI (b_r B i)) ∧ ld 107 = nI (b_n B) ∧ ∀ k, k < b_n B → ld (108 + k) = nI (b_rt B k) ∧ ld (114 + k) = nI (b_rs B k)
def k_home (B : m_B) (x y : Nat) : m_B := ((l_H (b_L B) + 1, l_M (b_L B), l_D (b_L B), (fun h => if h = l_H (b_L B) then 16 * y + x else l_c (b_L B) h), l_l (b_L B), l_k (b_L B)), B.2)
def k_man (B : m_B) (x y f l r k : Nat) : m_B := ((l_H (b_L B), l_M (b_L B) + 1, l_D (b_L B), l_c (b_L B), (fun i => if i = l_M (b_L B) then l else l_l (b_L B) i), (fun i => if i = l_M (b_L B) then k else l_k (b_L B) i)), (fun i => if i = l_M (b_L B) then (x, y, f) else b_p B i), (fun i => if i = l_M (b_L B) then r else b_r B i), B.2.2.2)
def k_far (B : m_B) (v : Nat) : m_B := ((l_H (b_L B), l_M (b_L B), v, l_c (b_L B), l_l (b_L B), l_k (b_L B)), B.2)
def k_row (B : m_B) (a b : Nat) : m_B := (b_L B, b_p B, b_r B, b_n B + 1, (fun k => if k = b_n B then a else b_rt B k), (fun k => if k = b_n B then b else b_rs B k))
/-- the reference's frame while it reads -/
def d_fi (g g2 : z_G) : Prop := (∀ k, 2 ≤ k → g2 k = g k) ∧ (∀ j, j ≠ 6 → j ≠ 8 → g2 0 j = g 0 j) ∧ ∀ j, j < 60 → g2 1 j = g 1 j
theorem d_fr.fi {g g2 : z_G} (h : d_fr g g2) : d_fi g g2 := ⟨fun k hk => h.1 k (by omega), h.2, fun j _ => by rw [h.1 1 (by decide)]⟩
theorem d_fi.tr {g g2 g3 : z_G} (h : d_fi g g2) (h2 : d_fi g2 g3) : d_fi g g3 := ⟨fun k hk => (h2.1 k hk).trans (h.1 k hk), fun j a b => (h2.2.1 j a b).trans (h.2.1 j a b), fun j hj => (h2.2.2 j hj).trans (h.2.2 j hj)⟩
theorem d_fi1 {g g2 : z_G} {j : Nat} {v : Int32} (h : d_fi g g2) (hj : 60 ≤ j) : d_fi g (z_up g2 1 j v) := ⟨fun k hk => by rw [up_c (by omega)]; exact h.1 k hk, fun i a b => by rw [up_c (by decide)]; exact h.2.1 i a b, fun i hi => by rw [up_n (by omega)]; exact h.2.2 i hi⟩
theorem r_ok_st {o : Option (Nat × Nat)} {v : Int32} {g : z_G} (h : r_ok o v g) : r_st (o.map Prod.snd) g := by
  cases o with
  | none => exact h
  | some q => exact ⟨h.2.2, h.2.1⟩
theorem m_nr_le {T p v e : Nat} {tx : Nat → Nat} {lo hi : Int32} (h : m_nr T tx lo hi p = some (v, e)) : e ≤ T := (m_n_le (m_nr_n h).1).2.1
theorem m_mr_le {T v e : Nat} {s : Option Nat} {tx : Nat → Nat} {lo hi : Int32} (h : m_mr T tx lo hi s = some (v, e)) : e ≤ T := by
  cases s with
  | none => exact absurd h (by simp [m_mr])
  | some a =>
    have h2 : (if a < T ∧ tx a = 44 then m_nr T tx lo hi (a + 1) else none) = some (v, e) := h
    by_cases h1 : a < T ∧ tx a = 44
    · rw [if_pos h1] at h2; exact m_nr_le h2
    · rw [if_neg h1] at h2; exact absurd h2 (by simp)
/-- one more, given what the number ahead of it was -/
theorem d_mor2 {T : Nat} {tx : Nat → Nat} {g : z_G} {o : Option (Nat × Nat)} {v0 : Int32} (lo hi : Int32) (ht : ok_tx T tx) (h : d_tx T tx (g 0 4) (g 3)) (ho : r_ok o v0 g) (hp : ∀ a e, o = some (a, e) → e ≤ T) : ∃ v g2, s_Mod_more lo hi g = some (v, g2) ∧ d_fr g g2 ∧ r_ok (m_mr T tx lo hi (o.map Prod.snd)) v g2 := by
  refine d_mor lo hi ht h (r_ok_st ho) (fun e he => ?_)
  have hT := ht.1
  cases o with
  | none => exact absurd he (by simp)
  | some q =>
    obtain ⟨a, b⟩ := q
    have he2 := Option.some.inj he
    have he3 : b = e := he2
    have := hp a b rfl
    omega
