/-! ===== steps, ways, halts: by numbers ===== -/
def m_cx (f : Nat) : Nat := ([1, 2, 2, 2, 1, 0, 0, 0] : List Nat).getD f 1
def m_cy (f : Nat) : Nat := ([0, 0, 1, 2, 2, 2, 1, 0] : List Nat).getD f 1
def m_ok (f x y : Nat) : Bool := (decide (1 ≤ x + m_cx f) && decide (x + m_cx f ≤ 16)) && (decide (1 ≤ y + m_cy f) && decide (y + m_cy f ≤ 16))
def m_st (f : Nat) (p : Nat × Nat) : Nat × Nat := if m_ok f p.1 p.2 = true then (p.1 + m_cx f - 1, p.2 + m_cy f - 1) else p
def m_mv (f : Nat) : Nat → Nat × Nat → Nat × Nat
  | 0, p => p
  | n + 1, p => m_mv f n (m_st f p)
theorem m_st_lt {f : Nat} {p : Nat × Nat} (h : p.1 < 16 ∧ p.2 < 16) : (m_st f p).1 < 16 ∧ (m_st f p).2 < 16 := by
  unfold m_st
  by_cases h1 : m_ok f p.1 p.2 = true
  · rw [if_pos h1]
    simp only [m_ok, Bool.and_eq_true, decide_eq_true_eq] at h1
    constructor
    · show p.1 + m_cx f - 1 < 16; omega
    · show p.2 + m_cy f - 1 < 16; omega
  · rw [if_neg h1]; exact h
theorem m_mv_lt {f : Nat} : ∀ (n : Nat) (p : Nat × Nat), p.1 < 16 ∧ p.2 < 16 → (m_mv f n p).1 < 16 ∧ (m_mv f n p).2 < 16
  | 0, _, h => h
  | n + 1, p, h => m_mv_lt n (m_st f p) (m_st_lt h)
theorem m_mv_stay {f : Nat} {p : Nat × Nat} (h : ¬ m_ok f p.1 p.2 = true) : ∀ n, m_mv f n p = p
  | 0 => rfl
  | n + 1 => by
    show m_mv f n (m_st f p) = p
    have e : m_st f p = p := by unfold m_st; rw [if_neg h]
    rw [e]
    exact m_mv_stay h n
set_option maxRecDepth 20000 in
theorem m_dimx : ∀ x, x < 16 → ∀ f, f < 8 → (s_Top_isWithin (nI x + z_cs f) 0 15 = (if 1 ≤ x + m_cx f ∧ x + m_cx f ≤ 16 then 1 else 0) ∧ (1 ≤ x + m_cx f → nI x + z_cs f = nI (x + m_cx f - 1))) := by decide +kernel
set_option maxRecDepth 20000 in
theorem m_dimy : ∀ x, x < 16 → ∀ f, f < 8 → (s_Top_isWithin (nI x + z_rs f) 0 15 = (if 1 ≤ x + m_cy f ∧ x + m_cy f ≤ 16 then 1 else 0) ∧ (1 ≤ x + m_cy f → nI x + z_rs f = nI (x + m_cy f - 1))) := by decide +kernel
theorem m_isCell (a b : Int32) : s_Top_isCell a b = if s_Top_isWithin a 0 15 = 0 ∨ s_Top_isWithin b 0 15 = 0 then 0 else 1 := by
  unfold s_Top_isCell s_Top_isCell_b24
  by_cases h1 : s_Top_isWithin a 0 15 = 0
  · simp [h1]
  · by_cases h2 : s_Top_isWithin b 0 15 = 0
    · simp [h1, h2]
    · simp [h1, h2]
theorem m_spot (x y f : Nat) : s_Ways_spotAt (nI x) (nI y) (nI f) = nI (8 * (16 * y + x) + f) := by
  unfold s_Ways_spotAt s_Ways_cellAt
  simp only [q_lit, q_mul, q_add]
theorem m_step_no {x y f : Nat} (hx : x < 16) (hy : y < 16) (hf : f < 8) (h : ¬ m_ok f x y = true) : s_Top_isCell (nI x + z_cs f) (nI y + z_rs f) = 0 := by
  rw [m_isCell, (m_dimx x hx f hf).1, (m_dimy y hy f hf).1]
  simp only [m_ok, Bool.and_eq_true, decide_eq_true_eq] at h
  by_cases h1 : 1 ≤ x + m_cx f ∧ x + m_cx f ≤ 16
  · have h2 : ¬ (1 ≤ y + m_cy f ∧ y + m_cy f ≤ 16) := fun h3 => h ⟨h1, h3⟩
    simp [h1, h2]
  · simp [h1]
theorem m_step_yes {x y f : Nat} (hx : x < 16) (hy : y < 16) (hf : f < 8) (h : m_ok f x y = true) : s_Top_isWithin (nI x + z_cs f) 0 15 = 1 ∧ s_Top_isWithin (nI y + z_rs f) 0 15 = 1 ∧ nI x + z_cs f = nI (x + m_cx f - 1) ∧ nI y + z_rs f = nI (y + m_cy f - 1) := by
  simp only [m_ok, Bool.and_eq_true, decide_eq_true_eq] at h
  refine ⟨?_, ?_, (m_dimx x hx f hf).2 h.1.1, (m_dimy y hy f hf).2 h.2.1⟩
  · rw [(m_dimx x hx f hf).1]; simp [h.1]
  · rw [(m_dimy y hy f hf).1]; simp [h.2]
/-- the class's march -/
theorem m_cmarch {f n : Nat} (hf : f < 8) (hn : n < 1000) : ∀ (d fuel i x y : Nat), d < fuel → i + d = n → x < 16 → y < 16 → s_Ways_marched_L31 fuel (nI n) (nI f) (nI x) (nI y) (nI i) = some (nI (8 * (16 * (m_mv f d (x, y)).2 + (m_mv f d (x, y)).1) + f)) := by
  intro d
  induction d with
  | zero =>
    intro fuel i x y hfu hi hx hy
    obtain ⟨k, rfl⟩ : ∃ k, fuel = k + 1 := ⟨fuel - 1, by omega⟩
    rw [s_Ways_marched_L31, if_pos (by rw [q_le (by omega) (by omega)]; omega)]
    unfold s_Ways_marched_b84
    rw [m_spot]
    rfl
  | succ d ih =>
    intro fuel i x y hfu hi hx hy
    obtain ⟨k, rfl⟩ : ∃ k, fuel = k + 1 := ⟨fuel - 1, by omega⟩
    rw [s_Ways_marched_L31, if_neg (by rw [q_le (by omega) (by omega)]; omega), q_ck hf (by decide)]
    simp only [z_let]
    rw [q_ck hf (by decide), nI_clamp (show f < 2 ^ 31 by omega)]
    by_cases h : m_ok f x y = true
    · obtain ⟨h1, h2, h3, h4⟩ := m_step_yes hx hy hf h
      have e : s_Top_isCell (nI x + z_cs f) (nI y + z_rs f) = 1 := by rw [m_isCell, h1, h2]; rfl
      simp only [e]
      rw [if_neg (by decide), h3, h4, show nI i + 1 = nI (i + 1) from nI_1 i]
      have hl := m_st_lt (f := f) (p := (x, y)) ⟨hx, hy⟩
      have e2 : m_st f (x, y) = (x + m_cx f - 1, y + m_cy f - 1) := by unfold m_st; rw [if_pos h]
      rw [e2] at hl
      rw [ih k (i + 1) _ _ (by omega) (by omega) hl.1 hl.2]
      show _ = some (nI (8 * (16 * (m_mv f d (m_st f (x, y))).2 + (m_mv f d (m_st f (x, y))).1) + f))
      rw [e2]
    · rw [m_step_no hx hy hf h, if_pos rfl]
      unfold s_Ways_marched_b84
      rw [m_spot, m_mv_stay (p := (x, y)) h (d + 1)]
theorem m_parts {x y f : Nat} (hx : x < 16) (hy : y < 16) (hf : f < 8) : s_Ways_lookOf (nI (8 * (16 * y + x) + f)) = nI f ∧ s_Ways_cellOf (nI (8 * (16 * y + x) + f)) = nI (16 * y + x) ∧ s_Ways_columnOf (nI (16 * y + x)) = nI x ∧ s_Ways_rowOf (nI (16 * y + x)) = nI y := by
  unfold s_Ways_lookOf s_Ways_cellOf s_Ways_columnOf s_Ways_rowOf
  simp only [q_lit]
  rw [q_rem (by omega) (by omega) (by omega), q_div (by omega) (by omega) (by omega), q_rem (by omega) (by omega) (by omega), q_div (by omega) (by omega) (by omega)]
  refine ⟨?_, ?_, ?_, ?_⟩ <;> congr 1 <;> omega
theorem m_marched {x y f r n : Nat} (hx : x < 16) (hy : y < 16) (hf : f < 8) (hr : r < 8) (hn : n < 1000) : s_Ways_marched (nI (8 * (16 * y + x) + f)) (nI r) (nI n) = some (nI (8 * (16 * (m_mv ((f + r) % 8) n (x, y)).2 + (m_mv ((f + r) % 8) n (x, y)).1) + (f + r) % 8)) := by
  obtain ⟨h1, h2, h3, h4⟩ := m_parts hx hy hf
  unfold s_Ways_marched z_let
  simp only [h1, h2, h3, h4]
  rw [q_add, show (8 : Int32) = nI 8 from rfl, q_rem (by omega) (by omega) (by omega), show (0 : Int32) = nI 0 from rfl]
  exact m_cmarch (Nat.mod_lt _ (by decide)) hn n z_F 0 x y (by unfold z_F; omega) (by omega) hx hy
/-! the way toward -/
def m_wy (d e : Nat) : Nat := let c := if d ≤ 15 then 15 - d else d - 15
  let r := if e ≤ 15 then 15 - e else e - 15
  if c = 0 ∧ r = 0 then 8 else if 2 * r < c then (if 15 < d then 2 else 6) else if 2 * c < r then (if 15 < e then 4 else 0) else if e < 15 then (if 15 < d then 1 else 7) else (if 15 < d then 3 else 5)
def m_way (x y u v : Nat) : Nat := m_wy (15 + u - x) (15 + v - y)
def q_E (east south : Int32) : Int32 := if (z_abs east) = 0 then (if (z_abs south) = 0 then (-4) else (s_Ways_wayTo_b45 east south (z_abs east) (z_abs south))) else (s_Ways_wayTo_b45 east south (z_abs east) (z_abs south))
set_option maxRecDepth 20000 in
theorem m_E : ∀ d, d < 31 → ∀ e, e < 31 → q_E (nI d - 15) (nI e - 15) = if m_wy d e = 8 then (-4) else nI (m_wy d e) := by decide +kernel
set_option maxRecDepth 20000 in
theorem m_dif : ∀ x, x < 16 → ∀ u, u < 16 → nI u - nI x = nI (15 + u - x) - 15 := by decide +kernel
theorem m_wy_lt : ∀ d, d < 31 → ∀ e, e < 31 → m_wy d e < 9 := by decide +kernel
theorem m_way_lt {x y u v : Nat} (hx : x < 16) (hy : y < 16) (hu : u < 16) (hv : v < 16) : m_way x y u v < 9 := m_wy_lt _ (by omega) _ (by omega)
theorem m_wayTo {x y u v : Nat} (hx : x < 16) (hy : y < 16) (hu : u < 16) (hv : v < 16) : s_Ways_wayTo (nI (16 * y + x)) (nI (16 * v + u)) = if m_way x y u v = 8 then (-4) else nI (m_way x y u v) := by
  have h1 := (m_parts hx hy (show 0 < 8 by decide)).2.2
  have h2 := (m_parts hu hv (show 0 < 8 by decide)).2.2
  have e : s_Ways_wayTo (nI (16 * y + x)) (nI (16 * v + u)) = q_E (nI u - nI x) (nI v - nI y) := by
    unfold s_Ways_wayTo z_let
    simp only [h1.1, h1.2, h2.1, h2.2]
    rfl
  rw [e, m_dif x hx u hu, m_dif y hy v hv, m_E _ (by omega) _ (by omega)]
  rfl
set_option maxRecDepth 20000 in
theorem m_ap : ∀ x, x < 16 → ∀ u, u < 16 → s_Mod_apart (nI x) (nI u) = z_abs (nI (15 + u - x) - 15) ∧ (nI u ≤ nI x) = (nI (15 + u - x) - 15 ≤ 0) := by
  intro x hx u hu
  have h : ∀ x, x < 16 → ∀ u, u < 16 → s_Mod_apart (nI x) (nI u) = z_abs (nI (15 + u - x) - 15) ∧ ((nI u ≤ nI x) ↔ (nI (15 + u - x) - 15 ≤ 0)) := by decide +kernel
  exact ⟨(h x hx u hu).1, propext (h x hx u hu).2⟩
def q_Em (d e : Int32) : Int32 := if z_abs d = 0 then (if z_abs e = 0 then (-1) else (if z_abs d ≤ 2 * z_abs e then (if z_abs e ≤ 2 * z_abs d then (if d ≤ 0 then (if e ≤ 0 then 7 else 5) else (if e ≤ 0 then 1 else 3)) else (if e ≤ 0 then 0 else 4)) else (if d ≤ 0 then 6 else 2))) else (if z_abs d ≤ 2 * z_abs e then (if z_abs e ≤ 2 * z_abs d then (if d ≤ 0 then (if e ≤ 0 then 7 else 5) else (if e ≤ 0 then 1 else 3)) else (if e ≤ 0 then 0 else 4)) else (if d ≤ 0 then 6 else 2))
set_option maxRecDepth 20000 in
theorem m_Em : ∀ d, d < 31 → ∀ e, e < 31 → q_Em (nI d - 15) (nI e - 15) = if m_wy d e = 8 then (-1) else nI (m_wy d e) := by decide +kernel
theorem m_modway {x y u v : Nat} (hx : x < 16) (hy : y < 16) (hu : u < 16) (hv : v < 16) : s_Mod_way (nI x) (nI y) (nI u) (nI v) = if m_way x y u v = 8 then (-1) else nI (m_way x y u v) := by
  unfold s_Mod_way s_Mod_way_b26 z_let
  simp only [(m_ap x hx u hu).1, (m_ap y hy v hv).1, (m_ap x hx u hu).2, (m_ap y hy v hv).2]
  exact m_Em _ (by omega) _ (by omega)
