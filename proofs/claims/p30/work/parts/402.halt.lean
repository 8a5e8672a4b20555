/-! ===== the turn at a halt ===== -/
def m_tn (w f k : Nat) (p : Bool) : Nat :=
  let off := (w + 8 - f) % 8
  if w = 8 then f else if k = 3 then f else if k = 4 then (if off = 4 then f else if off ≤ 4 then (f + 7) % 8 else (f + 1) % 8) else
  let b0 := if k = 1 then 2 else if k = 0 then 1 else if p = true then 1 else 0
  let far := if off ≤ 4 then off else 8 - off
  let b := if far ≤ b0 then far else b0
  (f + (if off ≤ 4 then b else 8 - b)) % 8
def q_par (h : Int32) : Bool := decide (z_rem h 2 = 0)
/-- the class: the new way -/
def q_cH (w f k h : Int32) : Int32 := z_rem ((f + (s_Ways_eighthsToRight k (s_Ways_shorterTurn f w) h)) + 8) 8
theorem q_eig (k n h : Int32) : s_Ways_eighthsToRight k n h = s_Ways_eighthsToRight k n (if q_par h = true then 0 else 1) := by
  unfold s_Ways_eighthsToRight q_par
  by_cases hp : z_rem h 2 = 0
  · have e0 : z_rem 0 2 = 0 := by decide
    simp [hp, e0]
  · have e1 : ¬ z_rem 1 2 = 0 := by decide
    simp [hp, e1]
set_option maxRecDepth 20000 in
theorem m_cH : ∀ w, w < 8 → ∀ f, f < 8 → ∀ k, k < 5 → ∀ p : Bool, q_cH (nI w) (nI f) (nI k) (if p = true then 0 else 1) = nI (m_tn w f k p) := by decide +kernel
theorem m_tn_lt : ∀ w, w < 9 → ∀ f, f < 8 → ∀ k, k < 5 → ∀ p : Bool, m_tn w f k p < 8 := by decide +kernel
theorem m_halted {x y f u v k : Nat} {h : Int32} (hx : x < 16) (hy : y < 16) (hf : f < 8) (hu : u < 16) (hv : v < 16) (hk : k < 5) : s_Ways_halted (nI (8 * (16 * y + x) + f)) (nI (16 * v + u)) (nI k) h = nI (8 * (16 * y + x) + m_tn (m_way x y u v) f k (q_par h)) := by
  obtain ⟨h1, h2, h3, h4⟩ := m_parts hx hy hf
  have hw := m_way_lt hx hy hu hv
  unfold s_Ways_halted
  have n4 : ∀ a, a < 2048 → ¬ nI a = (-4) := by
    intro a ha h5
    have h6 : (nI a).toInt = -4 := by rw [h5]; decide
    rw [nI_toInt (by omega)] at h6
    omega
  rw [if_neg (n4 _ (by omega))]
  simp only [z_let, h1, h2, m_wayTo hx hy hu hv]
  by_cases h8 : m_way x y u v = 8
  · rw [if_pos h8, if_pos rfl, h8]
    rfl
  · rw [if_neg h8, if_neg (n4 _ (by omega))]
    have e := m_cH (m_way x y u v) (by omega) f hf k hk (q_par h)
    unfold q_cH at e
    rw [← q_eig] at e
    rw [e, q_sub (show f ≤ 8 * (16 * y + x) + f by omega), q_add]
    congr 1
    omega
theorem m_halted_no {s k h : Int32} : s_Ways_halted s (-4) k h = s := by
  unfold s_Ways_halted
  rw [if_pos rfl]
/-- an order, by numbers: a man at (x, y) who looks f -/
def m_ord (x y f r n : Nat) : Nat × Nat × Nat := ((m_mv ((f + r) % 8) n (x, y)).1, (m_mv ((f + r) % 8) n (x, y)).2, (f + r) % 8)
/-- where the boots pull: 0 .. 255, or 256: nowhere -/
def m_go (q : Nat × Nat × Nat) (pu k : Nat) (p : Bool) : Nat × Nat × Nat := if pu = 256 then q else (q.1, q.2.1, m_tn (m_way q.1 q.2.1 (pu % 16) (pu / 16)) q.2.2 k p)
def q_pu (pu : Nat) : Int32 := if pu = 256 then (-4) else nI pu
def m_sp (q : Nat × Nat × Nat) : Nat := 8 * (16 * q.2.1 + q.1) + q.2.2
def m_in (q : Nat × Nat × Nat) : Prop := q.1 < 16 ∧ q.2.1 < 16 ∧ q.2.2 < 8
theorem m_ord_in {x y f r n : Nat} (hx : x < 16) (hy : y < 16) : m_in (m_ord x y f r n) := ⟨(m_mv_lt n (x, y) ⟨hx, hy⟩).1, (m_mv_lt n (x, y) ⟨hx, hy⟩).2, Nat.mod_lt _ (by decide)⟩
theorem m_go_in {q : Nat × Nat × Nat} {pu k : Nat} {p : Bool} (h : m_in q) (hp : pu ≤ 256) (hk : k < 5) : m_in (m_go q pu k p) := by
  unfold m_go
  by_cases h1 : pu = 256
  · rw [if_pos h1]; exact h
  · rw [if_neg h1]
    exact ⟨h.1, h.2.1, m_tn_lt _ (m_way_lt h.1 h.2.1 (Nat.mod_lt _ (by decide)) (by omega)) _ h.2.2 _ hk _⟩
theorem m_haltedP {q : Nat × Nat × Nat} {pu k : Nat} {h : Int32} (hq : m_in q) (hp : pu ≤ 256) (hk : k < 5) : s_Ways_halted (nI (m_sp q)) (q_pu pu) (nI k) h = nI (m_sp (m_go q pu k (q_par h))) := by
  unfold m_go q_pu
  by_cases h1 : pu = 256
  · rw [if_pos h1, if_pos h1]; exact m_halted_no
  · rw [if_neg h1, if_neg h1]
    have e : nI pu = nI (16 * (pu / 16) + pu % 16) := by congr 1; omega
    rw [e]
    have h2 := m_halted (h := h) hq.1 hq.2.1 hq.2.2 (Nat.mod_lt pu (show 0 < 16 by decide)) (show pu / 16 < 16 by omega) hk
    exact h2
theorem m_ordered {q : Nat × Nat × Nat} {r n pu k : Nat} {h : Int32} (hq : m_in q) (hr : r < 8) (hn : n < 1000) (hp : pu ≤ 256) (hk : k < 5) : s_Ways_ordered (nI (m_sp q)) (nI r) (nI n) (q_pu pu) (nI k) h = some (nI (m_sp (m_go (m_ord q.1 q.2.1 q.2.2 r n) pu k (q_par h)))) := by
  unfold s_Ways_ordered
  have e := m_marched hq.1 hq.2.1 hq.2.2 hr hn
  unfold m_sp at *
  rw [e]
  show some _ = some _
  congr 1
  exact m_haltedP (q := m_ord q.1 q.2.1 q.2.2 r n) (m_ord_in hq.1 hq.2.1) hp hk
/-! the reference's -/
theorem up_id {g : z_G} {k j : Nat} : z_up g k j (g k j) = g := by
  funext a b
  by_cases h : a = k
  · subst h
    by_cases h2 : b = j
    · subst h2; simp [z_up, va_up, upd]
    · simp [z_up, va_up, upd, h2]
  · simp [z_up, va_up, h]
def q_mH (w f k h : Int32) : Int32 :=
  if w < 0 then f else if k = 3 then f else if k = 4 then (if ((w - f) &&& 7) = 4 then f else if ((w - f) &&& 7) ≤ 4 then ((f + 7) &&& 7) else ((f + 1) &&& 7)) else
  z_let (if k = 1 then 2 else if k = 0 then 1 else if z_rem h 2 = 0 then 1 else 0) fun b0 => z_let (if ((w - f) &&& 7) ≤ 4 then ((w - f) &&& 7) else 8 - ((w - f) &&& 7)) fun far => z_let (if b0 ≤ far then b0 else far) fun b => (f + (if ((w - f) &&& 7) ≤ 4 then b else 8 - b)) &&& 7
theorem m_halts (h k u v : Int32) (g : z_G) : s_Mod_halts h k u v g = z_up g 0 15 (q_mH (s_Mod_way (g 0 13) (g 0 14) u v) (g 0 15) k h) := by
  unfold s_Mod_halts q_mH
  simp only [z_let, s_Mod_halts_b163, s_Mod_halts_b140, s_Mod_halts_b124, s_Mod_halts_b106, s_Mod_halts_b101, s_Mod_halts_b78, s_Mod_halts_b74]
  generalize s_Mod_way (g 0 13) (g 0 14) u v = w
  generalize ((w - g 0 15) &&& 7) = off
  by_cases h1 : w < 0
  · simp only [h1, if_true]; rw [up_id]
  · by_cases h2 : k = 3
    · simp only [h1, h2, if_true, if_false]; rw [up_id]
    · by_cases h3 : k = 4
      · by_cases h4 : off = 4
        · simp [h3, h4, h1]
        · by_cases h5 : off ≤ 4
          · simp [h3, h4, h5, h1]
          · simp [h3, h4, h5, h1]
      · simp only [h1, h2, h3, if_false]
        have key : ∀ b0 : Int32, (if off ≤ 4 then (if b0 ≤ off then (if off ≤ 4 then z_up g 0 15 ((g 0 15 + b0) &&& 7) else z_up g 0 15 ((g 0 15 + (8 - b0)) &&& 7)) else (if off ≤ 4 then z_up g 0 15 ((g 0 15 + off) &&& 7) else z_up g 0 15 ((g 0 15 + (8 - off)) &&& 7))) else (if b0 ≤ 8 - off then (if off ≤ 4 then z_up g 0 15 ((g 0 15 + b0) &&& 7) else z_up g 0 15 ((g 0 15 + (8 - b0)) &&& 7)) else (if off ≤ 4 then z_up g 0 15 ((g 0 15 + (8 - off)) &&& 7) else z_up g 0 15 ((g 0 15 + (8 - (8 - off))) &&& 7)))) = z_up g 0 15 ((g 0 15 + if off ≤ 4 then (if b0 ≤ (if off ≤ 4 then off else 8 - off) then b0 else (if off ≤ 4 then off else 8 - off)) else 8 - (if b0 ≤ (if off ≤ 4 then off else 8 - off) then b0 else (if off ≤ 4 then off else 8 - off))) &&& 7) := by
          intro b0
          by_cases h5 : off ≤ 4
          · by_cases h6 : b0 ≤ off
            · simp [h5, h6]
            · simp [h5, h6]
          · by_cases h6 : b0 ≤ 8 - off
            · simp [h5, h6]
            · simp [h5, h6]
        by_cases h4 : k = 1
        · simp only [h4, if_true]; exact key 2
        · by_cases h7 : k = 0
          · subst h7
            simp only [h4, if_true, if_false]; exact key 1
          · by_cases h8 : z_rem h 2 = 0
            · simp only [h4, h7, h8, if_true, if_false]; exact key 1
            · simp only [h4, h7, h8, if_false]; exact key 0
theorem q_mH_par (w f k h : Int32) : q_mH w f k h = q_mH w f k (if q_par h = true then 0 else 1) := by
  unfold q_mH q_par
  by_cases hp : z_rem h 2 = 0
  · have e0 : z_rem 0 2 = 0 := by decide
    simp [hp, e0]
  · have e1 : ¬ z_rem 1 2 = 0 := by decide
    simp [hp, e1]
set_option maxRecDepth 20000 in
theorem m_mH : ∀ w, w < 9 → ∀ f, f < 8 → ∀ k, k < 5 → ∀ p : Bool, q_mH (if w = 8 then (-1) else nI w) (nI f) (nI k) (if p = true then 0 else 1) = nI (m_tn w f k p) := by decide +kernel
theorem m_mhalts {x y f u v k : Nat} {h : Int32} {g : z_G} (hx : x < 16) (hy : y < 16) (hf : f < 8) (hu : u < 16) (hv : v < 16) (hk : k < 5) (e1 : g 0 13 = nI x) (e2 : g 0 14 = nI y) (e3 : g 0 15 = nI f) : s_Mod_halts h (nI k) (nI u) (nI v) g = z_up g 0 15 (nI (m_tn (m_way x y u v) f k (q_par h))) := by
  rw [m_halts, e1, e2, e3, m_modway hx hy hu hv, q_mH_par, m_mH _ (m_way_lt hx hy hu hv) f hf k hk]
