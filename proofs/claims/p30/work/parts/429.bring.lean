/-! ===== bring: the first of all codes ===== -/
def y_fc (f : Nat → Bool) : Nat → Nat → Option Nat
  | 0, _ => none
  | k + 1, s => if f s = true then some s else y_fc f k (s + 1)
def y_1s (f : Nat → Option Nat) : Nat → Nat → Option (Nat × Nat)
  | 0, _ => none
  | k + 1, s => match f s with
    | some c => some (s, c)
    | none => y_1s f k (s + 1)
theorem y_fc_add (f : Nat → Bool) : ∀ (a b s : Nat), y_fc f (a + b) s = (match y_fc f a s with
    | some x => some x
    | none => y_fc f b (s + a)) := by
  intro a
  induction a with
  | zero => intro b s; rw [Nat.zero_add]; rfl
  | succ a ih =>
    intro b s
    rw [show a + 1 + b = (a + b) + 1 by omega, y_fc, y_fc]
    by_cases h : f s = true
    · rw [if_pos h, if_pos h]
    · rw [if_neg h, if_neg h, ih b (s + 1), show s + 1 + a = s + (a + 1) by omega]
theorem y_1s_add (f : Nat → Option Nat) : ∀ (a b s : Nat), y_1s f (a + b) s = (match y_1s f a s with
    | some x => some x
    | none => y_1s f b (s + a)) := by
  intro a
  induction a with
  | zero => intro b s; rw [Nat.zero_add]; rfl
  | succ a ih =>
    intro b s
    rw [show a + 1 + b = (a + b) + 1 by omega, y_1s, y_1s]
    cases f s with
    | some c => rfl
    | none => simp only; rw [ih b (s + 1), show s + 1 + a = s + (a + 1) by omega]
theorem y_fc_lt (f : Nat → Bool) : ∀ (a s x : Nat), y_fc f a s = some x → s ≤ x ∧ x < s + a ∧ f x = true := by
  intro a
  induction a with
  | zero => intro s x h; exact absurd h (by simp [y_fc])
  | succ a ih =>
    intro s x h
    rw [y_fc] at h
    by_cases h1 : f s = true
    · rw [if_pos h1] at h
      have := Option.some.inj h
      subst this
      exact ⟨by omega, by omega, h1⟩
    · rw [if_neg h1] at h
      have := ih (s + 1) x h
      exact ⟨by omega, by omega, this.2.2⟩
theorem y_1s_lt (f : Nat → Option Nat) : ∀ (a s x c : Nat), y_1s f a s = some (x, c) → s ≤ x ∧ x < s + a ∧ f x = some c := by
  intro a
  induction a with
  | zero => intro s x c h; exact absurd h (by simp [y_1s])
  | succ a ih =>
    intro s x c h
    rw [y_1s] at h
    cases h1 : f s with
    | some d =>
      rw [h1] at h
      have h2 := Option.some.inj h
      have h3 := congrArg Prod.fst h2
      have h4 := congrArg Prod.snd h2
      simp only at h3 h4
      subst h3 h4
      exact ⟨by omega, by omega, h1⟩
    | none =>
      rw [h1] at h
      have := ih (s + 1) x c h
      exact ⟨by omega, by omega, this.2.2⟩
theorem y_fc_blk {F G : Nat → Bool} {d p : Nat} (h : ∀ t, t < p → F (d * p + t) = G t) : ∀ (n t : Nat), t + n = p → y_fc F n (d * p + t) = (y_fc G n t).map (fun c => d * p + c) := by
  intro n
  induction n with
  | zero => intro t ht; rfl
  | succ n ih =>
    intro t ht
    rw [y_fc, y_fc, h t (by omega)]
    by_cases h1 : G t = true
    · rw [if_pos h1, if_pos h1]; rfl
    · rw [if_neg h1, if_neg h1, Nat.add_assoc]; exact ih (t + 1) (by omega)
theorem y_fc_all {F : Nat → Bool} {G : Nat → Nat → Bool} {p : Nat} (h : ∀ d t, t < p → F (d * p + t) = G d t) : ∀ (m s : Nat), y_fc F (m * p) (s * p) = (y_1s (fun d => y_fc (G d) p 0) m s).map (fun q => q.1 * p + q.2) := by
  intro m
  induction m with
  | zero => intro s; rw [Nat.zero_mul]; rfl
  | succ m ih =>
    intro s
    have b := y_fc_blk (F := F) (G := G s) (d := s) (p := p) (h s) p 0 (by omega)
    rw [Nat.add_zero] at b
    rw [Nat.add_mul, Nat.one_mul, Nat.add_comm, y_fc_add, b, y_1s]
    cases y_fc (G s) p 0 with
    | some c => rfl
    | none =>
      simp only [Option.map_none]
      rw [show s * p + p = (s + 1) * p by rw [Nat.add_mul, Nat.one_mul]]
      exact ih (s + 1)
/-! the way of a man, code by code -/
def y_st (A : m_A) (i o : Nat) (q : Nat × Nat × Nat) (d : Nat) : Nat × Nat × Nat := m_go (m_ord q.1 q.2.1 q.2.2 (d / 3) (d % 3 + 1)) (m_pu (a_L A) (a_K A) i) (l_k (a_L A) i) (q_par (k_g (a_K A) + nI o + 1))
def y_at (a b : Nat) (q : Nat × Nat × Nat) : Bool := decide (q.1 = a ∧ q.2.1 = b)
def y_H (A : m_A) (i a b : Nat) : Nat → Nat → Nat × Nat × Nat → Nat → Bool
  | 0, _, q, _ => y_at a b q
  | r + 1, o, q, c => y_H A i a b r (o + 1) (y_st A i o q (c / 24 ^ r)) (c % 24 ^ r)
def y_fd (A : m_A) (i a b : Nat) : Nat → Nat → Nat × Nat × Nat → Option Nat
  | 0, _, q => if y_at a b q = true then some 0 else none
  | r + 1, o, q => (y_1s (fun d => y_fd A i a b r (o + 1) (y_st A i o q d)) 24 0).map (fun x => x.1 * 24 ^ r + x.2)
theorem y_fdH (A : m_A) (i a b : Nat) : ∀ (r o : Nat) (q : Nat × Nat × Nat), y_fd A i a b r o q = y_fc (y_H A i a b r o q) (24 ^ r) 0 := by
  intro r
  induction r with
  | zero =>
    intro o q
    show (if y_at a b q = true then some 0 else none) = y_fc (y_H A i a b 0 o q) 1 0
    rw [y_fc]
    rfl
  | succ r ih =>
    intro o q
    have hp : 0 < (24 : Nat) ^ r := Nat.pos_of_ne_zero (fun e => by have := Nat.pow_eq_zero.mp e; omega)
    have h := y_fc_all (F := y_H A i a b (r + 1) o q) (G := fun d t => y_H A i a b r (o + 1) (y_st A i o q d) t) (p := 24 ^ r) (fun d t ht => by
      show y_H A i a b r (o + 1) (y_st A i o q ((d * 24 ^ r + t) / 24 ^ r)) ((d * 24 ^ r + t) % 24 ^ r) = _
      rw [show (d * 24 ^ r + t) / 24 ^ r = d by rw [Nat.mul_comm, Nat.mul_add_div hp, Nat.div_eq_of_lt ht, Nat.add_zero], show (d * 24 ^ r + t) % 24 ^ r = t by rw [Nat.mul_comm, Nat.mul_add_mod, Nat.mod_eq_of_lt ht]]) 24 0
    rw [Nat.zero_mul] at h
    rw [show (24 : Nat) ^ (r + 1) = 24 * 24 ^ r by rw [Nat.pow_succ]; omega, h, y_fd]
    have e : (fun d => y_fd A i a b r (o + 1) (y_st A i o q d)) = fun d => y_fc (fun t => y_H A i a b r (o + 1) (y_st A i o q d) t) (24 ^ r) 0 := funext (fun d => ih (o + 1) (y_st A i o q d))
    rw [e]
theorem y_st_in {A : m_A} {i o d : Nat} {q : Nat × Nat × Nat} (hA : ok_A A) (hi : i < l_M (a_L A)) (hq : m_in q) : m_in (y_st A i o q d) := m_go_in (m_ord_in hq.1 hq.2.1) (m_pu_le hA.1 hA.2.1 hi) (hA.1.2.2.2.2.2.2 i hi).2
/-! how far an order can bring anybody -/
theorem y_cx : ∀ f, f < 8 → m_cx f ≤ 2 ∧ m_cy f ≤ 2 := by decide +kernel
theorem y_mv {f : Nat} (hf : f < 8) : ∀ (n : Nat) (p : Nat × Nat), p.1 ≤ (m_mv f n p).1 + n ∧ (m_mv f n p).1 ≤ p.1 + n ∧ p.2 ≤ (m_mv f n p).2 + n ∧ (m_mv f n p).2 ≤ p.2 + n := by
  intro n
  induction n with
  | zero => intro p; exact ⟨Nat.le_refl _, Nat.le_refl _, Nat.le_refl _, Nat.le_refl _⟩
  | succ n ih =>
    intro p
    have h1 := ih (m_st f p)
    have h2 := y_cx f hf
    have h3 : p.1 ≤ (m_st f p).1 + 1 ∧ (m_st f p).1 ≤ p.1 + 1 ∧ p.2 ≤ (m_st f p).2 + 1 ∧ (m_st f p).2 ≤ p.2 + 1 := by
      unfold m_st
      by_cases h : m_ok f p.1 p.2 = true
      · rw [if_pos h]
        show p.1 ≤ p.1 + m_cx f - 1 + 1 ∧ p.1 + m_cx f - 1 ≤ p.1 + 1 ∧ p.2 ≤ p.2 + m_cy f - 1 + 1 ∧ p.2 + m_cy f - 1 ≤ p.2 + 1
        omega
      · rw [if_neg h]; omega
    show p.1 ≤ (m_mv f n (m_st f p)).1 + (n + 1) ∧ (m_mv f n (m_st f p)).1 ≤ p.1 + (n + 1) ∧ p.2 ≤ (m_mv f n (m_st f p)).2 + (n + 1) ∧ (m_mv f n (m_st f p)).2 ≤ p.2 + (n + 1)
    omega
theorem y_st_far {A : m_A} {i o d : Nat} {q : Nat × Nat × Nat} : q.1 ≤ (y_st A i o q d).1 + 3 ∧ (y_st A i o q d).1 ≤ q.1 + 3 ∧ q.2.1 ≤ (y_st A i o q d).2.1 + 3 ∧ (y_st A i o q d).2.1 ≤ q.2.1 + 3 := by
  have h := y_mv (f := (q.2.2 + d / 3) % 8) (Nat.mod_lt _ (by decide)) (d % 3 + 1) (q.1, q.2.1)
  have hn : d % 3 < 3 := Nat.mod_lt _ (by decide)
  unfold y_st m_go
  by_cases hp : m_pu (a_L A) (a_K A) i = 256
  · rw [if_pos hp]
    unfold m_ord
    simp only at h ⊢
    omega
  · rw [if_neg hp]
    unfold m_ord
    simp only at h ⊢
    omega
theorem y_ab {x y k : Nat} : m_ab x y ≤ k ↔ x ≤ y + k ∧ y ≤ x + k := by
  unfold m_ab
  by_cases h : y ≤ x
  · rw [if_pos h]; omega
  · rw [if_neg h]; omega
theorem y_dle {p q : Nat × Nat × Nat} {k : Nat} : m_dist p q ≤ k ↔ (p.1 ≤ q.1 + k ∧ q.1 ≤ p.1 + k) ∧ p.2.1 ≤ q.2.1 + k ∧ q.2.1 ≤ p.2.1 + k := by
  rw [← y_ab, ← y_ab]
  unfold m_dist
  by_cases h : m_ab p.1 q.1 < m_ab p.2.1 q.2.1
  · rw [if_pos h]; omega
  · rw [if_neg h]; omega
theorem y_far {A : m_A} {i a b : Nat} : ∀ (r o : Nat) (q : Nat × Nat × Nat) (c : Nat), y_fd A i a b r o q = some c → m_dist q (a, b, 0) ≤ 3 * r := by
  intro r
  induction r with
  | zero =>
    intro o q c h
    have h2 : (if y_at a b q = true then some 0 else none) = some c := h
    by_cases h3 : y_at a b q = true
    · have h4 := of_decide_eq_true h3
      unfold m_dist m_ab
      rw [h4.1, h4.2]
      simp
    · rw [if_neg h3] at h2; exact absurd h2 (by simp)
  | succ r ih =>
    intro o q c h
    rw [y_fd] at h
    cases hs : y_1s (fun d => y_fd A i a b r (o + 1) (y_st A i o q d)) 24 0 with
    | none => rw [hs] at h; exact absurd h (by simp)
    | some x =>
      obtain ⟨d, c2⟩ := x
      have h1 := (y_1s_lt _ _ _ _ _ hs).2.2
      have h2 := ih (o + 1) (y_st A i o q d) c2 h1
      have h3 := y_st_far (A := A) (i := i) (o := o) (d := d) (q := q)
      generalize y_st A i o q d = s at h2 h3
      have h4 := y_dle.mp h2
      apply y_dle.mpr
      simp only at h4 ⊢
      omega
/-! the class's search -/
def y_dg (r c j : Nat) : Nat := c / 24 ^ (r - 1 - j) % 24
def y_W (o r c : Nat) (g g2 : z_G) : Prop := (∀ k, k ≠ 66 → g2 k = g k) ∧ ∀ j, j < r → g2 66 (o + j) = nI (10 * (y_dg r c j / 3) + (y_dg r c j % 3 + 1))
def y_C (A : m_A) (i a b : Nat) (g : z_G) : Prop := g 65 1 = nI (16 * b + a) ∧ g 65 2 = q_pu (m_pu (a_L A) (a_K A) i) ∧ g 65 3 = nI (l_k (a_L A) i)
theorem y_dg_0 {r d c : Nat} (hr : r ≤ 2) (hd : d < 24) (hc : c < 24 ^ r) : y_dg (r + 1) (d * 24 ^ r + c) 0 = d := by
  unfold y_dg
  rcases (show r = 0 ∨ r = 1 ∨ r = 2 by omega) with rfl | rfl | rfl
  · have : (24 : Nat) ^ 0 = 1 := rfl
    simp only [Nat.reduceAdd, Nat.reduceSub, Nat.reducePow] at hc ⊢
    omega
  · simp only [Nat.reduceAdd, Nat.reduceSub, Nat.reducePow] at hc ⊢
    omega
  · simp only [Nat.reduceAdd, Nat.reduceSub, Nat.reducePow] at hc ⊢
    omega
theorem y_dg_s {r d c j : Nat} (hr : r ≤ 2) (hj : j < r) : y_dg (r + 1) (d * 24 ^ r + c) (j + 1) = y_dg r c j := by
  unfold y_dg
  rcases (show (r = 1 ∧ j = 0) ∨ (r = 2 ∧ j = 0) ∨ (r = 2 ∧ j = 1) by omega) with ⟨rfl, rfl⟩ | ⟨rfl, rfl⟩ | ⟨rfl, rfl⟩
  · simp only [Nat.reduceAdd, Nat.reduceSub, Nat.reducePow]
    omega
  · simp only [Nat.reduceAdd, Nat.reduceSub, Nat.reducePow]
    omega
  · simp only [Nat.reduceAdd, Nat.reduceSub, Nat.reducePow]
    omega
theorem y_fd_lt {A : m_A} {i a b r o c : Nat} {q : Nat × Nat × Nat} (h : y_fd A i a b r o q = some c) : c < 24 ^ r := by
  rw [y_fdH] at h
  have := y_fc_lt _ _ _ _ h
  omega
