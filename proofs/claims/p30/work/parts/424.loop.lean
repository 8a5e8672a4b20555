/-! ===== an item, both ways ===== -/
def k_rr (B : m_B) (c : Nat) : Option ((Int32 × Int32) × List (Int32 × Int32)) := if c = 104 then (if l_H (b_L B) < 4 then some ((0, 15), [(0, 15)]) else none) else if c = 109 then (if l_M (b_L B) < 6 then some ((0, 15), [(0, 15), (0, 7), (0, nI (l_H (b_L B)) - 1), (0, nI (l_H (b_L B)) - 1), (0, 4)]) else none) else if c = 111 then (if b_n B < 6 then some ((0, 7), [(0, 9)]) else none) else if c = 100 then some ((1, 15), []) else none
def k_add (B : m_B) (c : Nat) (v : List Nat) : m_B := if c = 104 then k_home B (v.getD 0 0) (v.getD 1 0) else if c = 109 then k_man B (v.getD 0 0) (v.getD 1 0) (v.getD 2 0) (v.getD 3 0) (v.getD 4 0) (v.getD 5 0) else if c = 111 then k_row B (v.getD 0 0) (v.getD 1 0) else k_far B (v.getD 0 0)
def y_it (B : m_B) (T : Nat) (tx : Nat → Nat) (p : Nat) : Option (m_B × Nat) := match k_rr B (tx p) with
  | none => none
  | some (r, rs) => match m_al3 T tx r rs (p + 1) with
    | none => none
    | some (vs, e) => some (k_add B (tx p) vs, e)
theorem y_it_n {B : m_B} {T p : Nat} {tx : Nat → Nat} (h : k_rr B (tx p) = none) : y_it B T tx p = none := by unfold y_it; rw [h]
theorem y_it_n2 {B : m_B} {T p : Nat} {tx : Nat → Nat} {r : Int32 × Int32} {rs : List (Int32 × Int32)} (h : k_rr B (tx p) = some (r, rs)) (h2 : m_al3 T tx r rs (p + 1) = none) : y_it B T tx p = none := by unfold y_it; rw [h]; simp only; rw [h2]
theorem y_it_s {B : m_B} {T p e : Nat} {vs : List Nat} {tx : Nat → Nat} {r : Int32 × Int32} {rs : List (Int32 × Int32)} (h : k_rr B (tx p) = some (r, rs)) (h2 : m_al3 T tx r rs (p + 1) = some (vs, e)) : y_it B T tx p = some (k_add B (tx p) vs, e) := by unfold y_it; rw [h]; simp only; rw [h2]
def r_it (o : Option (m_B × Nat)) (g : z_G) : Prop := match o with
  | none => g 0 8 = 1
  | some (B, e) => g 0 8 = 0 ∧ g 0 6 = nI e ∧ d_B B (g 1)
theorem d_item {B : m_B} {T p : Nat} {tx : Nat → Nat} {g : z_G} (hB : ok_B B) (hd : d_B B (g 1)) (ht : ok_tx T tx) (h : d_tx T tx (g 0 4) (g 3)) (hp : p < T) (h6 : g 0 6 = nI (p + 1)) (h8 : g 0 8 = 0) : ∃ g2, s_Mod_item (nI (tx p)) g = some g2 ∧ d_fi g g2 ∧ r_it (y_it B T tx p) g2 := by
  have htx := ht.2 p hp
  have hH := hB.1
  have hM := hB.2.1
  have hn6 := hB.2.2.2.2.2.1
  by_cases c1 : tx p = 104
  · obtain ⟨g2, a, b, c⟩ := d_itemH hB hd ht h (by omega) h6
    refine ⟨g2, by rw [c1]; exact a, b, ?_⟩
    rcases c with ⟨x, y, e, q1, q2, q3, q4, q5⟩ | ⟨q1, q2⟩
    · have hk : k_rr B (tx p) = some ((0, 15), [(0, 15)]) := by unfold k_rr; rw [if_pos c1, if_pos q1]
      rw [y_it_s hk q2]
      refine ⟨q3, q4, ?_⟩
      unfold k_add; rw [if_pos c1]; exact q5
    · rcases q1 with q1 | q1
      · rw [y_it_n (by unfold k_rr; rw [if_pos c1, if_neg (by omega)])]; exact q2
      · by_cases q3 : l_H (b_L B) < 4
        · rw [y_it_n2 (r := (0, 15)) (rs := [(0, 15)]) (by unfold k_rr; rw [if_pos c1, if_pos q3]) q1]; exact q2
        · rw [y_it_n (by unfold k_rr; rw [if_pos c1, if_neg q3])]; exact q2
  · by_cases c2 : tx p = 109
    · obtain ⟨g2, a, b, c⟩ := d_itemM hB hd ht h (by omega) h6
      refine ⟨g2, by rw [c2]; exact a, b, ?_⟩
      rcases c with ⟨x, y, f, l, r, k, e, q1, q2, q3, q4, q5⟩ | ⟨q1, q2⟩
      · have hk : k_rr B (tx p) = some ((0, 15), [(0, 15), (0, 7), (0, nI (l_H (b_L B)) - 1), (0, nI (l_H (b_L B)) - 1), (0, 4)]) := by unfold k_rr; rw [if_neg c1, if_pos c2, if_pos q1]
        rw [y_it_s hk q2]
        refine ⟨q3, q4, ?_⟩
        unfold k_add; rw [if_neg c1, if_pos c2]; exact q5
      · rcases q1 with q1 | q1
        · rw [y_it_n (by unfold k_rr; rw [if_neg c1, if_pos c2, if_neg (by omega)])]; exact q2
        · by_cases q3 : l_M (b_L B) < 6
          · have hk : k_rr B (tx p) = some ((0, 15), [(0, 15), (0, 7), (0, nI (l_H (b_L B)) - 1), (0, nI (l_H (b_L B)) - 1), (0, 4)]) := by unfold k_rr; rw [if_neg c1, if_pos c2, if_pos q3]
            rw [y_it_n2 hk q1]; exact q2
          · rw [y_it_n (by unfold k_rr; rw [if_neg c1, if_pos c2, if_neg q3])]; exact q2
    · by_cases c3 : tx p = 111
      · obtain ⟨g2, a, b, c⟩ := d_itemO hB hd ht h (by omega) h6
        refine ⟨g2, by rw [c3]; exact a, b, ?_⟩
        rcases c with ⟨x, y, e, q1, q2, q3, q4, q5⟩ | ⟨q1, q2⟩
        · have hk : k_rr B (tx p) = some ((0, 7), [(0, 9)]) := by unfold k_rr; rw [if_neg c1, if_neg c2, if_pos c3, if_pos q1]
          rw [y_it_s hk q2]
          refine ⟨q3, q4, ?_⟩
          unfold k_add; rw [if_neg c1, if_neg c2, if_pos c3]; exact q5
        · rcases q1 with q1 | q1
          · rw [y_it_n (by unfold k_rr; rw [if_neg c1, if_neg c2, if_pos c3, if_neg (by omega)])]; exact q2
          · by_cases q3 : b_n B < 6
            · rw [y_it_n2 (r := (0, 7)) (rs := [(0, 9)]) (by unfold k_rr; rw [if_neg c1, if_neg c2, if_pos c3, if_pos q3]) q1]; exact q2
            · rw [y_it_n (by unfold k_rr; rw [if_neg c1, if_neg c2, if_pos c3, if_neg q3])]; exact q2
      · by_cases c4 : tx p = 100
        · obtain ⟨g2, a, b, c⟩ := d_itemD hB hd ht h (by omega) h6 h8
          have hk : k_rr B (tx p) = some ((1, 15), []) := by unfold k_rr; rw [if_neg c1, if_neg c2, if_neg c3, if_pos c4]
          refine ⟨g2, by rw [c4]; exact a, b, ?_⟩
          rcases c with ⟨x, e, q2, q3, q4, q5⟩ | ⟨q1, q2⟩
          · rw [y_it_s hk q2]
            refine ⟨q3, q4, ?_⟩
            unfold k_add; rw [if_neg c1, if_neg c2, if_neg c3]; exact q5
          · rw [y_it_n2 hk q1]; exact q2
        · obtain ⟨g2, a, b, c⟩ := d_itemX (c := tx p) (g := g) (by omega) c1 c2 c3 c4
          refine ⟨g2, a, b, ?_⟩
          rw [y_it_n (by unfold k_rr; rw [if_neg c1, if_neg c2, if_neg c3, if_neg c4])]
          exact c
theorem m_seq_len {T : Nat} {tx : Nat → Nat} : ∀ (k p : Nat) (vs : List Nat) (q : Nat), m_seq T tx k p = some (vs, q) → vs.length = k ∧ ∀ i, vs.getD i 0 < 100 := by
  intro k
  induction k with
  | zero =>
    intro p vs q h
    have h2 : some (([] : List Nat), p) = some (vs, q) := h
    have h3 := congrArg Prod.fst (Option.some.inj h2)
    simp only at h3
    subst h3
    exact ⟨rfl, fun i => by show (0 : Nat) < 100; decide⟩
  | succ k ih =>
    intro p vs q h
    rw [m_seq] at h
    cases hn : m_n T tx p with
    | none => rw [hn] at h; exact absurd h (by simp)
    | some ve =>
      obtain ⟨v, e⟩ := ve
      rw [hn] at h
      simp only at h
      by_cases h1 : e < T ∧ tx e = (if k = 0 then 59 else 44)
      · rw [if_pos h1] at h
        cases hs : m_seq T tx k (e + 1) with
        | none => rw [hs] at h; exact absurd h (by simp)
        | some wq =>
          obtain ⟨ws, q2⟩ := wq
          rw [hs] at h
          simp only at h
          have c3 := congrArg Prod.fst (Option.some.inj h)
          simp only at c3
          subst c3
          have i1 := ih (e + 1) ws q2 hs
          refine ⟨by rw [List.length_cons, i1.1], fun i => ?_⟩
          cases i with
          | zero => exact (m_n_le hn).2.2
          | succ i => exact i1.2 i
      · rw [if_neg h1] at h; exact absurd h (by simp)
def r_ci (B : m_B) (T : Nat) (tx : Nat → Nat) (p : Nat) (v : Int32) (g : z_G) : Prop := (∃ B2 e, y_it B T tx p = some (B2, e) ∧ e < T ∧ tx e = 59 ∧ v = nI (e + 1) ∧ c_B B2 g ∧ ok_B B2 ∧ p ≤ e) ∨ (v = -1 ∧ ∀ B2 e, y_it B T tx p = some (B2, e) → ¬ (e < T ∧ tx e = 59))
/-- the class reads an item whose letter has numbers -/
theorem c_item1 {B : m_B} {T p : Nat} {tx : Nat → Nat} {g : z_G} (F : Prop) (r : Int32 × Int32) (rs : List (Int32 × Int32)) (hl : rs.length < 6) (ht : ok_tx T tx) (h : c_tx T tx (g 39) (g 40)) (hc : c_B B g) (hp : p < T) (hnb : s_Read_numbersBehind (nI (tx p)) = nI (rs.length + 1)) (hk : F → k_rr B (tx p) = some (r, rs)) (hk2 : ¬ F → k_rr B (tx p) = none) (hok : ∀ vs, vs.length = rs.length + 1 → F → m_ok2 (r :: rs) vs → (∀ i, vs.getD i 0 < 100) → ok_B (k_add B (tx p) vs)) (htk : ∀ g2 vs, c_B B g2 → vs.length = rs.length + 1 → (∀ i, vs.getD i 0 < 100) → (∀ i, i < rs.length + 1 → g2 42 i = nI (vs.getD i 0)) → ∃ v g3, s_Read_takeItem (nI (tx p)) g2 = some (v, g3) ∧ c_fi g2 g3 ∧ ((v = 1 ∧ F ∧ m_ok2 (r :: rs) vs ∧ c_B (k_add B (tx p) vs) g3) ∨ (v = 0 ∧ ¬ (F ∧ m_ok2 (r :: rs) vs)))) : ∃ v g2, s_Read_readItem_40 (nI T) (nI p) g = some (v, g2) ∧ c_fi g g2 ∧ r_ci B T tx p v g2 := by
  have hT := ht.1
  have key : ∀ f, ∃ v g2, s_Read_readItem_40_L16 (f + 7) (nI T) (nI p) (nI (rs.length + 1)) (nI (p + 1)) (nI 0) g = some (v, g2) ∧ c_fi g g2 ∧ r_ci B T tx p v g2 := by
    intro f
    obtain ⟨s1, s2⟩ := c_seq (x3 := nI p) ht (cnt := rs.length + 1) (by omega) (rs.length + 1) (f + 7) 0 (p + 1) g (by omega) (by omega) (by omega) h
    cases hs : m_seq T tx (rs.length + 1) (p + 1) with
    | none =>
      obtain ⟨g2, a, b⟩ := s1 hs
      refine ⟨-1, g2, a, b.fi, Or.inr ⟨rfl, fun B2 e h1 h2 => ?_⟩⟩
      by_cases hF : F
      · cases ha : m_al3 T tx r rs (p + 1) with
        | none => rw [y_it_n2 (hk hF) ha] at h1; exact absurd h1 (by simp)
        | some ve =>
          obtain ⟨vs, e2⟩ := ve
          rw [y_it_s (hk hF) ha] at h1
          have h3 := congrArg Prod.snd (Option.some.inj h1)
          simp only at h3
          subst h3
          have h4 := ((m_all r rs (p + 1) vs (e2 + 1)).mpr ⟨e2, ha, h2.1, h2.2, rfl⟩).1
          rw [hs] at h4
          exact absurd h4 (by simp)
      · rw [y_it_n (hk2 hF)] at h1; exact absurd h1 (by simp)
    | some vq =>
      obtain ⟨vs, q⟩ := vq
      obtain ⟨q1, q2, g2, f2, a, b, c, d⟩ := s2 vs q hs
      have ln := m_seq_len _ _ _ _ hs
      obtain ⟨v, g3, t1, t2, t3⟩ := htk g2 vs (c_B_42 hc b) ln.1 ln.2 (fun i hi => by have := d i hi; rw [Nat.zero_add] at this; exact this)
      have e1 : s_Read_readItem_40_L16 (f2 + 1) (nI T) (nI p) (nI (rs.length + 1)) (nI q) (nI (rs.length + 1)) g2 = if v = 0 then some (-1, g3) else some (nI q, g3) := by
        rw [s_Read_readItem_40_L16, if_pos (by rw [q_le (by omega) (by omega)]; omega), q_ck (by omega) (by decide), q_rd (by omega), b 40 (by decide), h.2 p hp, t1]
        simp only [Option.bind_some]
      rw [a, e1]
      rcases t3 with ⟨w1, w2, w3, w4⟩ | ⟨w1, w2⟩
      · rw [w1, if_neg (show ¬ (1 : Int32) = 0 by decide)]
        obtain ⟨e2, m1, m2, m3, m4⟩ := (m_all r rs (p + 1) vs q).mp ⟨hs, w3⟩
        refine ⟨_, _, rfl, b.fi.tr t2, Or.inl ⟨_, e2, y_it_s (hk w2) m1, m2, m3, by rw [m4], w4, hok vs ln.1 w2 w3 ln.2, by omega⟩⟩
      · rw [w1, if_pos rfl]
        refine ⟨_, _, rfl, b.fi.tr t2, Or.inr ⟨rfl, fun B2 e h1 h2 => ?_⟩⟩
        by_cases hF : F
        · cases ha : m_al3 T tx r rs (p + 1) with
          | none => rw [y_it_n2 (hk hF) ha] at h1; exact absurd h1 (by simp)
          | some ve =>
            obtain ⟨vs2, e2⟩ := ve
            rw [y_it_s (hk hF) ha] at h1
            have h3 := congrArg Prod.snd (Option.some.inj h1)
            simp only at h3
            subst h3
            have h4 := (m_all r rs (p + 1) vs2 (e2 + 1)).mpr ⟨e2, ha, h2.1, h2.2, rfl⟩
            rw [hs] at h4
            have h5 := congrArg Prod.fst (Option.some.inj h4.1)
            simp only at h5
            subst h5
            exact w2 ⟨hF, h4.2⟩
        · rw [y_it_n (hk2 hF)] at h1; exact absurd h1 (by simp)
  unfold s_Read_readItem_40
  rw [q_ck (by omega) (by decide), q_rd (by omega), h.2 p hp, hnb]
  simp only [q_let]
  rw [show nI p + 1 = nI (p + 1) from nI_1 p]
  have e : s_Read_readItem_40_L16 z_F (nI T) (nI p) (nI (rs.length + 1)) (nI (p + 1)) 0 g = s_Read_readItem_40_L16 (19993 + 7) (nI T) (nI p) (nI (rs.length + 1)) (nI (p + 1)) (nI 0) g := by
    unfold z_F
    rfl
  rw [e]
  exact key 19993
theorem c_item {B : m_B} {T p : Nat} {tx : Nat → Nat} {g : z_G} (hB : ok_B B) (hc : c_B B g) (ht : ok_tx T tx) (h : c_tx T tx (g 39) (g 40)) (hp : p < T) : ∃ v g2, s_Read_readItem_40 (nI T) (nI p) g = some (v, g2) ∧ c_fi g g2 ∧ r_ci B T tx p v g2 := by
  have htx := ht.2 p hp
  have hT := ht.1
  have hH := hB.1
  have hM := hB.2.1
  have hn6 := hB.2.2.2.2.2.1
  have len1 : ∀ vs : List Nat, vs.length = 1 → ∃ a, vs = [a] := by
    intro vs hl
    match vs, hl with
    | [a], _ => exact ⟨a, rfl⟩
  have len2 : ∀ vs : List Nat, vs.length = 2 → ∃ a b, vs = [a, b] := by
    intro vs hl
    match vs, hl with
    | [a, b], _ => exact ⟨a, b, rfl⟩
  have len6 : ∀ vs : List Nat, vs.length = 6 → ∃ a b c d e f, vs = [a, b, c, d, e, f] := by
    intro vs hl
    match vs, hl with
    | [a, b, c, d, e, f], _ => exact ⟨a, b, c, d, e, f, rfl⟩
  by_cases c1 : tx p = 104
  · refine c_item1 (l_H (b_L B) < 4) (0, 15) [(0, 15)] (by decide) ht h hc hp (by rw [c1]; rfl) (fun hF => by unfold k_rr; rw [if_pos c1, if_pos hF]) (fun hF => by unfold k_rr; rw [if_pos c1, if_neg hF]) (fun vs hl hF hok hv => ?_) (fun g2 vs hc2 hl hv h42 => ?_)
    · obtain ⟨x, y, rfl⟩ := len2 vs hl
      unfold k_add
      rw [if_pos c1]
      have lx : x ≤ 15 := q_w15 (n := 15) (by decide) (by have : x < 100 := hv 0; omega) hok.1
      have ly : y ≤ 15 := q_w15 (n := 15) (by decide) (by have : y < 100 := hv 1; omega) hok.2.1
      refine ⟨by show l_H (b_L B) + 1 ≤ 4; omega, hB.2.1, hB.2.2.1, fun i hi => ?_, fun i hi => ?_, hB.2.2.2.2.2⟩
      · have hi2 : i < l_H (b_L B) + 1 := hi
        show (if i = l_H (b_L B) then 16 * y + x else l_c (b_L B) i) < 256
        by_cases h9 : i = l_H (b_L B)
        · rw [if_pos h9]; omega
        · rw [if_neg h9]; exact hB.2.2.2.1 i (by omega)
      · obtain ⟨w1, w2, w3, w4⟩ := hB.2.2.2.2.1 i hi
        exact ⟨by show l_l (b_L B) i < l_H (b_L B) + 1; omega, w2, w3, by show b_r B i < l_H (b_L B) + 1; omega⟩
    · obtain ⟨x, y, rfl⟩ := len2 vs hl
      rw [c1]
      unfold k_add
      rw [if_pos rfl]
      exact c_takeH hB hc2 (h42 0 (by decide)) (h42 1 (by decide))
  · by_cases c2 : tx p = 109
    · refine c_item1 (l_M (b_L B) < 6) (0, 15) [(0, 15), (0, 7), (0, nI (l_H (b_L B)) - 1), (0, nI (l_H (b_L B)) - 1), (0, 4)] (by show 5 < 6; decide) ht h hc hp (by rw [c2]; rfl) (fun hF => by unfold k_rr; rw [if_neg c1, if_pos c2, if_pos hF]) (fun hF => by unfold k_rr; rw [if_neg c1, if_pos c2, if_neg hF]) (fun vs hl hF hok hv => ?_) (fun g2 vs hc2 hl hv h42 => ?_)
      · obtain ⟨x, y, f, l, r, k, rfl⟩ := len6 vs hl
        unfold k_add
        rw [if_neg c1, if_pos c2]
        have bx : x < 100 := hv 0
        have by1 : y < 100 := hv 1
        have bf : f < 100 := hv 2
        have bl : l < 100 := hv 3
        have br : r < 100 := hv 4
        have bk : k < 100 := hv 5
        have lx : x ≤ 15 := q_w15 (n := 15) (by decide) (by omega) hok.1
        have ly : y ≤ 15 := q_w15 (n := 15) (by decide) (by omega) hok.2.1
        have lf : f ≤ 7 := q_w15 (n := 7) (by decide) (by omega) hok.2.2.1
        have ll : l < l_H (b_L B) := (q_wl (by omega) (by omega)).mp hok.2.2.2.1
        have lr : r < l_H (b_L B) := (q_wl (by omega) (by omega)).mp hok.2.2.2.2.1
        have lk : k ≤ 4 := q_w15 (n := 4) (by decide) (by omega) hok.2.2.2.2.2.1
        refine ⟨hB.1, by show l_M (b_L B) + 1 ≤ 6; omega, hB.2.2.1, hB.2.2.2.1, fun i hi => ?_, hB.2.2.2.2.2⟩
        have hi2 : i < l_M (b_L B) + 1 := hi
        show (if i = l_M (b_L B) then l else l_l (b_L B) i) < l_H (b_L B) ∧ (if i = l_M (b_L B) then k else l_k (b_L B) i) < 5 ∧ m_in (if i = l_M (b_L B) then (x, y, f) else b_p B i) ∧ (if i = l_M (b_L B) then r else b_r B i) < l_H (b_L B)
        by_cases h9 : i = l_M (b_L B)
        · rw [if_pos h9, if_pos h9, if_pos h9, if_pos h9]
          exact ⟨ll, by omega, ⟨by show x < 16; omega, by show y < 16; omega, by show f < 8; omega⟩, lr⟩
        · rw [if_neg h9, if_neg h9, if_neg h9, if_neg h9]
          exact hB.2.2.2.2.1 i (by omega)
      · obtain ⟨x, y, f, l, r, k, rfl⟩ := len6 vs hl
        rw [c2]
        unfold k_add
        rw [if_neg (show ¬ 109 = 104 by decide), if_pos rfl]
        have h42 : ∀ i, i < 6 → g2 42 i = nI ([x, y, f, l, r, k].getD i 0) := h42
        exact c_takeM hB hc2 (hv 3) (hv 4) (hv 5) (h42 0 (by decide)) (h42 1 (by decide)) (h42 2 (by decide)) (h42 3 (by decide)) (h42 4 (by decide)) (h42 5 (by decide))
    · by_cases c3 : tx p = 111
      · refine c_item1 (b_n B < 6) (0, 7) [(0, 9)] (by decide) ht h hc hp (by rw [c3]; rfl) (fun hF => by unfold k_rr; rw [if_neg c1, if_neg c2, if_pos c3, if_pos hF]) (fun hF => by unfold k_rr; rw [if_neg c1, if_neg c2, if_pos c3, if_neg hF]) (fun vs hl hF hok hv => ?_) (fun g2 vs hc2 hl hv h42 => ?_)
        · obtain ⟨x, y, rfl⟩ := len2 vs hl
          unfold k_add
          rw [if_neg c1, if_neg c2, if_pos c3]
          have lx : x ≤ 7 := q_w15 (n := 7) (by decide) (by have : x < 100 := hv 0; omega) hok.1
          have ly : y ≤ 9 := q_w15 (n := 9) (by decide) (by have : y < 100 := hv 1; omega) hok.2.1
          refine ⟨hB.1, hB.2.1, hB.2.2.1, hB.2.2.2.1, hB.2.2.2.2.1, by show b_n B + 1 ≤ 6; omega, fun i hi => ?_⟩
          have hi2 : i < b_n B + 1 := hi
          show (if i = b_n B then x else b_rt B i) < 8 ∧ (if i = b_n B then y else b_rs B i) < 10
          by_cases h9 : i = b_n B
          · rw [if_pos h9, if_pos h9]; omega
          · rw [if_neg h9, if_neg h9]; exact hB.2.2.2.2.2.2 i (by omega)
        · obtain ⟨x, y, rfl⟩ := len2 vs hl
          rw [c3]
          unfold k_add
          rw [if_neg (show ¬ 111 = 104 by decide), if_neg (show ¬ 111 = 109 by decide), if_pos rfl]
          exact c_takeO hB hc2 (h42 0 (by decide)) (h42 1 (by decide))
      · by_cases c4 : tx p = 100
        · refine c_item1 True (1, 15) [] (by decide) ht h hc hp (by rw [c4]; rfl) (fun _ => by unfold k_rr; rw [if_neg c1, if_neg c2, if_neg c3, if_pos c4]) (fun hF => absurd trivial hF) (fun vs hl hF hok hv => ?_) (fun g2 vs hc2 hl hv h42 => ?_)
          · obtain ⟨x, rfl⟩ := len1 vs hl
            unfold k_add
            rw [if_neg c1, if_neg c2, if_neg c3]
            have lx : x ≤ 15 := by
              have h1 := hok.1
              have bx : x < 100 := hv 0
              rw [q_isW] at h1
              by_cases h2 : x ≤ 15
              · exact h2
              · exfalso
                apply h1
                rw [if_pos]
                right
                show (15 : Int32) < nI x
                rw [show (15 : Int32) = nI 15 from rfl, q_lt (by omega) (by omega)]
                omega
            exact ⟨hB.1, hB.2.1, lx, hB.2.2.2.1, hB.2.2.2.2.1, hB.2.2.2.2.2⟩
          · obtain ⟨x, rfl⟩ := len1 vs hl
            rw [c4]
            unfold k_add
            rw [if_neg (show ¬ 100 = 104 by decide), if_neg (show ¬ 100 = 109 by decide), if_neg (show ¬ 100 = 111 by decide)]
            obtain ⟨v, g3, a, b, c⟩ := c_takeD hc2 (h42 0 (by decide))
            refine ⟨v, g3, a, b, ?_⟩
            rcases c with c | c
            · exact Or.inl ⟨c.1, trivial, c.2.1, c.2.2⟩
            · exact Or.inr ⟨c.1, fun e => c.2 e.2⟩
        · have d1 : ¬ nI (tx p) = 104 := fun e => c1 (q_inj (b := 104) (by omega) (by decide) e)
          have d2 : ¬ nI (tx p) = 109 := fun e => c2 (q_inj (b := 109) (by omega) (by decide) e)
          have d3 : ¬ nI (tx p) = 111 := fun e => c3 (q_inj (b := 111) (by omega) (by decide) e)
          have d4 : ¬ nI (tx p) = 100 := fun e => c4 (q_inj (b := 100) (by omega) (by decide) e)
          have key : ∀ f, s_Read_readItem_40_L16 (f + 1) (nI T) (nI p) 0 (nI (p + 1)) 0 g = some (-1, g) := by
            intro f
            rw [s_Read_readItem_40_L16, if_pos (show (0 : Int32) ≤ 0 by decide), q_ck (by omega) (by decide), q_rd (by omega), h.2 p hp]
            unfold s_Read_takeItem
            rw [if_neg d4, if_neg d1, if_neg d2, if_neg d3]
            rfl
          unfold s_Read_readItem_40
          rw [q_ck (by omega) (by decide), q_rd (by omega), h.2 p hp]
          simp only [q_let]
          unfold s_Read_numbersBehind
          rw [if_neg d4, if_neg d1, if_neg d2, if_neg d3, show nI p + 1 = nI (p + 1) from nI_1 p]
          refine ⟨-1, g, key 19999, c_fi.rf g, Or.inr ⟨rfl, fun B2 e h1 => ?_⟩⟩
          rw [y_it_n (by unfold k_rr; rw [if_neg c1, if_neg c2, if_neg c3, if_neg c4])] at h1
          exact absurd h1 (by simp)
