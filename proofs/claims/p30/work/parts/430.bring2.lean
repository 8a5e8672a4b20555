def y_ld (A : m_A) (i a b d r : Nat) : Prop := ∀ (o : Nat) (q : Nat × Nat × Nat) (g : z_G), o + r ≤ 3 → m_in q → y_C A i a b g → (y_fd A i a b r o q = none → s_Guide_leads d (nI (m_sp q)) (k_g (a_K A) + nI o) (nI o) (nI (o + r)) g = some (0, g)) ∧ ∀ c, y_fd A i a b r o q = some c → ∃ g2, s_Guide_leads d (nI (m_sp q)) (k_g (a_K A) + nI o) (nI o) (nI (o + r)) g = some (1, g2) ∧ y_W o r c g g2
theorem y_lead {A : m_A} {i a b : Nat} (hA : ok_A A) (hi : i < l_M (a_L A)) (ha : a < 16) (hb : b < 16) : ∀ (r d : Nat), r < d → y_ld A i a b d r := by
  intro r
  induction r with
  | zero =>
    intro d hd o q g ho hq hC
    obtain ⟨d, rfl⟩ : ∃ k, d = k + 1 := ⟨d - 1, by omega⟩
    have e : s_Guide_leads (d + 1) (nI (m_sp q)) (k_g (a_K A) + nI o) (nI o) (nI (o + 0)) g = if s_Ways_cellOf (nI (m_sp q)) = nI (16 * b + a) then some (1, g) else some (0, g) := by
      rw [s_Guide_leads, q_sub (by omega), show o + 0 - o = 0 by omega, if_pos (show nI 0 ≤ 0 by decide)]
      unfold s_Guide_leads_b16
      rw [hC.1]
    have ef : y_fd A i a b 0 o q = if y_at a b q = true then some 0 else none := rfl
    rw [e, ef]
    by_cases h : q.1 = a ∧ q.2.1 = b
    · rw [if_pos (show y_at a b q = true from decide_eq_true h), if_pos ((q_cellE hq ha hb).mpr h)]
      exact ⟨fun e => absurd e (by simp), fun c _ => ⟨g, rfl, fun _ _ => rfl, fun j hj => absurd hj (Nat.not_lt_zero j)⟩⟩
    · rw [if_neg (show ¬ y_at a b q = true from fun e => h (of_decide_eq_true e)), if_neg (fun e => h ((q_cellE hq ha hb).mp e))]
      exact ⟨fun _ => rfl, fun c e => absurd e (by simp)⟩
  | succ r ih =>
    intro d hd o q g ho hq hC
    obtain ⟨d, rfl⟩ : ∃ k, d = k + 1 := ⟨d - 1, by omega⟩
    have ihd := ih d (by omega)
    have hr2 : r ≤ 2 := by omega
    generalize hF : (fun x => y_fd A i a b r (o + 1) (y_st A i o q x)) = F at *
    have ef : y_fd A i a b (r + 1) o q = (y_1s F 24 0).map (fun x => x.1 * 24 ^ r + x.2) := by rw [y_fd, hF]
    have hFx : ∀ x, F x = y_fd A i a b r (o + 1) (y_st A i o q x) := fun x => by rw [← hF]
    -- one row of steps
    have row : ∀ (k56 : Int32 → Int32 → Int32 → Int32 → Int32 → z_G → Option (Int32 × z_G)) (w : Nat), w < 8 → ∀ (m fuel s : Nat), m < fuel → s + m = 3 → (y_1s F m (3 * w + s) = none → s_Guide_leads_L66 (s_Guide_leads d) k56 fuel (nI (m_sp q)) (k_g (a_K A) + nI o) (nI o) (nI (o + (r + 1))) (nI w) (nI (s + 1)) g = k56 (nI (m_sp q)) (k_g (a_K A) + nI o) (nI o) (nI (o + (r + 1))) (nI (w + 1)) g) ∧ ∀ x c, y_1s F m (3 * w + s) = some (x, c) → ∃ g2, s_Guide_leads_L66 (s_Guide_leads d) k56 fuel (nI (m_sp q)) (k_g (a_K A) + nI o) (nI o) (nI (o + (r + 1))) (nI w) (nI (s + 1)) g = some (1, g2) ∧ y_W o (r + 1) (x * 24 ^ r + c) g g2 := by
      intro k56 w hw m
      induction m with
      | zero =>
        intro fuel s hf hs
        obtain ⟨f, rfl⟩ : ∃ k, fuel = k + 1 := ⟨fuel - 1, by omega⟩
        refine ⟨fun _ => ?_, fun x c e => absurd e (by simp [y_1s])⟩
        rw [s_Guide_leads_L66, if_pos (by rw [show (3 : Int32) = nI 3 from rfl, q_lt (by omega) (by omega)]; omega), show nI w + 1 = nI (w + 1) from nI_1 w]
      | succ m ihm =>
        intro fuel s hf hs
        obtain ⟨f, rfl⟩ : ∃ k, fuel = k + 1 := ⟨fuel - 1, by omega⟩
        have hst : m_go (m_ord q.1 q.2.1 q.2.2 w (s + 1)) (m_pu (a_L A) (a_K A) i) (l_k (a_L A) i) (q_par (k_g (a_K A) + nI o + 1)) = y_st A i o q (3 * w + s) := by
          unfold y_st
          rw [show (3 * w + s) / 3 = w by omega, show (3 * w + s) % 3 = s by omega]
        have step : s_Guide_leads_L66 (s_Guide_leads d) k56 (f + 1) (nI (m_sp q)) (k_g (a_K A) + nI o) (nI o) (nI (o + (r + 1))) (nI w) (nI (s + 1)) g = (Option.bind (s_Guide_leads d (nI (m_sp (y_st A i o q (3 * w + s)))) (k_g (a_K A) + nI (o + 1)) (nI (o + 1)) (nI (o + 1 + r)) g) fun r15q => (if r15q.1 = 0 then (s_Guide_leads_L66 (s_Guide_leads d) k56 f (nI (m_sp q)) (k_g (a_K A) + nI o) (nI o) (nI (o + (r + 1))) (nI w) (nI (s + 1 + 1)) r15q.2) else (z_ck (z_inb (nI o) 3) (z_let (α := z_G) (z_wr r15q.2 66 (nI o) ((10 * nI w) + nI (s + 1))) fun g18q => (some (1, g18q)))))) := by
          rw [s_Guide_leads_L66, if_neg (by rw [show (3 : Int32) = nI 3 from rfl, q_lt (by omega) (by omega)]; omega), hC.2.1, hC.2.2, m_ordered hq hw (by omega) (m_pu_le hA.1 hA.2.1 hi) (hA.1.2.2.2.2.2.2 i hi).2, hst]
          simp only [Option.bind_some]
          rw [show nI o + 1 = nI (o + 1) from nI_1 o, show nI (s + 1) + 1 = nI (s + 1 + 1) from nI_1 (s + 1), Int32.add_assoc, show nI o + 1 = nI (o + 1) from nI_1 o, show o + (r + 1) = o + 1 + r by omega]
        rw [step]
        obtain ⟨i1, i2⟩ := ihd (o + 1) (y_st A i o q (3 * w + s)) g (by omega) (y_st_in hA hi hq) hC
        rw [y_1s, hFx (3 * w + s)]
        cases hh : y_fd A i a b r (o + 1) (y_st A i o q (3 * w + s)) with
        | none =>
          rw [i1 hh]
          simp only [Option.bind_some]
          rw [if_pos trivial]
          exact ihm f (s + 1) (by omega) (by omega)
        | some c0 =>
          obtain ⟨g2, j1, j2, j3⟩ := i2 c0 hh
          refine ⟨fun e => absurd e (by simp), fun x c e => ?_⟩
          have e2 := Option.some.inj e
          have e3 := congrArg Prod.fst e2
          have e4 := congrArg Prod.snd e2
          simp only at e3 e4
          subst e3 e4
          rw [j1]
          simp only [Option.bind_some, q_let]
          rw [if_neg (show ¬ (1 : Int32) = 0 by decide), q_ck (by omega) (by decide), q_wr (by omega), show (10 : Int32) = nI 10 from rfl, q_mul, q_add]
          have hc0 := y_fd_lt hh
          refine ⟨_, rfl, fun k hk => by rw [up_c hk]; exact j2 k hk, fun j hj => ?_⟩
          cases j with
          | zero => rw [Nat.add_zero o, up_s, y_dg_0 hr2 (by omega) hc0, show (3 * w + s) / 3 = w by omega, show (3 * w + s) % 3 = s by omega]
          | succ j =>
            rw [up_n (by omega), y_dg_s hr2 (by omega), show o + (j + 1) = o + 1 + j by omega]
            exact j3 j (by omega)
    have rows : ∀ (m fuel w : Nat), m < fuel → w + m = 8 → (y_1s F (3 * m) (3 * w) = none → s_Guide_leads_L56 (s_Guide_leads d) fuel (nI (m_sp q)) (k_g (a_K A) + nI o) (nI o) (nI (o + (r + 1))) (nI w) g = some (0, g)) ∧ ∀ x c, y_1s F (3 * m) (3 * w) = some (x, c) → ∃ g2, s_Guide_leads_L56 (s_Guide_leads d) fuel (nI (m_sp q)) (k_g (a_K A) + nI o) (nI o) (nI (o + (r + 1))) (nI w) g = some (1, g2) ∧ y_W o (r + 1) (x * 24 ^ r + c) g g2 := by
      intro m
      induction m with
      | zero =>
        intro fuel w hf hw
        obtain ⟨f, rfl⟩ : ∃ k, fuel = k + 1 := ⟨fuel - 1, by omega⟩
        refine ⟨fun _ => ?_, fun x c e => absurd e (by simp [y_1s])⟩
        rw [s_Guide_leads_L56, if_pos (by rw [show (8 : Int32) = nI 8 from rfl, q_le (by omega) (by omega)]; omega)]
      | succ m ihm =>
        intro fuel w hf hw
        obtain ⟨f, rfl⟩ : ∃ k, fuel = k + 1 := ⟨fuel - 1, by omega⟩
        obtain ⟨r1, r2⟩ := row (s_Guide_leads_L56 (s_Guide_leads d) f) w (by omega) 3 z_F 0 (by unfold z_F; omega) (by omega)
        rw [Nat.add_zero] at r1 r2
        have e1 : s_Guide_leads_L56 (s_Guide_leads d) (f + 1) (nI (m_sp q)) (k_g (a_K A) + nI o) (nI o) (nI (o + (r + 1))) (nI w) g = s_Guide_leads_L66 (s_Guide_leads d) (s_Guide_leads_L56 (s_Guide_leads d) f) z_F (nI (m_sp q)) (k_g (a_K A) + nI o) (nI o) (nI (o + (r + 1))) (nI w) (nI (0 + 1)) g := by
          rw [s_Guide_leads_L56, if_neg (by rw [show (8 : Int32) = nI 8 from rfl, q_le (by omega) (by omega)]; omega)]
          rfl
        rw [e1, show 3 * (m + 1) = 3 + 3 * m by omega, y_1s_add]
        cases hh : y_1s F 3 (3 * w) with
        | none =>
          rw [r1 hh]
          simp only
          rw [show 3 * w + 3 = 3 * (w + 1) by omega]
          exact ihm f (w + 1) (by omega) (by omega)
        | some x =>
          obtain ⟨x0, c0⟩ := x
          simp only
          refine ⟨fun e => absurd e (by simp), fun x c e => ?_⟩
          have e2 := Option.some.inj e
          have e3 := congrArg Prod.fst e2
          have e4 := congrArg Prod.snd e2
          simp only at e3 e4
          subst e3 e4
          exact r2 x0 c0 hh
    have hH := hC.1
    have hg : m_in (a, b, 0) := ⟨ha, hb, by show 0 < 8; decide⟩
    have ec : s_Ways_cellOf (nI (m_sp q)) = nI (16 * q.2.1 + q.1) := (m_parts hq.1 hq.2.1 hq.2.2).2.1
    have hap := c_apart hq hg
    simp only at hap
    have hdl := m_dist_lt hq hg
    have top : s_Guide_leads (d + 1) (nI (m_sp q)) (k_g (a_K A) + nI o) (nI o) (nI (o + (r + 1))) g = if m_dist q (a, b, 0) ≤ 3 * (r + 1) then s_Guide_leads_L56 (s_Guide_leads d) z_F (nI (m_sp q)) (k_g (a_K A) + nI o) (nI o) (nI (o + (r + 1))) (nI 0) g else some (0, g) := by
      rw [s_Guide_leads, q_sub (by omega), show o + (r + 1) - o = r + 1 by omega, if_neg (show ¬ nI (r + 1) ≤ 0 from fun e => by have := (q_le (a := r + 1) (b := 0) (by omega) (by decide)).mp e; omega), if_pos (show nI o < 3 from (q_lt (a := o) (b := 3) (by omega) (by decide)).mpr (by omega)), ec, hH, hap, show (3 : Int32) = nI 3 from rfl, q_mul]
      by_cases h : m_dist q (a, b, 0) ≤ 3 * (r + 1)
      · rw [if_pos h, if_pos (by rw [q_le (by omega) (by omega)]; exact h)]
        rfl
      · rw [if_neg h, if_neg (by rw [q_le (by omega) (by omega)]; exact h)]
    rw [top, ef]
    obtain ⟨r1, r2⟩ := rows 8 z_F 0 (by unfold z_F; omega) (by omega)
    rw [show 3 * 8 = 24 by decide, show 3 * 0 = 0 by decide] at r1 r2
    by_cases h : m_dist q (a, b, 0) ≤ 3 * (r + 1)
    · rw [if_pos h]
      cases hh : y_1s F 24 0 with
      | none => exact ⟨fun _ => r1 hh, fun c e => absurd e (by simp)⟩
      | some x =>
        obtain ⟨x0, c0⟩ := x
        refine ⟨fun e => absurd e (by simp), fun c e => ?_⟩
        have e2 : x0 * 24 ^ r + c0 = c := Option.some.inj e
        subst e2
        exact r2 x0 c0 hh
    · rw [if_neg h]
      refine ⟨fun _ => rfl, fun c e => absurd ?_ h⟩
      rw [← ef] at e
      exact y_far (r + 1) o q c e
