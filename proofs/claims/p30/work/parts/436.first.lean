/-! ===== the first state ===== -/
def a_0 : m_A := ((2, 5, 4, (fun h => ([210, 60] : List Nat).getD h 0), (fun i => ([0, 0, 1, 0, 1] : List Nat).getD i 0), (fun i => ([0, 0, 1, 2, 4] : List Nat).getD i 0)), ((fun i => ([(8, 8, 0), (8, 9, 0), (7, 8, 0), (9, 8, 0), (8, 7, 0)] : List (Nat × Nat × Nat)).getD i (0, 0, 0)), (fun i => ([0, 1, 1, 0, 1] : List Nat).getD i 0), 0, 0), (0, fun _ => ((fun _ => (0, 0, 0)), (fun _ => 0), 0, 0)), (0, fun _ => ((fun _ => (0, 0, 0)), (fun _ => 0), 0, 0)), (3, (fun k => ([0, 2, 1] : List Nat).getD k 0), (fun k => ([3, 2, 4] : List Nat).getD k 0)), (0, (fun _ => 0), (fun _ => 0), (fun _ => 0)), (0, fun _ => 0))
theorem a_0_ok : ok_A a_0 := by
  refine ⟨⟨by decide, by decide, by decide, by decide, by decide, ?_, ?_⟩, ⟨?_, by decide⟩, ⟨by decide, fun j hj => absurd hj (Nat.not_lt_zero j)⟩, ⟨by decide, fun j hj => absurd hj (Nat.not_lt_zero j)⟩, ⟨by decide, ?_⟩, by decide, ⟨by decide, fun j hj => absurd hj (Nat.not_lt_zero j)⟩⟩
  · show ∀ h, h < 2 → ([210, 60] : List Nat).getD h 0 < 256
    decide
  · show ∀ i, i < 5 → ([0, 0, 1, 0, 1] : List Nat).getD i 0 < 2 ∧ ([0, 0, 1, 2, 4] : List Nat).getD i 0 < 5
    decide
  · show ∀ i, i < 5 → ((([(8, 8, 0), (8, 9, 0), (7, 8, 0), (9, 8, 0), (8, 7, 0)] : List (Nat × Nat × Nat)).getD i (0, 0, 0)).1 < 16 ∧ (([(8, 8, 0), (8, 9, 0), (7, 8, 0), (9, 8, 0), (8, 7, 0)] : List (Nat × Nat × Nat)).getD i (0, 0, 0)).2.1 < 16 ∧ (([(8, 8, 0), (8, 9, 0), (7, 8, 0), (9, 8, 0), (8, 7, 0)] : List (Nat × Nat × Nat)).getD i (0, 0, 0)).2.2 < 8) ∧ ([0, 1, 1, 0, 1] : List Nat).getD i 0 < 2
    decide
  · show ∀ k, k < 3 → ([0, 2, 1] : List Nat).getD k 0 < 8 ∧ ([3, 2, 4] : List Nat).getD k 0 < 10
    decide
def a_lC : List (Nat × Nat × Nat) := [(43, 0, 2), (43, 1, 5), (43, 2, 4), (44, 0, 210), (44, 1, 60), (45, 0, 0), (45, 1, 0), (45, 2, 1), (45, 3, 0), (45, 4, 1), (46, 0, 0), (46, 1, 0), (46, 2, 1), (46, 3, 2), (46, 4, 4), (0, 2, 0), (0, 3, 0), (1, 0, 1088), (1, 1, 1216), (1, 2, 1080), (1, 3, 1096), (1, 4, 960), (2, 0, 0), (2, 1, 1), (2, 2, 1), (2, 3, 0), (2, 4, 1), (61, 1, 0), (62, 0, 3), (62, 1, 4), (62, 2, 5), (62, 3, 6), (62, 4, 7), (62, 5, 8), (62, 6, 9), (62, 7, 10), (63, 1, 0), (64, 0, 11), (64, 1, 12), (6, 2, 0), (6, 3, 0), (51, 2, 3), (52, 0, 0), (52, 1, 2), (52, 2, 1), (53, 0, 3), (53, 1, 2), (53, 2, 4), (57, 3, 0), (39, 1, 0)]
def a_lM : List (Nat × Nat × Nat) := [(1, 8, 2), (1, 9, 5), (1, 10, 4), (1, 0, 2), (1, 1, 12), (1, 4, 13), (1, 5, 3), (1, 11, 0), (1, 12, 0), (1, 13, 1), (1, 14, 0), (1, 15, 1), (1, 17, 0), (1, 18, 0), (1, 19, 1), (1, 20, 2), (1, 21, 4), (1, 47, 3), (1, 48, 0), (1, 49, 2), (1, 50, 1), (1, 54, 3), (1, 55, 2), (1, 56, 4), (2, 0, 8), (2, 6, 8), (2, 12, 0), (2, 1, 8), (2, 7, 9), (2, 13, 0), (2, 2, 7), (2, 8, 8), (2, 14, 0), (2, 3, 9), (2, 9, 8), (2, 15, 0), (2, 4, 8), (2, 10, 7), (2, 16, 0), (2, 18, 0), (2, 19, 1), (2, 20, 1), (2, 21, 0), (2, 22, 1), (2, 24, 0), (2, 25, 0), (0, 2, 0), (0, 3, 0), (0, 9, 0), (0, 4, 0)]
def a_ck (l : List (Nat × Nat × Nat)) (o : Option z_G) : Bool := match o with
  | none => false
  | some g => l.all (fun t => decide (g t.1 t.2.1 = nI t.2.2))
theorem a_ck_y {l : List (Nat × Nat × Nat)} {o : Option z_G} (h : a_ck l o = true) : ∃ g, o = some g ∧ ∀ k j v, (k, j, v) ∈ l → g k j = nI v := by
  cases o with
  | none => exact absurd (show false = true from h) (by decide)
  | some g =>
    refine ⟨g, rfl, fun k j v hm => ?_⟩
    have h2 : l.all (fun t => decide (g t.1 t.2.1 = nI t.2.2)) = true := h
    exact of_decide_eq_true (List.all_eq_true.mp h2 (k, j, v) hm)
set_option maxRecDepth 100000 in
theorem a_cC : a_ck a_lC (s_Top_tail_b132 z_g0) = true := by decide +kernel
set_option maxRecDepth 100000 in
theorem a_cM : a_ck a_lM (s_Mod_tail_b70 z_gz) = true := by decide +kernel
theorem q_5 {i : Nat} (h : i < 5) : i = 0 ∨ i = 1 ∨ i = 2 ∨ i = 3 ∨ i = 4 := by omega
theorem q_8 {i : Nat} (h : i < 8) : i = 0 ∨ i = 1 ∨ i = 2 ∨ i = 3 ∨ i = 4 ∨ i = 5 ∨ i = 6 ∨ i = 7 := by omega
theorem z_first : ∃ gT gM, s_Top_tail_b132 z_g0 = some gT ∧ s_Mod_tail_b70 z_gz = some gM ∧ z_R a_0 gT gM := by
  obtain ⟨gT, e1, hC⟩ := a_ck_y a_cC
  obtain ⟨gM, e2, hM⟩ := a_ck_y a_cM
  refine ⟨gT, gM, e1, e2, a_0_ok, ⟨⟨?_, ?_, ?_, fun i hi => ?_, fun i hi => ?_⟩, ⟨?_, ?_, fun i hi => ?_⟩, ⟨?_, fun j => 3 + j, fun j hj => ⟨?_, ?_, ?_⟩, fun i j _ _ e => ?_, fun j hj => absurd hj (Nat.not_lt_zero j)⟩, ⟨?_, fun j hj => ⟨?_, ?_⟩, fun j hj => absurd hj (Nat.not_lt_zero j)⟩, ⟨?_, fun i hi => ?_⟩, ⟨?_, fun j hj => absurd hj (Nat.not_lt_zero j)⟩, ⟨?_, fun j hj => absurd hj (Nat.not_lt_zero j)⟩⟩, ⟨⟨?_, ?_, ?_, fun i hi => ?_, fun i hi => ?_⟩, ⟨fun i hi => ?_, ?_, ?_⟩, ⟨?_, fun j hj => absurd hj (Nat.not_lt_zero j)⟩, ⟨?_, fun j hj => absurd hj (Nat.not_lt_zero j)⟩, ⟨?_, fun i hi => ?_⟩, ⟨?_, fun j hj => absurd hj (Nat.not_lt_zero j)⟩, ⟨?_, fun j hj => absurd hj (Nat.not_lt_zero j)⟩⟩⟩
  · exact hC 43 0 2 (by decide)
  · exact hC 43 1 5 (by decide)
  · exact hC 43 2 4 (by decide)
  · rcases (show i = 0 ∨ i = 1 by have : i < 2 := hi; omega) with rfl | rfl
    · exact hC 44 0 210 (by decide)
    · exact hC 44 1 60 (by decide)
  · rcases q_5 hi with rfl | rfl | rfl | rfl | rfl
    · exact ⟨hC 45 0 0 (by decide), hC 46 0 0 (by decide)⟩
    · exact ⟨hC 45 1 0 (by decide), hC 46 1 0 (by decide)⟩
    · exact ⟨hC 45 2 1 (by decide), hC 46 2 1 (by decide)⟩
    · exact ⟨hC 45 3 0 (by decide), hC 46 3 2 (by decide)⟩
    · exact ⟨hC 45 4 1 (by decide), hC 46 4 4 (by decide)⟩
  · exact hC 0 2 0 (by decide)
  · exact hC 0 3 0 (by decide)
  · rcases q_5 hi with rfl | rfl | rfl | rfl | rfl
    · exact ⟨hC 1 0 1088 (by decide), hC 2 0 0 (by decide)⟩
    · exact ⟨hC 1 1 1216 (by decide), hC 2 1 1 (by decide)⟩
    · exact ⟨hC 1 2 1080 (by decide), hC 2 2 1 (by decide)⟩
    · exact ⟨hC 1 3 1096 (by decide), hC 2 3 0 (by decide)⟩
    · exact ⟨hC 1 4 960 (by decide), hC 2 4 1 (by decide)⟩
  · exact hC 61 1 0 (by decide)
  · rcases q_8 hj with rfl | rfl | rfl | rfl | rfl | rfl | rfl | rfl
    · exact hC 62 0 3 (by decide)
    · exact hC 62 1 4 (by decide)
    · exact hC 62 2 5 (by decide)
    · exact hC 62 3 6 (by decide)
    · exact hC 62 4 7 (by decide)
    · exact hC 62 5 8 (by decide)
    · exact hC 62 6 9 (by decide)
    · exact hC 62 7 10 (by decide)
  · show 3 ≤ 3 + j
    omega
  · show 3 + j < 11
    omega
  · have e9 : 3 + i = 3 + j := e
    omega
  · exact hC 63 1 0 (by decide)
  · rcases (show j = 0 ∨ j = 1 by omega) with rfl | rfl
    · exact hC 64 0 11 (by decide)
    · exact hC 64 1 12 (by decide)
  · rcases (show j = 0 ∨ j = 1 by omega) with rfl | rfl
    · exact hC 6 2 0 (by decide)
    · exact hC 6 3 0 (by decide)
  · exact hC 51 2 3 (by decide)
  · rcases (show i = 0 ∨ i = 1 ∨ i = 2 by have : i < 3 := hi; omega) with rfl | rfl | rfl
    · exact ⟨hC 52 0 0 (by decide), hC 53 0 3 (by decide)⟩
    · exact ⟨hC 52 1 2 (by decide), hC 53 1 2 (by decide)⟩
    · exact ⟨hC 52 2 1 (by decide), hC 53 2 4 (by decide)⟩
  · exact hC 57 3 0 (by decide)
  · exact hC 39 1 0 (by decide)
  · exact hM 1 8 2 (by decide)
  · exact hM 1 9 5 (by decide)
  · exact hM 1 10 4 (by decide)
  · rcases (show i = 0 ∨ i = 1 by have : i < 2 := hi; omega) with rfl | rfl
    · exact ⟨hM 1 0 2 (by decide), hM 1 4 13 (by decide)⟩
    · exact ⟨hM 1 1 12 (by decide), hM 1 5 3 (by decide)⟩
  · rcases q_5 hi with rfl | rfl | rfl | rfl | rfl
    · exact ⟨hM 1 11 0 (by decide), hM 1 17 0 (by decide)⟩
    · exact ⟨hM 1 12 0 (by decide), hM 1 18 0 (by decide)⟩
    · exact ⟨hM 1 13 1 (by decide), hM 1 19 1 (by decide)⟩
    · exact ⟨hM 1 14 0 (by decide), hM 1 20 2 (by decide)⟩
    · exact ⟨hM 1 15 1 (by decide), hM 1 21 4 (by decide)⟩
  · rcases q_5 hi with rfl | rfl | rfl | rfl | rfl
    · exact ⟨hM 2 0 8 (by decide), hM 2 6 8 (by decide), hM 2 12 0 (by decide), hM 2 18 0 (by decide)⟩
    · exact ⟨hM 2 1 8 (by decide), hM 2 7 9 (by decide), hM 2 13 0 (by decide), hM 2 19 1 (by decide)⟩
    · exact ⟨hM 2 2 7 (by decide), hM 2 8 8 (by decide), hM 2 14 0 (by decide), hM 2 20 1 (by decide)⟩
    · exact ⟨hM 2 3 9 (by decide), hM 2 9 8 (by decide), hM 2 15 0 (by decide), hM 2 21 0 (by decide)⟩
    · exact ⟨hM 2 4 8 (by decide), hM 2 10 7 (by decide), hM 2 16 0 (by decide), hM 2 22 1 (by decide)⟩
  · exact hM 2 24 0 (by decide)
  · exact hM 2 25 0 (by decide)
  · exact hM 0 2 0 (by decide)
  · exact hM 0 3 0 (by decide)
  · exact hM 1 47 3 (by decide)
  · rcases (show i = 0 ∨ i = 1 ∨ i = 2 by have : i < 3 := hi; omega) with rfl | rfl | rfl
    · exact ⟨hM 1 48 0 (by decide), hM 1 54 3 (by decide)⟩
    · exact ⟨hM 1 49 2 (by decide), hM 1 55 2 (by decide)⟩
    · exact ⟨hM 1 50 1 (by decide), hM 1 56 4 (by decide)⟩
  · exact hM 0 9 0 (by decide)
  · exact hM 0 4 0 (by decide)
