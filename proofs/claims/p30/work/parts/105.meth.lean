theorem dX1_deal_0 : decode cX1_deal 0 = .ok (.aload_n 0, 1) := by decide +kernel
theorem dX1_deal_1 : decode cX1_deal 1 = .ok (.iconst (-1), 1) := by decide +kernel
theorem dX1_deal_2 : decode cX1_deal 2 = .ok (.putfield 18, 3) := by decide +kernel
theorem dX1_deal_5 : decode cX1_deal 5 = .ok (.aload_n 0, 1) := by decide +kernel
theorem dX1_deal_6 : decode cX1_deal 6 = .ok (.iconst 0, 1) := by decide +kernel
theorem dX1_deal_7 : decode cX1_deal 7 = .ok (.iconst 0, 1) := by decide +kernel
theorem dX1_deal_8 : decode cX1_deal 8 = .ok (.iconst 0, 1) := by decide +kernel
theorem dX1_deal_9 : decode cX1_deal 9 = .ok (.aload_n 1, 1) := by decide +kernel
theorem dX1_deal_10 : decode cX1_deal 10 = .ok (.aload_n 2, 1) := by decide +kernel
theorem dX1_deal_11 : decode cX1_deal 11 = .ok (.invokevirtual 22, 3) := by decide +kernel
theorem dX1_deal_14 : decode cX1_deal 14 = .ok (.return_, 1) := by decide +kernel
def s_Deal_deal (c2 : Nat) (g : z_G) : Option (z_G) := (z_let (α := z_G) (z_up g 67 1 (-1)) fun g3q => (Option.bind (s_Deal_dealTo 8 0 0 0 c2 g3q) fun r4q => (some r4q)))
set_option maxHeartbeats 1000000 in
set_option maxRecDepth 20000 in
theorem c_Deal_deal {X : z_X} {l : Launch} {o : z_G} (c2 : Nat) (g : z_G) (hc2 : c2 < 13) (r : z_G) (h : s_Deal_deal c2 g = some r) : z_MV X l 71 yX1_deal cX1_deal 3 none 10 303 [.ref (z_ad X 67), .ref (z_ad X 43), .ref (z_ad X (3 * c2))] g o r o := by
  unfold s_Deal_deal at h
  refine z_metv (by decide) (Nat.le_of_ble_eq_true rfl) (fun E hl hE hret => ?_)
  subst hl
  refine z_aload_n hE 0 dX1_deal_0 rfl ?_
  refine z_iconst (v := (-1)) hE dX1_deal_1 rfl ?_
  obtain ⟨g3q, eg3q, h⟩ := z_let_eq h
  refine z_put hE f_RX1_18 ft_1 (by decide) e_67 rfl (tyX1_ok 1 (by decide)) rfl rfl (Nat.le_of_ble_eq_true rfl) (u_67_1 eg3q) dX1_deal_2 ?_
  refine z_aload_n hE 0 dX1_deal_5 rfl ?_
  refine z_iconst (v := 0) hE dX1_deal_6 rfl ?_
  refine z_iconst (v := 0) hE dX1_deal_7 rfl ?_
  refine z_iconst (v := 0) hE dX1_deal_8 rfl ?_
  refine z_aload_n hE 1 dX1_deal_9 rfl ?_
  refine z_aload_n hE 2 dX1_deal_10 rfl ?_
  obtain ⟨r4q, hr4q, h⟩ := z_bind_some h
  refine z_vV (rest := []) (av := [.int 0, .int 0, .int 0, .ref (z_ad X 43), .ref (z_ad X (3 * c2))]) hE (c_Deal_dealTo 8 0 0 0 c2 g3q r4q hc2 hr4q) l_RX1_22 (by decide) (by decide) e_67 rfl ⟨by decide, by decide⟩ dX1_deal_11 rfl (Nat.le_of_ble_eq_true rfl) ?_
  obtain rfl := Option.some.inj h
  exact hret _ _ dX1_deal_14
theorem dX9_pairs_0 : decode cX9_pairs 0 = .ok (.iload_n 1, 1) := by decide +kernel
theorem dX9_pairs_1 : decode cX9_pairs 1 = .ok (.iconst (-1), 1) := by decide +kernel
theorem dX9_pairs_2 : decode cX9_pairs 2 = .ok (.if_icmp .eq 13, 3) := by decide +kernel
theorem dX9_pairs_5 : decode cX9_pairs 5 = .ok (.aload_n 0, 1) := by decide +kernel
theorem dX9_pairs_6 : decode cX9_pairs 6 = .ok (.iload_n 1, 1) := by decide +kernel
theorem dX9_pairs_7 : decode cX9_pairs 7 = .ok (.invokevirtual 107, 3) := by decide +kernel
theorem dX9_pairs_10 : decode cX9_pairs 10 = .ok (.ifCond .ne 5, 3) := by decide +kernel
theorem dX9_pairs_13 : decode cX9_pairs 13 = .ok (.iconst (-1), 1) := by decide +kernel
theorem dX9_pairs_14 : decode cX9_pairs 14 = .ok (.ireturn, 1) := by decide +kernel
theorem dX9_pairs_15 : decode cX9_pairs 15 = .ok (.aload_n 0, 1) := by decide +kernel
theorem dX9_pairs_16 : decode cX9_pairs 16 = .ok (.getfield 73, 3) := by decide +kernel
theorem dX9_pairs_19 : decode cX9_pairs 19 = .ok (.aload_n 0, 1) := by decide +kernel
theorem dX9_pairs_20 : decode cX9_pairs 20 = .ok (.getfield 23, 3) := by decide +kernel
theorem dX9_pairs_23 : decode cX9_pairs 23 = .ok (.aload_n 0, 1) := by decide +kernel
theorem dX9_pairs_24 : decode cX9_pairs 24 = .ok (.getfield 30, 3) := by decide +kernel
theorem dX9_pairs_27 : decode cX9_pairs 27 = .ok (.invokevirtual 233, 3) := by decide +kernel
theorem dX9_pairs_30 : decode cX9_pairs 30 = .ok (.iload_n 1, 1) := by decide +kernel
theorem dX9_pairs_31 : decode cX9_pairs 31 = .ok (.iconst (-1), 1) := by decide +kernel
theorem dX9_pairs_32 : decode cX9_pairs 32 = .ok (.if_icmp .ne 13, 3) := by decide +kernel
theorem dX9_pairs_35 : decode cX9_pairs 35 = .ok (.aload_n 0, 1) := by decide +kernel
theorem dX9_pairs_36 : decode cX9_pairs 36 = .ok (.getfield 73, 3) := by decide +kernel
theorem dX9_pairs_39 : decode cX9_pairs 39 = .ok (.getfield 237, 3) := by decide +kernel
theorem dX9_pairs_42 : decode cX9_pairs 42 = .ok (.goto 12, 3) := by decide +kernel
theorem dX9_pairs_45 : decode cX9_pairs 45 = .ok (.aload_n 0, 1) := by decide +kernel
theorem dX9_pairs_46 : decode cX9_pairs 46 = .ok (.getfield 73, 3) := by decide +kernel
theorem dX9_pairs_49 : decode cX9_pairs 49 = .ok (.getfield 240, 3) := by decide +kernel
theorem dX9_pairs_52 : decode cX9_pairs 52 = .ok (.iload_n 1, 1) := by decide +kernel
theorem dX9_pairs_53 : decode cX9_pairs 53 = .ok (.iaload, 1) := by decide +kernel
theorem dX9_pairs_54 : decode cX9_pairs 54 = .ok (.ireturn, 1) := by decide +kernel
def s_Top_pairs_b15 (x1 : Int32) (g : z_G) : Option (Int32 × z_G) := (Option.bind (s_Deal_deal 0 g) fun r6q => (if x1 = (-1) then (some ((r6q 67 1), r6q)) else (z_ck (z_inb x1 6) (some ((z_rd r6q 68 x1), r6q)))))
def s_Top_pairs (x1 : Int32) (g : z_G) : Option (Int32 × z_G) := (if x1 = (-1) then (s_Top_pairs_b15 x1 g) else (if (s_Top_isMan x1 g) = 0 then (some ((-1), g)) else (s_Top_pairs_b15 x1 g)))
set_option maxHeartbeats 1000000 in
set_option maxRecDepth 20000 in
theorem b_Top_pairs_b15 {X : z_X} {E : z_ET} {o : z_G} (hE : z_EV X E cX9_pairs 2 RX9 11 325 71) {r : Int32 × z_G} (hret : ∀ (pc : Nat) (lv : List (Nat × Value)), decode cX9_pairs pc = .ok (.ireturn, 1) → z_V X E 2 r.2 o pc lv [.int r.1]) (x1 : Int32) (g : z_G)  (h : s_Top_pairs_b15 x1 g = some r) : z_V X E 2 g o 15 [(0, .ref (z_ad X 39)), (1, .int x1)] [] := by
  unfold s_Top_pairs_b15 at h
  refine z_aload_n hE 0 dX9_pairs_15 rfl ?_
  refine z_get hE f_RX9_73 (by decide) e_39 rfl dX9_pairs_16 ?_
  refine z_aload_n hE 0 dX9_pairs_19 rfl ?_
  refine z_get hE f_RX9_23 (by decide) e_39 rfl dX9_pairs_20 ?_
  refine z_aload_n hE 0 dX9_pairs_23 rfl ?_
  refine z_get hE f_RX9_30 (by decide) e_39 rfl dX9_pairs_24 ?_
  obtain ⟨r6q, hr6q, h⟩ := z_bind_some h
  refine z_vV (rest := []) (av := [.ref (z_ad X 43), .ref (z_ad X 0)]) hE (c_Deal_deal 0 g (by decide) r6q hr6q) l_RX9_233 (by decide) (by decide) e_67 rfl ⟨by decide, by decide⟩ dX9_pairs_27 rfl (Nat.le_of_ble_eq_true rfl) ?_
  refine z_iload_n hE 1 dX9_pairs_30 rfl ?_
  refine z_iconst (v := (-1)) hE dX9_pairs_31 rfl ?_
  refine z_icmp_ne hE 45 dX9_pairs_32 rfl (fun c7q => ?_) (fun c7q => ?_)
  · replace h := z_f c7q h
    refine z_aload_n hE 0 dX9_pairs_45 rfl ?_
    refine z_get hE f_RX9_73 (by decide) e_39 rfl dX9_pairs_46 ?_
    refine z_get hE f_RX9_240 (by decide) e_67 rfl dX9_pairs_49 ?_
    refine z_iload_n hE 1 dX9_pairs_52 rfl ?_
    obtain ⟨k8q, h⟩ := z_ck_some h
    refine z_iald hE (by decide) e_68 k8q dX9_pairs_53 ?_
    obtain rfl := Option.some.inj h
    exact hret _ _ dX9_pairs_54
  · replace h := z_t c7q h
    refine z_aload_n hE 0 dX9_pairs_35 rfl ?_
    refine z_get hE f_RX9_73 (by decide) e_39 rfl dX9_pairs_36 ?_
    refine z_get hE f_RX9_237 (by decide) e_67 rfl dX9_pairs_39 ?_
    refine z_goto hE 54 dX9_pairs_42 rfl ?_
    obtain rfl := Option.some.inj h
    exact hret _ _ dX9_pairs_54
set_option maxHeartbeats 1000000 in
set_option maxRecDepth 20000 in
theorem c_Top_pairs {X : z_X} {l : Launch} {o : z_G} (x1 : Int32) (g : z_G) (r : Int32 × z_G) (h : s_Top_pairs x1 g = some r) : z_MI X l 71 yX9_pairs cX9_pairs 2 (some .int) 11 325 [.ref (z_ad X 39), .int x1] g o r.2 o r.1 := by
  unfold s_Top_pairs at h
  refine z_meti (ty := .int) rfl rfl (by decide) (Nat.le_of_ble_eq_true rfl) (fun E hl hE hret => ?_)
  subst hl
  refine z_iload_n hE 1 dX9_pairs_0 rfl ?_
  refine z_iconst (v := (-1)) hE dX9_pairs_1 rfl ?_
  refine z_icmp_eq hE 15 dX9_pairs_2 rfl (fun c9q => ?_) (fun c9q => ?_)
  · replace h := z_t c9q h
    exact b_Top_pairs_b15 hE hret x1 g h
  · replace h := z_f c9q h
    refine z_aload_n hE 0 dX9_pairs_5 rfl ?_
    refine z_iload_n hE 1 dX9_pairs_6 rfl ?_
    refine z_iV (rest := []) (av := [.int x1]) hE (c_Top_isMan x1 g) l_RX9_107 (by decide) (by decide) e_39 rfl ⟨by decide, by decide⟩ dX9_pairs_7 rfl (Nat.le_of_ble_eq_true rfl) ?_
    refine z_if_ne hE 15 dX9_pairs_10 rfl (fun c10q => ?_) (fun c10q => ?_)
    · replace h := z_f c10q h
      exact b_Top_pairs_b15 hE hret x1 g h
    · replace h := z_t c10q h
      refine z_iconst (v := (-1)) hE dX9_pairs_13 rfl ?_
      obtain rfl := Option.some.inj h
      exact hret _ _ dX9_pairs_14
theorem dX9_homeward_0 : decode cX9_homeward 0 = .ok (.aload_n 0, 1) := by decide +kernel
theorem dX9_homeward_1 : decode cX9_homeward 1 = .ok (.iload_n 1, 1) := by decide +kernel
theorem dX9_homeward_2 : decode cX9_homeward 2 = .ok (.invokevirtual 107, 3) := by decide +kernel
theorem dX9_homeward_5 : decode cX9_homeward 5 = .ok (.ifCond .ne 5, 3) := by decide +kernel
theorem dX9_homeward_8 : decode cX9_homeward 8 = .ok (.iconst (-1), 1) := by decide +kernel
theorem dX9_homeward_9 : decode cX9_homeward 9 = .ok (.ireturn, 1) := by decide +kernel
theorem dX9_homeward_10 : decode cX9_homeward 10 = .ok (.aload_n 0, 1) := by decide +kernel
theorem dX9_homeward_11 : decode cX9_homeward 11 = .ok (.getfield 23, 3) := by decide +kernel
theorem dX9_homeward_14 : decode cX9_homeward 14 = .ok (.getfield 147, 3) := by decide +kernel
theorem dX9_homeward_17 : decode cX9_homeward 17 = .ok (.aload_n 0, 1) := by decide +kernel
theorem dX9_homeward_18 : decode cX9_homeward 18 = .ok (.getfield 23, 3) := by decide +kernel
theorem dX9_homeward_21 : decode cX9_homeward 21 = .ok (.getfield 121, 3) := by decide +kernel
theorem dX9_homeward_24 : decode cX9_homeward 24 = .ok (.iload_n 1, 1) := by decide +kernel
theorem dX9_homeward_25 : decode cX9_homeward 25 = .ok (.iaload, 1) := by decide +kernel
theorem dX9_homeward_26 : decode cX9_homeward 26 = .ok (.iaload, 1) := by decide +kernel
theorem dX9_homeward_27 : decode cX9_homeward 27 = .ok (.istore_n 2, 1) := by decide +kernel
theorem dX9_homeward_28 : decode cX9_homeward 28 = .ok (.aload_n 0, 1) := by decide +kernel
theorem dX9_homeward_29 : decode cX9_homeward 29 = .ok (.getfield 30, 3) := by decide +kernel
theorem dX9_homeward_32 : decode cX9_homeward 32 = .ok (.getfield 111, 3) := by decide +kernel
theorem dX9_homeward_35 : decode cX9_homeward 35 = .ok (.iload_n 1, 1) := by decide +kernel
theorem dX9_homeward_36 : decode cX9_homeward 36 = .ok (.iaload, 1) := by decide +kernel
theorem dX9_homeward_37 : decode cX9_homeward 37 = .ok (.istore_n 3, 1) := by decide +kernel
theorem dX9_homeward_38 : decode cX9_homeward 38 = .ok (.iconst 0, 1) := by decide +kernel
theorem dX9_homeward_39 : decode cX9_homeward 39 = .ok (.istore 4, 2) := by decide +kernel
theorem dX9_homeward_41 : decode cX9_homeward 41 = .ok (.iload 4, 2) := by decide +kernel
theorem dX9_homeward_43 : decode cX9_homeward 43 = .ok (.bipush 60, 2) := by decide +kernel
theorem dX9_homeward_45 : decode cX9_homeward 45 = .ok (.if_icmp .gt 31, 3) := by decide +kernel
theorem dX9_homeward_48 : decode cX9_homeward 48 = .ok (.iload_n 3, 1) := by decide +kernel
theorem dX9_homeward_49 : decode cX9_homeward 49 = .ok (.invokestatic 243, 3) := by decide +kernel
theorem dX9_homeward_52 : decode cX9_homeward 52 = .ok (.iload_n 2, 1) := by decide +kernel
theorem dX9_homeward_53 : decode cX9_homeward 53 = .ok (.if_icmp .ne 6, 3) := by decide +kernel
theorem dX9_homeward_56 : decode cX9_homeward 56 = .ok (.iload 4, 2) := by decide +kernel
theorem dX9_homeward_58 : decode cX9_homeward 58 = .ok (.ireturn, 1) := by decide +kernel
theorem dX9_homeward_59 : decode cX9_homeward 59 = .ok (.aload_n 0, 1) := by decide +kernel
theorem dX9_homeward_60 : decode cX9_homeward 60 = .ok (.iload_n 1, 1) := by decide +kernel
theorem dX9_homeward_61 : decode cX9_homeward 61 = .ok (.iload_n 3, 1) := by decide +kernel
theorem dX9_homeward_62 : decode cX9_homeward 62 = .ok (.iconst 0, 1) := by decide +kernel
theorem dX9_homeward_63 : decode cX9_homeward 63 = .ok (.iconst 1, 1) := by decide +kernel
theorem dX9_homeward_64 : decode cX9_homeward 64 = .ok (.iload 4, 2) := by decide +kernel
theorem dX9_homeward_66 : decode cX9_homeward 66 = .ok (.invokevirtual 209, 3) := by decide +kernel
theorem dX9_homeward_69 : decode cX9_homeward 69 = .ok (.istore_n 3, 1) := by decide +kernel
theorem dX9_homeward_70 : decode cX9_homeward 70 = .ok (.iinc 4 1, 3) := by decide +kernel
theorem dX9_homeward_73 : decode cX9_homeward 73 = .ok (.goto (-32), 3) := by decide +kernel
theorem dX9_homeward_76 : decode cX9_homeward 76 = .ok (.bipush (-4), 2) := by decide +kernel
theorem dX9_homeward_78 : decode cX9_homeward 78 = .ok (.ireturn, 1) := by decide +kernel
def s_Top_homeward_L41 (g : z_G) : Nat → Int32 → Int32 → Int32 → Int32 → Option (Int32)
  | 0, _, _, _, _ => none
  | n + 1, x1, x2, x3, x4 => (if 60 < x4 then (some (-4)) else (if (s_Ways_cellOf x3) = x2 then (some x4) else (Option.bind (s_Top_spotAfter x1 x3 0 1 x4 g) fun r11q => ((s_Top_homeward_L41 g n) x1 x2 r11q (x4 + 1)))))
def s_Top_homeward (x1 : Int32) (g : z_G) : Option (Int32) := (if (s_Top_isMan x1 g) = 0 then (some (-1)) else (z_ck (z_inb x1 6) (z_ck (z_inb (z_rd g 45 x1) 4) (z_let (α := Int32) ((z_rd g 44 (z_rd g 45 x1))) fun v15q => (z_ck (z_inb x1 6) (s_Top_homeward_L41 g z_F x1 v15q (z_rd g 1 x1) 0))))))
set_option maxHeartbeats 1000000 in
set_option maxRecDepth 20000 in
theorem b_Top_homeward_L41 {X : z_X} {E : z_ET} {o : z_G} (hE : z_EV X E cX9_homeward 5 RX9 6 149 71) {g : z_G} {r : Int32} (hret : ∀ (pc : Nat) (lv : List (Nat × Value)), decode cX9_homeward pc = .ok (.ireturn, 1) → z_V X E 5 g o pc lv [.int r]) : ∀ (n : Nat) (x1 : Int32) (x2 : Int32) (x3 : Int32) (x4 : Int32), s_Top_homeward_L41 g n x1 x2 x3 x4 = some r → z_V X E 5 g o 41 [(0, .ref (z_ad X 39)), (1, .int x1), (2, .int x2), (3, .int x3), (4, .int x4)] [] := by
  intro n
  induction n with
  | zero => intro x1 x2 x3 x4 h; exact z_none h
  | succ n ih =>
    intro x1 x2 x3 x4 h
    rw [s_Top_homeward_L41] at h
    refine z_iload hE 4 dX9_homeward_41 rfl ?_
    refine z_bipush (v := 60) hE dX9_homeward_43 rfl ?_
    refine z_icmp_gt hE 76 dX9_homeward_45 rfl (fun c9q => ?_) (fun c9q => ?_)
    · replace h := z_t c9q h
      refine z_bipush (v := (-4)) hE dX9_homeward_76 rfl ?_
      obtain rfl := Option.some.inj h
      exact hret _ _ dX9_homeward_78
    · replace h := z_f c9q h
      refine z_iload_n hE 3 dX9_homeward_48 rfl ?_
      refine z_iS (rest := []) (av := [.int x3]) hE (c_Ways_cellOf x3 g) l_RX9_243 (by decide) ⟨by decide, by decide⟩ dX9_homeward_49 rfl (Nat.le_of_ble_eq_true rfl) ?_
      refine z_iload_n hE 2 dX9_homeward_52 rfl ?_
      refine z_icmp_ne hE 59 dX9_homeward_53 rfl (fun c10q => ?_) (fun c10q => ?_)
      · replace h := z_f c10q h
        refine z_aload_n hE 0 dX9_homeward_59 rfl ?_
        refine z_iload_n hE 1 dX9_homeward_60 rfl ?_
        refine z_iload_n hE 3 dX9_homeward_61 rfl ?_
        refine z_iconst (v := 0) hE dX9_homeward_62 rfl ?_
        refine z_iconst (v := 1) hE dX9_homeward_63 rfl ?_
        refine z_iload hE 4 dX9_homeward_64 rfl ?_
        obtain ⟨r11q, hr11q, h⟩ := z_bind_some h
        refine z_iV (rest := []) (av := [.int x1, .int x3, .int 0, .int 1, .int x4]) hE (c_Top_spotAfter x1 x3 0 1 x4 g r11q hr11q) l_RX9_209 (by decide) (by decide) e_39 rfl ⟨by decide, by decide⟩ dX9_homeward_66 rfl (Nat.le_of_ble_eq_true rfl) ?_
        refine z_istore_n hE [(3, .int r11q), (0, .ref (z_ad X 39)), (1, .int x1), (2, .int x2), (4, .int x4)] dX9_homeward_69 rfl (by decide) rfl ?_
        refine z_iinc (v := x4 + 1) hE 4 [(4, .int (x4 + 1)), (3, .int r11q), (0, .ref (z_ad X 39)), (1, .int x1), (2, .int x2)] dX9_homeward_70 rfl rfl (by decide) rfl ?_
        refine z_goto hE 41 dX9_homeward_73 rfl ?_
        refine z_sub [(0, .ref (z_ad X 39)), (1, .int x1), (2, .int x2), (3, .int r11q), (4, .int (x4 + 1))] [2, 3, 4, 1, 0] rfl ?_
        exact ih x1 x2 r11q (x4 + 1) h
      · replace h := z_t c10q h
        refine z_iload hE 4 dX9_homeward_56 rfl ?_
        obtain rfl := Option.some.inj h
        exact hret _ _ dX9_homeward_58
set_option maxHeartbeats 1000000 in
set_option maxRecDepth 20000 in
theorem c_Top_homeward {X : z_X} {l : Launch} {o : z_G} (x1 : Int32) (g : z_G) (r : Int32) (h : s_Top_homeward x1 g = some r) : z_MI X l 71 yX9_homeward cX9_homeward 5 (some .int) 6 149 [.ref (z_ad X 39), .int x1] g o g o r := by
  unfold s_Top_homeward at h
  refine z_meti (ty := .int) rfl rfl (by decide) (Nat.le_of_ble_eq_true rfl) (fun E hl hE hret => ?_)
  subst hl
  refine z_aload_n hE 0 dX9_homeward_0 rfl ?_
  refine z_iload_n hE 1 dX9_homeward_1 rfl ?_
  refine z_iV (rest := []) (av := [.int x1]) hE (c_Top_isMan x1 g) l_RX9_107 (by decide) (by decide) e_39 rfl ⟨by decide, by decide⟩ dX9_homeward_2 rfl (Nat.le_of_ble_eq_true rfl) ?_
  refine z_if_ne hE 10 dX9_homeward_5 rfl (fun c12q => ?_) (fun c12q => ?_)
  · replace h := z_f c12q h
    refine z_aload_n hE 0 dX9_homeward_10 rfl ?_
    refine z_get hE f_RX9_23 (by decide) e_39 rfl dX9_homeward_11 ?_
    refine z_get hE f_RX9_147 (by decide) e_43 rfl dX9_homeward_14 ?_
    refine z_aload_n hE 0 dX9_homeward_17 rfl ?_
    refine z_get hE f_RX9_23 (by decide) e_39 rfl dX9_homeward_18 ?_
    refine z_get hE f_RX9_121 (by decide) e_43 rfl dX9_homeward_21 ?_
    refine z_iload_n hE 1 dX9_homeward_24 rfl ?_
    obtain ⟨k13q, h⟩ := z_ck_some h
    refine z_iald hE (by decide) e_45 k13q dX9_homeward_25 ?_
    obtain ⟨k14q, h⟩ := z_ck_some h
    refine z_iald hE (by decide) e_44 k14q dX9_homeward_26 ?_
    obtain ⟨v15q, ev15q, h⟩ := z_let_eq h
    refine z_topi ev15q ?_
    refine z_istore_n hE [(2, .int v15q), (0, .ref (z_ad X 39)), (1, .int x1)] dX9_homeward_27 rfl (by decide) rfl ?_
    refine z_aload_n hE 1 dX9_homeward_28 rfl ?_
    refine z_get hE f_RX9_30 (by decide) e_39 rfl dX9_homeward_29 ?_
    refine z_get hE f_RX9_111 (by decide) e_0 rfl dX9_homeward_32 ?_
    refine z_iload_n hE 2 dX9_homeward_35 rfl ?_
    obtain ⟨k16q, h⟩ := z_ck_some h
    refine z_iald hE (by decide) e_1 k16q dX9_homeward_36 ?_
    refine z_istore_n hE [(3, .int (z_rd g 1 x1)), (2, .int v15q), (0, .ref (z_ad X 39)), (1, .int x1)] dX9_homeward_37 rfl (by decide) rfl ?_
    refine z_iconst (v := 0) hE dX9_homeward_38 rfl ?_
    refine z_istore hE [(4, .int 0), (3, .int (z_rd g 1 x1)), (2, .int v15q), (0, .ref (z_ad X 39)), (1, .int x1)] dX9_homeward_39 (by decide) rfl ?_
    refine z_sub [(0, .ref (z_ad X 39)), (1, .int x1), (2, .int v15q), (3, .int (z_rd g 1 x1)), (4, .int 0)] [3, 4, 2, 1, 0] rfl ?_
    exact b_Top_homeward_L41 hE hret z_F x1 v15q (z_rd g 1 x1) 0 h
  · replace h := z_t c12q h
    refine z_iconst (v := (-1)) hE dX9_homeward_8 rfl ?_
    obtain rfl := Option.some.inj h
    exact hret _ _ dX9_homeward_9
theorem dX7_add_0 : decode cX7_add 0 = .ok (.aload_n 0, 1) := by decide +kernel
theorem dX7_add_1 : decode cX7_add 1 = .ok (.getfield 21, 3) := by decide +kernel
theorem dX7_add_4 : decode cX7_add 4 = .ok (.bipush 6, 2) := by decide +kernel
theorem dX7_add_6 : decode cX7_add 6 = .ok (.if_icmp .lt 5, 3) := by decide +kernel
theorem dX7_add_9 : decode cX7_add 9 = .ok (.iconst 0, 1) := by decide +kernel
theorem dX7_add_10 : decode cX7_add 10 = .ok (.ireturn, 1) := by decide +kernel
theorem dX7_add_11 : decode cX7_add 11 = .ok (.aload_n 0, 1) := by decide +kernel
theorem dX7_add_12 : decode cX7_add 12 = .ok (.getfield 9, 3) := by decide +kernel
theorem dX7_add_15 : decode cX7_add 15 = .ok (.aload_n 0, 1) := by decide +kernel
theorem dX7_add_16 : decode cX7_add 16 = .ok (.getfield 21, 3) := by decide +kernel
theorem dX7_add_19 : decode cX7_add 19 = .ok (.iload_n 1, 1) := by decide +kernel
theorem dX7_add_20 : decode cX7_add 20 = .ok (.iastore, 1) := by decide +kernel
theorem dX7_add_21 : decode cX7_add 21 = .ok (.aload_n 0, 1) := by decide +kernel
theorem dX7_add_22 : decode cX7_add 22 = .ok (.getfield 15, 3) := by decide +kernel
theorem dX7_add_25 : decode cX7_add 25 = .ok (.aload_n 0, 1) := by decide +kernel
theorem dX7_add_26 : decode cX7_add 26 = .ok (.getfield 21, 3) := by decide +kernel
theorem dX7_add_29 : decode cX7_add 29 = .ok (.iload_n 2, 1) := by decide +kernel
theorem dX7_add_30 : decode cX7_add 30 = .ok (.iastore, 1) := by decide +kernel
theorem dX7_add_31 : decode cX7_add 31 = .ok (.aload_n 0, 1) := by decide +kernel
theorem dX7_add_32 : decode cX7_add 32 = .ok (.getfield 18, 3) := by decide +kernel
theorem dX7_add_35 : decode cX7_add 35 = .ok (.aload_n 0, 1) := by decide +kernel
theorem dX7_add_36 : decode cX7_add 36 = .ok (.getfield 21, 3) := by decide +kernel
theorem dX7_add_39 : decode cX7_add 39 = .ok (.iload_n 3, 1) := by decide +kernel
theorem dX7_add_40 : decode cX7_add 40 = .ok (.iastore, 1) := by decide +kernel
theorem dX7_add_41 : decode cX7_add 41 = .ok (.aload_n 0, 1) := by decide +kernel
theorem dX7_add_42 : decode cX7_add 42 = .ok (.dup, 1) := by decide +kernel
theorem dX7_add_43 : decode cX7_add 43 = .ok (.getfield 21, 3) := by decide +kernel
theorem dX7_add_46 : decode cX7_add 46 = .ok (.iconst 1, 1) := by decide +kernel
theorem dX7_add_47 : decode cX7_add 47 = .ok (.iadd, 1) := by decide +kernel
theorem dX7_add_48 : decode cX7_add 48 = .ok (.putfield 21, 3) := by decide +kernel
theorem dX7_add_51 : decode cX7_add 51 = .ok (.iconst 1, 1) := by decide +kernel
theorem dX7_add_52 : decode cX7_add 52 = .ok (.ireturn, 1) := by decide +kernel
def s_Sight_add (x1 : Int32) (x2 : Int32) (x3 : Int32) (g : z_G) : Option (Int32 × z_G) := (if (g 57 3) < 6 then (z_ck (z_inb (g 57 3) 6) (z_let (α := z_G) (z_wr g 58 (g 57 3) x1) fun g11q => (z_ck (z_inb (g11q 57 3) 6) (z_let (α := z_G) (z_wr g11q 59 (g11q 57 3) x2) fun g13q => (z_ck (z_inb (g13q 57 3) 6) (z_let (α := z_G) (z_wr g13q 60 (g13q 57 3) x3) fun g15q => (z_let (α := z_G) (z_up g15q 57 3 ((g15q 57 3) + 1)) fun g16q => (some (1, g16q))))))))) else (some (0, g)))
set_option maxHeartbeats 1000000 in
set_option maxRecDepth 20000 in
theorem c_Sight_add {X : z_X} {l : Launch} {o : z_G} (x1 : Int32) (x2 : Int32) (x3 : Int32) (g : z_G) (r : Int32 × z_G) (h : s_Sight_add x1 x2 x3 g = some r) : z_MI X l 71 yX7_add cX7_add 4 (some .boolean) 0 0 [.ref (z_ad X 57), .int x1, .int x2, .int x3] g o r.2 o r.1 := by
  unfold s_Sight_add at h
  refine z_metz (by decide) (Nat.le_of_ble_eq_true rfl) (fun E hl hE hret => ?_)
  subst hl
  refine z_aload_n hE 0 dX7_add_0 rfl ?_
  refine z_get hE f_RX7_21 (by decide) e_57 rfl dX7_add_1 ?_
  refine z_bipush (v := 6) hE dX7_add_4 rfl ?_
  refine z_icmp_lt hE 11 dX7_add_6 rfl (fun c9q => ?_) (fun c9q => ?_)
  · replace h := z_t c9q h
    refine z_aload_n hE 0 dX7_add_11 rfl ?_
    refine z_get hE f_RX7_9 (by decide) e_57 rfl dX7_add_12 ?_
    refine z_aload_n hE 0 dX7_add_15 rfl ?_
    refine z_get hE f_RX7_21 (by decide) e_57 rfl dX7_add_16 ?_
    refine z_iload_n hE 1 dX7_add_19 rfl ?_
    obtain ⟨k10q, h⟩ := z_ck_some h
    obtain ⟨g11q, eg11q, h⟩ := z_let_eq h
    refine z_iast hE (by decide) e_58 k10q (ua_58 eg11q) dX7_add_20 ?_
    refine z_aload_n hE 0 dX7_add_21 rfl ?_
    refine z_get hE f_RX7_15 (by decide) e_57 rfl dX7_add_22 ?_
    refine z_aload_n hE 0 dX7_add_25 rfl ?_
    refine z_get hE f_RX7_21 (by decide) e_57 rfl dX7_add_26 ?_
    refine z_iload_n hE 2 dX7_add_29 rfl ?_
    obtain ⟨k12q, h⟩ := z_ck_some h
    obtain ⟨g13q, eg13q, h⟩ := z_let_eq h
    refine z_iast hE (by decide) e_59 k12q (ua_59 eg13q) dX7_add_30 ?_
    refine z_aload_n hE 0 dX7_add_31 rfl ?_
    refine z_get hE f_RX7_18 (by decide) e_57 rfl dX7_add_32 ?_
    refine z_aload_n hE 0 dX7_add_35 rfl ?_
    refine z_get hE f_RX7_21 (by decide) e_57 rfl dX7_add_36 ?_
    refine z_iload_n hE 3 dX7_add_39 rfl ?_
    obtain ⟨k14q, h⟩ := z_ck_some h
    obtain ⟨g15q, eg15q, h⟩ := z_let_eq h
    refine z_iast hE (by decide) e_60 k14q (ua_60 eg15q) dX7_add_40 ?_
    refine z_aload_n hE 0 dX7_add_41 rfl ?_
    refine z_dup hE dX7_add_42 rfl ?_
    refine z_get hE f_RX7_21 (by decide) e_57 rfl dX7_add_43 ?_
    refine z_iconst (v := 1) hE dX7_add_46 rfl ?_
    refine z_iadd hE dX7_add_47 ?_
    obtain ⟨g16q, eg16q, h⟩ := z_let_eq h
    refine z_put hE f_RX7_21 ft_7 (by decide) e_57 rfl (tyX7_ok 3 (by decide)) rfl rfl (Nat.le_of_ble_eq_true rfl) (u_57_3 eg16q) dX7_add_48 ?_
    refine z_iconst (v := 1) hE dX7_add_51 rfl ?_
    obtain rfl := Option.some.inj h
    exact hret _ _ z_b1 dX7_add_52
  · replace h := z_f c9q h
    refine z_iconst (v := 0) hE dX7_add_9 rfl ?_
    obtain rfl := Option.some.inj h
    exact hret _ _ z_b0 dX7_add_10
theorem dX9_seen_0 : decode cX9_seen 0 = .ok (.aload_n 0, 1) := by decide +kernel
theorem dX9_seen_1 : decode cX9_seen 1 = .ok (.iload_n 1, 1) := by decide +kernel
theorem dX9_seen_2 : decode cX9_seen 2 = .ok (.invokevirtual 107, 3) := by decide +kernel
theorem dX9_seen_5 : decode cX9_seen 5 = .ok (.ifCond .eq 28, 3) := by decide +kernel
theorem dX9_seen_8 : decode cX9_seen 8 = .ok (.iload_n 2, 1) := by decide +kernel
theorem dX9_seen_9 : decode cX9_seen 9 = .ok (.iconst 1, 1) := by decide +kernel
theorem dX9_seen_10 : decode cX9_seen 10 = .ok (.aload_n 0, 1) := by decide +kernel
theorem dX9_seen_11 : decode cX9_seen 11 = .ok (.getfield 40, 3) := by decide +kernel
theorem dX9_seen_14 : decode cX9_seen 14 = .ok (.getfield 157, 3) := by decide +kernel
theorem dX9_seen_17 : decode cX9_seen 17 = .ok (.invokestatic 92, 3) := by decide +kernel
theorem dX9_seen_20 : decode cX9_seen 20 = .ok (.ifCond .eq 13, 3) := by decide +kernel
theorem dX9_seen_23 : decode cX9_seen 23 = .ok (.iload_n 3, 1) := by decide +kernel
theorem dX9_seen_24 : decode cX9_seen 24 = .ok (.iconst 0, 1) := by decide +kernel
theorem dX9_seen_25 : decode cX9_seen 25 = .ok (.bipush 7, 2) := by decide +kernel
theorem dX9_seen_27 : decode cX9_seen 27 = .ok (.invokestatic 92, 3) := by decide +kernel
theorem dX9_seen_30 : decode cX9_seen 30 = .ok (.ifCond .ne 5, 3) := by decide +kernel
theorem dX9_seen_33 : decode cX9_seen 33 = .ok (.iconst (-1), 1) := by decide +kernel
theorem dX9_seen_34 : decode cX9_seen 34 = .ok (.ireturn, 1) := by decide +kernel
theorem dX9_seen_35 : decode cX9_seen 35 = .ok (.aload_n 0, 1) := by decide +kernel
theorem dX9_seen_36 : decode cX9_seen 36 = .ok (.getfield 47, 3) := by decide +kernel
theorem dX9_seen_39 : decode cX9_seen 39 = .ok (.iload_n 1, 1) := by decide +kernel
theorem dX9_seen_40 : decode cX9_seen 40 = .ok (.iload_n 2, 1) := by decide +kernel
theorem dX9_seen_41 : decode cX9_seen 41 = .ok (.iload_n 3, 1) := by decide +kernel
theorem dX9_seen_42 : decode cX9_seen 42 = .ok (.invokevirtual 246, 3) := by decide +kernel
theorem dX9_seen_45 : decode cX9_seen 45 = .ok (.ifCond .eq 13, 3) := by decide +kernel
theorem dX9_seen_48 : decode cX9_seen 48 = .ok (.aload_n 0, 1) := by decide +kernel
theorem dX9_seen_49 : decode cX9_seen 49 = .ok (.getfield 47, 3) := by decide +kernel
theorem dX9_seen_52 : decode cX9_seen 52 = .ok (.getfield 202, 3) := by decide +kernel
theorem dX9_seen_55 : decode cX9_seen 55 = .ok (.goto 5, 3) := by decide +kernel
theorem dX9_seen_58 : decode cX9_seen 58 = .ok (.bipush (-3), 2) := by decide +kernel
theorem dX9_seen_60 : decode cX9_seen 60 = .ok (.ireturn, 1) := by decide +kernel
def s_Top_seen_b33  (g : z_G) : Option (Int32 × z_G) := (some ((-1), g))
def s_Top_seen (x1 : Int32) (x2 : Int32) (x3 : Int32) (g : z_G) : Option (Int32 × z_G) := (if (s_Top_isMan x1 g) = 0 then (s_Top_seen_b33 g) else (if (s_Top_isWithin x2 1 (g 51 2)) = 0 then (s_Top_seen_b33 g) else (if (s_Top_isWithin x3 0 7) = 0 then (s_Top_seen_b33 g) else (Option.bind (s_Sight_add x1 x2 x3 g) fun r9q => (if r9q.1 = 0 then (some ((-3), r9q.2)) else (some ((r9q.2 57 3), r9q.2)))))))
set_option maxHeartbeats 1000000 in
set_option maxRecDepth 20000 in
theorem b_Top_seen_b33 {X : z_X} {E : z_ET} {o : z_G} (hE : z_EV X E cX9_seen 4 RX9 2 43 71) {r : Int32 × z_G} (hret : ∀ (pc : Nat) (lv : List (Nat × Value)), decode cX9_seen pc = .ok (.ireturn, 1) → z_V X E 4 r.2 o pc lv [.int r.1])  (g : z_G)  (h : s_Top_seen_b33 g = some r) : z_V X E 4 g o 33 [] [] := by
  unfold s_Top_seen_b33 at h
  refine z_iconst (v := (-1)) hE dX9_seen_33 rfl ?_
  obtain rfl := Option.some.inj h
  exact hret _ _ dX9_seen_34
set_option maxHeartbeats 1000000 in
set_option maxRecDepth 20000 in
theorem c_Top_seen {X : z_X} {l : Launch} {o : z_G} (x1 : Int32) (x2 : Int32) (x3 : Int32) (g : z_G) (r : Int32 × z_G) (h : s_Top_seen x1 x2 x3 g = some r) : z_MI X l 71 yX9_seen cX9_seen 4 (some .int) 2 43 [.ref (z_ad X 39), .int x1, .int x2, .int x3] g o r.2 o r.1 := by
  unfold s_Top_seen at h
  refine z_meti (ty := .int) rfl rfl (by decide) (Nat.le_of_ble_eq_true rfl) (fun E hl hE hret => ?_)
  subst hl
  refine z_aload_n hE 0 dX9_seen_0 rfl ?_
  refine z_iload_n hE 1 dX9_seen_1 rfl ?_
  refine z_iV (rest := []) (av := [.int x1]) hE (c_Top_isMan x1 g) l_RX9_107 (by decide) (by decide) e_39 rfl ⟨by decide, by decide⟩ dX9_seen_2 rfl (Nat.le_of_ble_eq_true rfl) ?_
  refine z_if_eq hE 33 dX9_seen_5 rfl (fun c6q => ?_) (fun c6q => ?_)
  · replace h := z_t c6q h
    refine z_sub [] [] rfl ?_
    exact b_Top_seen_b33 hE hret g h
  · replace h := z_f c6q h
    refine z_iload_n hE 2 dX9_seen_8 rfl ?_
    refine z_iconst (v := 1) hE dX9_seen_9 rfl ?_
    refine z_aload_n hE 0 dX9_seen_10 rfl ?_
    refine z_get hE f_RX9_40 (by decide) e_39 rfl dX9_seen_11 ?_
    refine z_get hE f_RX9_157 (by decide) e_51 rfl dX9_seen_14 ?_
    refine z_iS (rest := []) (av := [.int x2, .int 1, .int (g 51 2)]) hE (c_Top_isWithin x2 1 (g 51 2) g) l_RX9_92 (by decide) ⟨by decide, by decide⟩ dX9_seen_17 rfl (Nat.le_of_ble_eq_true rfl) ?_
    refine z_if_eq hE 33 dX9_seen_20 rfl (fun c7q => ?_) (fun c7q => ?_)
    · replace h := z_t c7q h
      refine z_sub [] [] rfl ?_
      exact b_Top_seen_b33 hE hret g h
    · replace h := z_f c7q h
      refine z_iload_n hE 3 dX9_seen_23 rfl ?_
      refine z_iconst (v := 0) hE dX9_seen_24 rfl ?_
      refine z_bipush (v := 7) hE dX9_seen_25 rfl ?_
      refine z_iS (rest := []) (av := [.int x3, .int 0, .int 7]) hE (c_Top_isWithin x3 0 7 g) l_RX9_92 (by decide) ⟨by decide, by decide⟩ dX9_seen_27 rfl (Nat.le_of_ble_eq_true rfl) ?_
      refine z_if_ne hE 35 dX9_seen_30 rfl (fun c8q => ?_) (fun c8q => ?_)
      · replace h := z_f c8q h
        refine z_aload_n hE 0 dX9_seen_35 rfl ?_
        refine z_get hE f_RX9_47 (by decide) e_39 rfl dX9_seen_36 ?_
        refine z_iload_n hE 1 dX9_seen_39 rfl ?_
        refine z_iload_n hE 2 dX9_seen_40 rfl ?_
        refine z_iload_n hE 3 dX9_seen_41 rfl ?_
        obtain ⟨r9q, hr9q, h⟩ := z_bind_some h
        refine z_iV (rest := []) (av := [.int x1, .int x2, .int x3]) hE (c_Sight_add x1 x2 x3 g r9q hr9q) l_RX9_246 (by decide) (by decide) e_57 rfl ⟨by decide, by decide⟩ dX9_seen_42 rfl (Nat.le_of_ble_eq_true rfl) ?_
        refine z_if_eq hE 58 dX9_seen_45 rfl (fun c10q => ?_) (fun c10q => ?_)
        · replace h := z_t c10q h
          refine z_bipush (v := (-3)) hE dX9_seen_58 rfl ?_
          obtain rfl := Option.some.inj h
          exact hret _ _ dX9_seen_60
        · replace h := z_f c10q h
          refine z_aload_n hE 0 dX9_seen_48 rfl ?_
          refine z_get hE f_RX9_47 (by decide) e_39 rfl dX9_seen_49 ?_
          refine z_get hE f_RX9_202 (by decide) e_57 rfl dX9_seen_52 ?_
          refine z_goto hE 60 dX9_seen_55 rfl ?_
          obtain rfl := Option.some.inj h
          exact hret _ _ dX9_seen_60
      · replace h := z_t c8q h
        refine z_sub [] [] rfl ?_
        exact b_Top_seen_b33 hE hret g h
theorem dX9_forget_0 : decode cX9_forget 0 = .ok (.aload_n 0, 1) := by decide +kernel
theorem dX9_forget_1 : decode cX9_forget 1 = .ok (.getfield 47, 3) := by decide +kernel
theorem dX9_forget_4 : decode cX9_forget 4 = .ok (.getfield 202, 3) := by decide +kernel
theorem dX9_forget_7 : decode cX9_forget 7 = .ok (.istore_n 1, 1) := by decide +kernel
theorem dX9_forget_8 : decode cX9_forget 8 = .ok (.aload_n 0, 1) := by decide +kernel
theorem dX9_forget_9 : decode cX9_forget 9 = .ok (.getfield 47, 3) := by decide +kernel
theorem dX9_forget_12 : decode cX9_forget 12 = .ok (.iconst 0, 1) := by decide +kernel
theorem dX9_forget_13 : decode cX9_forget 13 = .ok (.putfield 202, 3) := by decide +kernel
theorem dX9_forget_16 : decode cX9_forget 16 = .ok (.iload_n 1, 1) := by decide +kernel
theorem dX9_forget_17 : decode cX9_forget 17 = .ok (.ireturn, 1) := by decide +kernel
def s_Top_forget (g : z_G) : Int32 × z_G := (z_let (α := z_G) (z_up g 57 3 0) fun g2q => ((g 57 3), g2q))
set_option maxHeartbeats 1000000 in
set_option maxRecDepth 20000 in
theorem c_Top_forget {X : z_X} {l : Launch} {o : z_G} (g : z_G) : z_MI X l 71 yX9_forget cX9_forget 2 (some .int) 0 0 [.ref (z_ad X 39)] g o (s_Top_forget g).2 o (s_Top_forget g).1 := by
  obtain ⟨r, h⟩ : ∃ r, s_Top_forget g = r := ⟨_, rfl⟩
  rw [h]
  unfold s_Top_forget at h
  refine z_meti (ty := .int) rfl rfl (by decide) (Nat.le_of_ble_eq_true rfl) (fun E hl hE hret => ?_)
  subst hl
  refine z_aload_n hE 0 dX9_forget_0 rfl ?_
  refine z_get hE f_RX9_47 (by decide) e_39 rfl dX9_forget_1 ?_
  refine z_get hE f_RX9_202 (by decide) e_57 rfl dX9_forget_4 ?_
  refine z_istore_n hE [(1, .int (g 57 3)), (0, .ref (z_ad X 39))] dX9_forget_7 rfl (by decide) rfl ?_
  refine z_aload_n hE 1 dX9_forget_8 rfl ?_
  refine z_get hE f_RX9_47 (by decide) e_39 rfl dX9_forget_9 ?_
  refine z_iconst (v := 0) hE dX9_forget_12 rfl ?_
  obtain ⟨g2q, eg2q, h⟩ := z_let_eq h
  refine z_put hE f_RX9_202 ft_7 (by decide) e_57 rfl (tyX7_ok 3 (by decide)) rfl rfl (Nat.le_of_ble_eq_true rfl) (u_57_3 eg2q) dX9_forget_13 ?_
  refine z_iload_n hE 0 dX9_forget_16 rfl ?_
  subst h
  exact hret _ _ dX9_forget_17
theorem dX7_allows_0 : decode cX7_allows 0 = .ok (.iconst 0, 1) := by decide +kernel
theorem dX7_allows_1 : decode cX7_allows 1 = .ok (.istore 4, 2) := by decide +kernel
theorem dX7_allows_3 : decode cX7_allows 3 = .ok (.iload 4, 2) := by decide +kernel
theorem dX7_allows_5 : decode cX7_allows 5 = .ok (.aload_n 0, 1) := by decide +kernel
theorem dX7_allows_6 : decode cX7_allows 6 = .ok (.getfield 21, 3) := by decide +kernel
theorem dX7_allows_9 : decode cX7_allows 9 = .ok (.if_icmp .ge 44, 3) := by decide +kernel
theorem dX7_allows_12 : decode cX7_allows 12 = .ok (.aload_n 0, 1) := by decide +kernel
theorem dX7_allows_13 : decode cX7_allows 13 = .ok (.getfield 9, 3) := by decide +kernel
theorem dX7_allows_16 : decode cX7_allows 16 = .ok (.iload 4, 2) := by decide +kernel
theorem dX7_allows_18 : decode cX7_allows 18 = .ok (.iaload, 1) := by decide +kernel
theorem dX7_allows_19 : decode cX7_allows 19 = .ok (.iload_n 1, 1) := by decide +kernel
theorem dX7_allows_20 : decode cX7_allows 20 = .ok (.if_icmp .ne 27, 3) := by decide +kernel
theorem dX7_allows_23 : decode cX7_allows 23 = .ok (.aload_n 0, 1) := by decide +kernel
theorem dX7_allows_24 : decode cX7_allows 24 = .ok (.getfield 15, 3) := by decide +kernel
theorem dX7_allows_27 : decode cX7_allows 27 = .ok (.iload 4, 2) := by decide +kernel
theorem dX7_allows_29 : decode cX7_allows 29 = .ok (.iaload, 1) := by decide +kernel
theorem dX7_allows_30 : decode cX7_allows 30 = .ok (.iload_n 2, 1) := by decide +kernel
theorem dX7_allows_31 : decode cX7_allows 31 = .ok (.if_icmp .ne 16, 3) := by decide +kernel
theorem dX7_allows_34 : decode cX7_allows 34 = .ok (.aload_n 0, 1) := by decide +kernel
theorem dX7_allows_35 : decode cX7_allows 35 = .ok (.getfield 18, 3) := by decide +kernel
theorem dX7_allows_38 : decode cX7_allows 38 = .ok (.iload 4, 2) := by decide +kernel
theorem dX7_allows_40 : decode cX7_allows 40 = .ok (.iaload, 1) := by decide +kernel
theorem dX7_allows_41 : decode cX7_allows 41 = .ok (.iload_n 3, 1) := by decide +kernel
theorem dX7_allows_42 : decode cX7_allows 42 = .ok (.if_icmp .eq 5, 3) := by decide +kernel
theorem dX7_allows_45 : decode cX7_allows 45 = .ok (.iconst 0, 1) := by decide +kernel
theorem dX7_allows_46 : decode cX7_allows 46 = .ok (.ireturn, 1) := by decide +kernel
theorem dX7_allows_47 : decode cX7_allows 47 = .ok (.iinc 4 1, 3) := by decide +kernel
theorem dX7_allows_50 : decode cX7_allows 50 = .ok (.goto (-47), 3) := by decide +kernel
theorem dX7_allows_53 : decode cX7_allows 53 = .ok (.iconst 1, 1) := by decide +kernel
theorem dX7_allows_54 : decode cX7_allows 54 = .ok (.ireturn, 1) := by decide +kernel
def s_Sight_allows_b47 (g : z_G) (k3 : Int32 → Int32 → Int32 → Int32 → Option (Int32)) (x1 : Int32) (x2 : Int32) (x3 : Int32) (x4 : Int32) : Option (Int32) := (k3 x1 x2 x3 (x4 + 1))
def s_Sight_allows_L3 (g : z_G) : Nat → Int32 → Int32 → Int32 → Int32 → Option (Int32)
  | 0, _, _, _, _ => none
  | n + 1, x1, x2, x3, x4 => (if (g 57 3) ≤ x4 then (some 1) else (z_ck (z_inb x4 6) (if (z_rd g 58 x4) = x1 then (z_ck (z_inb x4 6) (if (z_rd g 59 x4) = x2 then (z_ck (z_inb x4 6) (if (z_rd g 60 x4) = x3 then (s_Sight_allows_b47 g (s_Sight_allows_L3 g n) x1 x2 x3 x4) else (some 0))) else (s_Sight_allows_b47 g (s_Sight_allows_L3 g n) x1 x2 x3 x4))) else (s_Sight_allows_b47 g (s_Sight_allows_L3 g n) x1 x2 x3 x4))))
def s_Sight_allows (x1 : Int32) (x2 : Int32) (x3 : Int32) (g : z_G) : Option (Int32) := (s_Sight_allows_L3 g z_F x1 x2 x3 0)
set_option maxHeartbeats 1000000 in
set_option maxRecDepth 20000 in
theorem b_Sight_allows_b47 {X : z_X} {E : z_ET} {o : z_G} (hE : z_EV X E cX7_allows 5 RX7 0 0 71) {g : z_G} {r : Int32} (hret : ∀ (pc : Nat) (lv : List (Nat × Value)), z_bit r = true → decode cX7_allows pc = .ok (.ireturn, 1) → z_V X E 5 g o pc lv [.int r]) (k3 : Int32 → Int32 → Int32 → Int32 → Option (Int32)) (hk3 : ∀ (x1 : Int32) (x2 : Int32) (x3 : Int32) (x4 : Int32), k3 x1 x2 x3 x4 = some r → z_V X E 5 g o 3 [(0, .ref (z_ad X 57)), (1, .int x1), (2, .int x2), (3, .int x3), (4, .int x4)] []) (x1 : Int32) (x2 : Int32) (x3 : Int32) (x4 : Int32)  (h : s_Sight_allows_b47 g k3 x1 x2 x3 x4 = some r) : z_V X E 5 g o 47 [(0, .ref (z_ad X 57)), (1, .int x1), (2, .int x2), (3, .int x3), (4, .int x4)] [] := by
  unfold s_Sight_allows_b47 at h
  refine z_iinc (v := x4 + 1) hE 4 [(4, .int (x4 + 1)), (0, .ref (z_ad X 57)), (1, .int x1), (2, .int x2), (3, .int x3)] dX7_allows_47 rfl rfl (by decide) rfl ?_
  refine z_goto hE 3 dX7_allows_50 rfl ?_
  refine z_sub [(0, .ref (z_ad X 57)), (1, .int x1), (2, .int x2), (3, .int x3), (4, .int (x4 + 1))] [1, 2, 3, 4, 0] rfl ?_
  exact hk3 x1 x2 x3 (x4 + 1) h
set_option maxHeartbeats 1000000 in
set_option maxRecDepth 20000 in
theorem b_Sight_allows_L3 {X : z_X} {E : z_ET} {o : z_G} (hE : z_EV X E cX7_allows 5 RX7 0 0 71) {g : z_G} {r : Int32} (hret : ∀ (pc : Nat) (lv : List (Nat × Value)), z_bit r = true → decode cX7_allows pc = .ok (.ireturn, 1) → z_V X E 5 g o pc lv [.int r]) : ∀ (n : Nat) (x1 : Int32) (x2 : Int32) (x3 : Int32) (x4 : Int32), s_Sight_allows_L3 g n x1 x2 x3 x4 = some r → z_V X E 5 g o 3 [(0, .ref (z_ad X 57)), (1, .int x1), (2, .int x2), (3, .int x3), (4, .int x4)] [] := by
  intro n
  induction n with
  | zero => intro x1 x2 x3 x4 h; exact z_none h
  | succ n ih =>
    intro x1 x2 x3 x4 h
    rw [s_Sight_allows_L3] at h
    refine z_iload hE 4 dX7_allows_3 rfl ?_
    refine z_aload_n hE 0 dX7_allows_5 rfl ?_
    refine z_get hE f_RX7_21 (by decide) e_57 rfl dX7_allows_6 ?_
    refine z_icmp_ge hE 53 dX7_allows_9 rfl (fun c8q => ?_) (fun c8q => ?_)
    · replace h := z_t c8q h
      refine z_iconst (v := 1) hE dX7_allows_53 rfl ?_
      obtain rfl := Option.some.inj h
      exact hret _ _ z_b1 dX7_allows_54
    · replace h := z_f c8q h
      refine z_aload_n hE 0 dX7_allows_12 rfl ?_
      refine z_get hE f_RX7_9 (by decide) e_57 rfl dX7_allows_13 ?_
      refine z_iload hE 4 dX7_allows_16 rfl ?_
      obtain ⟨k9q, h⟩ := z_ck_some h
      refine z_iald hE (by decide) e_58 k9q dX7_allows_18 ?_
      refine z_iload_n hE 1 dX7_allows_19 rfl ?_
      refine z_icmp_ne hE 47 dX7_allows_20 rfl (fun c10q => ?_) (fun c10q => ?_)
      · replace h := z_f c10q h
        exact b_Sight_allows_b47 hE hret (s_Sight_allows_L3 g n) ih x1 x2 x3 x4 h
      · replace h := z_t c10q h
        refine z_aload_n hE 0 dX7_allows_23 rfl ?_
        refine z_get hE f_RX7_15 (by decide) e_57 rfl dX7_allows_24 ?_
        refine z_iload hE 4 dX7_allows_27 rfl ?_
        obtain ⟨k11q, h⟩ := z_ck_some h
        refine z_iald hE (by decide) e_59 k11q dX7_allows_29 ?_
        refine z_iload_n hE 2 dX7_allows_30 rfl ?_
        refine z_icmp_ne hE 47 dX7_allows_31 rfl (fun c12q => ?_) (fun c12q => ?_)
        · replace h := z_f c12q h
          exact b_Sight_allows_b47 hE hret (s_Sight_allows_L3 g n) ih x1 x2 x3 x4 h
        · replace h := z_t c12q h
          refine z_aload_n hE 0 dX7_allows_34 rfl ?_
          refine z_get hE f_RX7_18 (by decide) e_57 rfl dX7_allows_35 ?_
          refine z_iload hE 4 dX7_allows_38 rfl ?_
          obtain ⟨k13q, h⟩ := z_ck_some h
          refine z_iald hE (by decide) e_60 k13q dX7_allows_40 ?_
          refine z_iload_n hE 3 dX7_allows_41 rfl ?_
          refine z_icmp_eq hE 47 dX7_allows_42 rfl (fun c14q => ?_) (fun c14q => ?_)
          · replace h := z_t c14q h
            exact b_Sight_allows_b47 hE hret (s_Sight_allows_L3 g n) ih x1 x2 x3 x4 h
          · replace h := z_f c14q h
            refine z_iconst (v := 0) hE dX7_allows_45 rfl ?_
            obtain rfl := Option.some.inj h
            exact hret _ _ z_b0 dX7_allows_46
set_option maxHeartbeats 1000000 in
set_option maxRecDepth 20000 in
theorem c_Sight_allows {X : z_X} {l : Launch} {o : z_G} (x1 : Int32) (x2 : Int32) (x3 : Int32) (g : z_G) (r : Int32) (h : s_Sight_allows x1 x2 x3 g = some r) : z_MI X l 71 yX7_allows cX7_allows 5 (some .boolean) 0 0 [.ref (z_ad X 57), .int x1, .int x2, .int x3] g o g o r := by
  unfold s_Sight_allows at h
  refine z_metz (by decide) (Nat.le_of_ble_eq_true rfl) (fun E hl hE hret => ?_)
  subst hl
  refine z_iconst (v := 0) hE dX7_allows_0 rfl ?_
  refine z_istore hE [(4, .int 0), (0, .ref (z_ad X 57)), (1, .int x1), (2, .int x2), (3, .int x3)] dX7_allows_1 (by decide) rfl ?_
  refine z_sub [(0, .ref (z_ad X 57)), (1, .int x1), (2, .int x2), (3, .int x3), (4, .int 0)] [1, 2, 3, 4, 0] rfl ?_
  exact b_Sight_allows_L3 hE hret z_F x1 x2 x3 0 h
theorem dX7_fits_0 : decode cX7_fits 0 = .ok (.iload_n 2, 1) := by decide +kernel
theorem dX7_fits_1 : decode cX7_fits 1 = .ok (.istore 5, 2) := by decide +kernel
theorem dX7_fits_3 : decode cX7_fits 3 = .ok (.iconst 0, 1) := by decide +kernel
theorem dX7_fits_4 : decode cX7_fits 4 = .ok (.istore 6, 2) := by decide +kernel
theorem dX7_fits_6 : decode cX7_fits 6 = .ok (.iload 6, 2) := by decide +kernel
theorem dX7_fits_8 : decode cX7_fits 8 = .ok (.aload 4, 2) := by decide +kernel
theorem dX7_fits_10 : decode cX7_fits 10 = .ok (.getfield 25, 3) := by decide +kernel
theorem dX7_fits_13 : decode cX7_fits 13 = .ok (.if_icmp .ge 54, 3) := by decide +kernel
theorem dX7_fits_16 : decode cX7_fits 16 = .ok (.iload 5, 2) := by decide +kernel
theorem dX7_fits_18 : decode cX7_fits 18 = .ok (.aload 4, 2) := by decide +kernel
theorem dX7_fits_20 : decode cX7_fits 20 = .ok (.getfield 30, 3) := by decide +kernel
theorem dX7_fits_23 : decode cX7_fits 23 = .ok (.iload 6, 2) := by decide +kernel
theorem dX7_fits_25 : decode cX7_fits 25 = .ok (.iaload, 1) := by decide +kernel
theorem dX7_fits_26 : decode cX7_fits 26 = .ok (.aload 4, 2) := by decide +kernel
theorem dX7_fits_28 : decode cX7_fits 28 = .ok (.getfield 33, 3) := by decide +kernel
theorem dX7_fits_31 : decode cX7_fits 31 = .ok (.iload 6, 2) := by decide +kernel
theorem dX7_fits_33 : decode cX7_fits 33 = .ok (.iaload, 1) := by decide +kernel
theorem dX7_fits_34 : decode cX7_fits 34 = .ok (.iload_n 3, 1) := by decide +kernel
theorem dX7_fits_35 : decode cX7_fits 35 = .ok (.iconst 0, 1) := by decide +kernel
theorem dX7_fits_36 : decode cX7_fits 36 = .ok (.iconst 0, 1) := by decide +kernel
theorem dX7_fits_37 : decode cX7_fits 37 = .ok (.invokestatic 38, 3) := by decide +kernel
theorem dX7_fits_40 : decode cX7_fits 40 = .ok (.istore 5, 2) := by decide +kernel
theorem dX7_fits_42 : decode cX7_fits 42 = .ok (.aload_n 0, 1) := by decide +kernel
theorem dX7_fits_43 : decode cX7_fits 43 = .ok (.iload_n 1, 1) := by decide +kernel
theorem dX7_fits_44 : decode cX7_fits 44 = .ok (.iload 6, 2) := by decide +kernel
theorem dX7_fits_46 : decode cX7_fits 46 = .ok (.iconst 1, 1) := by decide +kernel
theorem dX7_fits_47 : decode cX7_fits 47 = .ok (.iadd, 1) := by decide +kernel
theorem dX7_fits_48 : decode cX7_fits 48 = .ok (.iload 5, 2) := by decide +kernel
theorem dX7_fits_50 : decode cX7_fits 50 = .ok (.invokestatic 42, 3) := by decide +kernel
theorem dX7_fits_53 : decode cX7_fits 53 = .ok (.invokevirtual 46, 3) := by decide +kernel
theorem dX7_fits_56 : decode cX7_fits 56 = .ok (.ifCond .ne 5, 3) := by decide +kernel
theorem dX7_fits_59 : decode cX7_fits 59 = .ok (.iconst 0, 1) := by decide +kernel
theorem dX7_fits_60 : decode cX7_fits 60 = .ok (.ireturn, 1) := by decide +kernel
theorem dX7_fits_61 : decode cX7_fits 61 = .ok (.iinc 6 1, 3) := by decide +kernel
theorem dX7_fits_64 : decode cX7_fits 64 = .ok (.goto (-58), 3) := by decide +kernel
theorem dX7_fits_67 : decode cX7_fits 67 = .ok (.iconst 1, 1) := by decide +kernel
theorem dX7_fits_68 : decode cX7_fits 68 = .ok (.ireturn, 1) := by decide +kernel
def s_Sight_fits_51_L6 (g : z_G) : Nat → Int32 → Int32 → Int32 → Int32 → Option (Int32)
  | 0, _, _, _, _ => none
  | n + 1, x1, x3, x5, x6 => (if (g 51 2) ≤ x6 then (some 1) else (z_ck (z_inb x6 6) (z_ck (z_inb x6 6) (Option.bind (s_Ways_ordered x5 (z_rd g 52 x6) (z_rd g 53 x6) x3 0 0) fun r10q => (Option.bind (s_Sight_allows x1 (x6 + 1) (s_Ways_lookOf r10q) g) fun r11q => (if r11q = 0 then (some 0) else ((s_Sight_fits_51_L6 g n) x1 x3 r10q (x6 + 1))))))))
def s_Sight_fits_51 (x1 : Int32) (x2 : Int32) (x3 : Int32) (g : z_G) : Option (Int32) := (s_Sight_fits_51_L6 g z_F x1 x3 x2 0)
set_option maxHeartbeats 1000000 in
set_option maxRecDepth 20000 in
theorem b_Sight_fits_51_L6 {X : z_X} {E : z_ET} {o : z_G} (hE : z_EV X E cX7_fits 7 RX7 5 124 71) {g : z_G} {r : Int32} (hret : ∀ (pc : Nat) (lv : List (Nat × Value)), z_bit r = true → decode cX7_fits pc = .ok (.ireturn, 1) → z_V X E 7 g o pc lv [.int r]) : ∀ (n : Nat) (x1 : Int32) (x3 : Int32) (x5 : Int32) (x6 : Int32), s_Sight_fits_51_L6 g n x1 x3 x5 x6 = some r → z_V X E 7 g o 6 [(0, .ref (z_ad X 57)), (1, .int x1), (3, .int x3), (4, .ref (z_ad X 51)), (5, .int x5), (6, .int x6)] [] := by
  intro n
  induction n with
  | zero => intro x1 x3 x5 x6 h; exact z_none h
  | succ n ih =>
    intro x1 x3 x5 x6 h
    rw [s_Sight_fits_51_L6] at h
    refine z_iload hE 5 dX7_fits_6 rfl ?_
    refine z_aload hE 3 dX7_fits_8 rfl ?_
    refine z_get hE f_RX7_25 (by decide) e_51 rfl dX7_fits_10 ?_
    refine z_icmp_ge hE 67 dX7_fits_13 rfl (fun c7q => ?_) (fun c7q => ?_)
    · replace h := z_t c7q h
      refine z_iconst (v := 1) hE dX7_fits_67 rfl ?_
      obtain rfl := Option.some.inj h
      exact hret _ _ z_b1 dX7_fits_68
    · replace h := z_f c7q h
      refine z_iload hE 4 dX7_fits_16 rfl ?_
      refine z_aload hE 3 dX7_fits_18 rfl ?_
      refine z_get hE f_RX7_30 (by decide) e_51 rfl dX7_fits_20 ?_
      refine z_iload hE 5 dX7_fits_23 rfl ?_
      obtain ⟨k8q, h⟩ := z_ck_some h
      refine z_iald hE (by decide) e_52 k8q dX7_fits_25 ?_
      refine z_aload hE 3 dX7_fits_26 rfl ?_
      refine z_get hE f_RX7_33 (by decide) e_51 rfl dX7_fits_28 ?_
      refine z_iload hE 5 dX7_fits_31 rfl ?_
      obtain ⟨k9q, h⟩ := z_ck_some h
      refine z_iald hE (by decide) e_53 k9q dX7_fits_33 ?_
      refine z_iload_n hE 2 dX7_fits_34 rfl ?_
      refine z_iconst (v := 0) hE dX7_fits_35 rfl ?_
      refine z_iconst (v := 0) hE dX7_fits_36 rfl ?_
      obtain ⟨r10q, hr10q, h⟩ := z_bind_some h
      refine z_iS (rest := []) (av := [.int x5, .int (z_rd g 52 x6), .int (z_rd g 53 x6), .int x3, .int 0, .int 0]) hE (c_Ways_ordered x5 (z_rd g 52 x6) (z_rd g 53 x6) x3 0 0 g r10q hr10q) l_RX7_38 (by decide) ⟨by decide, by decide⟩ dX7_fits_37 rfl (Nat.le_of_ble_eq_true rfl) ?_
      refine z_istore hE [(5, .int r10q), (0, .ref (z_ad X 57)), (1, .int x1), (3, .int x3), (4, .ref (z_ad X 51)), (6, .int x6)] dX7_fits_40 (by decide) rfl ?_
      refine z_aload_n hE 1 dX7_fits_42 rfl ?_
      refine z_iload_n hE 2 dX7_fits_43 rfl ?_
      refine z_iload hE 5 dX7_fits_44 rfl ?_
      refine z_iconst (v := 1) hE dX7_fits_46 rfl ?_
      refine z_iadd hE dX7_fits_47 ?_
      refine z_iload hE 0 dX7_fits_48 rfl ?_
      refine z_iS (rest := [.int (x6 + 1), .int x1, .ref (z_ad X 57)]) (av := [.int r10q]) hE (c_Ways_lookOf r10q g) l_RX7_42 (by decide) ⟨by decide, by decide⟩ dX7_fits_50 rfl (Nat.le_of_ble_eq_true rfl) ?_
      obtain ⟨r11q, hr11q, h⟩ := z_bind_some h
      refine z_iV (rest := []) (av := [.int x1, .int (x6 + 1), .int (s_Ways_lookOf r10q)]) hE (c_Sight_allows x1 (x6 + 1) (s_Ways_lookOf r10q) g r11q hr11q) l_RX7_46 (by decide) (by decide) e_57 rfl ⟨by decide, by decide⟩ dX7_fits_53 rfl (Nat.le_of_ble_eq_true rfl) ?_
      refine z_if_ne hE 61 dX7_fits_56 rfl (fun c12q => ?_) (fun c12q => ?_)
      · replace h := z_f c12q h
        refine z_iinc (v := x6 + 1) hE 5 [(6, .int (x6 + 1)), (5, .int r10q), (0, .ref (z_ad X 57)), (1, .int x1), (3, .int x3), (4, .ref (z_ad X 51))] dX7_fits_61 rfl rfl (by decide) rfl ?_
        refine z_goto hE 6 dX7_fits_64 rfl ?_
        refine z_sub [(0, .ref (z_ad X 57)), (1, .int x1), (3, .int x3), (4, .ref (z_ad X 51)), (5, .int r10q), (6, .int (x6 + 1))] [2, 3, 4, 5, 1, 0] rfl ?_
        exact ih x1 x3 r10q (x6 + 1) h
      · replace h := z_t c12q h
        refine z_iconst (v := 0) hE dX7_fits_59 rfl ?_
        obtain rfl := Option.some.inj h
        exact hret _ _ z_b0 dX7_fits_60
set_option maxHeartbeats 1000000 in
set_option maxRecDepth 20000 in
theorem c_Sight_fits_51 {X : z_X} {l : Launch} {o : z_G} (x1 : Int32) (x2 : Int32) (x3 : Int32) (g : z_G) (r : Int32) (h : s_Sight_fits_51 x1 x2 x3 g = some r) : z_MI X l 71 yX7_fits cX7_fits 7 (some .boolean) 5 124 [.ref (z_ad X 57), .int x1, .int x2, .int x3, .ref (z_ad X 51)] g o g o r := by
  unfold s_Sight_fits_51 at h
  refine z_metz (by decide) (Nat.le_of_ble_eq_true rfl) (fun E hl hE hret => ?_)
  subst hl
  refine z_iload_n hE 2 dX7_fits_0 rfl ?_
  refine z_istore hE [(5, .int x2), (0, .ref (z_ad X 57)), (1, .int x1), (2, .int x2), (3, .int x3), (4, .ref (z_ad X 51))] dX7_fits_1 (by decide) rfl ?_
  refine z_iconst (v := 0) hE dX7_fits_3 rfl ?_
  refine z_istore hE [(6, .int 0), (5, .int x2), (0, .ref (z_ad X 57)), (1, .int x1), (2, .int x2), (3, .int x3), (4, .ref (z_ad X 51))] dX7_fits_4 (by decide) rfl ?_
  refine z_sub [(0, .ref (z_ad X 57)), (1, .int x1), (3, .int x3), (4, .ref (z_ad X 51)), (5, .int x2), (6, .int 0)] [2, 3, 5, 6, 1, 0] rfl ?_
  exact b_Sight_fits_51_L6 hE hret z_F x1 x3 x2 0 h
theorem dX9_villages_0 : decode cX9_villages 0 = .ok (.aload_n 0, 1) := by decide +kernel
theorem dX9_villages_1 : decode cX9_villages 1 = .ok (.iload_n 1, 1) := by decide +kernel
theorem dX9_villages_2 : decode cX9_villages 2 = .ok (.invokevirtual 107, 3) := by decide +kernel
theorem dX9_villages_5 : decode cX9_villages 5 = .ok (.ifCond .eq 12, 3) := by decide +kernel
theorem dX9_villages_8 : decode cX9_villages 8 = .ok (.iload_n 2, 1) := by decide +kernel
theorem dX9_villages_9 : decode cX9_villages 9 = .ok (.iconst 0, 1) := by decide +kernel
theorem dX9_villages_10 : decode cX9_villages 10 = .ok (.iconst 1, 1) := by decide +kernel
theorem dX9_villages_11 : decode cX9_villages 11 = .ok (.invokestatic 92, 3) := by decide +kernel
theorem dX9_villages_14 : decode cX9_villages 14 = .ok (.ifCond .ne 5, 3) := by decide +kernel
theorem dX9_villages_17 : decode cX9_villages 17 = .ok (.iconst (-1), 1) := by decide +kernel
theorem dX9_villages_18 : decode cX9_villages 18 = .ok (.ireturn, 1) := by decide +kernel
theorem dX9_villages_19 : decode cX9_villages 19 = .ok (.iconst 0, 1) := by decide +kernel
theorem dX9_villages_20 : decode cX9_villages 20 = .ok (.istore_n 3, 1) := by decide +kernel
theorem dX9_villages_21 : decode cX9_villages 21 = .ok (.iconst 0, 1) := by decide +kernel
theorem dX9_villages_22 : decode cX9_villages 22 = .ok (.istore 4, 2) := by decide +kernel
theorem dX9_villages_24 : decode cX9_villages 24 = .ok (.iload 4, 2) := by decide +kernel
theorem dX9_villages_26 : decode cX9_villages 26 = .ok (.sipush 256, 3) := by decide +kernel
theorem dX9_villages_29 : decode cX9_villages 29 = .ok (.if_icmp .ge 46, 3) := by decide +kernel
theorem dX9_villages_32 : decode cX9_villages 32 = .ok (.aload_n 0, 1) := by decide +kernel
theorem dX9_villages_33 : decode cX9_villages 33 = .ok (.getfield 47, 3) := by decide +kernel
theorem dX9_villages_36 : decode cX9_villages 36 = .ok (.iload_n 1, 1) := by decide +kernel
theorem dX9_villages_37 : decode cX9_villages 37 = .ok (.aload_n 0, 1) := by decide +kernel
theorem dX9_villages_38 : decode cX9_villages 38 = .ok (.getfield 30, 3) := by decide +kernel
theorem dX9_villages_41 : decode cX9_villages 41 = .ok (.getfield 111, 3) := by decide +kernel
theorem dX9_villages_44 : decode cX9_villages 44 = .ok (.iload_n 1, 1) := by decide +kernel
theorem dX9_villages_45 : decode cX9_villages 45 = .ok (.iaload, 1) := by decide +kernel
theorem dX9_villages_46 : decode cX9_villages 46 = .ok (.iload 4, 2) := by decide +kernel
theorem dX9_villages_48 : decode cX9_villages 48 = .ok (.aload_n 0, 1) := by decide +kernel
theorem dX9_villages_49 : decode cX9_villages 49 = .ok (.getfield 40, 3) := by decide +kernel
theorem dX9_villages_52 : decode cX9_villages 52 = .ok (.invokevirtual 248, 3) := by decide +kernel
theorem dX9_villages_55 : decode cX9_villages 55 = .ok (.ifCond .eq 14, 3) := by decide +kernel
theorem dX9_villages_58 : decode cX9_villages 58 = .ok (.iload_n 2, 1) := by decide +kernel
theorem dX9_villages_59 : decode cX9_villages 59 = .ok (.iconst 1, 1) := by decide +kernel
theorem dX9_villages_60 : decode cX9_villages 60 = .ok (.if_icmp .ne 6, 3) := by decide +kernel
theorem dX9_villages_63 : decode cX9_villages 63 = .ok (.iload 4, 2) := by decide +kernel
theorem dX9_villages_65 : decode cX9_villages 65 = .ok (.ireturn, 1) := by decide +kernel
theorem dX9_villages_66 : decode cX9_villages 66 = .ok (.iinc 3 1, 3) := by decide +kernel
theorem dX9_villages_69 : decode cX9_villages 69 = .ok (.iinc 4 1, 3) := by decide +kernel
theorem dX9_villages_72 : decode cX9_villages 72 = .ok (.goto (-48), 3) := by decide +kernel
theorem dX9_villages_75 : decode cX9_villages 75 = .ok (.iload_n 2, 1) := by decide +kernel
theorem dX9_villages_76 : decode cX9_villages 76 = .ok (.iconst 1, 1) := by decide +kernel
theorem dX9_villages_77 : decode cX9_villages 77 = .ok (.if_icmp .ne 8, 3) := by decide +kernel
theorem dX9_villages_80 : decode cX9_villages 80 = .ok (.bipush (-4), 2) := by decide +kernel
theorem dX9_villages_82 : decode cX9_villages 82 = .ok (.goto 4, 3) := by decide +kernel
theorem dX9_villages_85 : decode cX9_villages 85 = .ok (.iload_n 3, 1) := by decide +kernel
theorem dX9_villages_86 : decode cX9_villages 86 = .ok (.ireturn, 1) := by decide +kernel
def s_Top_villages_b17 (g : z_G) : Option (Int32) := (some (-1))
def s_Top_villages_b69 (g : z_G) (k24 : Int32 → Int32 → Int32 → Int32 → Option (Int32)) (x1 : Int32) (x2 : Int32) (x3 : Int32) (x4 : Int32) : Option (Int32) := (k24 x1 x2 x3 (x4 + 1))
def s_Top_villages_L24 (g : z_G) : Nat → Int32 → Int32 → Int32 → Int32 → Option (Int32)
  | 0, _, _, _, _ => none
  | n + 1, x1, x2, x3, x4 => (if 256 ≤ x4 then (if x2 = 1 then (some (-4)) else (some x3)) else (z_ck (z_inb x1 6) (Option.bind (s_Sight_fits_51 x1 (z_rd g 1 x1) x4 g) fun r12q => (if r12q = 0 then (s_Top_villages_b69 g (s_Top_villages_L24 g n) x1 x2 x3 x4) else (if x2 = 1 then (some x4) else (s_Top_villages_b69 g (s_Top_villages_L24 g n) x1 x2 (x3 + 1) x4))))))
def s_Top_villages (x1 : Int32) (x2 : Int32) (g : z_G) : Option (Int32) := (if (s_Top_isMan x1 g) = 0 then (s_Top_villages_b17 g) else (if (s_Top_isWithin x2 0 1) = 0 then (s_Top_villages_b17 g) else (s_Top_villages_L24 g z_F x1 x2 0 0)))
set_option maxHeartbeats 1000000 in
set_option maxRecDepth 20000 in
theorem b_Top_villages_b17 {X : z_X} {E : z_ET} {o : z_G} (hE : z_EV X E cX9_villages 5 RX9 6 150 71) {g : z_G} {r : Int32} (hret : ∀ (pc : Nat) (lv : List (Nat × Value)), decode cX9_villages pc = .ok (.ireturn, 1) → z_V X E 5 g o pc lv [.int r])   (h : s_Top_villages_b17 g = some r) : z_V X E 5 g o 17 [] [] := by
  unfold s_Top_villages_b17 at h
  refine z_iconst (v := (-1)) hE dX9_villages_17 rfl ?_
  obtain rfl := Option.some.inj h
  exact hret _ _ dX9_villages_18
set_option maxHeartbeats 1000000 in
set_option maxRecDepth 20000 in
theorem b_Top_villages_b69 {X : z_X} {E : z_ET} {o : z_G} (hE : z_EV X E cX9_villages 5 RX9 6 150 71) {g : z_G} {r : Int32} (hret : ∀ (pc : Nat) (lv : List (Nat × Value)), decode cX9_villages pc = .ok (.ireturn, 1) → z_V X E 5 g o pc lv [.int r]) (k24 : Int32 → Int32 → Int32 → Int32 → Option (Int32)) (hk24 : ∀ (x1 : Int32) (x2 : Int32) (x3 : Int32) (x4 : Int32), k24 x1 x2 x3 x4 = some r → z_V X E 5 g o 24 [(0, .ref (z_ad X 39)), (1, .int x1), (2, .int x2), (3, .int x3), (4, .int x4)] []) (x1 : Int32) (x2 : Int32) (x3 : Int32) (x4 : Int32)  (h : s_Top_villages_b69 g k24 x1 x2 x3 x4 = some r) : z_V X E 5 g o 69 [(0, .ref (z_ad X 39)), (1, .int x1), (2, .int x2), (3, .int x3), (4, .int x4)] [] := by
  unfold s_Top_villages_b69 at h
  refine z_iinc (v := x4 + 1) hE 4 [(4, .int (x4 + 1)), (0, .ref (z_ad X 39)), (1, .int x1), (2, .int x2), (3, .int x3)] dX9_villages_69 rfl rfl (by decide) rfl ?_
  refine z_goto hE 24 dX9_villages_72 rfl ?_
  refine z_sub [(0, .ref (z_ad X 39)), (1, .int x1), (2, .int x2), (3, .int x3), (4, .int (x4 + 1))] [1, 2, 3, 4, 0] rfl ?_
  exact hk24 x1 x2 x3 (x4 + 1) h
set_option maxHeartbeats 1000000 in
set_option maxRecDepth 20000 in
theorem b_Top_villages_L24 {X : z_X} {E : z_ET} {o : z_G} (hE : z_EV X E cX9_villages 5 RX9 6 150 71) {g : z_G} {r : Int32} (hret : ∀ (pc : Nat) (lv : List (Nat × Value)), decode cX9_villages pc = .ok (.ireturn, 1) → z_V X E 5 g o pc lv [.int r]) : ∀ (n : Nat) (x1 : Int32) (x2 : Int32) (x3 : Int32) (x4 : Int32), s_Top_villages_L24 g n x1 x2 x3 x4 = some r → z_V X E 5 g o 24 [(0, .ref (z_ad X 39)), (1, .int x1), (2, .int x2), (3, .int x3), (4, .int x4)] [] := by
  intro n
  induction n with
  | zero => intro x1 x2 x3 x4 h; exact z_none h
  | succ n ih =>
    intro x1 x2 x3 x4 h
    rw [s_Top_villages_L24] at h
    refine z_iload hE 4 dX9_villages_24 rfl ?_
    refine z_sipush (v := 256) hE dX9_villages_26 rfl ?_
    refine z_icmp_ge hE 75 dX9_villages_29 rfl (fun c9q => ?_) (fun c9q => ?_)
    · replace h := z_t c9q h
      refine z_iload_n hE 2 dX9_villages_75 rfl ?_
      refine z_iconst (v := 1) hE dX9_villages_76 rfl ?_
      refine z_icmp_ne hE 85 dX9_villages_77 rfl (fun c10q => ?_) (fun c10q => ?_)
      · replace h := z_f c10q h
        refine z_iload_n hE 3 dX9_villages_85 rfl ?_
        obtain rfl := Option.some.inj h
        exact hret _ _ dX9_villages_86
      · replace h := z_t c10q h
        refine z_bipush (v := (-4)) hE dX9_villages_80 rfl ?_
        refine z_goto hE 86 dX9_villages_82 rfl ?_
        obtain rfl := Option.some.inj h
        exact hret _ _ dX9_villages_86
    · replace h := z_f c9q h
      refine z_aload_n hE 0 dX9_villages_32 rfl ?_
      refine z_get hE f_RX9_47 (by decide) e_39 rfl dX9_villages_33 ?_
      refine z_iload_n hE 1 dX9_villages_36 rfl ?_
      refine z_aload_n hE 0 dX9_villages_37 rfl ?_
      refine z_get hE f_RX9_30 (by decide) e_39 rfl dX9_villages_38 ?_
      refine z_get hE f_RX9_111 (by decide) e_0 rfl dX9_villages_41 ?_
      refine z_iload_n hE 1 dX9_villages_44 rfl ?_
      obtain ⟨k11q, h⟩ := z_ck_some h
      refine z_iald hE (by decide) e_1 k11q dX9_villages_45 ?_
      refine z_iload hE 4 dX9_villages_46 rfl ?_
      refine z_aload_n hE 0 dX9_villages_48 rfl ?_
      refine z_get hE f_RX9_40 (by decide) e_39 rfl dX9_villages_49 ?_
      obtain ⟨r12q, hr12q, h⟩ := z_bind_some h
      refine z_iV (rest := []) (av := [.int x1, .int (z_rd g 1 x1), .int x4, .ref (z_ad X 51)]) hE (c_Sight_fits_51 x1 (z_rd g 1 x1) x4 g r12q hr12q) l_RX9_248 (by decide) (by decide) e_57 rfl ⟨by decide, by decide⟩ dX9_villages_52 rfl (Nat.le_of_ble_eq_true rfl) ?_
      refine z_if_eq hE 69 dX9_villages_55 rfl (fun c13q => ?_) (fun c13q => ?_)
      · replace h := z_t c13q h
        exact b_Top_villages_b69 hE hret (s_Top_villages_L24 g n) ih x1 x2 x3 x4 h
      · replace h := z_f c13q h
        refine z_iload_n hE 2 dX9_villages_58 rfl ?_
        refine z_iconst (v := 1) hE dX9_villages_59 rfl ?_
        refine z_icmp_ne hE 66 dX9_villages_60 rfl (fun c14q => ?_) (fun c14q => ?_)
        · replace h := z_f c14q h
          refine z_iinc (v := x3 + 1) hE 3 [(3, .int (x3 + 1)), (0, .ref (z_ad X 39)), (1, .int x1), (2, .int x2), (4, .int x4)] dX9_villages_66 rfl rfl (by decide) rfl ?_
          refine z_sub [(0, .ref (z_ad X 39)), (1, .int x1), (2, .int x2), (3, .int (x3 + 1)), (4, .int x4)] [1, 2, 3, 0, 4] rfl ?_
          exact b_Top_villages_b69 hE hret (s_Top_villages_L24 g n) ih x1 x2 (x3 + 1) x4 h
        · replace h := z_t c14q h
          refine z_iload hE 4 dX9_villages_63 rfl ?_
          obtain rfl := Option.some.inj h
          exact hret _ _ dX9_villages_65
set_option maxHeartbeats 1000000 in
set_option maxRecDepth 20000 in
theorem c_Top_villages {X : z_X} {l : Launch} {o : z_G} (x1 : Int32) (x2 : Int32) (g : z_G) (r : Int32) (h : s_Top_villages x1 x2 g = some r) : z_MI X l 71 yX9_villages cX9_villages 5 (some .int) 6 150 [.ref (z_ad X 39), .int x1, .int x2] g o g o r := by
  unfold s_Top_villages at h
  refine z_meti (ty := .int) rfl rfl (by decide) (Nat.le_of_ble_eq_true rfl) (fun E hl hE hret => ?_)
  subst hl
  refine z_aload_n hE 0 dX9_villages_0 rfl ?_
  refine z_iload_n hE 1 dX9_villages_1 rfl ?_
  refine z_iV (rest := []) (av := [.int x1]) hE (c_Top_isMan x1 g) l_RX9_107 (by decide) (by decide) e_39 rfl ⟨by decide, by decide⟩ dX9_villages_2 rfl (Nat.le_of_ble_eq_true rfl) ?_
  refine z_if_eq hE 17 dX9_villages_5 rfl (fun c15q => ?_) (fun c15q => ?_)
  · replace h := z_t c15q h
    refine z_sub [] [] rfl ?_
    exact b_Top_villages_b17 hE hret h
  · replace h := z_f c15q h
    refine z_iload_n hE 2 dX9_villages_8 rfl ?_
    refine z_iconst (v := 0) hE dX9_villages_9 rfl ?_
    refine z_iconst (v := 1) hE dX9_villages_10 rfl ?_
    refine z_iS (rest := []) (av := [.int x2, .int 0, .int 1]) hE (c_Top_isWithin x2 0 1 g) l_RX9_92 (by decide) ⟨by decide, by decide⟩ dX9_villages_11 rfl (Nat.le_of_ble_eq_true rfl) ?_
    refine z_if_ne hE 19 dX9_villages_14 rfl (fun c16q => ?_) (fun c16q => ?_)
    · replace h := z_f c16q h
      refine z_iconst (v := 0) hE dX9_villages_19 rfl ?_
      refine z_istore_n hE [(3, .int 0), (0, .ref (z_ad X 39)), (1, .int x1), (2, .int x2)] dX9_villages_20 rfl (by decide) rfl ?_
      refine z_iconst (v := 0) hE dX9_villages_21 rfl ?_
      refine z_istore hE [(4, .int 0), (3, .int 0), (0, .ref (z_ad X 39)), (1, .int x1), (2, .int x2)] dX9_villages_22 (by decide) rfl ?_
      refine z_sub [(0, .ref (z_ad X 39)), (1, .int x1), (2, .int x2), (3, .int 0), (4, .int 0)] [2, 3, 4, 1, 0] rfl ?_
      exact b_Top_villages_L24 hE hret z_F x1 x2 0 0 h
    · replace h := z_t c16q h
      refine z_sub [] [] rfl ?_
      exact b_Top_villages_b17 hE hret h
theorem dX9_strays_0 : decode cX9_strays 0 = .ok (.iload_n 1, 1) := by decide +kernel
theorem dX9_strays_1 : decode cX9_strays 1 = .ok (.iconst 0, 1) := by decide +kernel
theorem dX9_strays_2 : decode cX9_strays 2 = .ok (.iconst 1, 1) := by decide +kernel
theorem dX9_strays_3 : decode cX9_strays 3 = .ok (.invokestatic 92, 3) := by decide +kernel
theorem dX9_strays_6 : decode cX9_strays 6 = .ok (.ifCond .ne 5, 3) := by decide +kernel
theorem dX9_strays_9 : decode cX9_strays 9 = .ok (.iconst (-1), 1) := by decide +kernel
theorem dX9_strays_10 : decode cX9_strays 10 = .ok (.ireturn, 1) := by decide +kernel
theorem dX9_strays_11 : decode cX9_strays 11 = .ok (.iconst 0, 1) := by decide +kernel
theorem dX9_strays_12 : decode cX9_strays 12 = .ok (.istore_n 2, 1) := by decide +kernel
theorem dX9_strays_13 : decode cX9_strays 13 = .ok (.iconst 0, 1) := by decide +kernel
theorem dX9_strays_14 : decode cX9_strays 14 = .ok (.istore_n 3, 1) := by decide +kernel
theorem dX9_strays_15 : decode cX9_strays 15 = .ok (.iload_n 3, 1) := by decide +kernel
theorem dX9_strays_16 : decode cX9_strays 16 = .ok (.aload_n 0, 1) := by decide +kernel
theorem dX9_strays_17 : decode cX9_strays 17 = .ok (.getfield 23, 3) := by decide +kernel
theorem dX9_strays_20 : decode cX9_strays 20 = .ok (.getfield 104, 3) := by decide +kernel
theorem dX9_strays_23 : decode cX9_strays 23 = .ok (.if_icmp .ge 66, 3) := by decide +kernel
theorem dX9_strays_26 : decode cX9_strays 26 = .ok (.aload_n 0, 1) := by decide +kernel
theorem dX9_strays_27 : decode cX9_strays 27 = .ok (.getfield 30, 3) := by decide +kernel
theorem dX9_strays_30 : decode cX9_strays 30 = .ok (.getfield 111, 3) := by decide +kernel
theorem dX9_strays_33 : decode cX9_strays 33 = .ok (.iload_n 3, 1) := by decide +kernel
theorem dX9_strays_34 : decode cX9_strays 34 = .ok (.iaload, 1) := by decide +kernel
theorem dX9_strays_35 : decode cX9_strays 35 = .ok (.istore 4, 2) := by decide +kernel
theorem dX9_strays_37 : decode cX9_strays 37 = .ok (.iload 4, 2) := by decide +kernel
theorem dX9_strays_39 : decode cX9_strays 39 = .ok (.aload_n 0, 1) := by decide +kernel
theorem dX9_strays_40 : decode cX9_strays 40 = .ok (.getfield 30, 3) := by decide +kernel
theorem dX9_strays_43 : decode cX9_strays 43 = .ok (.iload_n 3, 1) := by decide +kernel
theorem dX9_strays_44 : decode cX9_strays 44 = .ok (.aload_n 0, 1) := by decide +kernel
theorem dX9_strays_45 : decode cX9_strays 45 = .ok (.getfield 23, 3) := by decide +kernel
theorem dX9_strays_48 : decode cX9_strays 48 = .ok (.invokevirtual 216, 3) := by decide +kernel
theorem dX9_strays_51 : decode cX9_strays 51 = .ok (.aload_n 0, 1) := by decide +kernel
theorem dX9_strays_52 : decode cX9_strays 52 = .ok (.getfield 23, 3) := by decide +kernel
theorem dX9_strays_55 : decode cX9_strays 55 = .ok (.getfield 127, 3) := by decide +kernel
theorem dX9_strays_58 : decode cX9_strays 58 = .ok (.iload_n 3, 1) := by decide +kernel
theorem dX9_strays_59 : decode cX9_strays 59 = .ok (.iaload, 1) := by decide +kernel
theorem dX9_strays_60 : decode cX9_strays 60 = .ok (.aload_n 0, 1) := by decide +kernel
theorem dX9_strays_61 : decode cX9_strays 61 = .ok (.getfield 30, 3) := by decide +kernel
theorem dX9_strays_64 : decode cX9_strays 64 = .ok (.getfield 224, 3) := by decide +kernel
theorem dX9_strays_67 : decode cX9_strays 67 = .ok (.iconst 1, 1) := by decide +kernel
theorem dX9_strays_68 : decode cX9_strays 68 = .ok (.iadd, 1) := by decide +kernel
theorem dX9_strays_69 : decode cX9_strays 69 = .ok (.invokestatic 252, 3) := by decide +kernel
theorem dX9_strays_72 : decode cX9_strays 72 = .ok (.iload 4, 2) := by decide +kernel
theorem dX9_strays_74 : decode cX9_strays 74 = .ok (.if_icmp .eq 9, 3) := by decide +kernel
theorem dX9_strays_77 : decode cX9_strays 77 = .ok (.iload_n 2, 1) := by decide +kernel
theorem dX9_strays_78 : decode cX9_strays 78 = .ok (.iconst 1, 1) := by decide +kernel
theorem dX9_strays_79 : decode cX9_strays 79 = .ok (.iload_n 3, 1) := by decide +kernel
theorem dX9_strays_80 : decode cX9_strays 80 = .ok (.ishl, 1) := by decide +kernel
theorem dX9_strays_81 : decode cX9_strays 81 = .ok (.ior, 1) := by decide +kernel
theorem dX9_strays_82 : decode cX9_strays 82 = .ok (.istore_n 2, 1) := by decide +kernel
theorem dX9_strays_83 : decode cX9_strays 83 = .ok (.iinc 3 1, 3) := by decide +kernel
theorem dX9_strays_86 : decode cX9_strays 86 = .ok (.goto (-71), 3) := by decide +kernel
theorem dX9_strays_89 : decode cX9_strays 89 = .ok (.iload_n 1, 1) := by decide +kernel
theorem dX9_strays_90 : decode cX9_strays 90 = .ok (.ifCond .ne 10, 3) := by decide +kernel
theorem dX9_strays_93 : decode cX9_strays 93 = .ok (.iload_n 2, 1) := by decide +kernel
theorem dX9_strays_94 : decode cX9_strays 94 = .ok (.invokestatic 256, 3) := by decide +kernel
theorem dX9_strays_97 : decode cX9_strays 97 = .ok (.goto 4, 3) := by decide +kernel
theorem dX9_strays_100 : decode cX9_strays 100 = .ok (.iload_n 2, 1) := by decide +kernel
theorem dX9_strays_101 : decode cX9_strays 101 = .ok (.ireturn, 1) := by decide +kernel
def s_Top_strays_b83 (g : z_G) (k15 : Int32 → Int32 → Int32 → Option (Int32)) (x1 : Int32) (x2 : Int32) (x3 : Int32) : Option (Int32) := (k15 x1 x2 (x3 + 1))
def s_Top_strays_L15 (g : z_G) : Nat → Int32 → Int32 → Int32 → Option (Int32)
  | 0, _, _, _ => none
  | n + 1, x1, x2, x3 => (if (g 43 1) ≤ x3 then (if x1 = 0 then (some (s_Int_bitCount x2)) else (some x2)) else (z_ck (z_inb x3 6) (Option.bind (s_Col_pullOn 0 x3 g) fun r12q => (z_ck (z_inb x3 6) (if (s_Ways_halted (z_rd g 1 x3) r12q (z_rd g 46 x3) ((g 0 3) + 1)) = (z_rd g 1 x3) then (s_Top_strays_b83 g (s_Top_strays_L15 g n) x1 x2 x3) else (z_let (α := Int32) ((x2 ||| (1 <<< (x3 &&& 31)))) fun v15q => (s_Top_strays_b83 g (s_Top_strays_L15 g n) x1 v15q x3)))))))
def s_Top_strays (x1 : Int32) (g : z_G) : Option (Int32) := (if (s_Top_isWithin x1 0 1) = 0 then (some (-1)) else (s_Top_strays_L15 g z_F x1 0 0))
set_option maxHeartbeats 1000000 in
set_option maxRecDepth 20000 in
theorem b_Top_strays_b83 {X : z_X} {E : z_ET} {o : z_G} (hE : z_EV X E cX9_strays 5 RX9 4 99 71) {g : z_G} {r : Int32} (hret : ∀ (pc : Nat) (lv : List (Nat × Value)), decode cX9_strays pc = .ok (.ireturn, 1) → z_V X E 5 g o pc lv [.int r]) (k15 : Int32 → Int32 → Int32 → Option (Int32)) (hk15 : ∀ (x1 : Int32) (x2 : Int32) (x3 : Int32), k15 x1 x2 x3 = some r → z_V X E 5 g o 15 [(0, .ref (z_ad X 39)), (1, .int x1), (2, .int x2), (3, .int x3)] []) (x1 : Int32) (x2 : Int32) (x3 : Int32)  (h : s_Top_strays_b83 g k15 x1 x2 x3 = some r) : z_V X E 5 g o 83 [(0, .ref (z_ad X 39)), (1, .int x1), (2, .int x2), (3, .int x3)] [] := by
  unfold s_Top_strays_b83 at h
  refine z_iinc (v := x3 + 1) hE 3 [(3, .int (x3 + 1)), (0, .ref (z_ad X 39)), (1, .int x1), (2, .int x2)] dX9_strays_83 rfl rfl (by decide) rfl ?_
  refine z_goto hE 15 dX9_strays_86 rfl ?_
  refine z_sub [(0, .ref (z_ad X 39)), (1, .int x1), (2, .int x2), (3, .int (x3 + 1))] [1, 2, 3, 0] rfl ?_
  exact hk15 x1 x2 (x3 + 1) h
set_option maxHeartbeats 1000000 in
set_option maxRecDepth 20000 in
theorem b_Top_strays_L15 {X : z_X} {E : z_ET} {o : z_G} (hE : z_EV X E cX9_strays 5 RX9 4 99 71) {g : z_G} {r : Int32} (hret : ∀ (pc : Nat) (lv : List (Nat × Value)), decode cX9_strays pc = .ok (.ireturn, 1) → z_V X E 5 g o pc lv [.int r]) : ∀ (n : Nat) (x1 : Int32) (x2 : Int32) (x3 : Int32), s_Top_strays_L15 g n x1 x2 x3 = some r → z_V X E 5 g o 15 [(0, .ref (z_ad X 39)), (1, .int x1), (2, .int x2), (3, .int x3)] [] := by
  intro n
  induction n with
  | zero => intro x1 x2 x3 h; exact z_none h
  | succ n ih =>
    intro x1 x2 x3 h
    rw [s_Top_strays_L15] at h
    refine z_iload_n hE 3 dX9_strays_15 rfl ?_
    refine z_aload_n hE 0 dX9_strays_16 rfl ?_
    refine z_get hE f_RX9_23 (by decide) e_39 rfl dX9_strays_17 ?_
    refine z_get hE f_RX9_104 (by decide) e_43 rfl dX9_strays_20 ?_
    refine z_icmp_ge hE 89 dX9_strays_23 rfl (fun c9q => ?_) (fun c9q => ?_)
    · replace h := z_t c9q h
      refine z_iload_n hE 1 dX9_strays_89 rfl ?_
      refine z_if_ne hE 100 dX9_strays_90 rfl (fun c10q => ?_) (fun c10q => ?_)
      · replace h := z_f c10q h
        refine z_iload_n hE 2 dX9_strays_100 rfl ?_
        obtain rfl := Option.some.inj h
        exact hret _ _ dX9_strays_101
      · replace h := z_t c10q h
        refine z_iload_n hE 2 dX9_strays_93 rfl ?_
        refine z_iS (rest := []) (av := [.int x2]) hE (c_Int_bitCount x2 g) l_RX9_256 (by decide) ⟨by decide, by decide⟩ dX9_strays_94 rfl (Nat.le_of_ble_eq_true rfl) ?_
        refine z_goto hE 101 dX9_strays_97 rfl ?_
        obtain rfl := Option.some.inj h
        exact hret _ _ dX9_strays_101
    · replace h := z_f c9q h
      refine z_aload_n hE 0 dX9_strays_26 rfl ?_
      refine z_get hE f_RX9_30 (by decide) e_39 rfl dX9_strays_27 ?_
      refine z_get hE f_RX9_111 (by decide) e_0 rfl dX9_strays_30 ?_
      refine z_iload_n hE 3 dX9_strays_33 rfl ?_
      obtain ⟨k11q, h⟩ := z_ck_some h
      refine z_iald hE (by decide) e_1 k11q dX9_strays_34 ?_
      refine z_istore hE [(4, .int (z_rd g 1 x3)), (0, .ref (z_ad X 39)), (1, .int x1), (2, .int x2), (3, .int x3)] dX9_strays_35 (by decide) rfl ?_
      refine z_iload hE 0 dX9_strays_37 rfl ?_
      refine z_aload_n hE 1 dX9_strays_39 rfl ?_
      refine z_get hE f_RX9_30 (by decide) e_39 rfl dX9_strays_40 ?_
      refine z_iload_n hE 4 dX9_strays_43 rfl ?_
      refine z_aload_n hE 1 dX9_strays_44 rfl ?_
      refine z_get hE f_RX9_23 (by decide) e_39 rfl dX9_strays_45 ?_
      obtain ⟨r12q, hr12q, h⟩ := z_bind_some h
      refine z_iV (rest := [.int (z_rd g 1 x3)]) (av := [.int x3, .ref (z_ad X 43)]) hE (c_Col_pullOn 0 x3 g (by decide) r12q hr12q) l_RX9_216 (by decide) (by decide) e_0 rfl ⟨by decide, by decide⟩ dX9_strays_48 rfl (Nat.le_of_ble_eq_true rfl) ?_
      refine z_aload_n hE 1 dX9_strays_51 rfl ?_
      refine z_get hE f_RX9_23 (by decide) e_39 rfl dX9_strays_52 ?_
      refine z_get hE f_RX9_127 (by decide) e_43 rfl dX9_strays_55 ?_
      refine z_iload_n hE 4 dX9_strays_58 rfl ?_
      obtain ⟨k13q, h⟩ := z_ck_some h
      refine z_iald hE (by decide) e_46 k13q dX9_strays_59 ?_
      refine z_aload_n hE 1 dX9_strays_60 rfl ?_
      refine z_get hE f_RX9_30 (by decide) e_39 rfl dX9_strays_61 ?_
      refine z_get hE f_RX9_224 (by decide) e_0 rfl dX9_strays_64 ?_
      refine z_iconst (v := 1) hE dX9_strays_67 rfl ?_
      refine z_iadd hE dX9_strays_68 ?_
      refine z_iS (rest := []) (av := [.int (z_rd g 1 x3), .int r12q, .int (z_rd g 46 x3), .int ((g 0 3) + 1)]) hE (c_Ways_halted (z_rd g 1 x3) r12q (z_rd g 46 x3) ((g 0 3) + 1) g) l_RX9_252 (by decide) ⟨by decide, by decide⟩ dX9_strays_69 rfl (Nat.le_of_ble_eq_true rfl) ?_
      refine z_iload hE 0 dX9_strays_72 rfl ?_
      refine z_icmp_eq hE 83 dX9_strays_74 rfl (fun c14q => ?_) (fun c14q => ?_)
      · replace h := z_t c14q h
        refine z_sub [(0, .ref (z_ad X 39)), (1, .int x1), (2, .int x2), (3, .int x3)] [1, 2, 3, 4] rfl ?_
        exact b_Top_strays_b83 hE hret (s_Top_strays_L15 g n) ih x1 x2 x3 h
      · replace h := z_f c14q h
        refine z_iload_n hE 3 dX9_strays_77 rfl ?_
        refine z_iconst (v := 1) hE dX9_strays_78 rfl ?_
        refine z_iload_n hE 4 dX9_strays_79 rfl ?_
        refine z_ishl hE dX9_strays_80 ?_
        refine z_ior hE dX9_strays_81 ?_
        obtain ⟨v15q, ev15q, h⟩ := z_let_eq h
        refine z_topi ev15q ?_
        refine z_istore_n hE [(2, .int v15q), (4, .int (z_rd g 1 x3)), (0, .ref (z_ad X 39)), (1, .int x1), (3, .int x3)] dX9_strays_82 rfl (by decide) rfl ?_
        refine z_sub [(0, .ref (z_ad X 39)), (1, .int x1), (2, .int v15q), (3, .int x3)] [2, 3, 0, 4] rfl ?_
        exact b_Top_strays_b83 hE hret (s_Top_strays_L15 g n) ih x1 v15q x3 h
set_option maxHeartbeats 1000000 in
set_option maxRecDepth 20000 in
theorem c_Top_strays {X : z_X} {l : Launch} {o : z_G} (x1 : Int32) (g : z_G) (r : Int32) (h : s_Top_strays x1 g = some r) : z_MI X l 71 yX9_strays cX9_strays 5 (some .int) 4 99 [.ref (z_ad X 39), .int x1] g o g o r := by
  unfold s_Top_strays at h
  refine z_meti (ty := .int) rfl rfl (by decide) (Nat.le_of_ble_eq_true rfl) (fun E hl hE hret => ?_)
  subst hl
  refine z_iload_n hE 1 dX9_strays_0 rfl ?_
  refine z_iconst (v := 0) hE dX9_strays_1 rfl ?_
  refine z_iconst (v := 1) hE dX9_strays_2 rfl ?_
  refine z_iS (rest := []) (av := [.int x1, .int 0, .int 1]) hE (c_Top_isWithin x1 0 1 g) l_RX9_92 (by decide) ⟨by decide, by decide⟩ dX9_strays_3 rfl (Nat.le_of_ble_eq_true rfl) ?_
  refine z_if_ne hE 11 dX9_strays_6 rfl (fun c16q => ?_) (fun c16q => ?_)
  · replace h := z_f c16q h
    refine z_iconst (v := 0) hE dX9_strays_11 rfl ?_
    refine z_istore_n hE [(2, .int 0), (0, .ref (z_ad X 39)), (1, .int x1)] dX9_strays_12 rfl (by decide) rfl ?_
    refine z_iconst (v := 0) hE dX9_strays_13 rfl ?_
    refine z_istore_n hE [(3, .int 0), (2, .int 0), (0, .ref (z_ad X 39)), (1, .int x1)] dX9_strays_14 rfl (by decide) rfl ?_
    refine z_sub [(0, .ref (z_ad X 39)), (1, .int x1), (2, .int 0), (3, .int 0)] [2, 3, 1, 0] rfl ?_
    exact b_Top_strays_L15 hE hret z_F x1 0 0 h
  · replace h := z_t c16q h
    refine z_iconst (v := (-1)) hE dX9_strays_9 rfl ?_
    obtain rfl := Option.some.inj h
    exact hret _ _ dX9_strays_10
theorem dX0_menLooking_0 : decode cX0_menLooking 0 = .ok (.iconst 0, 1) := by decide +kernel
theorem dX0_menLooking_1 : decode cX0_menLooking 1 = .ok (.istore_n 3, 1) := by decide +kernel
theorem dX0_menLooking_2 : decode cX0_menLooking 2 = .ok (.iconst 0, 1) := by decide +kernel
theorem dX0_menLooking_3 : decode cX0_menLooking 3 = .ok (.istore 4, 2) := by decide +kernel
theorem dX0_menLooking_5 : decode cX0_menLooking 5 = .ok (.iload 4, 2) := by decide +kernel
theorem dX0_menLooking_7 : decode cX0_menLooking 7 = .ok (.aload_n 2, 1) := by decide +kernel
theorem dX0_menLooking_8 : decode cX0_menLooking 8 = .ok (.getfield 31, 3) := by decide +kernel
theorem dX0_menLooking_11 : decode cX0_menLooking 11 = .ok (.if_icmp .ge 34, 3) := by decide +kernel
theorem dX0_menLooking_14 : decode cX0_menLooking 14 = .ok (.iload_n 3, 1) := by decide +kernel
theorem dX0_menLooking_15 : decode cX0_menLooking 15 = .ok (.aload_n 0, 1) := by decide +kernel
theorem dX0_menLooking_16 : decode cX0_menLooking 16 = .ok (.getfield 9, 3) := by decide +kernel
theorem dX0_menLooking_19 : decode cX0_menLooking 19 = .ok (.iload 4, 2) := by decide +kernel
theorem dX0_menLooking_21 : decode cX0_menLooking 21 = .ok (.iaload, 1) := by decide +kernel
theorem dX0_menLooking_22 : decode cX0_menLooking 22 = .ok (.invokestatic 86, 3) := by decide +kernel
theorem dX0_menLooking_25 : decode cX0_menLooking 25 = .ok (.iload_n 1, 1) := by decide +kernel
theorem dX0_menLooking_26 : decode cX0_menLooking 26 = .ok (.if_icmp .ne 7, 3) := by decide +kernel
theorem dX0_menLooking_29 : decode cX0_menLooking 29 = .ok (.iconst 1, 1) := by decide +kernel
theorem dX0_menLooking_30 : decode cX0_menLooking 30 = .ok (.goto 4, 3) := by decide +kernel
theorem dX0_menLooking_33 : decode cX0_menLooking 33 = .ok (.iconst 0, 1) := by decide +kernel
theorem dX0_menLooking_34 : decode cX0_menLooking 34 = .ok (.invokestatic 79, 3) := by decide +kernel
theorem dX0_menLooking_37 : decode cX0_menLooking 37 = .ok (.iadd, 1) := by decide +kernel
theorem dX0_menLooking_38 : decode cX0_menLooking 38 = .ok (.istore_n 3, 1) := by decide +kernel
theorem dX0_menLooking_39 : decode cX0_menLooking 39 = .ok (.iinc 4 1, 3) := by decide +kernel
theorem dX0_menLooking_42 : decode cX0_menLooking 42 = .ok (.goto (-37), 3) := by decide +kernel
theorem dX0_menLooking_45 : decode cX0_menLooking 45 = .ok (.iload_n 3, 1) := by decide +kernel
theorem dX0_menLooking_46 : decode cX0_menLooking 46 = .ok (.ireturn, 1) := by decide +kernel
def s_Col_menLooking_b34 (c0 : Nat) (g : z_G) (k5 : Int32 → Int32 → Int32 → Option (Int32)) (x1 : Int32) (x4 : Int32) (s1 : Int32) (s0 : Int32) : Option (Int32) := (z_let (α := Int32) ((s0 + (s_Top_asNumber s1))) fun v5q => (k5 x1 v5q (x4 + 1)))
def s_Col_menLooking_L5 (c0 : Nat) (g : z_G) : Nat → Int32 → Int32 → Int32 → Option (Int32)
  | 0, _, _, _ => none
  | n + 1, x1, x3, x4 => (if (g 43 1) ≤ x4 then (some x3) else (z_ck (z_inb x4 6) (if (s_Ways_lookOf (z_rd g (3 * c0 + 1) x4)) = x1 then (s_Col_menLooking_b34 c0 g (s_Col_menLooking_L5 c0 g n) x1 x4 1 x3) else (s_Col_menLooking_b34 c0 g (s_Col_menLooking_L5 c0 g n) x1 x4 0 x3))))
def s_Col_menLooking (c0 : Nat) (x1 : Int32) (g : z_G) : Option (Int32) := (s_Col_menLooking_L5 c0 g z_F x1 0 0)
set_option maxHeartbeats 1000000 in
set_option maxRecDepth 20000 in
theorem b_Col_menLooking_b34 {X : z_X} {E : z_ET} {o : z_G} {c0 : Nat} (hc0 : c0 < 13) (hE : z_EV X E cX0_menLooking 5 RX0 1 20 71) {g : z_G} {r : Int32} (hret : ∀ (pc : Nat) (lv : List (Nat × Value)), decode cX0_menLooking pc = .ok (.ireturn, 1) → z_V X E 5 g o pc lv [.int r]) (k5 : Int32 → Int32 → Int32 → Option (Int32)) (hk5 : ∀ (x1 : Int32) (x3 : Int32) (x4 : Int32), k5 x1 x3 x4 = some r → z_V X E 5 g o 5 [(0, .ref (z_ad X (3 * c0))), (1, .int x1), (2, .ref (z_ad X 43)), (3, .int x3), (4, .int x4)] []) (x1 : Int32) (x4 : Int32) (s1 : Int32) (s0 : Int32)  (h : s_Col_menLooking_b34 c0 g k5 x1 x4 s1 s0 = some r) : z_V X E 5 g o 34 [(0, .ref (z_ad X (3 * c0))), (1, .int x1), (2, .ref (z_ad X 43)), (4, .int x4)] [.int s1, .int s0] := by
  unfold s_Col_menLooking_b34 at h
  refine z_iS (rest := [.int s0]) (av := [.int s1]) hE (c_Top_asNumber s1 g) l_RX0_79 (by decide) ⟨by decide, by decide⟩ dX0_menLooking_34 rfl (Nat.le_of_ble_eq_true rfl) ?_
  refine z_iadd hE dX0_menLooking_37 ?_
  obtain ⟨v5q, ev5q, h⟩ := z_let_eq h
  refine z_topi ev5q ?_
  refine z_istore_n hE [(3, .int v5q), (0, .ref (z_ad X (3 * c0))), (1, .int x1), (2, .ref (z_ad X 43)), (4, .int x4)] dX0_menLooking_38 rfl (by decide) rfl ?_
  refine z_iinc (v := x4 + 1) hE 4 [(4, .int (x4 + 1)), (3, .int v5q), (0, .ref (z_ad X (3 * c0))), (1, .int x1), (2, .ref (z_ad X 43))] dX0_menLooking_39 rfl rfl (by decide) rfl ?_
  refine z_goto hE 5 dX0_menLooking_42 rfl ?_
  refine z_sub [(0, .ref (z_ad X (3 * c0))), (1, .int x1), (2, .ref (z_ad X 43)), (3, .int v5q), (4, .int (x4 + 1))] [2, 3, 4, 1, 0] rfl ?_
  exact hk5 x1 v5q (x4 + 1) h
set_option maxHeartbeats 1000000 in
set_option maxRecDepth 20000 in
theorem b_Col_menLooking_L5 {X : z_X} {E : z_ET} {o : z_G} {c0 : Nat} (hc0 : c0 < 13) (hE : z_EV X E cX0_menLooking 5 RX0 1 20 71) {g : z_G} {r : Int32} (hret : ∀ (pc : Nat) (lv : List (Nat × Value)), decode cX0_menLooking pc = .ok (.ireturn, 1) → z_V X E 5 g o pc lv [.int r]) : ∀ (n : Nat) (x1 : Int32) (x3 : Int32) (x4 : Int32), s_Col_menLooking_L5 c0 g n x1 x3 x4 = some r → z_V X E 5 g o 5 [(0, .ref (z_ad X (3 * c0))), (1, .int x1), (2, .ref (z_ad X 43)), (3, .int x3), (4, .int x4)] [] := by
  intro n
  induction n with
  | zero => intro x1 x3 x4 h; exact z_none h
  | succ n ih =>
    intro x1 x3 x4 h
    rw [s_Col_menLooking_L5] at h
    refine z_iload hE 4 dX0_menLooking_5 rfl ?_
    refine z_aload_n hE 2 dX0_menLooking_7 rfl ?_
    refine z_get hE f_RX0_31 (by decide) e_43 rfl dX0_menLooking_8 ?_
    refine z_icmp_ge hE 45 dX0_menLooking_11 rfl (fun c6q => ?_) (fun c6q => ?_)
    · replace h := z_t c6q h
      refine z_iload_n hE 3 dX0_menLooking_45 rfl ?_
      obtain rfl := Option.some.inj h
      exact hret _ _ dX0_menLooking_46
    · replace h := z_f c6q h
      refine z_iload_n hE 3 dX0_menLooking_14 rfl ?_
      refine z_aload_n hE 0 dX0_menLooking_15 rfl ?_
      refine z_get hE f_RX0_9 (by omega) (e_col hc0) rfl dX0_menLooking_16 ?_
      refine z_iload hE 4 dX0_menLooking_19 rfl ?_
      obtain ⟨k7q, h⟩ := z_ck_some h
      refine z_iald hE (by omega) (e_spot hc0) k7q dX0_menLooking_21 ?_
      refine z_iS (rest := [.int x3]) (av := [.int (z_rd g (3 * c0 + 1) x4)]) hE (c_Ways_lookOf (z_rd g (3 * c0 + 1) x4) g) l_RX0_86 (by decide) ⟨by decide, by decide⟩ dX0_menLooking_22 rfl (Nat.le_of_ble_eq_true rfl) ?_
      refine z_iload_n hE 1 dX0_menLooking_25 rfl ?_
      refine z_icmp_ne hE 33 dX0_menLooking_26 rfl (fun c8q => ?_) (fun c8q => ?_)
      · replace h := z_f c8q h
        refine z_iconst (v := 0) hE dX0_menLooking_33 rfl ?_
        refine z_sub [(0, .ref (z_ad X (3 * c0))), (1, .int x1), (2, .ref (z_ad X 43)), (4, .int x4)] [0, 1, 2, 4] rfl ?_
        exact b_Col_menLooking_b34 hc0 hE hret (s_Col_menLooking_L5 c0 g n) ih x1 x4 0 x3 h
      · replace h := z_t c8q h
        refine z_iconst (v := 1) hE dX0_menLooking_29 rfl ?_
        refine z_goto hE 34 dX0_menLooking_30 rfl ?_
        refine z_sub [(0, .ref (z_ad X (3 * c0))), (1, .int x1), (2, .ref (z_ad X 43)), (4, .int x4)] [0, 1, 2, 4] rfl ?_
        exact b_Col_menLooking_b34 hc0 hE hret (s_Col_menLooking_L5 c0 g n) ih x1 x4 1 x3 h
set_option maxHeartbeats 1000000 in
set_option maxRecDepth 20000 in
theorem c_Col_menLooking {X : z_X} {l : Launch} {o : z_G} (c0 : Nat) (x1 : Int32) (g : z_G) (hc0 : c0 < 13) (r : Int32) (h : s_Col_menLooking c0 x1 g = some r) : z_MI X l 71 yX0_menLooking cX0_menLooking 5 (some .int) 1 20 [.ref (z_ad X (3 * c0)), .int x1, .ref (z_ad X 43)] g o g o r := by
  unfold s_Col_menLooking at h
  refine z_meti (ty := .int) rfl rfl (by decide) (Nat.le_of_ble_eq_true rfl) (fun E hl hE hret => ?_)
  subst hl
  refine z_iconst (v := 0) hE dX0_menLooking_0 rfl ?_
  refine z_istore_n hE [(3, .int 0), (0, .ref (z_ad X (3 * c0))), (1, .int x1), (2, .ref (z_ad X 43))] dX0_menLooking_1 rfl (by decide) rfl ?_
  refine z_iconst (v := 0) hE dX0_menLooking_2 rfl ?_
  refine z_istore hE [(4, .int 0), (3, .int 0), (0, .ref (z_ad X (3 * c0))), (1, .int x1), (2, .ref (z_ad X 43))] dX0_menLooking_3 (by decide) rfl ?_
  refine z_sub [(0, .ref (z_ad X (3 * c0))), (1, .int x1), (2, .ref (z_ad X 43)), (3, .int 0), (4, .int 0)] [2, 3, 4, 1, 0] rfl ?_
  exact b_Col_menLooking_L5 hc0 hE hret z_F x1 0 0 h
