def s_Pile_put_63_b16 (c1 : Nat)  (g : z_G) : Option (z_G) := (z_ck (z_inb (g 63 1) 2) (z_let (α := Nat) (Int32.toNatClampNeg (z_rd g 64 (g 63 1))) fun q8q => (z_ck (decide (q8q < 13)) (z_let (α := z_G) (z_up (s_Col_copyFrom q8q c1 g) 63 1 (((s_Col_copyFrom q8q c1 g) 63 1) + 1)) fun g10q => (some g10q)))))
def s_Pile_put_63 (c1 : Nat) (g : z_G) : Option (z_G) := (if (g 63 1) < 2 then (s_Pile_put_63_b16 c1 g) else (Option.bind (s_Pile_dropLowest_63 g) fun r12q => (s_Pile_put_63_b16 c1 r12q)))
set_option maxHeartbeats 1000000 in
set_option maxRecDepth 20000 in
theorem b_Pile_put_63_b16 {X : z_X} {E : z_ET} {o : z_G} {c1 : Nat} (hc1 : c1 < 13) (hE : z_EV X E cX4_put 2 RX4 2 81 71) {r : z_G} (hret : ∀ (pc : Nat) (lv : List (Nat × Value)), decode cX4_put pc = .ok (.return_, 1) → z_V X E 2 r o pc lv [])  (g : z_G)  (h : s_Pile_put_63_b16 c1 g = some r) : z_V X E 2 g o 16 [(0, .ref (z_ad X 63)), (1, .ref (z_ad X (3 * c1)))] [] := by
  unfold s_Pile_put_63_b16 at h
  refine z_aload_n hE 0 dX4_put_16 rfl ?_
  refine z_get hE f_RX4_15 (by decide) e_63 rfl dX4_put_17 ?_
  refine z_aload_n hE 0 dX4_put_20 rfl ?_
  refine z_get hE f_RX4_22 (by decide) e_63 rfl dX4_put_21 ?_
  obtain ⟨k7q, h⟩ := z_ck_some h
  obtain ⟨q8q, eq8q, h⟩ := z_let_eq h
  obtain ⟨k9q, h⟩ := z_ck_some h
  have hq8q : q8q < 13 := of_decide_eq_true k9q
  refine z_aald (a := z_ad X (3 * q8q)) hE (by decide) e_64 k7q (by show some (z_ad X (3 * (Int32.toNatClampNeg (z_rd g 64 (g 63 1)) % 13))) = _; rw [← eq8q, Nat.mod_eq_of_lt hq8q]) dX4_put_24 ?_
  refine z_aload_n hE 1 dX4_put_25 rfl ?_
  refine z_vV (rest := []) (av := [.ref (z_ad X (3 * c1))]) hE (c_Col_copyFrom q8q c1 g hq8q hc1) l_RX4_29 (by decide) (by omega) (e_col hq8q) rfl ⟨by decide, by decide⟩ dX4_put_26 rfl (Nat.le_of_ble_eq_true rfl) ?_
  refine z_aload_n hE 0 dX4_put_29 rfl ?_
  refine z_dup hE dX4_put_30 rfl ?_
  refine z_get hE f_RX4_22 (by decide) e_63 rfl dX4_put_31 ?_
  refine z_iconst (v := 1) hE dX4_put_34 rfl ?_
  refine z_iadd hE dX4_put_35 ?_
  obtain ⟨g10q, eg10q, h⟩ := z_let_eq h
  refine z_put hE f_RX4_22 ft_4 (by decide) e_63 rfl (tyX4_ok 1 (by decide)) rfl rfl (Nat.le_of_ble_eq_true rfl) (u_63_1 eg10q) dX4_put_36 ?_
  obtain rfl := Option.some.inj h
  exact hret _ _ dX4_put_39
set_option maxHeartbeats 1000000 in
set_option maxRecDepth 20000 in
theorem c_Pile_put_63 {X : z_X} {l : Launch} {o : z_G} (c1 : Nat) (g : z_G) (hc1 : c1 < 13) (r : z_G) (h : s_Pile_put_63 c1 g = some r) : z_MV X l 71 yX4_put cX4_put 2 none 2 81 [.ref (z_ad X 63), .ref (z_ad X (3 * c1))] g o r o := by
  unfold s_Pile_put_63 at h
  refine z_metv (by decide) (Nat.le_of_ble_eq_true rfl) (fun E hl hE hret => ?_)
  subst hl
  refine z_aload_n hE 0 dX4_put_0 rfl ?_
  refine z_get hE f_RX4_22 (by decide) e_63 rfl dX4_put_1 ?_
  refine z_aload_n hE 0 dX4_put_4 rfl ?_
  refine z_get hE f_RX4_15 (by decide) e_63 rfl dX4_put_5 ?_
  refine z_alen (v := 2) hE 3 (by decide) e_64 rfl rfl dX4_put_8 ?_
  refine z_icmp_lt hE 16 dX4_put_9 rfl (fun c11q => ?_) (fun c11q => ?_)
  · replace h := z_t c11q h
    exact b_Pile_put_63_b16 hc1 hE hret g h
  · replace h := z_f c11q h
    refine z_aload_n hE 0 dX4_put_12 rfl ?_
    obtain ⟨r12q, hr12q, h⟩ := z_bind_some h
    refine z_vV (rest := []) (av := []) hE (c_Pile_dropLowest_63 g r12q hr12q) l_RX4_26 (by decide) (by decide) e_63 rfl ⟨by decide, by decide⟩ dX4_put_13 rfl (Nat.le_of_ble_eq_true rfl) ?_
    exact b_Pile_put_63_b16 hc1 hE hret r12q h
theorem dX9_keep_0 : decode cX9_keep 0 = .ok (.aload_n 0, 1) := by decide +kernel
theorem dX9_keep_1 : decode cX9_keep 1 = .ok (.getfield 60, 3) := by decide +kernel
theorem dX9_keep_4 : decode cX9_keep 4 = .ok (.getfield 193, 3) := by decide +kernel
theorem dX9_keep_7 : decode cX9_keep 7 = .ok (.iconst 2, 1) := by decide +kernel
theorem dX9_keep_8 : decode cX9_keep 8 = .ok (.if_icmp .lt 6, 3) := by decide +kernel
theorem dX9_keep_11 : decode cX9_keep 11 = .ok (.bipush (-3), 2) := by decide +kernel
theorem dX9_keep_13 : decode cX9_keep 13 = .ok (.ireturn, 1) := by decide +kernel
theorem dX9_keep_14 : decode cX9_keep 14 = .ok (.aload_n 0, 1) := by decide +kernel
theorem dX9_keep_15 : decode cX9_keep 15 = .ok (.getfield 60, 3) := by decide +kernel
theorem dX9_keep_18 : decode cX9_keep 18 = .ok (.aload_n 0, 1) := by decide +kernel
theorem dX9_keep_19 : decode cX9_keep 19 = .ok (.getfield 30, 3) := by decide +kernel
theorem dX9_keep_22 : decode cX9_keep 22 = .ok (.invokevirtual 174, 3) := by decide +kernel
theorem dX9_keep_25 : decode cX9_keep 25 = .ok (.aload_n 0, 1) := by decide +kernel
theorem dX9_keep_26 : decode cX9_keep 26 = .ok (.getfield 60, 3) := by decide +kernel
theorem dX9_keep_29 : decode cX9_keep 29 = .ok (.getfield 193, 3) := by decide +kernel
theorem dX9_keep_32 : decode cX9_keep 32 = .ok (.ireturn, 1) := by decide +kernel
def s_Top_keep (g : z_G) : Option (Int32 × z_G) := (if (g 63 1) < 2 then (Option.bind (s_Pile_put_63 0 g) fun r4q => (some ((r4q 63 1), r4q))) else (some ((-3), g)))
set_option maxHeartbeats 1000000 in
set_option maxRecDepth 20000 in
theorem c_Top_keep {X : z_X} {l : Launch} {o : z_G} (g : z_G) (r : Int32 × z_G) (h : s_Top_keep g = some r) : z_MI X l 71 yX9_keep cX9_keep 1 (some .int) 3 102 [.ref (z_ad X 39)] g o r.2 o r.1 := by
  unfold s_Top_keep at h
  refine z_meti (ty := .int) rfl rfl (by decide) (Nat.le_of_ble_eq_true rfl) (fun E hl hE hret => ?_)
  subst hl
  refine z_aload_n hE 0 dX9_keep_0 rfl ?_
  refine z_get hE f_RX9_60 (by decide) e_39 rfl dX9_keep_1 ?_
  refine z_get hE f_RX9_193 (by decide) e_63 rfl dX9_keep_4 ?_
  refine z_iconst (v := 2) hE dX9_keep_7 rfl ?_
  refine z_icmp_lt hE 14 dX9_keep_8 rfl (fun c3q => ?_) (fun c3q => ?_)
  · replace h := z_t c3q h
    refine z_aload_n hE 0 dX9_keep_14 rfl ?_
    refine z_get hE f_RX9_60 (by decide) e_39 rfl dX9_keep_15 ?_
    refine z_aload_n hE 0 dX9_keep_18 rfl ?_
    refine z_get hE f_RX9_30 (by decide) e_39 rfl dX9_keep_19 ?_
    obtain ⟨r4q, hr4q, h⟩ := z_bind_some h
    refine z_vV (rest := []) (av := [.ref (z_ad X 0)]) hE (c_Pile_put_63 0 g (by decide) r4q hr4q) l_RX9_174 (by decide) (by decide) e_63 rfl ⟨by decide, by decide⟩ dX9_keep_22 rfl (Nat.le_of_ble_eq_true rfl) ?_
    refine z_aload_n hE 0 dX9_keep_25 rfl ?_
    refine z_get hE f_RX9_60 (by decide) e_39 rfl dX9_keep_26 ?_
    refine z_get hE f_RX9_193 (by decide) e_63 rfl dX9_keep_29 ?_
    obtain rfl := Option.some.inj h
    exact hret _ _ dX9_keep_32
  · replace h := z_f c3q h
    refine z_bipush (v := (-3)) hE dX9_keep_11 rfl ?_
    obtain rfl := Option.some.inj h
    exact hret _ _ dX9_keep_13
def s_Pile_takeInto_63 (c1 : Nat) (g : z_G) : Option (z_G) := (z_let (α := z_G) (z_up g 63 1 ((g 63 1) - 1)) fun g5q => (z_ck (z_inb (g5q 63 1) 2) (z_let (α := Nat) (Int32.toNatClampNeg (z_rd g5q 64 (g5q 63 1))) fun q7q => (z_ck (decide (q7q < 13)) (some (s_Col_copyFrom c1 q7q g5q))))))
set_option maxHeartbeats 1000000 in
set_option maxRecDepth 20000 in
theorem c_Pile_takeInto_63 {X : z_X} {l : Launch} {o : z_G} (c1 : Nat) (g : z_G) (hc1 : c1 < 13) (r : z_G) (h : s_Pile_takeInto_63 c1 g = some r) : z_MV X l 71 yX4_takeInto cX4_takeInto 2 none 2 81 [.ref (z_ad X 63), .ref (z_ad X (3 * c1))] g o r o := by
  unfold s_Pile_takeInto_63 at h
  refine z_metv (by decide) (Nat.le_of_ble_eq_true rfl) (fun E hl hE hret => ?_)
  subst hl
  refine z_aload_n hE 0 dX4_takeInto_0 rfl ?_
  refine z_dup hE dX4_takeInto_1 rfl ?_
  refine z_get hE f_RX4_22 (by decide) e_63 rfl dX4_takeInto_2 ?_
  refine z_iconst (v := 1) hE dX4_takeInto_5 rfl ?_
  refine z_isub hE dX4_takeInto_6 ?_
  obtain ⟨g5q, eg5q, h⟩ := z_let_eq h
  refine z_put hE f_RX4_22 ft_4 (by decide) e_63 rfl (tyX4_ok 1 (by decide)) rfl rfl (Nat.le_of_ble_eq_true rfl) (u_63_1 eg5q) dX4_takeInto_7 ?_
  refine z_aload_n hE 1 dX4_takeInto_10 rfl ?_
  refine z_aload_n hE 0 dX4_takeInto_11 rfl ?_
  refine z_get hE f_RX4_15 (by decide) e_63 rfl dX4_takeInto_12 ?_
  refine z_aload_n hE 0 dX4_takeInto_15 rfl ?_
  refine z_get hE f_RX4_22 (by decide) e_63 rfl dX4_takeInto_16 ?_
  obtain ⟨k6q, h⟩ := z_ck_some h
  obtain ⟨q7q, eq7q, h⟩ := z_let_eq h
  obtain ⟨k8q, h⟩ := z_ck_some h
  have hq7q : q7q < 13 := of_decide_eq_true k8q
  refine z_aald (a := z_ad X (3 * q7q)) hE (by decide) e_64 k6q (by show some (z_ad X (3 * (Int32.toNatClampNeg (z_rd g5q 64 (g5q 63 1)) % 13))) = _; rw [← eq7q, Nat.mod_eq_of_lt hq7q]) dX4_takeInto_19 ?_
  refine z_vV (rest := []) (av := [.ref (z_ad X (3 * q7q))]) hE (c_Col_copyFrom c1 q7q g5q hc1 hq7q) l_RX4_29 (by decide) (by omega) (e_col hc1) rfl ⟨by decide, by decide⟩ dX4_takeInto_20 rfl (Nat.le_of_ble_eq_true rfl) ?_
  obtain rfl := Option.some.inj h
  exact hret _ _ dX4_takeInto_23
theorem dX9_back_0 : decode cX9_back 0 = .ok (.aload_n 0, 1) := by decide +kernel
theorem dX9_back_1 : decode cX9_back 1 = .ok (.getfield 60, 3) := by decide +kernel
theorem dX9_back_4 : decode cX9_back 4 = .ok (.getfield 193, 3) := by decide +kernel
theorem dX9_back_7 : decode cX9_back 7 = .ok (.ifCond .ne 6, 3) := by decide +kernel
theorem dX9_back_10 : decode cX9_back 10 = .ok (.bipush (-2), 2) := by decide +kernel
theorem dX9_back_12 : decode cX9_back 12 = .ok (.ireturn, 1) := by decide +kernel
theorem dX9_back_13 : decode cX9_back 13 = .ok (.aload_n 0, 1) := by decide +kernel
theorem dX9_back_14 : decode cX9_back 14 = .ok (.getfield 60, 3) := by decide +kernel
theorem dX9_back_17 : decode cX9_back 17 = .ok (.aload_n 0, 1) := by decide +kernel
theorem dX9_back_18 : decode cX9_back 18 = .ok (.getfield 30, 3) := by decide +kernel
theorem dX9_back_21 : decode cX9_back 21 = .ok (.invokevirtual 196, 3) := by decide +kernel
theorem dX9_back_24 : decode cX9_back 24 = .ok (.aload_n 0, 1) := by decide +kernel
theorem dX9_back_25 : decode cX9_back 25 = .ok (.getfield 56, 3) := by decide +kernel
theorem dX9_back_28 : decode cX9_back 28 = .ok (.iconst 0, 1) := by decide +kernel
theorem dX9_back_29 : decode cX9_back 29 = .ok (.putfield 193, 3) := by decide +kernel
theorem dX9_back_32 : decode cX9_back 32 = .ok (.aload_n 0, 1) := by decide +kernel
theorem dX9_back_33 : decode cX9_back 33 = .ok (.getfield 60, 3) := by decide +kernel
theorem dX9_back_36 : decode cX9_back 36 = .ok (.getfield 193, 3) := by decide +kernel
theorem dX9_back_39 : decode cX9_back 39 = .ok (.ireturn, 1) := by decide +kernel
def s_Top_back (g : z_G) : Option (Int32 × z_G) := (if (g 63 1) = 0 then (some ((-2), g)) else (Option.bind (s_Pile_takeInto_63 0 g) fun r5q => (z_let (α := z_G) (z_up r5q 61 1 0) fun g6q => (some ((g6q 63 1), g6q)))))
set_option maxHeartbeats 1000000 in
set_option maxRecDepth 20000 in
theorem c_Top_back {X : z_X} {l : Launch} {o : z_G} (g : z_G) (r : Int32 × z_G) (h : s_Top_back g = some r) : z_MI X l 71 yX9_back cX9_back 1 (some .int) 3 102 [.ref (z_ad X 39)] g o r.2 o r.1 := by
  unfold s_Top_back at h
  refine z_meti (ty := .int) rfl rfl (by decide) (Nat.le_of_ble_eq_true rfl) (fun E hl hE hret => ?_)
  subst hl
  refine z_aload_n hE 0 dX9_back_0 rfl ?_
  refine z_get hE f_RX9_60 (by decide) e_39 rfl dX9_back_1 ?_
  refine z_get hE f_RX9_193 (by decide) e_63 rfl dX9_back_4 ?_
  refine z_if_ne hE 13 dX9_back_7 rfl (fun c4q => ?_) (fun c4q => ?_)
  · replace h := z_f c4q h
    refine z_aload_n hE 0 dX9_back_13 rfl ?_
    refine z_get hE f_RX9_60 (by decide) e_39 rfl dX9_back_14 ?_
    refine z_aload_n hE 0 dX9_back_17 rfl ?_
    refine z_get hE f_RX9_30 (by decide) e_39 rfl dX9_back_18 ?_
    obtain ⟨r5q, hr5q, h⟩ := z_bind_some h
    refine z_vV (rest := []) (av := [.ref (z_ad X 0)]) hE (c_Pile_takeInto_63 0 g (by decide) r5q hr5q) l_RX9_196 (by decide) (by decide) e_63 rfl ⟨by decide, by decide⟩ dX9_back_21 rfl (Nat.le_of_ble_eq_true rfl) ?_
    refine z_aload_n hE 0 dX9_back_24 rfl ?_
    refine z_get hE f_RX9_56 (by decide) e_39 rfl dX9_back_25 ?_
    refine z_iconst (v := 0) hE dX9_back_28 rfl ?_
    obtain ⟨g6q, eg6q, h⟩ := z_let_eq h
    refine z_put hE f_RX9_193 ft_4 (by decide) e_61 rfl (tyX4_ok 1 (by decide)) rfl rfl (Nat.le_of_ble_eq_true rfl) (u_61_1 eg6q) dX9_back_29 ?_
    refine z_aload_n hE 0 dX9_back_32 rfl ?_
    refine z_get hE f_RX9_60 (by decide) e_39 rfl dX9_back_33 ?_
    refine z_get hE f_RX9_193 (by decide) e_63 rfl dX9_back_36 ?_
    obtain rfl := Option.some.inj h
    exact hret _ _ dX9_back_39
  · replace h := z_t c4q h
    refine z_bipush (v := (-2)) hE dX9_back_10 rfl ?_
    obtain rfl := Option.some.inj h
    exact hret _ _ dX9_back_12
theorem dX9_count_0 : decode cX9_count 0 = .ok (.iload_n 1, 1) := by decide +kernel
theorem dX9_count_1 : decode cX9_count 1 = .ok (.tableswitch 136 0 9 #[55, 63, 71, 79, 87, 95, 107, 115, 123, 131], 55) := by decide +kernel
theorem dX9_count_56 : decode cX9_count 56 = .ok (.aload_n 0, 1) := by decide +kernel
theorem dX9_count_57 : decode cX9_count 57 = .ok (.getfield 23, 3) := by decide +kernel
theorem dX9_count_60 : decode cX9_count 60 = .ok (.getfield 144, 3) := by decide +kernel
theorem dX9_count_63 : decode cX9_count 63 = .ok (.ireturn, 1) := by decide +kernel
theorem dX9_count_64 : decode cX9_count 64 = .ok (.aload_n 0, 1) := by decide +kernel
theorem dX9_count_65 : decode cX9_count 65 = .ok (.getfield 23, 3) := by decide +kernel
theorem dX9_count_68 : decode cX9_count 68 = .ok (.getfield 104, 3) := by decide +kernel
theorem dX9_count_71 : decode cX9_count 71 = .ok (.ireturn, 1) := by decide +kernel
theorem dX9_count_72 : decode cX9_count 72 = .ok (.aload_n 0, 1) := by decide +kernel
theorem dX9_count_73 : decode cX9_count 73 = .ok (.getfield 40, 3) := by decide +kernel
theorem dX9_count_76 : decode cX9_count 76 = .ok (.getfield 157, 3) := by decide +kernel
theorem dX9_count_79 : decode cX9_count 79 = .ok (.ireturn, 1) := by decide +kernel
theorem dX9_count_80 : decode cX9_count 80 = .ok (.aload_n 0, 1) := by decide +kernel
theorem dX9_count_81 : decode cX9_count 81 = .ok (.getfield 30, 3) := by decide +kernel
theorem dX9_count_84 : decode cX9_count 84 = .ok (.getfield 224, 3) := by decide +kernel
theorem dX9_count_87 : decode cX9_count 87 = .ok (.ireturn, 1) := by decide +kernel
theorem dX9_count_88 : decode cX9_count 88 = .ok (.aload_n 0, 1) := by decide +kernel
theorem dX9_count_89 : decode cX9_count 89 = .ok (.getfield 30, 3) := by decide +kernel
theorem dX9_count_92 : decode cX9_count 92 = .ok (.invokevirtual 189, 3) := by decide +kernel
theorem dX9_count_95 : decode cX9_count 95 = .ok (.ireturn, 1) := by decide +kernel
theorem dX9_count_96 : decode cX9_count 96 = .ok (.aload_n 0, 1) := by decide +kernel
theorem dX9_count_97 : decode cX9_count 97 = .ok (.getfield 30, 3) := by decide +kernel
theorem dX9_count_100 : decode cX9_count 100 = .ok (.aload_n 0, 1) := by decide +kernel
theorem dX9_count_101 : decode cX9_count 101 = .ok (.getfield 23, 3) := by decide +kernel
theorem dX9_count_104 : decode cX9_count 104 = .ok (.invokevirtual 182, 3) := by decide +kernel
theorem dX9_count_107 : decode cX9_count 107 = .ok (.ireturn, 1) := by decide +kernel
theorem dX9_count_108 : decode cX9_count 108 = .ok (.aload_n 0, 1) := by decide +kernel
theorem dX9_count_109 : decode cX9_count 109 = .ok (.getfield 47, 3) := by decide +kernel
theorem dX9_count_112 : decode cX9_count 112 = .ok (.getfield 202, 3) := by decide +kernel
theorem dX9_count_115 : decode cX9_count 115 = .ok (.ireturn, 1) := by decide +kernel
theorem dX9_count_116 : decode cX9_count 116 = .ok (.aload_n 0, 1) := by decide +kernel
theorem dX9_count_117 : decode cX9_count 117 = .ok (.getfield 56, 3) := by decide +kernel
theorem dX9_count_120 : decode cX9_count 120 = .ok (.getfield 193, 3) := by decide +kernel
theorem dX9_count_123 : decode cX9_count 123 = .ok (.ireturn, 1) := by decide +kernel
theorem dX9_count_124 : decode cX9_count 124 = .ok (.aload_n 0, 1) := by decide +kernel
theorem dX9_count_125 : decode cX9_count 125 = .ok (.getfield 60, 3) := by decide +kernel
theorem dX9_count_128 : decode cX9_count 128 = .ok (.getfield 193, 3) := by decide +kernel
theorem dX9_count_131 : decode cX9_count 131 = .ok (.ireturn, 1) := by decide +kernel
theorem dX9_count_132 : decode cX9_count 132 = .ok (.aload_n 0, 1) := by decide +kernel
theorem dX9_count_133 : decode cX9_count 133 = .ok (.getfield 96, 3) := by decide +kernel
theorem dX9_count_136 : decode cX9_count 136 = .ok (.ireturn, 1) := by decide +kernel
theorem dX9_count_137 : decode cX9_count 137 = .ok (.iconst (-1), 1) := by decide +kernel
theorem dX9_count_138 : decode cX9_count 138 = .ok (.ireturn, 1) := by decide +kernel
def s_Top_count (x1 : Int32) (g : z_G) : Option (Int32) := (if x1 = 0 then (some (g 43 0)) else (if x1 = 1 then (some (g 43 1)) else (if x1 = 2 then (some (g 51 2)) else (if x1 = 3 then (some (g 0 3)) else (if x1 = 4 then (some (s_Col_tiedMen 0 g)) else (if x1 = 5 then (Option.bind (s_Col_lostMen 0 g) fun r18q => (some r18q)) else (if x1 = 6 then (some (g 57 3)) else (if x1 = 7 then (some (g 61 1)) else (if x1 = 8 then (some (g 63 1)) else (if x1 = 9 then (some (g 39 1)) else (some (-1))))))))))))
set_option maxHeartbeats 1000000 in
set_option maxRecDepth 20000 in
theorem c_Top_count {X : z_X} {l : Launch} {o : z_G} (x1 : Int32) (g : z_G) (r : Int32) (h : s_Top_count x1 g = some r) : z_MI X l 71 yX9_count cX9_count 2 (some .int) 4 96 [.ref (z_ad X 39), .int x1] g o g o r := by
  unfold s_Top_count at h
  refine z_meti (ty := .int) rfl rfl (by decide) (Nat.le_of_ble_eq_true rfl) (fun E hl hE hret => ?_)
  subst hl
  refine z_iload_n hE 1 dX9_count_0 rfl ?_
  by_cases c12q : x1 = 0
  · replace h := z_t c12q h
    refine z_tIn (off := 55) hE 56 dX9_count_1 (by rw [c12q]; decide) (by rw [c12q]; decide) (by rw [c12q]; decide) rfl ?_
    refine z_aload_n hE 0 dX9_count_56 rfl ?_
    refine z_get hE f_RX9_23 (by decide) e_39 rfl dX9_count_57 ?_
    refine z_get hE f_RX9_144 (by decide) e_43 rfl dX9_count_60 ?_
    obtain rfl := Option.some.inj h
    exact hret _ _ dX9_count_63
  replace h := z_f c12q h
  by_cases c13q : x1 = 1
  · replace h := z_t c13q h
    refine z_tIn (off := 63) hE 64 dX9_count_1 (by rw [c13q]; decide) (by rw [c13q]; decide) (by rw [c13q]; decide) rfl ?_
    refine z_aload_n hE 0 dX9_count_64 rfl ?_
    refine z_get hE f_RX9_23 (by decide) e_39 rfl dX9_count_65 ?_
    refine z_get hE f_RX9_104 (by decide) e_43 rfl dX9_count_68 ?_
    obtain rfl := Option.some.inj h
    exact hret _ _ dX9_count_71
  replace h := z_f c13q h
  by_cases c14q : x1 = 2
  · replace h := z_t c14q h
    refine z_tIn (off := 71) hE 72 dX9_count_1 (by rw [c14q]; decide) (by rw [c14q]; decide) (by rw [c14q]; decide) rfl ?_
    refine z_aload_n hE 0 dX9_count_72 rfl ?_
    refine z_get hE f_RX9_40 (by decide) e_39 rfl dX9_count_73 ?_
    refine z_get hE f_RX9_157 (by decide) e_51 rfl dX9_count_76 ?_
    obtain rfl := Option.some.inj h
    exact hret _ _ dX9_count_79
  replace h := z_f c14q h
  by_cases c15q : x1 = 3
  · replace h := z_t c15q h
    refine z_tIn (off := 79) hE 80 dX9_count_1 (by rw [c15q]; decide) (by rw [c15q]; decide) (by rw [c15q]; decide) rfl ?_
    refine z_aload_n hE 0 dX9_count_80 rfl ?_
    refine z_get hE f_RX9_30 (by decide) e_39 rfl dX9_count_81 ?_
    refine z_get hE f_RX9_224 (by decide) e_0 rfl dX9_count_84 ?_
    obtain rfl := Option.some.inj h
    exact hret _ _ dX9_count_87
  replace h := z_f c15q h
  by_cases c16q : x1 = 4
  · replace h := z_t c16q h
    refine z_tIn (off := 87) hE 88 dX9_count_1 (by rw [c16q]; decide) (by rw [c16q]; decide) (by rw [c16q]; decide) rfl ?_
    refine z_aload_n hE 0 dX9_count_88 rfl ?_
    refine z_get hE f_RX9_30 (by decide) e_39 rfl dX9_count_89 ?_
    refine z_iV (rest := []) (av := []) hE (c_Col_tiedMen 0 g (by decide)) l_RX9_189 (by decide) (by decide) e_0 rfl ⟨by decide, by decide⟩ dX9_count_92 rfl (Nat.le_of_ble_eq_true rfl) ?_
    obtain rfl := Option.some.inj h
    exact hret _ _ dX9_count_95
  replace h := z_f c16q h
  by_cases c17q : x1 = 5
  · replace h := z_t c17q h
    refine z_tIn (off := 95) hE 96 dX9_count_1 (by rw [c17q]; decide) (by rw [c17q]; decide) (by rw [c17q]; decide) rfl ?_
    refine z_aload_n hE 0 dX9_count_96 rfl ?_
    refine z_get hE f_RX9_30 (by decide) e_39 rfl dX9_count_97 ?_
    refine z_aload_n hE 0 dX9_count_100 rfl ?_
    refine z_get hE f_RX9_23 (by decide) e_39 rfl dX9_count_101 ?_
    obtain ⟨r18q, hr18q, h⟩ := z_bind_some h
    refine z_iV (rest := []) (av := [.ref (z_ad X 43)]) hE (c_Col_lostMen 0 g (by decide) r18q hr18q) l_RX9_182 (by decide) (by decide) e_0 rfl ⟨by decide, by decide⟩ dX9_count_104 rfl (Nat.le_of_ble_eq_true rfl) ?_
    obtain rfl := Option.some.inj h
    exact hret _ _ dX9_count_107
  replace h := z_f c17q h
  by_cases c19q : x1 = 6
  · replace h := z_t c19q h
    refine z_tIn (off := 107) hE 108 dX9_count_1 (by rw [c19q]; decide) (by rw [c19q]; decide) (by rw [c19q]; decide) rfl ?_
    refine z_aload_n hE 0 dX9_count_108 rfl ?_
    refine z_get hE f_RX9_47 (by decide) e_39 rfl dX9_count_109 ?_
    refine z_get hE f_RX9_202 (by decide) e_57 rfl dX9_count_112 ?_
    obtain rfl := Option.some.inj h
    exact hret _ _ dX9_count_115
  replace h := z_f c19q h
  by_cases c20q : x1 = 7
  · replace h := z_t c20q h
    refine z_tIn (off := 115) hE 116 dX9_count_1 (by rw [c20q]; decide) (by rw [c20q]; decide) (by rw [c20q]; decide) rfl ?_
    refine z_aload_n hE 0 dX9_count_116 rfl ?_
    refine z_get hE f_RX9_56 (by decide) e_39 rfl dX9_count_117 ?_
    refine z_get hE f_RX9_193 (by decide) e_61 rfl dX9_count_120 ?_
    obtain rfl := Option.some.inj h
    exact hret _ _ dX9_count_123
  replace h := z_f c20q h
  by_cases c21q : x1 = 8
  · replace h := z_t c21q h
    refine z_tIn (off := 123) hE 124 dX9_count_1 (by rw [c21q]; decide) (by rw [c21q]; decide) (by rw [c21q]; decide) rfl ?_
    refine z_aload_n hE 0 dX9_count_124 rfl ?_
    refine z_get hE f_RX9_60 (by decide) e_39 rfl dX9_count_125 ?_
    refine z_get hE f_RX9_193 (by decide) e_63 rfl dX9_count_128 ?_
    obtain rfl := Option.some.inj h
    exact hret _ _ dX9_count_131
  replace h := z_f c21q h
  by_cases c22q : x1 = 9
  · replace h := z_t c22q h
    refine z_tIn (off := 131) hE 132 dX9_count_1 (by rw [c22q]; decide) (by rw [c22q]; decide) (by rw [c22q]; decide) rfl ?_
    refine z_aload_n hE 0 dX9_count_132 rfl ?_
    refine z_get hE f_RX9_96 (by decide) e_39 rfl dX9_count_133 ?_
    obtain rfl := Option.some.inj h
    exact hret _ _ dX9_count_136
  replace h := z_f c22q h
  have ic12q : Int32.toInt x1 ≠ 0 := z_ne c12q
  have ic13q : Int32.toInt x1 ≠ 1 := z_ne c13q
  have ic14q : Int32.toInt x1 ≠ 2 := z_ne c14q
  have ic15q : Int32.toInt x1 ≠ 3 := z_ne c15q
  have ic16q : Int32.toInt x1 ≠ 4 := z_ne c16q
  have ic17q : Int32.toInt x1 ≠ 5 := z_ne c17q
  have ic19q : Int32.toInt x1 ≠ 6 := z_ne c19q
  have ic20q : Int32.toInt x1 ≠ 7 := z_ne c20q
  have ic21q : Int32.toInt x1 ≠ 8 := z_ne c21q
  have ic22q : Int32.toInt x1 ≠ 9 := z_ne c22q
  refine z_tOut hE 137 dX9_count_1 (by omega) rfl ?_
  refine z_iconst (v := (-1)) hE dX9_count_137 rfl ?_
  obtain rfl := Option.some.inj h
  exact hret _ _ dX9_count_138
def s_Read_figuresAt_70_b35 (g : z_G) (x3 : Int32) : Option (Int32) := (some x3)
def s_Read_figuresAt_70_L2 (g : z_G) : Nat → Int32 → Int32 → Int32 → Option (Int32)
  | 0, _, _, _ => none
  | n + 1, x1, x2, x3 => (if 2 ≤ x3 then (s_Read_figuresAt_70_b35 g x3) else (if x1 ≤ (x2 + x3) then (s_Read_figuresAt_70_b35 g x3) else (z_ck (z_inb (x2 + x3) 92) (if (s_Top_isWithin (z_rd g 70 (x2 + x3)) 48 57) = 0 then (s_Read_figuresAt_70_b35 g x3) else ((s_Read_figuresAt_70_L2 g n) x1 x2 (x3 + 1))))))
def s_Read_figuresAt_70 (x1 : Int32) (x2 : Int32) (g : z_G) : Option (Int32) := (s_Read_figuresAt_70_L2 g z_F x1 x2 0)
set_option maxHeartbeats 1000000 in
set_option maxRecDepth 20000 in
theorem b_Read_figuresAt_70_b35 {X : z_X} {E : z_ET} {o : z_G} (hE : z_EV X E cX5_figuresAt 4 RX5 1 22 71) {g : z_G} {r : Int32} (hret : ∀ (pc : Nat) (lv : List (Nat × Value)), decode cX5_figuresAt pc = .ok (.ireturn, 1) → z_V X E 4 g o pc lv [.int r]) (x3 : Int32)  (h : s_Read_figuresAt_70_b35 g x3 = some r) : z_V X E 4 g o 35 [(3, .int x3)] [] := by
  unfold s_Read_figuresAt_70_b35 at h
  refine z_iload_n hE 0 dX5_figuresAt_35 rfl ?_
  obtain rfl := Option.some.inj h
  exact hret _ _ dX5_figuresAt_36
set_option maxHeartbeats 1000000 in
set_option maxRecDepth 20000 in
theorem b_Read_figuresAt_70_L2 {X : z_X} {E : z_ET} {o : z_G} (hE : z_EV X E cX5_figuresAt 4 RX5 1 22 71) {g : z_G} {r : Int32} (hret : ∀ (pc : Nat) (lv : List (Nat × Value)), decode cX5_figuresAt pc = .ok (.ireturn, 1) → z_V X E 4 g o pc lv [.int r]) : ∀ (n : Nat) (x1 : Int32) (x2 : Int32) (x3 : Int32), s_Read_figuresAt_70_L2 g n x1 x2 x3 = some r → z_V X E 4 g o 2 [(0, .ref (z_ad X 70)), (1, .int x1), (2, .int x2), (3, .int x3)] [] := by
  intro n
  induction n with
  | zero => intro x1 x2 x3 h; exact z_none h
  | succ n ih =>
    intro x1 x2 x3 h
    rw [s_Read_figuresAt_70_L2] at h
    refine z_iload_n hE 3 dX5_figuresAt_2 rfl ?_
    refine z_iconst (v := 2) hE dX5_figuresAt_3 rfl ?_
    refine z_icmp_ge hE 35 dX5_figuresAt_4 rfl (fun c5q => ?_) (fun c5q => ?_)
    · replace h := z_t c5q h
      refine z_sub [(3, .int x3)] [3] rfl ?_
      exact b_Read_figuresAt_70_b35 hE hret x3 h
    · replace h := z_f c5q h
      refine z_iload_n hE 2 dX5_figuresAt_7 rfl ?_
      refine z_iload_n hE 3 dX5_figuresAt_8 rfl ?_
      refine z_iadd hE dX5_figuresAt_9 ?_
      refine z_iload_n hE 1 dX5_figuresAt_10 rfl ?_
      refine z_icmp_ge hE 35 dX5_figuresAt_11 rfl (fun c6q => ?_) (fun c6q => ?_)
      · replace h := z_t c6q h
        refine z_sub [(3, .int x3)] [3] rfl ?_
        exact b_Read_figuresAt_70_b35 hE hret x3 h
      · replace h := z_f c6q h
        refine z_aload_n hE 0 dX5_figuresAt_14 rfl ?_
        refine z_iload_n hE 2 dX5_figuresAt_15 rfl ?_
        refine z_iload_n hE 3 dX5_figuresAt_16 rfl ?_
        refine z_iadd hE dX5_figuresAt_17 ?_
        obtain ⟨k7q, h⟩ := z_ck_some h
        refine z_cald hE (by decide) e_70 k7q dX5_figuresAt_18 ?_
        refine z_bipush (v := 48) hE dX5_figuresAt_19 rfl ?_
        refine z_bipush (v := 57) hE dX5_figuresAt_21 rfl ?_
        refine z_iS (rest := []) (av := [.int (z_rd g 70 (x2 + x3)), .int 48, .int 57]) hE (c_Top_isWithin (z_rd g 70 (x2 + x3)) 48 57 g) l_RX5_67 (by decide) ⟨by decide, by decide⟩ dX5_figuresAt_23 rfl (Nat.le_of_ble_eq_true rfl) ?_
        refine z_if_eq hE 35 dX5_figuresAt_26 rfl (fun c8q => ?_) (fun c8q => ?_)
        · replace h := z_t c8q h
          refine z_sub [(3, .int x3)] [3] rfl ?_
          exact b_Read_figuresAt_70_b35 hE hret x3 h
        · replace h := z_f c8q h
          refine z_iinc (v := x3 + 1) hE 3 [(3, .int (x3 + 1)), (0, .ref (z_ad X 70)), (1, .int x1), (2, .int x2)] dX5_figuresAt_29 rfl rfl (by decide) rfl ?_
          refine z_goto hE 2 dX5_figuresAt_32 rfl ?_
          refine z_sub [(0, .ref (z_ad X 70)), (1, .int x1), (2, .int x2), (3, .int (x3 + 1))] [1, 2, 3, 0] rfl ?_
          exact ih x1 x2 (x3 + 1) h
set_option maxHeartbeats 1000000 in
set_option maxRecDepth 20000 in
theorem c_Read_figuresAt_70 {X : z_X} {l : Launch} {o : z_G} (x1 : Int32) (x2 : Int32) (g : z_G) (r : Int32) (h : s_Read_figuresAt_70 x1 x2 g = some r) : z_MI X l 71 yX5_figuresAt cX5_figuresAt 4 (some .int) 1 22 [.ref (z_ad X 70), .int x1, .int x2] g o g o r := by
  unfold s_Read_figuresAt_70 at h
  refine z_meti (ty := .int) rfl rfl (by decide) (Nat.le_of_ble_eq_true rfl) (fun E hl hE hret => ?_)
  subst hl
  refine z_iconst (v := 0) hE dX5_figuresAt_0 rfl ?_
  refine z_istore_n hE [(3, .int 0), (0, .ref (z_ad X 70)), (1, .int x1), (2, .int x2)] dX5_figuresAt_1 rfl (by decide) rfl ?_
  refine z_sub [(0, .ref (z_ad X 70)), (1, .int x1), (2, .int x2), (3, .int 0)] [1, 2, 3, 0] rfl ?_
  exact b_Read_figuresAt_70_L2 hE hret z_F x1 x2 0 h
def s_Read_numberAt_70_L5 (g : z_G) : Nat → Int32 → Int32 → Int32 → Option (Int32)
  | 0, _, _, _ => none
  | n + 1, x2, x3, x4 => (if x2 ≤ x4 then (some x3) else (z_ck (z_inb x4 92) (z_let (α := Int32) ((((10 * x3) + (z_rd g 70 x4)) - 48)) fun v6q => ((s_Read_numberAt_70_L5 g n) x2 v6q (x4 + 1)))))
def s_Read_numberAt_70 (x1 : Int32) (x2 : Int32) (g : z_G) : Option (Int32) := (s_Read_numberAt_70_L5 g z_F x2 0 x1)
set_option maxHeartbeats 1000000 in
set_option maxRecDepth 20000 in
theorem b_Read_numberAt_70_L5 {X : z_X} {E : z_ET} {o : z_G} (hE : z_EV X E cX5_numberAt 5 RX5 0 0 71) {g : z_G} {r : Int32} (hret : ∀ (pc : Nat) (lv : List (Nat × Value)), decode cX5_numberAt pc = .ok (.ireturn, 1) → z_V X E 5 g o pc lv [.int r]) : ∀ (n : Nat) (x2 : Int32) (x3 : Int32) (x4 : Int32), s_Read_numberAt_70_L5 g n x2 x3 x4 = some r → z_V X E 5 g o 5 [(0, .ref (z_ad X 70)), (2, .int x2), (3, .int x3), (4, .int x4)] [] := by
  intro n
  induction n with
  | zero => intro x2 x3 x4 h; exact z_none h
  | succ n ih =>
    intro x2 x3 x4 h
    rw [s_Read_numberAt_70_L5] at h
    refine z_iload hE 3 dX5_numberAt_5 rfl ?_
    refine z_iload_n hE 1 dX5_numberAt_7 rfl ?_
    refine z_icmp_ge hE 30 dX5_numberAt_8 rfl (fun c4q => ?_) (fun c4q => ?_)
    · replace h := z_t c4q h
      refine z_iload_n hE 2 dX5_numberAt_30 rfl ?_
      obtain rfl := Option.some.inj h
      exact hret _ _ dX5_numberAt_31
    · replace h := z_f c4q h
      refine z_bipush (v := 10) hE dX5_numberAt_11 rfl ?_
      refine z_iload_n hE 2 dX5_numberAt_13 rfl ?_
      refine z_imul hE dX5_numberAt_14 ?_
      refine z_aload_n hE 0 dX5_numberAt_15 rfl ?_
      refine z_iload hE 3 dX5_numberAt_16 rfl ?_
      obtain ⟨k5q, h⟩ := z_ck_some h
      refine z_cald hE (by decide) e_70 k5q dX5_numberAt_18 ?_
      refine z_iadd hE dX5_numberAt_19 ?_
      refine z_bipush (v := 48) hE dX5_numberAt_20 rfl ?_
      refine z_isub hE dX5_numberAt_22 ?_
      obtain ⟨v6q, ev6q, h⟩ := z_let_eq h
      refine z_topi ev6q ?_
      refine z_istore_n hE [(3, .int v6q), (0, .ref (z_ad X 70)), (2, .int x2), (4, .int x4)] dX5_numberAt_23 rfl (by decide) rfl ?_
      refine z_iinc (v := x4 + 1) hE 3 [(4, .int (x4 + 1)), (3, .int v6q), (0, .ref (z_ad X 70)), (2, .int x2)] dX5_numberAt_24 rfl rfl (by decide) rfl ?_
      refine z_goto hE 5 dX5_numberAt_27 rfl ?_
      refine z_sub [(0, .ref (z_ad X 70)), (2, .int x2), (3, .int v6q), (4, .int (x4 + 1))] [2, 3, 1, 0] rfl ?_
      exact ih x2 v6q (x4 + 1) h
set_option maxHeartbeats 1000000 in
set_option maxRecDepth 20000 in
theorem c_Read_numberAt_70 {X : z_X} {l : Launch} {o : z_G} (x1 : Int32) (x2 : Int32) (g : z_G) (r : Int32) (h : s_Read_numberAt_70 x1 x2 g = some r) : z_MI X l 71 yX5_numberAt cX5_numberAt 5 (some .int) 0 0 [.ref (z_ad X 70), .int x1, .int x2] g o g o r := by
  unfold s_Read_numberAt_70 at h
  refine z_meti (ty := .int) rfl rfl (by decide) (Nat.le_of_ble_eq_true rfl) (fun E hl hE hret => ?_)
  subst hl
  refine z_iconst (v := 0) hE dX5_numberAt_0 rfl ?_
  refine z_istore_n hE [(3, .int 0), (0, .ref (z_ad X 70)), (1, .int x1), (2, .int x2)] dX5_numberAt_1 rfl (by decide) rfl ?_
  refine z_iload_n hE 2 dX5_numberAt_2 rfl ?_
  refine z_istore hE [(4, .int x1), (3, .int 0), (0, .ref (z_ad X 70)), (1, .int x1), (2, .int x2)] dX5_numberAt_3 (by decide) rfl ?_
  refine z_sub [(0, .ref (z_ad X 70)), (2, .int x2), (3, .int 0), (4, .int x1)] [2, 4, 1, 0] rfl ?_
  exact b_Read_numberAt_70_L5 hE hret z_F x2 0 x1 h
def s_Read_readItem_70_b73  (g : z_G) : Option (Int32 × z_G) := (some ((-1), g))
def s_Read_readItem_70_b70 (k16 : Int32 → Int32 → Int32 → Int32 → Int32 → z_G → Option (Int32 × z_G)) (x2 : Int32) (x3 : Int32) (x4 : Int32) (x5 : Int32) (x6 : Int32) (x8 : Int32) (s1 : Int32) (s0 : Int32) (g : z_G) : Option (Int32 × z_G) := (if s0 = s1 then (Option.bind (s_Read_numberAt_70 x5 x8 g) fun r17q => (z_ck (z_inb x6 6) (z_let (α := z_G) (z_wr g 42 x6 r17q) fun g19q => (k16 x2 x3 x4 (x8 + 1) (x6 + 1) g19q)))) else (s_Read_readItem_70_b73 g))
def s_Read_readItem_70_L16 : Nat → Int32 → Int32 → Int32 → Int32 → Int32 → z_G → Option (Int32 × z_G)
  | 0, _, _, _, _, _, _ => none
  | n + 1, x2, x3, x4, x5, x6, g => (if x4 ≤ x6 then (z_ck (z_inb x3 92) (Option.bind (s_Read_takeItem (z_rd g 70 x3) g) fun r22q => (if r22q.1 = 0 then (some ((-1), r22q.2)) else (some (x5, r22q.2))))) else (Option.bind (s_Read_figuresAt_70 x2 x5 g) fun r24q => (if r24q = 0 then (s_Read_readItem_70_b73 g) else (if x2 ≤ (x5 + r24q) then (s_Read_readItem_70_b73 g) else (z_ck (z_inb (x5 + r24q) 92) (if x4 ≤ (x6 + 1) then (s_Read_readItem_70_b70 (s_Read_readItem_70_L16 n) x2 x3 x4 x5 x6 (x5 + r24q) 59 (z_rd g 70 (x5 + r24q)) g) else (s_Read_readItem_70_b70 (s_Read_readItem_70_L16 n) x2 x3 x4 x5 x6 (x5 + r24q) 44 (z_rd g 70 (x5 + r24q)) g)))))))
def s_Read_readItem_70 (x2 : Int32) (x3 : Int32) (g : z_G) : Option (Int32 × z_G) := (z_ck (z_inb x3 92) (z_let (α := Int32) ((s_Read_numbersBehind (z_rd g 70 x3))) fun v30q => (s_Read_readItem_70_L16 z_F x2 x3 v30q (x3 + 1) 0 g)))
set_option maxHeartbeats 1000000 in
set_option maxRecDepth 20000 in
theorem b_Read_readItem_70_b73 {X : z_X} {E : z_ET} {o : z_G} (hE : z_EV X E cX5_readItem 9 RX5 4 84 71) {r : Int32 × z_G} (hret : ∀ (pc : Nat) (lv : List (Nat × Value)), decode cX5_readItem pc = .ok (.ireturn, 1) → z_V X E 9 r.2 o pc lv [.int r.1])  (g : z_G)  (h : s_Read_readItem_70_b73 g = some r) : z_V X E 9 g o 73 [] [] := by
  unfold s_Read_readItem_70_b73 at h
  refine z_iconst (v := (-1)) hE dX5_readItem_73 rfl ?_
  obtain rfl := Option.some.inj h
  exact hret _ _ dX5_readItem_74
set_option maxHeartbeats 1000000 in
set_option maxRecDepth 20000 in
theorem b_Read_readItem_70_b70 {X : z_X} {E : z_ET} {o : z_G} (hE : z_EV X E cX5_readItem 9 RX5 4 84 71) {r : Int32 × z_G} (hret : ∀ (pc : Nat) (lv : List (Nat × Value)), decode cX5_readItem pc = .ok (.ireturn, 1) → z_V X E 9 r.2 o pc lv [.int r.1]) (k16 : Int32 → Int32 → Int32 → Int32 → Int32 → z_G → Option (Int32 × z_G)) (hk16 : ∀ (x2 : Int32) (x3 : Int32) (x4 : Int32) (x5 : Int32) (x6 : Int32) (g : z_G), k16 x2 x3 x4 x5 x6 g = some r → z_V X E 9 g o 16 [(0, .ref (z_ad X 41)), (1, .ref (z_ad X 70)), (2, .int x2), (3, .int x3), (4, .int x4), (5, .int x5), (6, .int x6)] []) (x2 : Int32) (x3 : Int32) (x4 : Int32) (x5 : Int32) (x6 : Int32) (x8 : Int32) (s1 : Int32) (s0 : Int32) (g : z_G)  (h : s_Read_readItem_70_b70 k16 x2 x3 x4 x5 x6 x8 s1 s0 g = some r) : z_V X E 9 g o 70 [(0, .ref (z_ad X 41)), (1, .ref (z_ad X 70)), (2, .int x2), (3, .int x3), (4, .int x4), (5, .int x5), (6, .int x6), (8, .int x8)] [.int s1, .int s0] := by
  unfold s_Read_readItem_70_b70 at h
  refine z_icmp_eq hE 75 dX5_readItem_70 rfl (fun c16q => ?_) (fun c16q => ?_)
  · replace h := z_t c16q h
    refine z_aload_n hE 0 dX5_readItem_75 rfl ?_
    refine z_get hE f_RX5_32 (by decide) e_41 rfl dX5_readItem_76 ?_
    refine z_iload hE 6 dX5_readItem_79 rfl ?_
    refine z_aload_n hE 1 dX5_readItem_81 rfl ?_
    refine z_iload hE 5 dX5_readItem_82 rfl ?_
    refine z_iload hE 7 dX5_readItem_84 rfl ?_
    obtain ⟨r17q, hr17q, h⟩ := z_bind_some h
    refine z_iS (rest := [.int x6, .ref (z_ad X 42)]) (av := [.ref (z_ad X 70), .int x5, .int x8]) hE (c_Read_numberAt_70 x5 x8 g r17q hr17q) l_RX5_60 (by decide) ⟨by decide, by decide⟩ dX5_readItem_86 rfl (Nat.le_of_ble_eq_true rfl) ?_
    obtain ⟨k18q, h⟩ := z_ck_some h
    obtain ⟨g19q, eg19q, h⟩ := z_let_eq h
    refine z_iast hE (by decide) e_42 k18q (ua_42 eg19q) dX5_readItem_89 ?_
    refine z_iload hE 7 dX5_readItem_90 rfl ?_
    refine z_iconst (v := 1) hE dX5_readItem_92 rfl ?_
    refine z_iadd hE dX5_readItem_93 ?_
    refine z_istore hE [(5, .int (x8 + 1)), (0, .ref (z_ad X 41)), (1, .ref (z_ad X 70)), (2, .int x2), (3, .int x3), (4, .int x4), (6, .int x6), (8, .int x8)] dX5_readItem_94 (by decide) rfl ?_
    refine z_iinc (v := x6 + 1) hE 6 [(6, .int (x6 + 1)), (5, .int (x8 + 1)), (0, .ref (z_ad X 41)), (1, .ref (z_ad X 70)), (2, .int x2), (3, .int x3), (4, .int x4), (8, .int x8)] dX5_readItem_96 rfl rfl (by decide) rfl ?_
    refine z_goto hE 16 dX5_readItem_99 rfl ?_
    refine z_sub [(0, .ref (z_ad X 41)), (1, .ref (z_ad X 70)), (2, .int x2), (3, .int x3), (4, .int x4), (5, .int (x8 + 1)), (6, .int (x6 + 1))] [2, 3, 4, 5, 6, 1, 0] rfl ?_
    exact hk16 x2 x3 x4 (x8 + 1) (x6 + 1) g19q h
  · replace h := z_f c16q h
    refine z_sub [] [] rfl ?_
    exact b_Read_readItem_70_b73 hE hret g h
set_option maxHeartbeats 1000000 in
set_option maxRecDepth 20000 in
theorem b_Read_readItem_70_L16 {X : z_X} {E : z_ET} {o : z_G} (hE : z_EV X E cX5_readItem 9 RX5 4 84 71) {r : Int32 × z_G} (hret : ∀ (pc : Nat) (lv : List (Nat × Value)), decode cX5_readItem pc = .ok (.ireturn, 1) → z_V X E 9 r.2 o pc lv [.int r.1]) : ∀ (n : Nat) (x2 : Int32) (x3 : Int32) (x4 : Int32) (x5 : Int32) (x6 : Int32) (g : z_G), s_Read_readItem_70_L16 n x2 x3 x4 x5 x6 g = some r → z_V X E 9 g o 16 [(0, .ref (z_ad X 41)), (1, .ref (z_ad X 70)), (2, .int x2), (3, .int x3), (4, .int x4), (5, .int x5), (6, .int x6)] [] := by
  intro n
  induction n with
  | zero => intro x2 x3 x4 x5 x6 g h; exact z_none h
  | succ n ih =>
    intro x2 x3 x4 x5 x6 g h
    rw [s_Read_readItem_70_L16] at h
    refine z_iload hE 6 dX5_readItem_16 rfl ?_
    refine z_iload hE 4 dX5_readItem_18 rfl ?_
    refine z_icmp_ge hE 102 dX5_readItem_20 rfl (fun c20q => ?_) (fun c20q => ?_)
    · replace h := z_t c20q h
      refine z_aload_n hE 0 dX5_readItem_102 rfl ?_
      refine z_aload_n hE 1 dX5_readItem_103 rfl ?_
      refine z_iload_n hE 3 dX5_readItem_104 rfl ?_
      obtain ⟨k21q, h⟩ := z_ck_some h
      refine z_cald hE (by decide) e_70 k21q dX5_readItem_105 ?_
      obtain ⟨r22q, hr22q, h⟩ := z_bind_some h
      refine z_iV (rest := []) (av := [.int (z_rd g 70 x3)]) hE (c_Read_takeItem (z_rd g 70 x3) g r22q hr22q) l_RX5_63 (by decide) (by decide) e_41 rfl ⟨by decide, by decide⟩ dX5_readItem_106 rfl (Nat.le_of_ble_eq_true rfl) ?_
      refine z_if_eq hE 117 dX5_readItem_109 rfl (fun c23q => ?_) (fun c23q => ?_)
      · replace h := z_t c23q h
        refine z_iconst (v := (-1)) hE dX5_readItem_117 rfl ?_
        obtain rfl := Option.some.inj h
        exact hret _ _ dX5_readItem_118
      · replace h := z_f c23q h
        refine z_iload hE 5 dX5_readItem_112 rfl ?_
        refine z_goto hE 118 dX5_readItem_114 rfl ?_
        obtain rfl := Option.some.inj h
        exact hret _ _ dX5_readItem_118
    · replace h := z_f c20q h
      refine z_aload_n hE 1 dX5_readItem_23 rfl ?_
      refine z_iload_n hE 2 dX5_readItem_24 rfl ?_
      refine z_iload hE 5 dX5_readItem_25 rfl ?_
      obtain ⟨r24q, hr24q, h⟩ := z_bind_some h
      refine z_iS (rest := []) (av := [.ref (z_ad X 70), .int x2, .int x5]) hE (c_Read_figuresAt_70 x2 x5 g r24q hr24q) l_RX5_57 (by decide) ⟨by decide, by decide⟩ dX5_readItem_27 rfl (Nat.le_of_ble_eq_true rfl) ?_
      refine z_istore hE [(7, .int r24q), (0, .ref (z_ad X 41)), (1, .ref (z_ad X 70)), (2, .int x2), (3, .int x3), (4, .int x4), (5, .int x5), (6, .int x6)] dX5_readItem_30 (by decide) rfl ?_
      refine z_iload hE 6 dX5_readItem_32 rfl ?_
      refine z_iload hE 0 dX5_readItem_34 rfl ?_
      refine z_iadd hE dX5_readItem_36 ?_
      refine z_istore hE [(8, .int (x5 + r24q)), (7, .int r24q), (0, .ref (z_ad X 41)), (1, .ref (z_ad X 70)), (2, .int x2), (3, .int x3), (4, .int x4), (5, .int x5), (6, .int x6)] dX5_readItem_37 (by decide) rfl ?_
      refine z_iload hE 1 dX5_readItem_39 rfl ?_
      refine z_if_eq hE 73 dX5_readItem_41 rfl (fun c25q => ?_) (fun c25q => ?_)
      · replace h := z_t c25q h
        refine z_sub [] [] rfl ?_
        exact b_Read_readItem_70_b73 hE hret g h
      · replace h := z_f c25q h
        refine z_iload hE 0 dX5_readItem_44 rfl ?_
        refine z_iload_n hE 4 dX5_readItem_46 rfl ?_
        refine z_icmp_ge hE 73 dX5_readItem_47 rfl (fun c26q => ?_) (fun c26q => ?_)
        · replace h := z_t c26q h
          refine z_sub [] [] rfl ?_
          exact b_Read_readItem_70_b73 hE hret g h
        · replace h := z_f c26q h
          refine z_aload_n hE 3 dX5_readItem_50 rfl ?_
          refine z_iload hE 0 dX5_readItem_51 rfl ?_
          obtain ⟨k27q, h⟩ := z_ck_some h
          refine z_cald hE (by decide) e_70 k27q dX5_readItem_53 ?_
          refine z_iload hE 8 dX5_readItem_54 rfl ?_
          refine z_iconst (v := 1) hE dX5_readItem_56 rfl ?_
          refine z_iadd hE dX5_readItem_57 ?_
          refine z_iload hE 6 dX5_readItem_58 rfl ?_
          refine z_icmp_ge hE 68 dX5_readItem_60 rfl (fun c28q => ?_) (fun c28q => ?_)
          · replace h := z_t c28q h
            refine z_bipush (v := 59) hE dX5_readItem_68 rfl ?_
            refine z_sub [(0, .ref (z_ad X 41)), (1, .ref (z_ad X 70)), (2, .int x2), (3, .int x3), (4, .int x4), (5, .int x5), (6, .int x6), (8, .int (x5 + r24q))] [2, 3, 4, 5, 6, 7, 8, 0] rfl ?_
            exact b_Read_readItem_70_b70 hE hret (s_Read_readItem_70_L16 n) ih x2 x3 x4 x5 x6 (x5 + r24q) 59 (z_rd g 70 (x5 + r24q)) g h
          · replace h := z_f c28q h
            refine z_bipush (v := 44) hE dX5_readItem_63 rfl ?_
            refine z_goto hE 70 dX5_readItem_65 rfl ?_
            refine z_sub [(0, .ref (z_ad X 41)), (1, .ref (z_ad X 70)), (2, .int x2), (3, .int x3), (4, .int x4), (5, .int x5), (6, .int x6), (8, .int (x5 + r24q))] [2, 3, 4, 5, 6, 7, 8, 0] rfl ?_
            exact b_Read_readItem_70_b70 hE hret (s_Read_readItem_70_L16 n) ih x2 x3 x4 x5 x6 (x5 + r24q) 44 (z_rd g 70 (x5 + r24q)) g h
set_option maxHeartbeats 1000000 in
set_option maxRecDepth 20000 in
theorem c_Read_readItem_70 {X : z_X} {l : Launch} {o : z_G} (x2 : Int32) (x3 : Int32) (g : z_G) (r : Int32 × z_G) (h : s_Read_readItem_70 x2 x3 g = some r) : z_MI X l 71 yX5_readItem cX5_readItem 9 (some .int) 4 84 [.ref (z_ad X 41), .ref (z_ad X 70), .int x2, .int x3] g o r.2 o r.1 := by
  unfold s_Read_readItem_70 at h
  refine z_meti (ty := .int) rfl rfl (by decide) (Nat.le_of_ble_eq_true rfl) (fun E hl hE hret => ?_)
  subst hl
  refine z_aload_n hE 1 dX5_readItem_0 rfl ?_
  refine z_iload_n hE 3 dX5_readItem_1 rfl ?_
  obtain ⟨k29q, h⟩ := z_ck_some h
  refine z_cald hE (by decide) e_70 k29q dX5_readItem_2 ?_
  refine z_iS (rest := []) (av := [.int (z_rd g 70 x3)]) hE (c_Read_numbersBehind (z_rd g 70 x3) g) l_RX5_53 (by decide) ⟨by decide, by decide⟩ dX5_readItem_3 rfl (Nat.le_of_ble_eq_true rfl) ?_
  obtain ⟨v30q, ev30q, h⟩ := z_let_eq h
  refine z_topi ev30q ?_
  refine z_istore hE [(4, .int v30q), (0, .ref (z_ad X 41)), (1, .ref (z_ad X 70)), (2, .int x2), (3, .int x3)] dX5_readItem_6 (by decide) rfl ?_
  refine z_iload_n hE 4 dX5_readItem_8 rfl ?_
  refine z_iconst (v := 1) hE dX5_readItem_9 rfl ?_
  refine z_iadd hE dX5_readItem_10 ?_
  refine z_istore hE [(5, .int (x3 + 1)), (4, .int v30q), (0, .ref (z_ad X 41)), (1, .ref (z_ad X 70)), (2, .int x2), (3, .int x3)] dX5_readItem_11 (by decide) rfl ?_
  refine z_iconst (v := 0) hE dX5_readItem_13 rfl ?_
  refine z_istore hE [(6, .int 0), (5, .int (x3 + 1)), (4, .int v30q), (0, .ref (z_ad X 41)), (1, .ref (z_ad X 70)), (2, .int x2), (3, .int x3)] dX5_readItem_14 (by decide) rfl ?_
  refine z_sub [(0, .ref (z_ad X 41)), (1, .ref (z_ad X 70)), (2, .int x2), (3, .int x3), (4, .int v30q), (5, .int (x3 + 1)), (6, .int 0)] [3, 4, 5, 6, 2, 1, 0] rfl ?_
  exact b_Read_readItem_70_L16 hE hret z_F x2 x3 v30q (x3 + 1) 0 g h
def s_Read_readAll_70_b76  (g : z_G) : Option (Int32 × z_G) := (some ((-4), g))
def s_Read_readAll_70_L37 : Nat → Int32 → Int32 → Int32 → z_G → Option (Int32 × z_G)
  | 0, _, _, _, _ => none
  | n + 1, x2, x3, x4, g => (if 200 ≤ x4 then (s_Read_readAll_70_b76 g) else (if x2 ≤ x3 then (s_Read_readAll_70_b76 g) else (Option.bind (s_Read_readItem_70 x2 x3 g) fun r11q => (if r11q.1 = (-1) then (some (x3, r11q.2)) else ((s_Read_readAll_70_L37 n) x2 r11q.1 (x4 + 1) r11q.2)))))
def s_Read_readAll_70 (x2 : Int32) (g : z_G) : Option (Int32 × z_G) := (z_let (α := z_G) (z_up g 47 0 0) fun g13q => (z_let (α := z_G) (z_up g13q 47 1 0) fun g14q => (z_let (α := z_G) (z_up g14q 47 2 4) fun g15q => (z_let (α := z_G) (z_up g15q 54 2 0) fun g16q => (s_Read_readAll_70_L37 z_F x2 0 0 g16q)))))
set_option maxHeartbeats 1000000 in
set_option maxRecDepth 20000 in
theorem b_Read_readAll_70_b76 {X : z_X} {E : z_ET} {o : z_G} (hE : z_EV X E cX5_readAll 6 RX5 5 112 71) {r : Int32 × z_G} (hret : ∀ (pc : Nat) (lv : List (Nat × Value)), decode cX5_readAll pc = .ok (.ireturn, 1) → z_V X E 6 r.2 o pc lv [.int r.1])  (g : z_G)  (h : s_Read_readAll_70_b76 g = some r) : z_V X E 6 g o 76 [] [] := by
  unfold s_Read_readAll_70_b76 at h
  refine z_bipush (v := (-4)) hE dX5_readAll_76 rfl ?_
  obtain rfl := Option.some.inj h
  exact hret _ _ dX5_readAll_78
set_option maxHeartbeats 1000000 in
set_option maxRecDepth 20000 in
theorem b_Read_readAll_70_L37 {X : z_X} {E : z_ET} {o : z_G} (hE : z_EV X E cX5_readAll 6 RX5 5 112 71) {r : Int32 × z_G} (hret : ∀ (pc : Nat) (lv : List (Nat × Value)), decode cX5_readAll pc = .ok (.ireturn, 1) → z_V X E 6 r.2 o pc lv [.int r.1]) : ∀ (n : Nat) (x2 : Int32) (x3 : Int32) (x4 : Int32) (g : z_G), s_Read_readAll_70_L37 n x2 x3 x4 g = some r → z_V X E 6 g o 37 [(0, .ref (z_ad X 41)), (1, .ref (z_ad X 70)), (2, .int x2), (3, .int x3), (4, .int x4)] [] := by
  intro n
  induction n with
  | zero => intro x2 x3 x4 g h; exact z_none h
  | succ n ih =>
    intro x2 x3 x4 g h
    rw [s_Read_readAll_70_L37] at h
    refine z_iload hE 4 dX5_readAll_37 rfl ?_
    refine z_sipush (v := 200) hE dX5_readAll_39 rfl ?_
    refine z_icmp_ge hE 76 dX5_readAll_42 rfl (fun c9q => ?_) (fun c9q => ?_)
    · replace h := z_t c9q h
      refine z_sub [] [] rfl ?_
      exact b_Read_readAll_70_b76 hE hret g h
    · replace h := z_f c9q h
      refine z_iload_n hE 3 dX5_readAll_45 rfl ?_
      refine z_iload_n hE 2 dX5_readAll_46 rfl ?_
      refine z_icmp_ge hE 76 dX5_readAll_47 rfl (fun c10q => ?_) (fun c10q => ?_)
      · replace h := z_t c10q h
        refine z_sub [] [] rfl ?_
        exact b_Read_readAll_70_b76 hE hret g h
      · replace h := z_f c10q h
        refine z_aload_n hE 0 dX5_readAll_50 rfl ?_
        refine z_aload_n hE 1 dX5_readAll_51 rfl ?_
        refine z_iload_n hE 2 dX5_readAll_52 rfl ?_
        refine z_iload_n hE 3 dX5_readAll_53 rfl ?_
        obtain ⟨r11q, hr11q, h⟩ := z_bind_some h
        refine z_iV (rest := []) (av := [.ref (z_ad X 70), .int x2, .int x3]) hE (c_Read_readItem_70 x2 x3 g r11q hr11q) l_RX5_49 (by decide) (by decide) e_41 rfl ⟨by decide, by decide⟩ dX5_readAll_54 rfl (Nat.le_of_ble_eq_true rfl) ?_
        refine z_istore hE [(5, .int r11q.1), (0, .ref (z_ad X 41)), (1, .ref (z_ad X 70)), (2, .int x2), (3, .int x3), (4, .int x4)] dX5_readAll_57 (by decide) rfl ?_
        refine z_iload hE 0 dX5_readAll_59 rfl ?_
        refine z_iconst (v := (-1)) hE dX5_readAll_61 rfl ?_
        refine z_icmp_ne hE 67 dX5_readAll_62 rfl (fun c12q => ?_) (fun c12q => ?_)
        · replace h := z_f c12q h
          refine z_iload hE 0 dX5_readAll_67 rfl ?_
          refine z_istore_n hE [(3, .int r11q.1), (5, .int r11q.1), (0, .ref (z_ad X 41)), (1, .ref (z_ad X 70)), (2, .int x2), (4, .int x4)] dX5_readAll_69 rfl (by decide) rfl ?_
          refine z_iinc (v := x4 + 1) hE 5 [(4, .int (x4 + 1)), (3, .int r11q.1), (5, .int r11q.1), (0, .ref (z_ad X 41)), (1, .ref (z_ad X 70)), (2, .int x2)] dX5_readAll_70 rfl rfl (by decide) rfl ?_
          refine z_goto hE 37 dX5_readAll_73 rfl ?_
          refine z_sub [(0, .ref (z_ad X 41)), (1, .ref (z_ad X 70)), (2, .int x2), (3, .int r11q.1), (4, .int (x4 + 1))] [3, 4, 5, 1, 0] rfl ?_
          exact ih x2 r11q.1 (x4 + 1) r11q.2 h
        · replace h := z_t c12q h
          refine z_iload_n hE 4 dX5_readAll_65 rfl ?_
          obtain rfl := Option.some.inj h
          exact hret _ _ dX5_readAll_66
set_option maxHeartbeats 1000000 in
set_option maxRecDepth 20000 in
theorem c_Read_readAll_70 {X : z_X} {l : Launch} {o : z_G} (x2 : Int32) (g : z_G) (r : Int32 × z_G) (h : s_Read_readAll_70 x2 g = some r) : z_MI X l 71 yX5_readAll cX5_readAll 6 (some .int) 5 112 [.ref (z_ad X 41), .ref (z_ad X 70), .int x2] g o r.2 o r.1 := by
  unfold s_Read_readAll_70 at h
  refine z_meti (ty := .int) rfl rfl (by decide) (Nat.le_of_ble_eq_true rfl) (fun E hl hE hret => ?_)
  subst hl
  refine z_aload_n hE 0 dX5_readAll_0 rfl ?_
  refine z_get hE f_RX5_12 (by decide) e_41 rfl dX5_readAll_1 ?_
  refine z_iconst (v := 0) hE dX5_readAll_4 rfl ?_
  obtain ⟨g13q, eg13q, h⟩ := z_let_eq h
  refine z_put hE f_RX5_36 ft_3 (by decide) e_47 rfl (tyX3_ok 0 (by decide)) rfl rfl (Nat.le_of_ble_eq_true rfl) (u_47_0 eg13q) dX5_readAll_5 ?_
  refine z_aload_n hE 0 dX5_readAll_8 rfl ?_
  refine z_get hE f_RX5_12 (by decide) e_41 rfl dX5_readAll_9 ?_
  refine z_iconst (v := 0) hE dX5_readAll_12 rfl ?_
  obtain ⟨g14q, eg14q, h⟩ := z_let_eq h
  refine z_put hE f_RX5_40 ft_3 (by decide) e_47 rfl (tyX3_ok 1 (by decide)) rfl rfl (Nat.le_of_ble_eq_true rfl) (u_47_1 eg14q) dX5_readAll_13 ?_
  refine z_aload_n hE 0 dX5_readAll_16 rfl ?_
  refine z_get hE f_RX5_12 (by decide) e_41 rfl dX5_readAll_17 ?_
  refine z_iconst (v := 4) hE dX5_readAll_20 rfl ?_
  obtain ⟨g15q, eg15q, h⟩ := z_let_eq h
  refine z_put hE f_RX5_43 ft_3 (by decide) e_47 rfl (tyX3_ok 2 (by decide)) rfl rfl (Nat.le_of_ble_eq_true rfl) (u_47_2 eg15q) dX5_readAll_21 ?_
  refine z_aload_n hE 0 dX5_readAll_24 rfl ?_
  refine z_get hE f_RX5_28 (by decide) e_41 rfl dX5_readAll_25 ?_
  refine z_iconst (v := 0) hE dX5_readAll_28 rfl ?_
  obtain ⟨g16q, eg16q, h⟩ := z_let_eq h
  refine z_put hE f_RX5_46 ft_6 (by decide) e_54 rfl (tyX6_ok 2 (by decide)) rfl rfl (Nat.le_of_ble_eq_true rfl) (u_54_2 eg16q) dX5_readAll_29 ?_
  refine z_iconst (v := 0) hE dX5_readAll_32 rfl ?_
  refine z_istore_n hE [(3, .int 0), (0, .ref (z_ad X 41)), (1, .ref (z_ad X 70)), (2, .int x2)] dX5_readAll_33 rfl (by decide) rfl ?_
  refine z_iconst (v := 0) hE dX5_readAll_34 rfl ?_
  refine z_istore hE [(4, .int 0), (3, .int 0), (0, .ref (z_ad X 41)), (1, .ref (z_ad X 70)), (2, .int x2)] dX5_readAll_35 (by decide) rfl ?_
  refine z_sub [(0, .ref (z_ad X 41)), (1, .ref (z_ad X 70)), (2, .int x2), (3, .int 0), (4, .int 0)] [2, 3, 4, 1, 0] rfl ?_
  exact b_Read_readAll_70_L37 hE hret z_F x2 0 0 g16q h
theorem dX10_in_0 : decode cX10_in 0 = .ok (.lload_n 0, 1) := by decide +kernel
theorem dX10_in_1 : decode cX10_in 1 = .ok (.lload_n 2, 1) := by decide +kernel
theorem dX10_in_2 : decode cX10_in 2 = .ok (.lcmp, 1) := by decide +kernel
theorem dX10_in_3 : decode cX10_in 3 = .ok (.ifCond .lt 14, 3) := by decide +kernel
theorem dX10_in_6 : decode cX10_in 6 = .ok (.lload_n 0, 1) := by decide +kernel
theorem dX10_in_7 : decode cX10_in 7 = .ok (.lload 4, 2) := by decide +kernel
theorem dX10_in_9 : decode cX10_in 9 = .ok (.lcmp, 1) := by decide +kernel
theorem dX10_in_10 : decode cX10_in 10 = .ok (.ifCond .gt 7, 3) := by decide +kernel
theorem dX10_in_13 : decode cX10_in 13 = .ok (.iconst 1, 1) := by decide +kernel
theorem dX10_in_14 : decode cX10_in 14 = .ok (.goto 4, 3) := by decide +kernel
theorem dX10_in_17 : decode cX10_in 17 = .ok (.iconst 0, 1) := by decide +kernel
theorem dX10_in_18 : decode cX10_in 18 = .ok (.ireturn, 1) := by decide +kernel
def s_Mod_in_b17 : Int32 := 0
def s_Mod_in (x0 : Int64) (x2 : Int64) (x4 : Int64) : Int32 := (if (lg_cmp x0 x2) < 0 then (s_Mod_in_b17) else (if (0 : Int32) < (lg_cmp x0 x4) then (s_Mod_in_b17) else 1))
set_option maxHeartbeats 1000000 in
set_option maxRecDepth 20000 in
theorem b_Mod_in_b17 {X : z_X} {E : z_ET} {o : z_G} {g : z_G} (hE : z_EV X E cX10_in 6 RX10 0 0 80) {r : Int32} (hret : ∀ (pc : Nat) (lv : List (Nat × Value)), z_bit r = true → decode cX10_in pc = .ok (.ireturn, 1) → z_V X E 6 o g pc lv [.int r])   (h : s_Mod_in_b17 = r) : z_V X E 6 o g 17 [] [] := by
  unfold s_Mod_in_b17 at h
  refine z_iconst (v := 0) hE dX10_in_17 rfl ?_
  subst h
  exact hret _ _ z_b0 dX10_in_18
set_option maxHeartbeats 1000000 in
set_option maxRecDepth 20000 in
theorem t_Mod_in (x0 : Int64) (x2 : Int64) (x4 : Int64) : z_bit (s_Mod_in x0 x2 x4) = true := by
  unfold s_Mod_in s_Mod_in_b17
  repeat' split
  all_goals (first | rfl | decide | rfl)
set_option maxHeartbeats 1000000 in
set_option maxRecDepth 20000 in
theorem c_Mod_in {X : z_X} {l : Launch} {o : z_G} (x0 : Int64) (x2 : Int64) (x4 : Int64) (g : z_G) : z_MI X l 80 yX10_in cX10_in 6 (some .boolean) 0 0 [.long x0, .long x2, .long x4] o g o g (s_Mod_in x0 x2 x4) := by
  obtain ⟨r, h⟩ : ∃ r, s_Mod_in x0 x2 x4 = r := ⟨_, rfl⟩
  rw [h]
  unfold s_Mod_in at h
  refine z_metz (by decide) (Nat.le_of_ble_eq_true rfl) (fun E hl hE hret => ?_)
  subst hl
  refine z_lload_n hE 0 dX10_in_0 rfl ?_
  refine z_lload_n hE 1 dX10_in_1 rfl ?_
  refine z_lcmp hE dX10_in_2 ?_
  refine z_if_lt hE 17 dX10_in_3 rfl (fun c3q => ?_) (fun c3q => ?_)
  · replace h := z_t c3q h
    refine z_sub [] [] rfl ?_
    exact b_Mod_in_b17 hE hret h
  · replace h := z_f c3q h
    refine z_lload_n hE 0 dX10_in_6 rfl ?_
    refine z_lload hE 2 dX10_in_7 rfl ?_
    refine z_lcmp hE dX10_in_9 ?_
    refine z_if_gt hE 17 dX10_in_10 rfl (fun c4q => ?_) (fun c4q => ?_)
    · replace h := z_t c4q h
      refine z_sub [] [] rfl ?_
      exact b_Mod_in_b17 hE hret h
    · replace h := z_f c4q h
      refine z_iconst (v := 1) hE dX10_in_13 rfl ?_
      refine z_goto hE 18 dX10_in_14 rfl ?_
      subst h
      exact hret _ _ z_b1 dX10_in_18
theorem dX10_write_0 : decode cX10_write 0 = .ok (.iload_n 1, 1) := by decide +kernel
theorem dX10_write_1 : decode cX10_write 1 = .ok (.i2l, 1) := by decide +kernel
theorem dX10_write_2 : decode cX10_write 2 = .ok (.ldc2_w 64, 3) := by decide +kernel
theorem dX10_write_5 : decode cX10_write 5 = .ok (.ldc2_w 66, 3) := by decide +kernel
theorem dX10_write_8 : decode cX10_write 8 = .ok (.invokestatic 60, 3) := by decide +kernel
theorem dX10_write_11 : decode cX10_write 11 = .ok (.ifCond .ne 5, 3) := by decide +kernel
theorem dX10_write_14 : decode cX10_write 14 = .ok (.iconst (-1), 1) := by decide +kernel
theorem dX10_write_15 : decode cX10_write 15 = .ok (.ireturn, 1) := by decide +kernel
theorem dX10_write_16 : decode cX10_write 16 = .ok (.aload_n 0, 1) := by decide +kernel
theorem dX10_write_17 : decode cX10_write 17 = .ok (.getfield 68, 3) := by decide +kernel
theorem dX10_write_20 : decode cX10_write 20 = .ok (.sipush 200, 3) := by decide +kernel
theorem dX10_write_23 : decode cX10_write 23 = .ok (.if_icmp .ne 6, 3) := by decide +kernel
theorem dX10_write_26 : decode cX10_write 26 = .ok (.bipush (-3), 2) := by decide +kernel
theorem dX10_write_28 : decode cX10_write 28 = .ok (.ireturn, 1) := by decide +kernel
theorem dX10_write_29 : decode cX10_write 29 = .ok (.aload_n 0, 1) := by decide +kernel
theorem dX10_write_30 : decode cX10_write 30 = .ok (.getfield 16, 3) := by decide +kernel
theorem dX10_write_33 : decode cX10_write 33 = .ok (.aload_n 0, 1) := by decide +kernel
theorem dX10_write_34 : decode cX10_write 34 = .ok (.getfield 68, 3) := by decide +kernel
theorem dX10_write_37 : decode cX10_write 37 = .ok (.iload_n 1, 1) := by decide +kernel
theorem dX10_write_38 : decode cX10_write 38 = .ok (.i2b, 1) := by decide +kernel
theorem dX10_write_39 : decode cX10_write 39 = .ok (.bastore, 1) := by decide +kernel
theorem dX10_write_40 : decode cX10_write 40 = .ok (.aload_n 0, 1) := by decide +kernel
theorem dX10_write_41 : decode cX10_write 41 = .ok (.dup, 1) := by decide +kernel
theorem dX10_write_42 : decode cX10_write 42 = .ok (.getfield 68, 3) := by decide +kernel
theorem dX10_write_45 : decode cX10_write 45 = .ok (.iconst 1, 1) := by decide +kernel
theorem dX10_write_46 : decode cX10_write 46 = .ok (.iadd, 1) := by decide +kernel
theorem dX10_write_47 : decode cX10_write 47 = .ok (.putfield 68, 3) := by decide +kernel
theorem dX10_write_50 : decode cX10_write 50 = .ok (.aload_n 0, 1) := by decide +kernel
theorem dX10_write_51 : decode cX10_write 51 = .ok (.getfield 68, 3) := by decide +kernel
theorem dX10_write_54 : decode cX10_write 54 = .ok (.ireturn, 1) := by decide +kernel
def s_Mod_write (x1 : Int32) (g : z_G) : Option (Int32 × z_G) := (if (s_Mod_in (Int32.toInt64 x1) 32 126) = 0 then (some ((-1), g)) else (if (g 0 4) = 200 then (some ((-3), g)) else (z_ck (z_inb (g 0 4) 200) (z_let (α := z_G) (z_wr g 3 (g 0 4) (vp_nar .byte ((Int32.toInt8 x1).toInt32))) fun g9q => (z_let (α := z_G) (z_up g9q 0 4 ((g9q 0 4) + 1)) fun g10q => (some ((g10q 0 4), g10q)))))))
set_option maxHeartbeats 1000000 in
set_option maxRecDepth 20000 in
theorem c_Mod_write {X : z_X} {l : Launch} {o : z_G} (x1 : Int32) (g : z_G) (r : Int32 × z_G) (h : s_Mod_write x1 g = some r) : z_MI X l 80 yX10_write cX10_write 2 (some .int) 1 25 [.ref (z_ad X 71), .int x1] o g o r.2 r.1 := by
  unfold s_Mod_write at h
  refine z_meti (ty := .int) rfl rfl (by decide) (Nat.le_of_ble_eq_true rfl) (fun E hl hE hret => ?_)
  subst hl
  refine z_iload_n hE 1 dX10_write_0 rfl ?_
  refine z_i2l hE dX10_write_1 ?_
  refine z_ldc2 hE dX10_write_2 w_397 ?_
  refine z_ldc2 hE dX10_write_5 w_398 ?_
  refine z_iS (rest := []) (av := [.long (Int32.toInt64 x1), .long 32, .long 126]) hE (c_Mod_in (Int32.toInt64 x1) 32 126 g) l_RX10_60 (by decide) ⟨by decide, by decide⟩ dX10_write_8 rfl (Nat.le_of_ble_eq_true rfl) ?_
  refine z_if_ne hE 16 dX10_write_11 rfl (fun c6q => ?_) (fun c6q => ?_)
  · replace h := z_f c6q h
    refine z_aload_n hE 0 dX10_write_16 rfl ?_
    refine z_get hE f_RX10_68 (by decide) e_71 rfl dX10_write_17 ?_
    refine z_sipush (v := 200) hE dX10_write_20 rfl ?_
    refine z_icmp_ne hE 29 dX10_write_23 rfl (fun c7q => ?_) (fun c7q => ?_)
    · replace h := z_f c7q h
      refine z_aload_n hE 0 dX10_write_29 rfl ?_
      refine z_get hE f_RX10_16 (by decide) e_71 rfl dX10_write_30 ?_
      refine z_aload_n hE 0 dX10_write_33 rfl ?_
      refine z_get hE f_RX10_68 (by decide) e_71 rfl dX10_write_34 ?_
      refine z_iload_n hE 1 dX10_write_37 rfl ?_
      refine z_i2b hE dX10_write_38 ?_
      obtain ⟨k8q, h⟩ := z_ck_some h
      obtain ⟨g9q, eg9q, h⟩ := z_let_eq h
      refine z_bast hE (by decide) e_74 k8q (ua_74 eg9q) dX10_write_39 ?_
      refine z_aload_n hE 0 dX10_write_40 rfl ?_
      refine z_dup hE dX10_write_41 rfl ?_
      refine z_get hE f_RX10_68 (by decide) e_71 rfl dX10_write_42 ?_
      refine z_iconst (v := 1) hE dX10_write_45 rfl ?_
      refine z_iadd hE dX10_write_46 ?_
      obtain ⟨g10q, eg10q, h⟩ := z_let_eq h
      refine z_put hE f_RX10_68 ft_10 (by decide) e_71 rfl (tyX10_ok 4 (by decide)) rfl rfl (Nat.le_of_ble_eq_true rfl) (u_71_4 eg10q) dX10_write_47 ?_
      refine z_aload_n hE 0 dX10_write_50 rfl ?_
      refine z_get hE f_RX10_68 (by decide) e_71 rfl dX10_write_51 ?_
      obtain rfl := Option.some.inj h
      exact hret _ _ dX10_write_54
    · replace h := z_t c7q h
      refine z_bipush (v := (-3)) hE dX10_write_26 rfl ?_
      obtain rfl := Option.some.inj h
      exact hret _ _ dX10_write_28
  · replace h := z_t c6q h
    refine z_iconst (v := (-1)) hE dX10_write_14 rfl ?_
    obtain rfl := Option.some.inj h
    exact hret _ _ dX10_write_15
theorem dX10_wipe_0 : decode cX10_wipe 0 = .ok (.aload_n 0, 1) := by decide +kernel
theorem dX10_wipe_1 : decode cX10_wipe 1 = .ok (.getfield 68, 3) := by decide +kernel
theorem dX10_wipe_4 : decode cX10_wipe 4 = .ok (.istore_n 1, 1) := by decide +kernel
theorem dX10_wipe_5 : decode cX10_wipe 5 = .ok (.aload_n 0, 1) := by decide +kernel
theorem dX10_wipe_6 : decode cX10_wipe 6 = .ok (.iconst 0, 1) := by decide +kernel
theorem dX10_wipe_7 : decode cX10_wipe 7 = .ok (.putfield 68, 3) := by decide +kernel
theorem dX10_wipe_10 : decode cX10_wipe 10 = .ok (.iload_n 1, 1) := by decide +kernel
theorem dX10_wipe_11 : decode cX10_wipe 11 = .ok (.ireturn, 1) := by decide +kernel
def s_Mod_wipe (g : z_G) : Int32 × z_G := (z_let (α := z_G) (z_up g 0 4 0) fun g2q => ((g 0 4), g2q))
set_option maxHeartbeats 1000000 in
set_option maxRecDepth 20000 in
theorem c_Mod_wipe {X : z_X} {l : Launch} {o : z_G} (g : z_G) : z_MI X l 80 yX10_wipe cX10_wipe 2 (some .int) 0 0 [.ref (z_ad X 71)] o g o (s_Mod_wipe g).2 (s_Mod_wipe g).1 := by
  obtain ⟨r, h⟩ : ∃ r, s_Mod_wipe g = r := ⟨_, rfl⟩
  rw [h]
  unfold s_Mod_wipe at h
  refine z_meti (ty := .int) rfl rfl (by decide) (Nat.le_of_ble_eq_true rfl) (fun E hl hE hret => ?_)
  subst hl
  refine z_aload_n hE 0 dX10_wipe_0 rfl ?_
  refine z_get hE f_RX10_68 (by decide) e_71 rfl dX10_wipe_1 ?_
  refine z_istore_n hE [(1, .int (g 0 4)), (0, .ref (z_ad X 71))] dX10_wipe_4 rfl (by decide) rfl ?_
  refine z_aload_n hE 1 dX10_wipe_5 rfl ?_
  refine z_iconst (v := 0) hE dX10_wipe_6 rfl ?_
  obtain ⟨g2q, eg2q, h⟩ := z_let_eq h
  refine z_put hE f_RX10_68 ft_10 (by decide) e_71 rfl (tyX10_ok 4 (by decide)) rfl rfl (Nat.le_of_ble_eq_true rfl) (u_71_4 eg2q) dX10_wipe_7 ?_
  refine z_iload_n hE 0 dX10_wipe_10 rfl ?_
  subst h
  exact hret _ _ dX10_wipe_11
theorem dX10_next_0 : decode cX10_next 0 = .ok (.aload_n 0, 1) := by decide +kernel
theorem dX10_next_1 : decode cX10_next 1 = .ok (.getfield 71, 3) := by decide +kernel
theorem dX10_next_4 : decode cX10_next 4 = .ok (.aload_n 0, 1) := by decide +kernel
theorem dX10_next_5 : decode cX10_next 5 = .ok (.getfield 68, 3) := by decide +kernel
theorem dX10_next_8 : decode cX10_next 8 = .ok (.if_icmp .ge 15, 3) := by decide +kernel
theorem dX10_next_11 : decode cX10_next 11 = .ok (.aload_n 0, 1) := by decide +kernel
theorem dX10_next_12 : decode cX10_next 12 = .ok (.getfield 16, 3) := by decide +kernel
theorem dX10_next_15 : decode cX10_next 15 = .ok (.aload_n 0, 1) := by decide +kernel
theorem dX10_next_16 : decode cX10_next 16 = .ok (.getfield 71, 3) := by decide +kernel
theorem dX10_next_19 : decode cX10_next 19 = .ok (.baload, 1) := by decide +kernel
theorem dX10_next_20 : decode cX10_next 20 = .ok (.goto 4, 3) := by decide +kernel
theorem dX10_next_23 : decode cX10_next 23 = .ok (.iconst (-1), 1) := by decide +kernel
theorem dX10_next_24 : decode cX10_next 24 = .ok (.ireturn, 1) := by decide +kernel
def s_Mod_next (g : z_G) : Option (Int32) := (if (g 0 4) ≤ (g 0 6) then (some (-1)) else (z_ck (z_inb (g 0 6) 200) (some (z_rd g 3 (g 0 6)))))
set_option maxHeartbeats 1000000 in
set_option maxRecDepth 20000 in
theorem c_Mod_next {X : z_X} {l : Launch} {o : z_G} (g : z_G) (r : Int32) (h : s_Mod_next g = some r) : z_MI X l 80 yX10_next cX10_next 1 (some .int) 0 0 [.ref (z_ad X 71)] o g o g r := by
  unfold s_Mod_next at h
  refine z_meti (ty := .int) rfl rfl (by decide) (Nat.le_of_ble_eq_true rfl) (fun E hl hE hret => ?_)
  subst hl
  refine z_aload_n hE 0 dX10_next_0 rfl ?_
  refine z_get hE f_RX10_71 (by decide) e_71 rfl dX10_next_1 ?_
  refine z_aload_n hE 0 dX10_next_4 rfl ?_
  refine z_get hE f_RX10_68 (by decide) e_71 rfl dX10_next_5 ?_
  refine z_icmp_ge hE 23 dX10_next_8 rfl (fun c3q => ?_) (fun c3q => ?_)
  · replace h := z_t c3q h
    refine z_iconst (v := (-1)) hE dX10_next_23 rfl ?_
    obtain rfl := Option.some.inj h
    exact hret _ _ dX10_next_24
  · replace h := z_f c3q h
    refine z_aload_n hE 0 dX10_next_11 rfl ?_
    refine z_get hE f_RX10_16 (by decide) e_71 rfl dX10_next_12 ?_
    refine z_aload_n hE 0 dX10_next_15 rfl ?_
    refine z_get hE f_RX10_71 (by decide) e_71 rfl dX10_next_16 ?_
    obtain ⟨k4q, h⟩ := z_ck_some h
    refine z_bald hE (by decide) e_74 k4q dX10_next_19 ?_
    refine z_goto hE 24 dX10_next_20 rfl ?_
    obtain rfl := Option.some.inj h
    exact hret _ _ dX10_next_24
theorem dX10_number_0 : decode cX10_number 0 = .ok (.iconst 0, 1) := by decide +kernel
theorem dX10_number_1 : decode cX10_number 1 = .ok (.istore_n 3, 1) := by decide +kernel
theorem dX10_number_2 : decode cX10_number 2 = .ok (.iconst 0, 1) := by decide +kernel
theorem dX10_number_3 : decode cX10_number 3 = .ok (.istore 4, 2) := by decide +kernel
theorem dX10_number_5 : decode cX10_number 5 = .ok (.aload_n 0, 1) := by decide +kernel
theorem dX10_number_6 : decode cX10_number 6 = .ok (.invokevirtual 74, 3) := by decide +kernel
theorem dX10_number_9 : decode cX10_number 9 = .ok (.i2l, 1) := by decide +kernel
theorem dX10_number_10 : decode cX10_number 10 = .ok (.ldc2_w 77, 3) := by decide +kernel
theorem dX10_number_13 : decode cX10_number 13 = .ok (.ldc2_w 79, 3) := by decide +kernel
theorem dX10_number_16 : decode cX10_number 16 = .ok (.invokestatic 60, 3) := by decide +kernel
theorem dX10_number_19 : decode cX10_number 19 = .ok (.ifCond .eq 38, 3) := by decide +kernel
theorem dX10_number_22 : decode cX10_number 22 = .ok (.iload 4, 2) := by decide +kernel
theorem dX10_number_24 : decode cX10_number 24 = .ok (.iconst 3, 1) := by decide +kernel
theorem dX10_number_25 : decode cX10_number 25 = .ok (.if_icmp .ge 32, 3) := by decide +kernel
theorem dX10_number_28 : decode cX10_number 28 = .ok (.bipush 10, 2) := by decide +kernel
theorem dX10_number_30 : decode cX10_number 30 = .ok (.iload_n 3, 1) := by decide +kernel
theorem dX10_number_31 : decode cX10_number 31 = .ok (.imul, 1) := by decide +kernel
theorem dX10_number_32 : decode cX10_number 32 = .ok (.aload_n 0, 1) := by decide +kernel
theorem dX10_number_33 : decode cX10_number 33 = .ok (.invokevirtual 74, 3) := by decide +kernel
theorem dX10_number_36 : decode cX10_number 36 = .ok (.iadd, 1) := by decide +kernel
theorem dX10_number_37 : decode cX10_number 37 = .ok (.bipush 48, 2) := by decide +kernel
theorem dX10_number_39 : decode cX10_number 39 = .ok (.isub, 1) := by decide +kernel
theorem dX10_number_40 : decode cX10_number 40 = .ok (.istore_n 3, 1) := by decide +kernel
theorem dX10_number_41 : decode cX10_number 41 = .ok (.iinc 4 1, 3) := by decide +kernel
theorem dX10_number_44 : decode cX10_number 44 = .ok (.aload_n 0, 1) := by decide +kernel
theorem dX10_number_45 : decode cX10_number 45 = .ok (.dup, 1) := by decide +kernel
theorem dX10_number_46 : decode cX10_number 46 = .ok (.getfield 71, 3) := by decide +kernel
theorem dX10_number_49 : decode cX10_number 49 = .ok (.iconst 1, 1) := by decide +kernel
theorem dX10_number_50 : decode cX10_number 50 = .ok (.iadd, 1) := by decide +kernel
theorem dX10_number_51 : decode cX10_number 51 = .ok (.putfield 71, 3) := by decide +kernel
theorem dX10_number_54 : decode cX10_number 54 = .ok (.goto (-49), 3) := by decide +kernel
theorem dX10_number_57 : decode cX10_number 57 = .ok (.aload_n 0, 1) := by decide +kernel
theorem dX10_number_58 : decode cX10_number 58 = .ok (.aload_n 0, 1) := by decide +kernel
theorem dX10_number_59 : decode cX10_number 59 = .ok (.getfield 81, 3) := by decide +kernel
theorem dX10_number_62 : decode cX10_number 62 = .ok (.ifCond .ne 26, 3) := by decide +kernel
theorem dX10_number_65 : decode cX10_number 65 = .ok (.iload 4, 2) := by decide +kernel
theorem dX10_number_67 : decode cX10_number 67 = .ok (.ifCond .eq 21, 3) := by decide +kernel
theorem dX10_number_70 : decode cX10_number 70 = .ok (.iload 4, 2) := by decide +kernel
theorem dX10_number_72 : decode cX10_number 72 = .ok (.iconst 2, 1) := by decide +kernel
theorem dX10_number_73 : decode cX10_number 73 = .ok (.if_icmp .gt 15, 3) := by decide +kernel
theorem dX10_number_76 : decode cX10_number 76 = .ok (.iload_n 3, 1) := by decide +kernel
theorem dX10_number_77 : decode cX10_number 77 = .ok (.i2l, 1) := by decide +kernel
theorem dX10_number_78 : decode cX10_number 78 = .ok (.iload_n 1, 1) := by decide +kernel
theorem dX10_number_79 : decode cX10_number 79 = .ok (.i2l, 1) := by decide +kernel
theorem dX10_number_80 : decode cX10_number 80 = .ok (.iload_n 2, 1) := by decide +kernel
theorem dX10_number_81 : decode cX10_number 81 = .ok (.i2l, 1) := by decide +kernel
theorem dX10_number_82 : decode cX10_number 82 = .ok (.invokestatic 60, 3) := by decide +kernel
theorem dX10_number_85 : decode cX10_number 85 = .ok (.ifCond .ne 7, 3) := by decide +kernel
theorem dX10_number_88 : decode cX10_number 88 = .ok (.iconst 1, 1) := by decide +kernel
theorem dX10_number_89 : decode cX10_number 89 = .ok (.goto 4, 3) := by decide +kernel
theorem dX10_number_92 : decode cX10_number 92 = .ok (.iconst 0, 1) := by decide +kernel
theorem dX10_number_93 : decode cX10_number 93 = .ok (.putfield 81, 3) := by decide +kernel
theorem dX10_number_96 : decode cX10_number 96 = .ok (.aload_n 0, 1) := by decide +kernel
theorem dX10_number_97 : decode cX10_number 97 = .ok (.getfield 81, 3) := by decide +kernel
theorem dX10_number_100 : decode cX10_number 100 = .ok (.ifCond .eq 7, 3) := by decide +kernel
theorem dX10_number_103 : decode cX10_number 103 = .ok (.iconst 0, 1) := by decide +kernel
theorem dX10_number_104 : decode cX10_number 104 = .ok (.goto 4, 3) := by decide +kernel
theorem dX10_number_107 : decode cX10_number 107 = .ok (.iload_n 3, 1) := by decide +kernel
theorem dX10_number_108 : decode cX10_number 108 = .ok (.ireturn, 1) := by decide +kernel
def s_Mod_number_b93 (x3 : Int32) (s1 : Int32) (g : z_G) : Option (Int32 × z_G) := (z_ck (z_bit s1) (z_let (α := z_G) (z_up g 0 8 s1) fun g15q => (if (g15q 0 8) = 0 then (some (x3, g15q)) else (some (0, g15q)))))
def s_Mod_number_b88 (x3 : Int32) (g : z_G) : Option (Int32 × z_G) := (s_Mod_number_b93 x3 1 g)
def s_Mod_number_b57 (x1 : Int32) (x2 : Int32) (x3 : Int32) (x4 : Int32) (g : z_G) : Option (Int32 × z_G) := (if (g 0 8) = 0 then (if x4 = 0 then (s_Mod_number_b88 x3 g) else (if 2 < x4 then (s_Mod_number_b88 x3 g) else (if (s_Mod_in (Int32.toInt64 x3) (Int32.toInt64 x1) (Int32.toInt64 x2)) = 0 then (s_Mod_number_b88 x3 g) else (s_Mod_number_b93 x3 0 g)))) else (s_Mod_number_b88 x3 g))
def s_Mod_number_L5 : Nat → Int32 → Int32 → Int32 → Int32 → z_G → Option (Int32 × z_G)
  | 0, _, _, _, _, _ => none
  | n + 1, x1, x2, x3, x4, g => (Option.bind (s_Mod_next g) fun r21q => (if (s_Mod_in (Int32.toInt64 r21q) 48 57) = 0 then (s_Mod_number_b57 x1 x2 x3 x4 g) else (if 3 ≤ x4 then (s_Mod_number_b57 x1 x2 x3 x4 g) else (Option.bind (s_Mod_next g) fun r24q => (z_let (α := Int32) ((((10 * x3) + r24q) - 48)) fun v25q => (z_let (α := z_G) (z_up g 0 6 ((g 0 6) + 1)) fun g26q => ((s_Mod_number_L5 n) x1 x2 v25q (x4 + 1) g26q)))))))
def s_Mod_number (x1 : Int32) (x2 : Int32) (g : z_G) : Option (Int32 × z_G) := (s_Mod_number_L5 z_F x1 x2 0 0 g)
set_option maxHeartbeats 1000000 in
set_option maxRecDepth 20000 in
theorem b_Mod_number_b93 {X : z_X} {E : z_ET} {o : z_G} (hE : z_EV X E cX10_number 5 RX10 1 25 80) {r : Int32 × z_G} (hret : ∀ (pc : Nat) (lv : List (Nat × Value)), decode cX10_number pc = .ok (.ireturn, 1) → z_V X E 5 o r.2 pc lv [.int r.1]) (x3 : Int32) (s1 : Int32) (g : z_G)  (h : s_Mod_number_b93 x3 s1 g = some r) : z_V X E 5 o g 93 [(0, .ref (z_ad X 71)), (3, .int x3)] [.int s1, .ref (z_ad X 71)] := by
  unfold s_Mod_number_b93 at h
  obtain ⟨k14q, h⟩ := z_ck_some h
  obtain ⟨g15q, eg15q, h⟩ := z_let_eq h
  refine z_put hE f_RX10_81 ft_10 (by decide) e_71 rfl (tyX10_ok 8 (by decide)) (z_bit_nar k14q).1 (z_bit_nar k14q).2 (Nat.le_of_ble_eq_true rfl) (u_71_8 eg15q) dX10_number_93 ?_
  refine z_aload_n hE 0 dX10_number_96 rfl ?_
  refine z_get hE f_RX10_81 (by decide) e_71 rfl dX10_number_97 ?_
  refine z_if_eq hE 107 dX10_number_100 rfl (fun c16q => ?_) (fun c16q => ?_)
  · replace h := z_t c16q h
    refine z_iload_n hE 1 dX10_number_107 rfl ?_
    obtain rfl := Option.some.inj h
    exact hret _ _ dX10_number_108
  · replace h := z_f c16q h
    refine z_iconst (v := 0) hE dX10_number_103 rfl ?_
    refine z_goto hE 108 dX10_number_104 rfl ?_
    obtain rfl := Option.some.inj h
    exact hret _ _ dX10_number_108
set_option maxHeartbeats 1000000 in
set_option maxRecDepth 20000 in
theorem b_Mod_number_b88 {X : z_X} {E : z_ET} {o : z_G} (hE : z_EV X E cX10_number 5 RX10 1 25 80) {r : Int32 × z_G} (hret : ∀ (pc : Nat) (lv : List (Nat × Value)), decode cX10_number pc = .ok (.ireturn, 1) → z_V X E 5 o r.2 pc lv [.int r.1]) (x3 : Int32) (g : z_G)  (h : s_Mod_number_b88 x3 g = some r) : z_V X E 5 o g 88 [(0, .ref (z_ad X 71)), (3, .int x3)] [.ref (z_ad X 71)] := by
  unfold s_Mod_number_b88 at h
  refine z_iconst (v := 1) hE dX10_number_88 rfl ?_
  refine z_goto hE 93 dX10_number_89 rfl ?_
  exact b_Mod_number_b93 hE hret x3 1 g h
set_option maxHeartbeats 1000000 in
set_option maxRecDepth 20000 in
theorem b_Mod_number_b57 {X : z_X} {E : z_ET} {o : z_G} (hE : z_EV X E cX10_number 5 RX10 1 25 80) {r : Int32 × z_G} (hret : ∀ (pc : Nat) (lv : List (Nat × Value)), decode cX10_number pc = .ok (.ireturn, 1) → z_V X E 5 o r.2 pc lv [.int r.1]) (x1 : Int32) (x2 : Int32) (x3 : Int32) (x4 : Int32) (g : z_G)  (h : s_Mod_number_b57 x1 x2 x3 x4 g = some r) : z_V X E 5 o g 57 [(0, .ref (z_ad X 71)), (1, .int x1), (2, .int x2), (3, .int x3), (4, .int x4)] [] := by
  unfold s_Mod_number_b57 at h
  refine z_aload_n hE 0 dX10_number_57 rfl ?_
  refine z_aload_n hE 0 dX10_number_58 rfl ?_
  refine z_get hE f_RX10_81 (by decide) e_71 rfl dX10_number_59 ?_
  refine z_if_ne hE 88 dX10_number_62 rfl (fun c17q => ?_) (fun c17q => ?_)
  · replace h := z_f c17q h
    refine z_sub [(0, .ref (z_ad X 71)), (3, .int x3)] [0, 3] rfl ?_
    exact b_Mod_number_b88 hE hret x3 g h
  · replace h := z_t c17q h
    refine z_iload hE 4 dX10_number_65 rfl ?_
    refine z_if_eq hE 88 dX10_number_67 rfl (fun c18q => ?_) (fun c18q => ?_)
    · replace h := z_t c18q h
      refine z_sub [(0, .ref (z_ad X 71)), (3, .int x3)] [0, 3] rfl ?_
      exact b_Mod_number_b88 hE hret x3 g h
    · replace h := z_f c18q h
      refine z_iload hE 4 dX10_number_70 rfl ?_
      refine z_iconst (v := 2) hE dX10_number_72 rfl ?_
      refine z_icmp_gt hE 88 dX10_number_73 rfl (fun c19q => ?_) (fun c19q => ?_)
      · replace h := z_t c19q h
        refine z_sub [(0, .ref (z_ad X 71)), (3, .int x3)] [0, 3] rfl ?_
        exact b_Mod_number_b88 hE hret x3 g h
      · replace h := z_f c19q h
        refine z_iload_n hE 3 dX10_number_76 rfl ?_
        refine z_i2l hE dX10_number_77 ?_
        refine z_iload_n hE 1 dX10_number_78 rfl ?_
        refine z_i2l hE dX10_number_79 ?_
        refine z_iload_n hE 2 dX10_number_80 rfl ?_
        refine z_i2l hE dX10_number_81 ?_
        refine z_iS (rest := [.ref (z_ad X 71)]) (av := [.long (Int32.toInt64 x3), .long (Int32.toInt64 x1), .long (Int32.toInt64 x2)]) hE (c_Mod_in (Int32.toInt64 x3) (Int32.toInt64 x1) (Int32.toInt64 x2) g) l_RX10_60 (by decide) ⟨by decide, by decide⟩ dX10_number_82 rfl (Nat.le_of_ble_eq_true rfl) ?_
        refine z_if_ne hE 92 dX10_number_85 rfl (fun c20q => ?_) (fun c20q => ?_)
        · replace h := z_f c20q h
          refine z_iconst (v := 0) hE dX10_number_92 rfl ?_
          refine z_sub [(0, .ref (z_ad X 71)), (3, .int x3)] [0, 3] rfl ?_
          exact b_Mod_number_b93 hE hret x3 0 g h
        · replace h := z_t c20q h
          refine z_sub [(0, .ref (z_ad X 71)), (3, .int x3)] [0, 3] rfl ?_
          exact b_Mod_number_b88 hE hret x3 g h
set_option maxHeartbeats 1000000 in
set_option maxRecDepth 20000 in
theorem b_Mod_number_L5 {X : z_X} {E : z_ET} {o : z_G} (hE : z_EV X E cX10_number 5 RX10 1 25 80) {r : Int32 × z_G} (hret : ∀ (pc : Nat) (lv : List (Nat × Value)), decode cX10_number pc = .ok (.ireturn, 1) → z_V X E 5 o r.2 pc lv [.int r.1]) : ∀ (n : Nat) (x1 : Int32) (x2 : Int32) (x3 : Int32) (x4 : Int32) (g : z_G), s_Mod_number_L5 n x1 x2 x3 x4 g = some r → z_V X E 5 o g 5 [(0, .ref (z_ad X 71)), (1, .int x1), (2, .int x2), (3, .int x3), (4, .int x4)] [] := by
  intro n
  induction n with
  | zero => intro x1 x2 x3 x4 g h; exact z_none h
  | succ n ih =>
    intro x1 x2 x3 x4 g h
    rw [s_Mod_number_L5] at h
    refine z_aload_n hE 0 dX10_number_5 rfl ?_
    obtain ⟨r21q, hr21q, h⟩ := z_bind_some h
    refine z_iV (rest := []) (av := []) hE (c_Mod_next g r21q hr21q) l_RX10_74 (by decide) (by decide) e_71 rfl ⟨by decide, by decide⟩ dX10_number_6 rfl (Nat.le_of_ble_eq_true rfl) ?_
    refine z_i2l hE dX10_number_9 ?_
    refine z_ldc2 hE dX10_number_10 w_413 ?_
    refine z_ldc2 hE dX10_number_13 w_414 ?_
    refine z_iS (rest := []) (av := [.long (Int32.toInt64 r21q), .long 48, .long 57]) hE (c_Mod_in (Int32.toInt64 r21q) 48 57 g) l_RX10_60 (by decide) ⟨by decide, by decide⟩ dX10_number_16 rfl (Nat.le_of_ble_eq_true rfl) ?_
    refine z_if_eq hE 57 dX10_number_19 rfl (fun c22q => ?_) (fun c22q => ?_)
    · replace h := z_t c22q h
      exact b_Mod_number_b57 hE hret x1 x2 x3 x4 g h
    · replace h := z_f c22q h
      refine z_iload hE 4 dX10_number_22 rfl ?_
      refine z_iconst (v := 3) hE dX10_number_24 rfl ?_
      refine z_icmp_ge hE 57 dX10_number_25 rfl (fun c23q => ?_) (fun c23q => ?_)
      · replace h := z_t c23q h
        exact b_Mod_number_b57 hE hret x1 x2 x3 x4 g h
      · replace h := z_f c23q h
        refine z_bipush (v := 10) hE dX10_number_28 rfl ?_
        refine z_iload_n hE 3 dX10_number_30 rfl ?_
        refine z_imul hE dX10_number_31 ?_
        refine z_aload_n hE 0 dX10_number_32 rfl ?_
        obtain ⟨r24q, hr24q, h⟩ := z_bind_some h
        refine z_iV (rest := [.int (10 * x3)]) (av := []) hE (c_Mod_next g r24q hr24q) l_RX10_74 (by decide) (by decide) e_71 rfl ⟨by decide, by decide⟩ dX10_number_33 rfl (Nat.le_of_ble_eq_true rfl) ?_
        refine z_iadd hE dX10_number_36 ?_
        refine z_bipush (v := 48) hE dX10_number_37 rfl ?_
        refine z_isub hE dX10_number_39 ?_
        obtain ⟨v25q, ev25q, h⟩ := z_let_eq h
        refine z_topi ev25q ?_
        refine z_istore_n hE [(3, .int v25q), (0, .ref (z_ad X 71)), (1, .int x1), (2, .int x2), (4, .int x4)] dX10_number_40 rfl (by decide) rfl ?_
        refine z_iinc (v := x4 + 1) hE 4 [(4, .int (x4 + 1)), (3, .int v25q), (0, .ref (z_ad X 71)), (1, .int x1), (2, .int x2)] dX10_number_41 rfl rfl (by decide) rfl ?_
        refine z_aload_n hE 2 dX10_number_44 rfl ?_
        refine z_dup hE dX10_number_45 rfl ?_
        refine z_get hE f_RX10_71 (by decide) e_71 rfl dX10_number_46 ?_
        refine z_iconst (v := 1) hE dX10_number_49 rfl ?_
        refine z_iadd hE dX10_number_50 ?_
        obtain ⟨g26q, eg26q, h⟩ := z_let_eq h
        refine z_put hE f_RX10_71 ft_10 (by decide) e_71 rfl (tyX10_ok 6 (by decide)) rfl rfl (Nat.le_of_ble_eq_true rfl) (u_71_6 eg26q) dX10_number_51 ?_
        refine z_goto hE 5 dX10_number_54 rfl ?_
        refine z_sub [(0, .ref (z_ad X 71)), (1, .int x1), (2, .int x2), (3, .int v25q), (4, .int (x4 + 1))] [2, 3, 4, 1, 0] rfl ?_
        exact ih x1 x2 v25q (x4 + 1) g26q h
set_option maxHeartbeats 1000000 in
set_option maxRecDepth 20000 in
theorem c_Mod_number {X : z_X} {l : Launch} {o : z_G} (x1 : Int32) (x2 : Int32) (g : z_G) (r : Int32 × z_G) (h : s_Mod_number x1 x2 g = some r) : z_MI X l 80 yX10_number cX10_number 5 (some .int) 1 25 [.ref (z_ad X 71), .int x1, .int x2] o g o r.2 r.1 := by
  unfold s_Mod_number at h
  refine z_meti (ty := .int) rfl rfl (by decide) (Nat.le_of_ble_eq_true rfl) (fun E hl hE hret => ?_)
  subst hl
  refine z_iconst (v := 0) hE dX10_number_0 rfl ?_
  refine z_istore_n hE [(3, .int 0), (0, .ref (z_ad X 71)), (1, .int x1), (2, .int x2)] dX10_number_1 rfl (by decide) rfl ?_
  refine z_iconst (v := 0) hE dX10_number_2 rfl ?_
  refine z_istore hE [(4, .int 0), (3, .int 0), (0, .ref (z_ad X 71)), (1, .int x1), (2, .int x2)] dX10_number_3 (by decide) rfl ?_
  refine z_sub [(0, .ref (z_ad X 71)), (1, .int x1), (2, .int x2), (3, .int 0), (4, .int 0)] [2, 3, 4, 1, 0] rfl ?_
  exact b_Mod_number_L5 hE hret z_F x1 x2 0 0 g h
