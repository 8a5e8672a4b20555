theorem dX0_isAtHome_0 : decode cX0_isAtHome 0 = .ok (.aload_n 0, 1) := by decide +kernel
theorem dX0_isAtHome_1 : decode cX0_isAtHome 1 = .ok (.getfield 9, 3) := by decide +kernel
theorem dX0_isAtHome_4 : decode cX0_isAtHome 4 = .ok (.iload_n 1, 1) := by decide +kernel
theorem dX0_isAtHome_5 : decode cX0_isAtHome 5 = .ok (.iaload, 1) := by decide +kernel
theorem dX0_isAtHome_6 : decode cX0_isAtHome 6 = .ok (.invokestatic 65, 3) := by decide +kernel
theorem dX0_isAtHome_9 : decode cX0_isAtHome 9 = .ok (.aload_n 2, 1) := by decide +kernel
theorem dX0_isAtHome_10 : decode cX0_isAtHome 10 = .ok (.getfield 56, 3) := by decide +kernel
theorem dX0_isAtHome_13 : decode cX0_isAtHome 13 = .ok (.aload_n 2, 1) := by decide +kernel
theorem dX0_isAtHome_14 : decode cX0_isAtHome 14 = .ok (.getfield 53, 3) := by decide +kernel
theorem dX0_isAtHome_17 : decode cX0_isAtHome 17 = .ok (.iload_n 1, 1) := by decide +kernel
theorem dX0_isAtHome_18 : decode cX0_isAtHome 18 = .ok (.iaload, 1) := by decide +kernel
theorem dX0_isAtHome_19 : decode cX0_isAtHome 19 = .ok (.iaload, 1) := by decide +kernel
theorem dX0_isAtHome_20 : decode cX0_isAtHome 20 = .ok (.if_icmp .ne 7, 3) := by decide +kernel
theorem dX0_isAtHome_23 : decode cX0_isAtHome 23 = .ok (.iconst 1, 1) := by decide +kernel
theorem dX0_isAtHome_24 : decode cX0_isAtHome 24 = .ok (.goto 4, 3) := by decide +kernel
theorem dX0_isAtHome_27 : decode cX0_isAtHome 27 = .ok (.iconst 0, 1) := by decide +kernel
theorem dX0_isAtHome_28 : decode cX0_isAtHome 28 = .ok (.ireturn, 1) := by decide +kernel
def s_Col_isAtHome (c0 : Nat) (x1 : Int32) (g : z_G) : Option (Int32) := (z_ck (z_inb x1 6) (z_ck (z_inb x1 6) (z_ck (z_inb (z_rd g 45 x1) 4) (if (s_Ways_cellOf (z_rd g (3 * c0 + 1) x1)) = (z_rd g 44 (z_rd g 45 x1)) then (some 1) else (some 0)))))
set_option maxHeartbeats 1000000 in
set_option maxRecDepth 20000 in
theorem c_Col_isAtHome {X : z_X} {l : Launch} {o : z_G} (c0 : Nat) (x1 : Int32) (g : z_G) (hc0 : c0 < 13) (r : Int32) (h : s_Col_isAtHome c0 x1 g = some r) : z_MI X l 71 yX0_isAtHome cX0_isAtHome 3 (some .boolean) 1 20 [.ref (z_ad X (3 * c0)), .int x1, .ref (z_ad X 43)] g o g o r := by
  unfold s_Col_isAtHome at h
  refine z_metz (by decide) (Nat.le_of_ble_eq_true rfl) (fun E hl hE hret => ?_)
  subst hl
  refine z_aload_n hE 0 dX0_isAtHome_0 rfl ?_
  refine z_get hE f_RX0_9 (by omega) (e_col hc0) rfl dX0_isAtHome_1 ?_
  refine z_iload_n hE 1 dX0_isAtHome_4 rfl ?_
  obtain ⟨k5q, h⟩ := z_ck_some h
  refine z_iald hE (by omega) (e_spot hc0) k5q dX0_isAtHome_5 ?_
  refine z_iS (rest := []) (av := [.int (z_rd g (3 * c0 + 1) x1)]) hE (c_Ways_cellOf (z_rd g (3 * c0 + 1) x1) g) l_RX0_65 (by decide) ⟨by decide, by decide⟩ dX0_isAtHome_6 rfl (Nat.le_of_ble_eq_true rfl) ?_
  refine z_aload_n hE 2 dX0_isAtHome_9 rfl ?_
  refine z_get hE f_RX0_56 (by decide) e_43 rfl dX0_isAtHome_10 ?_
  refine z_aload_n hE 2 dX0_isAtHome_13 rfl ?_
  refine z_get hE f_RX0_53 (by decide) e_43 rfl dX0_isAtHome_14 ?_
  refine z_iload_n hE 1 dX0_isAtHome_17 rfl ?_
  obtain ⟨k6q, h⟩ := z_ck_some h
  refine z_iald hE (by decide) e_45 k6q dX0_isAtHome_18 ?_
  obtain ⟨k7q, h⟩ := z_ck_some h
  refine z_iald hE (by decide) e_44 k7q dX0_isAtHome_19 ?_
  refine z_icmp_ne hE 27 dX0_isAtHome_20 rfl (fun c8q => ?_) (fun c8q => ?_)
  · replace h := z_f c8q h
    refine z_iconst (v := 0) hE dX0_isAtHome_27 rfl ?_
    obtain rfl := Option.some.inj h
    exact hret _ _ z_b0 dX0_isAtHome_28
  · replace h := z_t c8q h
    refine z_iconst (v := 1) hE dX0_isAtHome_23 rfl ?_
    refine z_goto hE 28 dX0_isAtHome_24 rfl ?_
    obtain rfl := Option.some.inj h
    exact hret _ _ z_b1 dX0_isAtHome_28
theorem dX8_lookOf_0 : decode cX8_lookOf 0 = .ok (.iload_n 0, 1) := by decide +kernel
theorem dX8_lookOf_1 : decode cX8_lookOf 1 = .ok (.bipush 8, 2) := by decide +kernel
theorem dX8_lookOf_3 : decode cX8_lookOf 3 = .ok (.irem, 1) := by decide +kernel
theorem dX8_lookOf_4 : decode cX8_lookOf 4 = .ok (.ireturn, 1) := by decide +kernel
def s_Ways_lookOf (x0 : Int32) : Int32 := (z_rem x0 8)
set_option maxHeartbeats 1000000 in
set_option maxRecDepth 20000 in
theorem c_Ways_lookOf {X : z_X} {l : Launch} {o : z_G} (x0 : Int32) (g : z_G) : z_MI X l 71 yX8_lookOf cX8_lookOf 1 (some .int) 0 0 [.int x0] g o g o (s_Ways_lookOf x0) := by
  obtain ⟨r, h⟩ : ∃ r, s_Ways_lookOf x0 = r := ⟨_, rfl⟩
  rw [h]
  unfold s_Ways_lookOf at h
  refine z_meti (ty := .int) rfl rfl (by decide) (Nat.le_of_ble_eq_true rfl) (fun E hl hE hret => ?_)
  subst hl
  refine z_iload_n hE 0 dX8_lookOf_0 rfl ?_
  refine z_bipush (v := 8) hE dX8_lookOf_1 rfl ?_
  refine z_irem hE dX8_lookOf_3 (by decide) ?_
  subst h
  exact hret _ _ dX8_lookOf_4
theorem dX8_partOf_0 : decode cX8_partOf 0 = .ok (.iload_n 1, 1) := by decide +kernel
theorem dX8_partOf_1 : decode cX8_partOf 1 = .ok (.ifCond .ne 11, 3) := by decide +kernel
theorem dX8_partOf_4 : decode cX8_partOf 4 = .ok (.iload_n 0, 1) := by decide +kernel
theorem dX8_partOf_5 : decode cX8_partOf 5 = .ok (.invokestatic 15, 3) := by decide +kernel
theorem dX8_partOf_8 : decode cX8_partOf 8 = .ok (.invokestatic 19, 3) := by decide +kernel
theorem dX8_partOf_11 : decode cX8_partOf 11 = .ok (.ireturn, 1) := by decide +kernel
theorem dX8_partOf_12 : decode cX8_partOf 12 = .ok (.iload_n 1, 1) := by decide +kernel
theorem dX8_partOf_13 : decode cX8_partOf 13 = .ok (.iconst 1, 1) := by decide +kernel
theorem dX8_partOf_14 : decode cX8_partOf 14 = .ok (.if_icmp .ne 13, 3) := by decide +kernel
theorem dX8_partOf_17 : decode cX8_partOf 17 = .ok (.iload_n 0, 1) := by decide +kernel
theorem dX8_partOf_18 : decode cX8_partOf 18 = .ok (.invokestatic 15, 3) := by decide +kernel
theorem dX8_partOf_21 : decode cX8_partOf 21 = .ok (.invokestatic 22, 3) := by decide +kernel
theorem dX8_partOf_24 : decode cX8_partOf 24 = .ok (.goto 7, 3) := by decide +kernel
theorem dX8_partOf_27 : decode cX8_partOf 27 = .ok (.iload_n 0, 1) := by decide +kernel
theorem dX8_partOf_28 : decode cX8_partOf 28 = .ok (.invokestatic 25, 3) := by decide +kernel
theorem dX8_partOf_31 : decode cX8_partOf 31 = .ok (.ireturn, 1) := by decide +kernel
def s_Ways_partOf (x0 : Int32) (x1 : Int32) : Int32 := (if x1 = 0 then (s_Ways_columnOf (s_Ways_cellOf x0)) else (if x1 = 1 then (s_Ways_rowOf (s_Ways_cellOf x0)) else (s_Ways_lookOf x0)))
set_option maxHeartbeats 1000000 in
set_option maxRecDepth 20000 in
theorem c_Ways_partOf {X : z_X} {l : Launch} {o : z_G} (x0 : Int32) (x1 : Int32) (g : z_G) : z_MI X l 71 yX8_partOf cX8_partOf 2 (some .int) 1 20 [.int x0, .int x1] g o g o (s_Ways_partOf x0 x1) := by
  obtain ⟨r, h⟩ : ∃ r, s_Ways_partOf x0 x1 = r := ⟨_, rfl⟩
  rw [h]
  unfold s_Ways_partOf at h
  refine z_meti (ty := .int) rfl rfl (by decide) (Nat.le_of_ble_eq_true rfl) (fun E hl hE hret => ?_)
  subst hl
  refine z_iload_n hE 1 dX8_partOf_0 rfl ?_
  refine z_if_ne hE 12 dX8_partOf_1 rfl (fun c3q => ?_) (fun c3q => ?_)
  · replace h := z_f c3q h
    refine z_iload_n hE 1 dX8_partOf_12 rfl ?_
    refine z_iconst (v := 1) hE dX8_partOf_13 rfl ?_
    refine z_icmp_ne hE 27 dX8_partOf_14 rfl (fun c4q => ?_) (fun c4q => ?_)
    · replace h := z_f c4q h
      refine z_iload_n hE 0 dX8_partOf_27 rfl ?_
      refine z_iS (rest := []) (av := [.int x0]) hE (c_Ways_lookOf x0 g) l_RX8_25 (by decide) ⟨by decide, by decide⟩ dX8_partOf_28 rfl (Nat.le_of_ble_eq_true rfl) ?_
      subst h
      exact hret _ _ dX8_partOf_31
    · replace h := z_t c4q h
      refine z_iload_n hE 0 dX8_partOf_17 rfl ?_
      refine z_iS (rest := []) (av := [.int x0]) hE (c_Ways_cellOf x0 g) l_RX8_15 (by decide) ⟨by decide, by decide⟩ dX8_partOf_18 rfl (Nat.le_of_ble_eq_true rfl) ?_
      refine z_iS (rest := []) (av := [.int (s_Ways_cellOf x0)]) hE (c_Ways_rowOf (s_Ways_cellOf x0) g) l_RX8_22 (by decide) ⟨by decide, by decide⟩ dX8_partOf_21 rfl (Nat.le_of_ble_eq_true rfl) ?_
      refine z_goto hE 31 dX8_partOf_24 rfl ?_
      subst h
      exact hret _ _ dX8_partOf_31
  · replace h := z_t c3q h
    refine z_iload_n hE 0 dX8_partOf_4 rfl ?_
    refine z_iS (rest := []) (av := [.int x0]) hE (c_Ways_cellOf x0 g) l_RX8_15 (by decide) ⟨by decide, by decide⟩ dX8_partOf_5 rfl (Nat.le_of_ble_eq_true rfl) ?_
    refine z_iS (rest := []) (av := [.int (s_Ways_cellOf x0)]) hE (c_Ways_columnOf (s_Ways_cellOf x0) g) l_RX8_19 (by decide) ⟨by decide, by decide⟩ dX8_partOf_8 rfl (Nat.le_of_ble_eq_true rfl) ?_
    subst h
    exact hret _ _ dX8_partOf_11
theorem dX9_man_0 : decode cX9_man 0 = .ok (.aload_n 0, 1) := by decide +kernel
theorem dX9_man_1 : decode cX9_man 1 = .ok (.iload_n 1, 1) := by decide +kernel
theorem dX9_man_2 : decode cX9_man 2 = .ok (.invokevirtual 107, 3) := by decide +kernel
theorem dX9_man_5 : decode cX9_man 5 = .ok (.ifCond .ne 5, 3) := by decide +kernel
theorem dX9_man_8 : decode cX9_man 8 = .ok (.iconst (-1), 1) := by decide +kernel
theorem dX9_man_9 : decode cX9_man 9 = .ok (.ireturn, 1) := by decide +kernel
theorem dX9_man_10 : decode cX9_man 10 = .ok (.iload_n 2, 1) := by decide +kernel
theorem dX9_man_11 : decode cX9_man 11 = .ok (.tableswitch 137 0 8 #[49, 49, 49, 63, 73, 83, 93, 105, 121], 49) := by decide +kernel
theorem dX9_man_60 : decode cX9_man 60 = .ok (.aload_n 0, 1) := by decide +kernel
theorem dX9_man_61 : decode cX9_man 61 = .ok (.getfield 30, 3) := by decide +kernel
theorem dX9_man_64 : decode cX9_man 64 = .ok (.getfield 111, 3) := by decide +kernel
theorem dX9_man_67 : decode cX9_man 67 = .ok (.iload_n 1, 1) := by decide +kernel
theorem dX9_man_68 : decode cX9_man 68 = .ok (.iaload, 1) := by decide +kernel
theorem dX9_man_69 : decode cX9_man 69 = .ok (.iload_n 2, 1) := by decide +kernel
theorem dX9_man_70 : decode cX9_man 70 = .ok (.invokestatic 115, 3) := by decide +kernel
theorem dX9_man_73 : decode cX9_man 73 = .ok (.ireturn, 1) := by decide +kernel
theorem dX9_man_74 : decode cX9_man 74 = .ok (.aload_n 0, 1) := by decide +kernel
theorem dX9_man_75 : decode cX9_man 75 = .ok (.getfield 23, 3) := by decide +kernel
theorem dX9_man_78 : decode cX9_man 78 = .ok (.getfield 121, 3) := by decide +kernel
theorem dX9_man_81 : decode cX9_man 81 = .ok (.iload_n 1, 1) := by decide +kernel
theorem dX9_man_82 : decode cX9_man 82 = .ok (.iaload, 1) := by decide +kernel
theorem dX9_man_83 : decode cX9_man 83 = .ok (.ireturn, 1) := by decide +kernel
theorem dX9_man_84 : decode cX9_man 84 = .ok (.aload_n 0, 1) := by decide +kernel
theorem dX9_man_85 : decode cX9_man 85 = .ok (.getfield 30, 3) := by decide +kernel
theorem dX9_man_88 : decode cX9_man 88 = .ok (.getfield 124, 3) := by decide +kernel
theorem dX9_man_91 : decode cX9_man 91 = .ok (.iload_n 1, 1) := by decide +kernel
theorem dX9_man_92 : decode cX9_man 92 = .ok (.iaload, 1) := by decide +kernel
theorem dX9_man_93 : decode cX9_man 93 = .ok (.ireturn, 1) := by decide +kernel
theorem dX9_man_94 : decode cX9_man 94 = .ok (.aload_n 0, 1) := by decide +kernel
theorem dX9_man_95 : decode cX9_man 95 = .ok (.getfield 23, 3) := by decide +kernel
theorem dX9_man_98 : decode cX9_man 98 = .ok (.getfield 127, 3) := by decide +kernel
theorem dX9_man_101 : decode cX9_man 101 = .ok (.iload_n 1, 1) := by decide +kernel
theorem dX9_man_102 : decode cX9_man 102 = .ok (.iaload, 1) := by decide +kernel
theorem dX9_man_103 : decode cX9_man 103 = .ok (.ireturn, 1) := by decide +kernel
theorem dX9_man_104 : decode cX9_man 104 = .ok (.aload_n 0, 1) := by decide +kernel
theorem dX9_man_105 : decode cX9_man 105 = .ok (.getfield 30, 3) := by decide +kernel
theorem dX9_man_108 : decode cX9_man 108 = .ok (.iload_n 1, 1) := by decide +kernel
theorem dX9_man_109 : decode cX9_man 109 = .ok (.invokevirtual 130, 3) := by decide +kernel
theorem dX9_man_112 : decode cX9_man 112 = .ok (.invokestatic 133, 3) := by decide +kernel
theorem dX9_man_115 : decode cX9_man 115 = .ok (.ireturn, 1) := by decide +kernel
theorem dX9_man_116 : decode cX9_man 116 = .ok (.aload_n 0, 1) := by decide +kernel
theorem dX9_man_117 : decode cX9_man 117 = .ok (.getfield 30, 3) := by decide +kernel
theorem dX9_man_120 : decode cX9_man 120 = .ok (.iload_n 1, 1) := by decide +kernel
theorem dX9_man_121 : decode cX9_man 121 = .ok (.aload_n 0, 1) := by decide +kernel
theorem dX9_man_122 : decode cX9_man 122 = .ok (.getfield 23, 3) := by decide +kernel
theorem dX9_man_125 : decode cX9_man 125 = .ok (.invokevirtual 137, 3) := by decide +kernel
theorem dX9_man_128 : decode cX9_man 128 = .ok (.invokestatic 133, 3) := by decide +kernel
theorem dX9_man_131 : decode cX9_man 131 = .ok (.ireturn, 1) := by decide +kernel
theorem dX9_man_132 : decode cX9_man 132 = .ok (.aload_n 0, 1) := by decide +kernel
theorem dX9_man_133 : decode cX9_man 133 = .ok (.getfield 30, 3) := by decide +kernel
theorem dX9_man_136 : decode cX9_man 136 = .ok (.iload_n 1, 1) := by decide +kernel
theorem dX9_man_137 : decode cX9_man 137 = .ok (.aload_n 0, 1) := by decide +kernel
theorem dX9_man_138 : decode cX9_man 138 = .ok (.getfield 23, 3) := by decide +kernel
theorem dX9_man_141 : decode cX9_man 141 = .ok (.invokevirtual 141, 3) := by decide +kernel
theorem dX9_man_144 : decode cX9_man 144 = .ok (.invokestatic 133, 3) := by decide +kernel
theorem dX9_man_147 : decode cX9_man 147 = .ok (.ireturn, 1) := by decide +kernel
theorem dX9_man_148 : decode cX9_man 148 = .ok (.iconst (-1), 1) := by decide +kernel
theorem dX9_man_149 : decode cX9_man 149 = .ok (.ireturn, 1) := by decide +kernel
def s_Top_man_b60 (g : z_G) (x1 : Int32) (x2 : Int32) : Option (Int32) := (z_ck (z_inb x1 6) (some (s_Ways_partOf (z_rd g 1 x1) x2)))
def s_Top_man (x1 : Int32) (x2 : Int32) (g : z_G) : Option (Int32) := (if (s_Top_isMan x1 g) = 0 then (some (-1)) else (if x2 = 0 then (s_Top_man_b60 g x1 x2) else (if x2 = 1 then (s_Top_man_b60 g x1 x2) else (if x2 = 2 then (s_Top_man_b60 g x1 x2) else (if x2 = 3 then (z_ck (z_inb x1 6) (some (z_rd g 45 x1))) else (if x2 = 4 then (z_ck (z_inb x1 6) (some (z_rd g 2 x1))) else (if x2 = 5 then (z_ck (z_inb x1 6) (some (z_rd g 46 x1))) else (if x2 = 6 then (some (s_Top_asNumber (s_Col_isTied 0 x1 g))) else (if x2 = 7 then (Option.bind (s_Col_isLost 0 x1 g) fun r30q => (some (s_Top_asNumber r30q))) else (if x2 = 8 then (Option.bind (s_Col_isAtHome 0 x1 g) fun r32q => (some (s_Top_asNumber r32q))) else (some (-1))))))))))))
set_option maxHeartbeats 1000000 in
set_option maxRecDepth 20000 in
theorem b_Top_man_b60 {X : z_X} {E : z_ET} {o : z_G} (hE : z_EV X E cX9_man 3 RX9 3 73 71) {g : z_G} {r : Int32} (hret : ∀ (pc : Nat) (lv : List (Nat × Value)), decode cX9_man pc = .ok (.ireturn, 1) → z_V X E 3 g o pc lv [.int r]) (x1 : Int32) (x2 : Int32)  (h : s_Top_man_b60 g x1 x2 = some r) : z_V X E 3 g o 60 [(0, .ref (z_ad X 39)), (1, .int x1), (2, .int x2)] [] := by
  unfold s_Top_man_b60 at h
  refine z_aload_n hE 0 dX9_man_60 rfl ?_
  refine z_get hE f_RX9_30 (by decide) e_39 rfl dX9_man_61 ?_
  refine z_get hE f_RX9_111 (by decide) e_0 rfl dX9_man_64 ?_
  refine z_iload_n hE 1 dX9_man_67 rfl ?_
  obtain ⟨k17q, h⟩ := z_ck_some h
  refine z_iald hE (by decide) e_1 k17q dX9_man_68 ?_
  refine z_iload_n hE 2 dX9_man_69 rfl ?_
  refine z_iS (rest := []) (av := [.int (z_rd g 1 x1), .int x2]) hE (c_Ways_partOf (z_rd g 1 x1) x2 g) l_RX9_115 (by decide) ⟨by decide, by decide⟩ dX9_man_70 rfl (Nat.le_of_ble_eq_true rfl) ?_
  obtain rfl := Option.some.inj h
  exact hret _ _ dX9_man_73
set_option maxHeartbeats 1000000 in
set_option maxRecDepth 20000 in
theorem c_Top_man {X : z_X} {l : Launch} {o : z_G} (x1 : Int32) (x2 : Int32) (g : z_G) (r : Int32) (h : s_Top_man x1 x2 g = some r) : z_MI X l 71 yX9_man cX9_man 3 (some .int) 3 73 [.ref (z_ad X 39), .int x1, .int x2] g o g o r := by
  unfold s_Top_man at h
  refine z_meti (ty := .int) rfl rfl (by decide) (Nat.le_of_ble_eq_true rfl) (fun E hl hE hret => ?_)
  subst hl
  refine z_aload_n hE 0 dX9_man_0 rfl ?_
  refine z_iload_n hE 1 dX9_man_1 rfl ?_
  refine z_iV (rest := []) (av := [.int x1]) hE (c_Top_isMan x1 g) l_RX9_107 (by decide) (by decide) e_39 rfl ⟨by decide, by decide⟩ dX9_man_2 rfl (Nat.le_of_ble_eq_true rfl) ?_
  refine z_if_ne hE 10 dX9_man_5 rfl (fun c18q => ?_) (fun c18q => ?_)
  · replace h := z_f c18q h
    refine z_iload_n hE 2 dX9_man_10 rfl ?_
    by_cases c19q : x2 = 0
    · replace h := z_t c19q h
      refine z_tIn (off := 49) hE 60 dX9_man_11 (by rw [c19q]; decide) (by rw [c19q]; decide) (by rw [c19q]; decide) rfl ?_
      exact b_Top_man_b60 hE hret x1 x2 h
    replace h := z_f c19q h
    by_cases c20q : x2 = 1
    · replace h := z_t c20q h
      refine z_tIn (off := 49) hE 60 dX9_man_11 (by rw [c20q]; decide) (by rw [c20q]; decide) (by rw [c20q]; decide) rfl ?_
      exact b_Top_man_b60 hE hret x1 x2 h
    replace h := z_f c20q h
    by_cases c21q : x2 = 2
    · replace h := z_t c21q h
      refine z_tIn (off := 49) hE 60 dX9_man_11 (by rw [c21q]; decide) (by rw [c21q]; decide) (by rw [c21q]; decide) rfl ?_
      exact b_Top_man_b60 hE hret x1 x2 h
    replace h := z_f c21q h
    by_cases c22q : x2 = 3
    · replace h := z_t c22q h
      refine z_tIn (off := 63) hE 74 dX9_man_11 (by rw [c22q]; decide) (by rw [c22q]; decide) (by rw [c22q]; decide) rfl ?_
      refine z_aload_n hE 0 dX9_man_74 rfl ?_
      refine z_get hE f_RX9_23 (by decide) e_39 rfl dX9_man_75 ?_
      refine z_get hE f_RX9_121 (by decide) e_43 rfl dX9_man_78 ?_
      refine z_iload_n hE 1 dX9_man_81 rfl ?_
      obtain ⟨k23q, h⟩ := z_ck_some h
      refine z_iald hE (by decide) e_45 k23q dX9_man_82 ?_
      obtain rfl := Option.some.inj h
      exact hret _ _ dX9_man_83
    replace h := z_f c22q h
    by_cases c24q : x2 = 4
    · replace h := z_t c24q h
      refine z_tIn (off := 73) hE 84 dX9_man_11 (by rw [c24q]; decide) (by rw [c24q]; decide) (by rw [c24q]; decide) rfl ?_
      refine z_aload_n hE 0 dX9_man_84 rfl ?_
      refine z_get hE f_RX9_30 (by decide) e_39 rfl dX9_man_85 ?_
      refine z_get hE f_RX9_124 (by decide) e_0 rfl dX9_man_88 ?_
      refine z_iload_n hE 1 dX9_man_91 rfl ?_
      obtain ⟨k25q, h⟩ := z_ck_some h
      refine z_iald hE (by decide) e_2 k25q dX9_man_92 ?_
      obtain rfl := Option.some.inj h
      exact hret _ _ dX9_man_93
    replace h := z_f c24q h
    by_cases c26q : x2 = 5
    · replace h := z_t c26q h
      refine z_tIn (off := 83) hE 94 dX9_man_11 (by rw [c26q]; decide) (by rw [c26q]; decide) (by rw [c26q]; decide) rfl ?_
      refine z_aload_n hE 0 dX9_man_94 rfl ?_
      refine z_get hE f_RX9_23 (by decide) e_39 rfl dX9_man_95 ?_
      refine z_get hE f_RX9_127 (by decide) e_43 rfl dX9_man_98 ?_
      refine z_iload_n hE 1 dX9_man_101 rfl ?_
      obtain ⟨k27q, h⟩ := z_ck_some h
      refine z_iald hE (by decide) e_46 k27q dX9_man_102 ?_
      obtain rfl := Option.some.inj h
      exact hret _ _ dX9_man_103
    replace h := z_f c26q h
    by_cases c28q : x2 = 6
    · replace h := z_t c28q h
      refine z_tIn (off := 93) hE 104 dX9_man_11 (by rw [c28q]; decide) (by rw [c28q]; decide) (by rw [c28q]; decide) rfl ?_
      refine z_aload_n hE 0 dX9_man_104 rfl ?_
      refine z_get hE f_RX9_30 (by decide) e_39 rfl dX9_man_105 ?_
      refine z_iload_n hE 1 dX9_man_108 rfl ?_
      refine z_iV (rest := []) (av := [.int x1]) hE (c_Col_isTied 0 x1 g (by decide)) l_RX9_130 (by decide) (by decide) e_0 rfl ⟨by decide, by decide⟩ dX9_man_109 rfl (Nat.le_of_ble_eq_true rfl) ?_
      refine z_iS (rest := []) (av := [.int (s_Col_isTied 0 x1 g)]) hE (c_Top_asNumber (s_Col_isTied 0 x1 g) g) l_RX9_133 (by decide) ⟨by decide, by decide⟩ dX9_man_112 rfl (Nat.le_of_ble_eq_true rfl) ?_
      obtain rfl := Option.some.inj h
      exact hret _ _ dX9_man_115
    replace h := z_f c28q h
    by_cases c29q : x2 = 7
    · replace h := z_t c29q h
      refine z_tIn (off := 105) hE 116 dX9_man_11 (by rw [c29q]; decide) (by rw [c29q]; decide) (by rw [c29q]; decide) rfl ?_
      refine z_aload_n hE 0 dX9_man_116 rfl ?_
      refine z_get hE f_RX9_30 (by decide) e_39 rfl dX9_man_117 ?_
      refine z_iload_n hE 1 dX9_man_120 rfl ?_
      refine z_aload_n hE 0 dX9_man_121 rfl ?_
      refine z_get hE f_RX9_23 (by decide) e_39 rfl dX9_man_122 ?_
      obtain ⟨r30q, hr30q, h⟩ := z_bind_some h
      refine z_iV (rest := []) (av := [.int x1, .ref (z_ad X 43)]) hE (c_Col_isLost 0 x1 g (by decide) r30q hr30q) l_RX9_137 (by decide) (by decide) e_0 rfl ⟨by decide, by decide⟩ dX9_man_125 rfl (Nat.le_of_ble_eq_true rfl) ?_
      refine z_iS (rest := []) (av := [.int r30q]) hE (c_Top_asNumber r30q g) l_RX9_133 (by decide) ⟨by decide, by decide⟩ dX9_man_128 rfl (Nat.le_of_ble_eq_true rfl) ?_
      obtain rfl := Option.some.inj h
      exact hret _ _ dX9_man_131
    replace h := z_f c29q h
    by_cases c31q : x2 = 8
    · replace h := z_t c31q h
      refine z_tIn (off := 121) hE 132 dX9_man_11 (by rw [c31q]; decide) (by rw [c31q]; decide) (by rw [c31q]; decide) rfl ?_
      refine z_aload_n hE 0 dX9_man_132 rfl ?_
      refine z_get hE f_RX9_30 (by decide) e_39 rfl dX9_man_133 ?_
      refine z_iload_n hE 1 dX9_man_136 rfl ?_
      refine z_aload_n hE 0 dX9_man_137 rfl ?_
      refine z_get hE f_RX9_23 (by decide) e_39 rfl dX9_man_138 ?_
      obtain ⟨r32q, hr32q, h⟩ := z_bind_some h
      refine z_iV (rest := []) (av := [.int x1, .ref (z_ad X 43)]) hE (c_Col_isAtHome 0 x1 g (by decide) r32q hr32q) l_RX9_141 (by decide) (by decide) e_0 rfl ⟨by decide, by decide⟩ dX9_man_141 rfl (Nat.le_of_ble_eq_true rfl) ?_
      refine z_iS (rest := []) (av := [.int r32q]) hE (c_Top_asNumber r32q g) l_RX9_133 (by decide) ⟨by decide, by decide⟩ dX9_man_144 rfl (Nat.le_of_ble_eq_true rfl) ?_
      obtain rfl := Option.some.inj h
      exact hret _ _ dX9_man_147
    replace h := z_f c31q h
    have ic19q : Int32.toInt x2 ≠ 0 := z_ne c19q
    have ic20q : Int32.toInt x2 ≠ 1 := z_ne c20q
    have ic21q : Int32.toInt x2 ≠ 2 := z_ne c21q
    have ic22q : Int32.toInt x2 ≠ 3 := z_ne c22q
    have ic24q : Int32.toInt x2 ≠ 4 := z_ne c24q
    have ic26q : Int32.toInt x2 ≠ 5 := z_ne c26q
    have ic28q : Int32.toInt x2 ≠ 6 := z_ne c28q
    have ic29q : Int32.toInt x2 ≠ 7 := z_ne c29q
    have ic31q : Int32.toInt x2 ≠ 8 := z_ne c31q
    refine z_tOut hE 148 dX9_man_11 (by omega) rfl ?_
    refine z_iconst (v := (-1)) hE dX9_man_148 rfl ?_
    obtain rfl := Option.some.inj h
    exact hret _ _ dX9_man_149
  · replace h := z_t c18q h
    refine z_iconst (v := (-1)) hE dX9_man_8 rfl ?_
    obtain rfl := Option.some.inj h
    exact hret _ _ dX9_man_9
theorem dX9_home_0 : decode cX9_home 0 = .ok (.iload_n 1, 1) := by decide +kernel
theorem dX9_home_1 : decode cX9_home 1 = .ok (.iconst 0, 1) := by decide +kernel
theorem dX9_home_2 : decode cX9_home 2 = .ok (.aload_n 0, 1) := by decide +kernel
theorem dX9_home_3 : decode cX9_home 3 = .ok (.getfield 23, 3) := by decide +kernel
theorem dX9_home_6 : decode cX9_home 6 = .ok (.getfield 144, 3) := by decide +kernel
theorem dX9_home_9 : decode cX9_home 9 = .ok (.iconst 1, 1) := by decide +kernel
theorem dX9_home_10 : decode cX9_home 10 = .ok (.isub, 1) := by decide +kernel
theorem dX9_home_11 : decode cX9_home 11 = .ok (.invokestatic 92, 3) := by decide +kernel
theorem dX9_home_14 : decode cX9_home 14 = .ok (.ifCond .eq 12, 3) := by decide +kernel
theorem dX9_home_17 : decode cX9_home 17 = .ok (.iload_n 2, 1) := by decide +kernel
theorem dX9_home_18 : decode cX9_home 18 = .ok (.iconst 0, 1) := by decide +kernel
theorem dX9_home_19 : decode cX9_home 19 = .ok (.iconst 1, 1) := by decide +kernel
theorem dX9_home_20 : decode cX9_home 20 = .ok (.invokestatic 92, 3) := by decide +kernel
theorem dX9_home_23 : decode cX9_home 23 = .ok (.ifCond .ne 5, 3) := by decide +kernel
theorem dX9_home_26 : decode cX9_home 26 = .ok (.iconst (-1), 1) := by decide +kernel
theorem dX9_home_27 : decode cX9_home 27 = .ok (.ireturn, 1) := by decide +kernel
theorem dX9_home_28 : decode cX9_home 28 = .ok (.iload_n 2, 1) := by decide +kernel
theorem dX9_home_29 : decode cX9_home 29 = .ok (.ifCond .ne 18, 3) := by decide +kernel
theorem dX9_home_32 : decode cX9_home 32 = .ok (.aload_n 0, 1) := by decide +kernel
theorem dX9_home_33 : decode cX9_home 33 = .ok (.getfield 23, 3) := by decide +kernel
theorem dX9_home_36 : decode cX9_home 36 = .ok (.getfield 147, 3) := by decide +kernel
theorem dX9_home_39 : decode cX9_home 39 = .ok (.iload_n 1, 1) := by decide +kernel
theorem dX9_home_40 : decode cX9_home 40 = .ok (.iaload, 1) := by decide +kernel
theorem dX9_home_41 : decode cX9_home 41 = .ok (.invokestatic 150, 3) := by decide +kernel
theorem dX9_home_44 : decode cX9_home 44 = .ok (.goto 15, 3) := by decide +kernel
theorem dX9_home_47 : decode cX9_home 47 = .ok (.aload_n 0, 1) := by decide +kernel
theorem dX9_home_48 : decode cX9_home 48 = .ok (.getfield 23, 3) := by decide +kernel
theorem dX9_home_51 : decode cX9_home 51 = .ok (.getfield 147, 3) := by decide +kernel
theorem dX9_home_54 : decode cX9_home 54 = .ok (.iload_n 1, 1) := by decide +kernel
theorem dX9_home_55 : decode cX9_home 55 = .ok (.iaload, 1) := by decide +kernel
theorem dX9_home_56 : decode cX9_home 56 = .ok (.invokestatic 154, 3) := by decide +kernel
theorem dX9_home_59 : decode cX9_home 59 = .ok (.ireturn, 1) := by decide +kernel
def s_Top_home_b26 (g : z_G) : Option (Int32) := (some (-1))
def s_Top_home (x1 : Int32) (x2 : Int32) (g : z_G) : Option (Int32) := (if (s_Top_isWithin x1 0 ((g 43 0) - 1)) = 0 then (s_Top_home_b26 g) else (if (s_Top_isWithin x2 0 1) = 0 then (s_Top_home_b26 g) else (if x2 = 0 then (z_ck (z_inb x1 4) (some (s_Ways_columnOf (z_rd g 44 x1)))) else (z_ck (z_inb x1 4) (some (s_Ways_rowOf (z_rd g 44 x1)))))))
set_option maxHeartbeats 1000000 in
set_option maxRecDepth 20000 in
theorem b_Top_home_b26 {X : z_X} {E : z_ET} {o : z_G} (hE : z_EV X E cX9_home 3 RX9 1 22 71) {g : z_G} {r : Int32} (hret : ∀ (pc : Nat) (lv : List (Nat × Value)), decode cX9_home pc = .ok (.ireturn, 1) → z_V X E 3 g o pc lv [.int r])   (h : s_Top_home_b26 g = some r) : z_V X E 3 g o 26 [] [] := by
  unfold s_Top_home_b26 at h
  refine z_iconst (v := (-1)) hE dX9_home_26 rfl ?_
  obtain rfl := Option.some.inj h
  exact hret _ _ dX9_home_27
set_option maxHeartbeats 1000000 in
set_option maxRecDepth 20000 in
theorem c_Top_home {X : z_X} {l : Launch} {o : z_G} (x1 : Int32) (x2 : Int32) (g : z_G) (r : Int32) (h : s_Top_home x1 x2 g = some r) : z_MI X l 71 yX9_home cX9_home 3 (some .int) 1 22 [.ref (z_ad X 39), .int x1, .int x2] g o g o r := by
  unfold s_Top_home at h
  refine z_meti (ty := .int) rfl rfl (by decide) (Nat.le_of_ble_eq_true rfl) (fun E hl hE hret => ?_)
  subst hl
  refine z_iload_n hE 1 dX9_home_0 rfl ?_
  refine z_iconst (v := 0) hE dX9_home_1 rfl ?_
  refine z_aload_n hE 0 dX9_home_2 rfl ?_
  refine z_get hE f_RX9_23 (by decide) e_39 rfl dX9_home_3 ?_
  refine z_get hE f_RX9_144 (by decide) e_43 rfl dX9_home_6 ?_
  refine z_iconst (v := 1) hE dX9_home_9 rfl ?_
  refine z_isub hE dX9_home_10 ?_
  refine z_iS (rest := []) (av := [.int x1, .int 0, .int ((g 43 0) - 1)]) hE (c_Top_isWithin x1 0 ((g 43 0) - 1) g) l_RX9_92 (by decide) ⟨by decide, by decide⟩ dX9_home_11 rfl (Nat.le_of_ble_eq_true rfl) ?_
  refine z_if_eq hE 26 dX9_home_14 rfl (fun c6q => ?_) (fun c6q => ?_)
  · replace h := z_t c6q h
    refine z_sub [] [] rfl ?_
    exact b_Top_home_b26 hE hret h
  · replace h := z_f c6q h
    refine z_iload_n hE 2 dX9_home_17 rfl ?_
    refine z_iconst (v := 0) hE dX9_home_18 rfl ?_
    refine z_iconst (v := 1) hE dX9_home_19 rfl ?_
    refine z_iS (rest := []) (av := [.int x2, .int 0, .int 1]) hE (c_Top_isWithin x2 0 1 g) l_RX9_92 (by decide) ⟨by decide, by decide⟩ dX9_home_20 rfl (Nat.le_of_ble_eq_true rfl) ?_
    refine z_if_ne hE 28 dX9_home_23 rfl (fun c7q => ?_) (fun c7q => ?_)
    · replace h := z_f c7q h
      refine z_iload_n hE 2 dX9_home_28 rfl ?_
      refine z_if_ne hE 47 dX9_home_29 rfl (fun c8q => ?_) (fun c8q => ?_)
      · replace h := z_f c8q h
        refine z_aload_n hE 0 dX9_home_47 rfl ?_
        refine z_get hE f_RX9_23 (by decide) e_39 rfl dX9_home_48 ?_
        refine z_get hE f_RX9_147 (by decide) e_43 rfl dX9_home_51 ?_
        refine z_iload_n hE 1 dX9_home_54 rfl ?_
        obtain ⟨k9q, h⟩ := z_ck_some h
        refine z_iald hE (by decide) e_44 k9q dX9_home_55 ?_
        refine z_iS (rest := []) (av := [.int (z_rd g 44 x1)]) hE (c_Ways_rowOf (z_rd g 44 x1) g) l_RX9_154 (by decide) ⟨by decide, by decide⟩ dX9_home_56 rfl (Nat.le_of_ble_eq_true rfl) ?_
        obtain rfl := Option.some.inj h
        exact hret _ _ dX9_home_59
      · replace h := z_t c8q h
        refine z_aload_n hE 0 dX9_home_32 rfl ?_
        refine z_get hE f_RX9_23 (by decide) e_39 rfl dX9_home_33 ?_
        refine z_get hE f_RX9_147 (by decide) e_43 rfl dX9_home_36 ?_
        refine z_iload_n hE 1 dX9_home_39 rfl ?_
        obtain ⟨k10q, h⟩ := z_ck_some h
        refine z_iald hE (by decide) e_44 k10q dX9_home_40 ?_
        refine z_iS (rest := []) (av := [.int (z_rd g 44 x1)]) hE (c_Ways_columnOf (z_rd g 44 x1) g) l_RX9_150 (by decide) ⟨by decide, by decide⟩ dX9_home_41 rfl (Nat.le_of_ble_eq_true rfl) ?_
        refine z_goto hE 59 dX9_home_44 rfl ?_
        obtain rfl := Option.some.inj h
        exact hret _ _ dX9_home_59
    · replace h := z_t c7q h
      refine z_sub [] [] rfl ?_
      exact b_Top_home_b26 hE hret h
theorem dX6_asTold_0 : decode cX6_asTold 0 = .ok (.bipush 10, 2) := by decide +kernel
theorem dX6_asTold_2 : decode cX6_asTold 2 = .ok (.aload_n 0, 1) := by decide +kernel
theorem dX6_asTold_3 : decode cX6_asTold 3 = .ok (.getfield 9, 3) := by decide +kernel
theorem dX6_asTold_6 : decode cX6_asTold 6 = .ok (.iload_n 1, 1) := by decide +kernel
theorem dX6_asTold_7 : decode cX6_asTold 7 = .ok (.iaload, 1) := by decide +kernel
theorem dX6_asTold_8 : decode cX6_asTold 8 = .ok (.imul, 1) := by decide +kernel
theorem dX6_asTold_9 : decode cX6_asTold 9 = .ok (.aload_n 0, 1) := by decide +kernel
theorem dX6_asTold_10 : decode cX6_asTold 10 = .ok (.getfield 15, 3) := by decide +kernel
theorem dX6_asTold_13 : decode cX6_asTold 13 = .ok (.iload_n 1, 1) := by decide +kernel
theorem dX6_asTold_14 : decode cX6_asTold 14 = .ok (.iaload, 1) := by decide +kernel
theorem dX6_asTold_15 : decode cX6_asTold 15 = .ok (.iadd, 1) := by decide +kernel
theorem dX6_asTold_16 : decode cX6_asTold 16 = .ok (.ireturn, 1) := by decide +kernel
def s_Row_asTold_51 (x1 : Int32) (g : z_G) : Option (Int32) := (z_ck (z_inb x1 6) (z_ck (z_inb x1 6) (some ((10 * (z_rd g 52 x1)) + (z_rd g 53 x1)))))
set_option maxHeartbeats 1000000 in
set_option maxRecDepth 20000 in
theorem c_Row_asTold_51 {X : z_X} {l : Launch} {o : z_G} (x1 : Int32) (g : z_G) (r : Int32) (h : s_Row_asTold_51 x1 g = some r) : z_MI X l 71 yX6_asTold cX6_asTold 2 (some .int) 0 0 [.ref (z_ad X 51), .int x1] g o g o r := by
  unfold s_Row_asTold_51 at h
  refine z_meti (ty := .int) rfl rfl (by decide) (Nat.le_of_ble_eq_true rfl) (fun E hl hE hret => ?_)
  subst hl
  refine z_bipush (v := 10) hE dX6_asTold_0 rfl ?_
  refine z_aload_n hE 0 dX6_asTold_2 rfl ?_
  refine z_get hE f_RX6_9 (by decide) e_51 rfl dX6_asTold_3 ?_
  refine z_iload_n hE 1 dX6_asTold_6 rfl ?_
  obtain ⟨k3q, h⟩ := z_ck_some h
  refine z_iald hE (by decide) e_52 k3q dX6_asTold_7 ?_
  refine z_imul hE dX6_asTold_8 ?_
  refine z_aload_n hE 0 dX6_asTold_9 rfl ?_
  refine z_get hE f_RX6_15 (by decide) e_51 rfl dX6_asTold_10 ?_
  refine z_iload_n hE 1 dX6_asTold_13 rfl ?_
  obtain ⟨k4q, h⟩ := z_ck_some h
  refine z_iald hE (by decide) e_53 k4q dX6_asTold_14 ?_
  refine z_iadd hE dX6_asTold_15 ?_
  obtain rfl := Option.some.inj h
  exact hret _ _ dX6_asTold_16
theorem dX9_told_0 : decode cX9_told 0 = .ok (.iload_n 1, 1) := by decide +kernel
theorem dX9_told_1 : decode cX9_told 1 = .ok (.ifCond .ge 5, 3) := by decide +kernel
theorem dX9_told_4 : decode cX9_told 4 = .ok (.iconst (-1), 1) := by decide +kernel
theorem dX9_told_5 : decode cX9_told 5 = .ok (.ireturn, 1) := by decide +kernel
theorem dX9_told_6 : decode cX9_told 6 = .ok (.iload_n 1, 1) := by decide +kernel
theorem dX9_told_7 : decode cX9_told 7 = .ok (.aload_n 0, 1) := by decide +kernel
theorem dX9_told_8 : decode cX9_told 8 = .ok (.getfield 40, 3) := by decide +kernel
theorem dX9_told_11 : decode cX9_told 11 = .ok (.getfield 157, 3) := by decide +kernel
theorem dX9_told_14 : decode cX9_told 14 = .ok (.if_icmp .ge 14, 3) := by decide +kernel
theorem dX9_told_17 : decode cX9_told 17 = .ok (.aload_n 0, 1) := by decide +kernel
theorem dX9_told_18 : decode cX9_told 18 = .ok (.getfield 40, 3) := by decide +kernel
theorem dX9_told_21 : decode cX9_told 21 = .ok (.iload_n 1, 1) := by decide +kernel
theorem dX9_told_22 : decode cX9_told 22 = .ok (.invokevirtual 158, 3) := by decide +kernel
theorem dX9_told_25 : decode cX9_told 25 = .ok (.goto 5, 3) := by decide +kernel
theorem dX9_told_28 : decode cX9_told 28 = .ok (.bipush (-4), 2) := by decide +kernel
theorem dX9_told_30 : decode cX9_told 30 = .ok (.ireturn, 1) := by decide +kernel
def s_Top_told (x1 : Int32) (g : z_G) : Option (Int32) := (if (0 : Int32) ≤ x1 then (if (g 51 2) ≤ x1 then (some (-4)) else (Option.bind (s_Row_asTold_51 x1 g) fun r6q => (some r6q))) else (some (-1)))
set_option maxHeartbeats 1000000 in
set_option maxRecDepth 20000 in
theorem c_Top_told {X : z_X} {l : Launch} {o : z_G} (x1 : Int32) (g : z_G) (r : Int32) (h : s_Top_told x1 g = some r) : z_MI X l 71 yX9_told cX9_told 2 (some .int) 1 21 [.ref (z_ad X 39), .int x1] g o g o r := by
  unfold s_Top_told at h
  refine z_meti (ty := .int) rfl rfl (by decide) (Nat.le_of_ble_eq_true rfl) (fun E hl hE hret => ?_)
  subst hl
  refine z_iload_n hE 1 dX9_told_0 rfl ?_
  refine z_if_ge hE 6 dX9_told_1 rfl (fun c4q => ?_) (fun c4q => ?_)
  · replace h := z_t c4q h
    refine z_iload_n hE 1 dX9_told_6 rfl ?_
    refine z_aload_n hE 0 dX9_told_7 rfl ?_
    refine z_get hE f_RX9_40 (by decide) e_39 rfl dX9_told_8 ?_
    refine z_get hE f_RX9_157 (by decide) e_51 rfl dX9_told_11 ?_
    refine z_icmp_ge hE 28 dX9_told_14 rfl (fun c5q => ?_) (fun c5q => ?_)
    · replace h := z_t c5q h
      refine z_bipush (v := (-4)) hE dX9_told_28 rfl ?_
      obtain rfl := Option.some.inj h
      exact hret _ _ dX9_told_30
    · replace h := z_f c5q h
      refine z_aload_n hE 0 dX9_told_17 rfl ?_
      refine z_get hE f_RX9_40 (by decide) e_39 rfl dX9_told_18 ?_
      refine z_iload_n hE 1 dX9_told_21 rfl ?_
      obtain ⟨r6q, hr6q, h⟩ := z_bind_some h
      refine z_iV (rest := []) (av := [.int x1]) hE (c_Row_asTold_51 x1 g r6q hr6q) l_RX9_158 (by decide) (by decide) e_51 rfl ⟨by decide, by decide⟩ dX9_told_22 rfl (Nat.le_of_ble_eq_true rfl) ?_
      refine z_goto hE 30 dX9_told_25 rfl ?_
      obtain rfl := Option.some.inj h
      exact hret _ _ dX9_told_30
  · replace h := z_f c4q h
    refine z_iconst (v := (-1)) hE dX9_told_4 rfl ?_
    obtain rfl := Option.some.inj h
    exact hret _ _ dX9_told_5
theorem dX8_wayTo_0 : decode cX8_wayTo 0 = .ok (.iload_n 1, 1) := by decide +kernel
theorem dX8_wayTo_1 : decode cX8_wayTo 1 = .ok (.invokestatic 19, 3) := by decide +kernel
theorem dX8_wayTo_4 : decode cX8_wayTo 4 = .ok (.iload_n 0, 1) := by decide +kernel
theorem dX8_wayTo_5 : decode cX8_wayTo 5 = .ok (.invokestatic 19, 3) := by decide +kernel
theorem dX8_wayTo_8 : decode cX8_wayTo 8 = .ok (.isub, 1) := by decide +kernel
theorem dX8_wayTo_9 : decode cX8_wayTo 9 = .ok (.istore_n 2, 1) := by decide +kernel
theorem dX8_wayTo_10 : decode cX8_wayTo 10 = .ok (.iload_n 1, 1) := by decide +kernel
theorem dX8_wayTo_11 : decode cX8_wayTo 11 = .ok (.invokestatic 22, 3) := by decide +kernel
theorem dX8_wayTo_14 : decode cX8_wayTo 14 = .ok (.iload_n 0, 1) := by decide +kernel
theorem dX8_wayTo_15 : decode cX8_wayTo 15 = .ok (.invokestatic 22, 3) := by decide +kernel
theorem dX8_wayTo_18 : decode cX8_wayTo 18 = .ok (.isub, 1) := by decide +kernel
theorem dX8_wayTo_19 : decode cX8_wayTo 19 = .ok (.istore_n 3, 1) := by decide +kernel
theorem dX8_wayTo_20 : decode cX8_wayTo 20 = .ok (.iload_n 2, 1) := by decide +kernel
theorem dX8_wayTo_21 : decode cX8_wayTo 21 = .ok (.invokestatic 28, 3) := by decide +kernel
theorem dX8_wayTo_24 : decode cX8_wayTo 24 = .ok (.istore 4, 2) := by decide +kernel
theorem dX8_wayTo_26 : decode cX8_wayTo 26 = .ok (.iload_n 3, 1) := by decide +kernel
theorem dX8_wayTo_27 : decode cX8_wayTo 27 = .ok (.invokestatic 28, 3) := by decide +kernel
theorem dX8_wayTo_30 : decode cX8_wayTo 30 = .ok (.istore 5, 2) := by decide +kernel
theorem dX8_wayTo_32 : decode cX8_wayTo 32 = .ok (.iload 4, 2) := by decide +kernel
theorem dX8_wayTo_34 : decode cX8_wayTo 34 = .ok (.ifCond .ne 11, 3) := by decide +kernel
theorem dX8_wayTo_37 : decode cX8_wayTo 37 = .ok (.iload 5, 2) := by decide +kernel
theorem dX8_wayTo_39 : decode cX8_wayTo 39 = .ok (.ifCond .ne 6, 3) := by decide +kernel
theorem dX8_wayTo_42 : decode cX8_wayTo 42 = .ok (.bipush (-4), 2) := by decide +kernel
theorem dX8_wayTo_44 : decode cX8_wayTo 44 = .ok (.ireturn, 1) := by decide +kernel
theorem dX8_wayTo_45 : decode cX8_wayTo 45 = .ok (.iconst 2, 1) := by decide +kernel
theorem dX8_wayTo_46 : decode cX8_wayTo 46 = .ok (.iload 5, 2) := by decide +kernel
theorem dX8_wayTo_48 : decode cX8_wayTo 48 = .ok (.imul, 1) := by decide +kernel
theorem dX8_wayTo_49 : decode cX8_wayTo 49 = .ok (.iload 4, 2) := by decide +kernel
theorem dX8_wayTo_51 : decode cX8_wayTo 51 = .ok (.if_icmp .ge 14, 3) := by decide +kernel
theorem dX8_wayTo_54 : decode cX8_wayTo 54 = .ok (.iload_n 2, 1) := by decide +kernel
theorem dX8_wayTo_55 : decode cX8_wayTo 55 = .ok (.ifCond .le 7, 3) := by decide +kernel
theorem dX8_wayTo_58 : decode cX8_wayTo 58 = .ok (.iconst 2, 1) := by decide +kernel
theorem dX8_wayTo_59 : decode cX8_wayTo 59 = .ok (.goto 5, 3) := by decide +kernel
theorem dX8_wayTo_62 : decode cX8_wayTo 62 = .ok (.bipush 6, 2) := by decide +kernel
theorem dX8_wayTo_64 : decode cX8_wayTo 64 = .ok (.ireturn, 1) := by decide +kernel
theorem dX8_wayTo_65 : decode cX8_wayTo 65 = .ok (.iconst 2, 1) := by decide +kernel
theorem dX8_wayTo_66 : decode cX8_wayTo 66 = .ok (.iload 4, 2) := by decide +kernel
theorem dX8_wayTo_68 : decode cX8_wayTo 68 = .ok (.imul, 1) := by decide +kernel
theorem dX8_wayTo_69 : decode cX8_wayTo 69 = .ok (.iload 5, 2) := by decide +kernel
theorem dX8_wayTo_71 : decode cX8_wayTo 71 = .ok (.if_icmp .ge 13, 3) := by decide +kernel
theorem dX8_wayTo_74 : decode cX8_wayTo 74 = .ok (.iload_n 3, 1) := by decide +kernel
theorem dX8_wayTo_75 : decode cX8_wayTo 75 = .ok (.ifCond .le 7, 3) := by decide +kernel
theorem dX8_wayTo_78 : decode cX8_wayTo 78 = .ok (.iconst 4, 1) := by decide +kernel
theorem dX8_wayTo_79 : decode cX8_wayTo 79 = .ok (.goto 4, 3) := by decide +kernel
theorem dX8_wayTo_82 : decode cX8_wayTo 82 = .ok (.iconst 0, 1) := by decide +kernel
theorem dX8_wayTo_83 : decode cX8_wayTo 83 = .ok (.ireturn, 1) := by decide +kernel
theorem dX8_wayTo_84 : decode cX8_wayTo 84 = .ok (.iload_n 3, 1) := by decide +kernel
theorem dX8_wayTo_85 : decode cX8_wayTo 85 = .ok (.ifCond .ge 14, 3) := by decide +kernel
theorem dX8_wayTo_88 : decode cX8_wayTo 88 = .ok (.iload_n 2, 1) := by decide +kernel
theorem dX8_wayTo_89 : decode cX8_wayTo 89 = .ok (.ifCond .le 7, 3) := by decide +kernel
theorem dX8_wayTo_92 : decode cX8_wayTo 92 = .ok (.iconst 1, 1) := by decide +kernel
theorem dX8_wayTo_93 : decode cX8_wayTo 93 = .ok (.goto 5, 3) := by decide +kernel
theorem dX8_wayTo_96 : decode cX8_wayTo 96 = .ok (.bipush 7, 2) := by decide +kernel
theorem dX8_wayTo_98 : decode cX8_wayTo 98 = .ok (.ireturn, 1) := by decide +kernel
theorem dX8_wayTo_99 : decode cX8_wayTo 99 = .ok (.iload_n 2, 1) := by decide +kernel
theorem dX8_wayTo_100 : decode cX8_wayTo 100 = .ok (.ifCond .le 7, 3) := by decide +kernel
theorem dX8_wayTo_103 : decode cX8_wayTo 103 = .ok (.iconst 3, 1) := by decide +kernel
theorem dX8_wayTo_104 : decode cX8_wayTo 104 = .ok (.goto 4, 3) := by decide +kernel
theorem dX8_wayTo_107 : decode cX8_wayTo 107 = .ok (.iconst 5, 1) := by decide +kernel
theorem dX8_wayTo_108 : decode cX8_wayTo 108 = .ok (.ireturn, 1) := by decide +kernel
def s_Ways_wayTo_b45 (x2 : Int32) (x3 : Int32) (x4 : Int32) (x5 : Int32) : Int32 := (if x4 ≤ (2 * x5) then (if x5 ≤ (2 * x4) then (if (0 : Int32) ≤ x3 then (if x2 ≤ 0 then 5 else 3) else (if x2 ≤ 0 then 7 else 1)) else (if x3 ≤ 0 then 0 else 4)) else (if x2 ≤ 0 then 6 else 2))
def s_Ways_wayTo (x0 : Int32) (x1 : Int32) : Int32 := (z_let (α := Int32) (((s_Ways_columnOf x1) - (s_Ways_columnOf x0))) fun v19q => (z_let (α := Int32) (((s_Ways_rowOf x1) - (s_Ways_rowOf x0))) fun v20q => (if (z_abs v19q) = 0 then (if (z_abs v20q) = 0 then (-4) else (s_Ways_wayTo_b45 v19q v20q (z_abs v19q) (z_abs v20q))) else (s_Ways_wayTo_b45 v19q v20q (z_abs v19q) (z_abs v20q)))))
set_option maxHeartbeats 1000000 in
set_option maxRecDepth 20000 in
theorem b_Ways_wayTo_b45 {X : z_X} {E : z_ET} {o : z_G} {g : z_G} (hE : z_EV X E cX8_wayTo 6 RX8 1 30 71) {r : Int32} (hret : ∀ (pc : Nat) (lv : List (Nat × Value)), decode cX8_wayTo pc = .ok (.ireturn, 1) → z_V X E 6 g o pc lv [.int r]) (x2 : Int32) (x3 : Int32) (x4 : Int32) (x5 : Int32)  (h : s_Ways_wayTo_b45 x2 x3 x4 x5 = r) : z_V X E 6 g o 45 [(2, .int x2), (3, .int x3), (4, .int x4), (5, .int x5)] [] := by
  unfold s_Ways_wayTo_b45 at h
  refine z_iconst (v := 2) hE dX8_wayTo_45 rfl ?_
  refine z_iload hE 3 dX8_wayTo_46 rfl ?_
  refine z_imul hE dX8_wayTo_48 ?_
  refine z_iload hE 2 dX8_wayTo_49 rfl ?_
  refine z_icmp_ge hE 65 dX8_wayTo_51 rfl (fun c12q => ?_) (fun c12q => ?_)
  · replace h := z_t c12q h
    refine z_iconst (v := 2) hE dX8_wayTo_65 rfl ?_
    refine z_iload hE 2 dX8_wayTo_66 rfl ?_
    refine z_imul hE dX8_wayTo_68 ?_
    refine z_iload hE 3 dX8_wayTo_69 rfl ?_
    refine z_icmp_ge hE 84 dX8_wayTo_71 rfl (fun c13q => ?_) (fun c13q => ?_)
    · replace h := z_t c13q h
      refine z_iload_n hE 1 dX8_wayTo_84 rfl ?_
      refine z_if_ge hE 99 dX8_wayTo_85 rfl (fun c14q => ?_) (fun c14q => ?_)
      · replace h := z_t c14q h
        refine z_iload_n hE 0 dX8_wayTo_99 rfl ?_
        refine z_if_le hE 107 dX8_wayTo_100 rfl (fun c15q => ?_) (fun c15q => ?_)
        · replace h := z_t c15q h
          refine z_iconst (v := 5) hE dX8_wayTo_107 rfl ?_
          subst h
          exact hret _ _ dX8_wayTo_108
        · replace h := z_f c15q h
          refine z_iconst (v := 3) hE dX8_wayTo_103 rfl ?_
          refine z_goto hE 108 dX8_wayTo_104 rfl ?_
          subst h
          exact hret _ _ dX8_wayTo_108
      · replace h := z_f c14q h
        refine z_iload_n hE 0 dX8_wayTo_88 rfl ?_
        refine z_if_le hE 96 dX8_wayTo_89 rfl (fun c16q => ?_) (fun c16q => ?_)
        · replace h := z_t c16q h
          refine z_bipush (v := 7) hE dX8_wayTo_96 rfl ?_
          subst h
          exact hret _ _ dX8_wayTo_98
        · replace h := z_f c16q h
          refine z_iconst (v := 1) hE dX8_wayTo_92 rfl ?_
          refine z_goto hE 98 dX8_wayTo_93 rfl ?_
          subst h
          exact hret _ _ dX8_wayTo_98
    · replace h := z_f c13q h
      refine z_iload_n hE 1 dX8_wayTo_74 rfl ?_
      refine z_if_le hE 82 dX8_wayTo_75 rfl (fun c17q => ?_) (fun c17q => ?_)
      · replace h := z_t c17q h
        refine z_iconst (v := 0) hE dX8_wayTo_82 rfl ?_
        subst h
        exact hret _ _ dX8_wayTo_83
      · replace h := z_f c17q h
        refine z_iconst (v := 4) hE dX8_wayTo_78 rfl ?_
        refine z_goto hE 83 dX8_wayTo_79 rfl ?_
        subst h
        exact hret _ _ dX8_wayTo_83
  · replace h := z_f c12q h
    refine z_iload_n hE 0 dX8_wayTo_54 rfl ?_
    refine z_if_le hE 62 dX8_wayTo_55 rfl (fun c18q => ?_) (fun c18q => ?_)
    · replace h := z_t c18q h
      refine z_bipush (v := 6) hE dX8_wayTo_62 rfl ?_
      subst h
      exact hret _ _ dX8_wayTo_64
    · replace h := z_f c18q h
      refine z_iconst (v := 2) hE dX8_wayTo_58 rfl ?_
      refine z_goto hE 64 dX8_wayTo_59 rfl ?_
      subst h
      exact hret _ _ dX8_wayTo_64
set_option maxHeartbeats 1000000 in
set_option maxRecDepth 20000 in
theorem c_Ways_wayTo {X : z_X} {l : Launch} {o : z_G} (x0 : Int32) (x1 : Int32) (g : z_G) : z_MI X l 71 yX8_wayTo cX8_wayTo 6 (some .int) 1 30 [.int x0, .int x1] g o g o (s_Ways_wayTo x0 x1) := by
  obtain ⟨r, h⟩ : ∃ r, s_Ways_wayTo x0 x1 = r := ⟨_, rfl⟩
  rw [h]
  unfold s_Ways_wayTo at h
  refine z_meti (ty := .int) rfl rfl (by decide) (Nat.le_of_ble_eq_true rfl) (fun E hl hE hret => ?_)
  subst hl
  refine z_iload_n hE 1 dX8_wayTo_0 rfl ?_
  refine z_iS (rest := []) (av := [.int x1]) hE (c_Ways_columnOf x1 g) l_RX8_19 (by decide) ⟨by decide, by decide⟩ dX8_wayTo_1 rfl (Nat.le_of_ble_eq_true rfl) ?_
  refine z_iload_n hE 0 dX8_wayTo_4 rfl ?_
  refine z_iS (rest := [.int (s_Ways_columnOf x1)]) (av := [.int x0]) hE (c_Ways_columnOf x0 g) l_RX8_19 (by decide) ⟨by decide, by decide⟩ dX8_wayTo_5 rfl (Nat.le_of_ble_eq_true rfl) ?_
  refine z_isub hE dX8_wayTo_8 ?_
  obtain ⟨v19q, ev19q, h⟩ := z_let_eq h
  refine z_topi ev19q ?_
  refine z_istore_n hE [(2, .int v19q), (0, .int x0), (1, .int x1)] dX8_wayTo_9 rfl (by decide) rfl ?_
  refine z_iload_n hE 2 dX8_wayTo_10 rfl ?_
  refine z_iS (rest := []) (av := [.int x1]) hE (c_Ways_rowOf x1 g) l_RX8_22 (by decide) ⟨by decide, by decide⟩ dX8_wayTo_11 rfl (Nat.le_of_ble_eq_true rfl) ?_
  refine z_iload_n hE 1 dX8_wayTo_14 rfl ?_
  refine z_iS (rest := [.int (s_Ways_rowOf x1)]) (av := [.int x0]) hE (c_Ways_rowOf x0 g) l_RX8_22 (by decide) ⟨by decide, by decide⟩ dX8_wayTo_15 rfl (Nat.le_of_ble_eq_true rfl) ?_
  refine z_isub hE dX8_wayTo_18 ?_
  obtain ⟨v20q, ev20q, h⟩ := z_let_eq h
  refine z_topi ev20q ?_
  refine z_istore_n hE [(3, .int v20q), (2, .int v19q), (0, .int x0), (1, .int x1)] dX8_wayTo_19 rfl (by decide) rfl ?_
  refine z_iload_n hE 1 dX8_wayTo_20 rfl ?_
  refine z_mabs hE l_RX8_28 (by decide) (Nat.le_of_ble_eq_true rfl) dX8_wayTo_21 ?_
  refine z_istore hE [(4, .int (z_abs v19q)), (3, .int v20q), (2, .int v19q), (0, .int x0), (1, .int x1)] dX8_wayTo_24 (by decide) rfl ?_
  refine z_iload_n hE 1 dX8_wayTo_26 rfl ?_
  refine z_mabs hE l_RX8_28 (by decide) (Nat.le_of_ble_eq_true rfl) dX8_wayTo_27 ?_
  refine z_istore hE [(5, .int (z_abs v20q)), (4, .int (z_abs v19q)), (3, .int v20q), (2, .int v19q), (0, .int x0), (1, .int x1)] dX8_wayTo_30 (by decide) rfl ?_
  refine z_iload hE 1 dX8_wayTo_32 rfl ?_
  refine z_if_ne hE 45 dX8_wayTo_34 rfl (fun c21q => ?_) (fun c21q => ?_)
  · replace h := z_f c21q h
    refine z_sub [(2, .int v19q), (3, .int v20q), (4, .int (z_abs v19q)), (5, .int (z_abs v20q))] [3, 2, 1, 0] rfl ?_
    exact b_Ways_wayTo_b45 hE hret v19q v20q (z_abs v19q) (z_abs v20q) h
  · replace h := z_t c21q h
    refine z_iload hE 0 dX8_wayTo_37 rfl ?_
    refine z_if_ne hE 45 dX8_wayTo_39 rfl (fun c22q => ?_) (fun c22q => ?_)
    · replace h := z_f c22q h
      refine z_sub [(2, .int v19q), (3, .int v20q), (4, .int (z_abs v19q)), (5, .int (z_abs v20q))] [3, 2, 1, 0] rfl ?_
      exact b_Ways_wayTo_b45 hE hret v19q v20q (z_abs v19q) (z_abs v20q) h
    · replace h := z_t c22q h
      refine z_bipush (v := (-4)) hE dX8_wayTo_42 rfl ?_
      subst h
      exact hret _ _ dX8_wayTo_44
theorem dX9_toward_0 : decode cX9_toward 0 = .ok (.iload_n 1, 1) := by decide +kernel
theorem dX9_toward_1 : decode cX9_toward 1 = .ok (.iload_n 2, 1) := by decide +kernel
theorem dX9_toward_2 : decode cX9_toward 2 = .ok (.invokestatic 161, 3) := by decide +kernel
theorem dX9_toward_5 : decode cX9_toward 5 = .ok (.ifCond .eq 12, 3) := by decide +kernel
theorem dX9_toward_8 : decode cX9_toward 8 = .ok (.iload_n 3, 1) := by decide +kernel
theorem dX9_toward_9 : decode cX9_toward 9 = .ok (.iload 4, 2) := by decide +kernel
theorem dX9_toward_11 : decode cX9_toward 11 = .ok (.invokestatic 161, 3) := by decide +kernel
theorem dX9_toward_14 : decode cX9_toward 14 = .ok (.ifCond .ne 5, 3) := by decide +kernel
theorem dX9_toward_17 : decode cX9_toward 17 = .ok (.iconst (-1), 1) := by decide +kernel
theorem dX9_toward_18 : decode cX9_toward 18 = .ok (.ireturn, 1) := by decide +kernel
theorem dX9_toward_19 : decode cX9_toward 19 = .ok (.iload_n 1, 1) := by decide +kernel
theorem dX9_toward_20 : decode cX9_toward 20 = .ok (.iload_n 2, 1) := by decide +kernel
theorem dX9_toward_21 : decode cX9_toward 21 = .ok (.invokestatic 165, 3) := by decide +kernel
theorem dX9_toward_24 : decode cX9_toward 24 = .ok (.iload_n 3, 1) := by decide +kernel
theorem dX9_toward_25 : decode cX9_toward 25 = .ok (.iload 4, 2) := by decide +kernel
theorem dX9_toward_27 : decode cX9_toward 27 = .ok (.invokestatic 165, 3) := by decide +kernel
theorem dX9_toward_30 : decode cX9_toward 30 = .ok (.invokestatic 168, 3) := by decide +kernel
theorem dX9_toward_33 : decode cX9_toward 33 = .ok (.ireturn, 1) := by decide +kernel
def s_Top_toward_b17 : Int32 := (-1)
def s_Top_toward (x1 : Int32) (x2 : Int32) (x3 : Int32) (x4 : Int32) : Int32 := (if (s_Top_isCell x1 x2) = 0 then (s_Top_toward_b17) else (if (s_Top_isCell x3 x4) = 0 then (s_Top_toward_b17) else (s_Ways_wayTo (s_Ways_cellAt x1 x2) (s_Ways_cellAt x3 x4))))
set_option maxHeartbeats 1000000 in
set_option maxRecDepth 20000 in
theorem b_Top_toward_b17 {X : z_X} {E : z_ET} {o : z_G} {g : z_G} (hE : z_EV X E cX9_toward 5 RX9 2 55 71) {r : Int32} (hret : ∀ (pc : Nat) (lv : List (Nat × Value)), decode cX9_toward pc = .ok (.ireturn, 1) → z_V X E 5 g o pc lv [.int r])   (h : s_Top_toward_b17 = r) : z_V X E 5 g o 17 [] [] := by
  unfold s_Top_toward_b17 at h
  refine z_iconst (v := (-1)) hE dX9_toward_17 rfl ?_
  subst h
  exact hret _ _ dX9_toward_18
set_option maxHeartbeats 1000000 in
set_option maxRecDepth 20000 in
theorem c_Top_toward {X : z_X} {l : Launch} {o : z_G} (x1 : Int32) (x2 : Int32) (x3 : Int32) (x4 : Int32) (g : z_G) : z_MI X l 71 yX9_toward cX9_toward 5 (some .int) 2 55 [.ref (z_ad X 39), .int x1, .int x2, .int x3, .int x4] g o g o (s_Top_toward x1 x2 x3 x4) := by
  obtain ⟨r, h⟩ : ∃ r, s_Top_toward x1 x2 x3 x4 = r := ⟨_, rfl⟩
  rw [h]
  unfold s_Top_toward at h
  refine z_meti (ty := .int) rfl rfl (by decide) (Nat.le_of_ble_eq_true rfl) (fun E hl hE hret => ?_)
  subst hl
  refine z_iload_n hE 1 dX9_toward_0 rfl ?_
  refine z_iload_n hE 2 dX9_toward_1 rfl ?_
  refine z_iS (rest := []) (av := [.int x1, .int x2]) hE (c_Top_isCell x1 x2 g) l_RX9_161 (by decide) ⟨by decide, by decide⟩ dX9_toward_2 rfl (Nat.le_of_ble_eq_true rfl) ?_
  refine z_if_eq hE 17 dX9_toward_5 rfl (fun c3q => ?_) (fun c3q => ?_)
  · replace h := z_t c3q h
    refine z_sub [] [] rfl ?_
    exact b_Top_toward_b17 hE hret h
  · replace h := z_f c3q h
    refine z_iload_n hE 3 dX9_toward_8 rfl ?_
    refine z_iload hE 4 dX9_toward_9 rfl ?_
    refine z_iS (rest := []) (av := [.int x3, .int x4]) hE (c_Top_isCell x3 x4 g) l_RX9_161 (by decide) ⟨by decide, by decide⟩ dX9_toward_11 rfl (Nat.le_of_ble_eq_true rfl) ?_
    refine z_if_ne hE 19 dX9_toward_14 rfl (fun c4q => ?_) (fun c4q => ?_)
    · replace h := z_f c4q h
      refine z_iload_n hE 1 dX9_toward_19 rfl ?_
      refine z_iload_n hE 2 dX9_toward_20 rfl ?_
      refine z_iS (rest := []) (av := [.int x1, .int x2]) hE (c_Ways_cellAt x1 x2 g) l_RX9_165 (by decide) ⟨by decide, by decide⟩ dX9_toward_21 rfl (Nat.le_of_ble_eq_true rfl) ?_
      refine z_iload_n hE 3 dX9_toward_24 rfl ?_
      refine z_iload hE 4 dX9_toward_25 rfl ?_
      refine z_iS (rest := [.int (s_Ways_cellAt x1 x2)]) (av := [.int x3, .int x4]) hE (c_Ways_cellAt x3 x4 g) l_RX9_165 (by decide) ⟨by decide, by decide⟩ dX9_toward_27 rfl (Nat.le_of_ble_eq_true rfl) ?_
      refine z_iS (rest := []) (av := [.int (s_Ways_cellAt x1 x2), .int (s_Ways_cellAt x3 x4)]) hE (c_Ways_wayTo (s_Ways_cellAt x1 x2) (s_Ways_cellAt x3 x4) g) l_RX9_168 (by decide) ⟨by decide, by decide⟩ dX9_toward_30 rfl (Nat.le_of_ble_eq_true rfl) ?_
      subst h
      exact hret _ _ dX9_toward_33
    · replace h := z_t c4q h
      refine z_sub [] [] rfl ?_
      exact b_Top_toward_b17 hE hret h
theorem dX4_dropLowest_0 : decode cX4_dropLowest 0 = .ok (.aload_n 0, 1) := by decide +kernel
theorem dX4_dropLowest_1 : decode cX4_dropLowest 1 = .ok (.getfield 15, 3) := by decide +kernel
theorem dX4_dropLowest_4 : decode cX4_dropLowest 4 = .ok (.iconst 0, 1) := by decide +kernel
theorem dX4_dropLowest_5 : decode cX4_dropLowest 5 = .ok (.aaload, 1) := by decide +kernel
theorem dX4_dropLowest_6 : decode cX4_dropLowest 6 = .ok (.astore_n 1, 1) := by decide +kernel
theorem dX4_dropLowest_7 : decode cX4_dropLowest 7 = .ok (.iconst 1, 1) := by decide +kernel
theorem dX4_dropLowest_8 : decode cX4_dropLowest 8 = .ok (.istore_n 2, 1) := by decide +kernel
theorem dX4_dropLowest_9 : decode cX4_dropLowest 9 = .ok (.iload_n 2, 1) := by decide +kernel
theorem dX4_dropLowest_10 : decode cX4_dropLowest 10 = .ok (.aload_n 0, 1) := by decide +kernel
theorem dX4_dropLowest_11 : decode cX4_dropLowest 11 = .ok (.getfield 15, 3) := by decide +kernel
theorem dX4_dropLowest_14 : decode cX4_dropLowest 14 = .ok (.arraylength, 1) := by decide +kernel
theorem dX4_dropLowest_15 : decode cX4_dropLowest 15 = .ok (.if_icmp .ge 23, 3) := by decide +kernel
theorem dX4_dropLowest_18 : decode cX4_dropLowest 18 = .ok (.aload_n 0, 1) := by decide +kernel
theorem dX4_dropLowest_19 : decode cX4_dropLowest 19 = .ok (.getfield 15, 3) := by decide +kernel
theorem dX4_dropLowest_22 : decode cX4_dropLowest 22 = .ok (.iload_n 2, 1) := by decide +kernel
theorem dX4_dropLowest_23 : decode cX4_dropLowest 23 = .ok (.iconst 1, 1) := by decide +kernel
theorem dX4_dropLowest_24 : decode cX4_dropLowest 24 = .ok (.isub, 1) := by decide +kernel
theorem dX4_dropLowest_25 : decode cX4_dropLowest 25 = .ok (.aload_n 0, 1) := by decide +kernel
theorem dX4_dropLowest_26 : decode cX4_dropLowest 26 = .ok (.getfield 15, 3) := by decide +kernel
theorem dX4_dropLowest_29 : decode cX4_dropLowest 29 = .ok (.iload_n 2, 1) := by decide +kernel
theorem dX4_dropLowest_30 : decode cX4_dropLowest 30 = .ok (.aaload, 1) := by decide +kernel
theorem dX4_dropLowest_31 : decode cX4_dropLowest 31 = .ok (.aastore, 1) := by decide +kernel
theorem dX4_dropLowest_32 : decode cX4_dropLowest 32 = .ok (.iinc 2 1, 3) := by decide +kernel
theorem dX4_dropLowest_35 : decode cX4_dropLowest 35 = .ok (.goto (-26), 3) := by decide +kernel
theorem dX4_dropLowest_38 : decode cX4_dropLowest 38 = .ok (.aload_n 0, 1) := by decide +kernel
theorem dX4_dropLowest_39 : decode cX4_dropLowest 39 = .ok (.getfield 15, 3) := by decide +kernel
theorem dX4_dropLowest_42 : decode cX4_dropLowest 42 = .ok (.aload_n 0, 1) := by decide +kernel
theorem dX4_dropLowest_43 : decode cX4_dropLowest 43 = .ok (.getfield 15, 3) := by decide +kernel
theorem dX4_dropLowest_46 : decode cX4_dropLowest 46 = .ok (.arraylength, 1) := by decide +kernel
theorem dX4_dropLowest_47 : decode cX4_dropLowest 47 = .ok (.iconst 1, 1) := by decide +kernel
theorem dX4_dropLowest_48 : decode cX4_dropLowest 48 = .ok (.isub, 1) := by decide +kernel
theorem dX4_dropLowest_49 : decode cX4_dropLowest 49 = .ok (.aload_n 1, 1) := by decide +kernel
theorem dX4_dropLowest_50 : decode cX4_dropLowest 50 = .ok (.aastore, 1) := by decide +kernel
theorem dX4_dropLowest_51 : decode cX4_dropLowest 51 = .ok (.aload_n 0, 1) := by decide +kernel
theorem dX4_dropLowest_52 : decode cX4_dropLowest 52 = .ok (.aload_n 0, 1) := by decide +kernel
theorem dX4_dropLowest_53 : decode cX4_dropLowest 53 = .ok (.getfield 15, 3) := by decide +kernel
theorem dX4_dropLowest_56 : decode cX4_dropLowest 56 = .ok (.arraylength, 1) := by decide +kernel
theorem dX4_dropLowest_57 : decode cX4_dropLowest 57 = .ok (.iconst 1, 1) := by decide +kernel
theorem dX4_dropLowest_58 : decode cX4_dropLowest 58 = .ok (.isub, 1) := by decide +kernel
theorem dX4_dropLowest_59 : decode cX4_dropLowest 59 = .ok (.putfield 22, 3) := by decide +kernel
theorem dX4_dropLowest_62 : decode cX4_dropLowest 62 = .ok (.return_, 1) := by decide +kernel
def s_Pile_dropLowest_61_L9 : Nat → Nat → Int32 → z_G → Option (z_G)
  | 0, _, _, _ => none
  | n + 1, q_x1, x2, g => (if 8 ≤ x2 then (z_ck (z_inb (8 - 1) 8) (z_let (α := z_G) (z_wr g 62 (8 - 1) (nI q_x1)) fun g15q => (z_let (α := z_G) (z_up g15q 61 1 (8 - 1)) fun g16q => (some g16q)))) else (z_ck (z_inb x2 8) (z_let (α := Nat) (Int32.toNatClampNeg (z_rd g 62 x2)) fun q18q => (z_ck (decide (q18q < 13)) (z_ck (z_inb (x2 - 1) 8) (z_let (α := z_G) (z_wr g 62 (x2 - 1) (nI q18q)) fun g21q => ((s_Pile_dropLowest_61_L9 n) q_x1 (x2 + 1) g21q)))))))
def s_Pile_dropLowest_61 (g : z_G) : Option (z_G) := (z_ck (z_inb 0 8) (z_let (α := Nat) (Int32.toNatClampNeg (z_rd g 62 0)) fun q23q => (z_ck (decide (q23q < 13)) (s_Pile_dropLowest_61_L9 z_F q23q 1 g))))
set_option maxHeartbeats 1000000 in
set_option maxRecDepth 20000 in
theorem b_Pile_dropLowest_61_L9 {X : z_X} {E : z_ET} {o : z_G} (hE : z_EV X E cX4_dropLowest 3 RX4 0 0 71) {r : z_G} (hret : ∀ (pc : Nat) (lv : List (Nat × Value)), decode cX4_dropLowest pc = .ok (.return_, 1) → z_V X E 3 r o pc lv []) : ∀ (n : Nat) (q_x1 : Nat) (x2 : Int32) (g : z_G), q_x1 < 13 → s_Pile_dropLowest_61_L9 n q_x1 x2 g = some r → z_V X E 3 g o 9 [(0, .ref (z_ad X 61)), (1, .ref (z_ad X (3 * q_x1))), (2, .int x2)] [] := by
  intro n
  induction n with
  | zero => intro q_x1 x2 g hq_x1 h; exact z_none h
  | succ n ih =>
    intro q_x1 x2 g hq_x1 h
    rw [s_Pile_dropLowest_61_L9] at h
    refine z_iload_n hE 2 dX4_dropLowest_9 rfl ?_
    refine z_aload_n hE 0 dX4_dropLowest_10 rfl ?_
    refine z_get hE f_RX4_15 (by decide) e_61 rfl dX4_dropLowest_11 ?_
    refine z_alen (v := 8) hE 3 (by decide) e_62 rfl rfl dX4_dropLowest_14 ?_
    refine z_icmp_ge hE 38 dX4_dropLowest_15 rfl (fun c13q => ?_) (fun c13q => ?_)
    · replace h := z_t c13q h
      refine z_aload_n hE 0 dX4_dropLowest_38 rfl ?_
      refine z_get hE f_RX4_15 (by decide) e_61 rfl dX4_dropLowest_39 ?_
      refine z_aload_n hE 0 dX4_dropLowest_42 rfl ?_
      refine z_get hE f_RX4_15 (by decide) e_61 rfl dX4_dropLowest_43 ?_
      refine z_alen (v := 8) hE 3 (by decide) e_62 rfl rfl dX4_dropLowest_46 ?_
      refine z_iconst (v := 1) hE dX4_dropLowest_47 rfl ?_
      refine z_isub hE dX4_dropLowest_48 ?_
      refine z_aload_n hE 1 dX4_dropLowest_49 rfl ?_
      obtain ⟨k14q, h⟩ := z_ck_some h
      obtain ⟨g15q, eg15q, h⟩ := z_let_eq h
      refine z_aast hE (by decide) e_62 k14q (by omega) (e_col hq_x1) (ua_62 hq_x1 eg15q) dX4_dropLowest_50 ?_
      refine z_aload_n hE 0 dX4_dropLowest_51 rfl ?_
      refine z_aload_n hE 0 dX4_dropLowest_52 rfl ?_
      refine z_get hE f_RX4_15 (by decide) e_61 rfl dX4_dropLowest_53 ?_
      refine z_alen (v := 8) hE 3 (by decide) e_62 rfl rfl dX4_dropLowest_56 ?_
      refine z_iconst (v := 1) hE dX4_dropLowest_57 rfl ?_
      refine z_isub hE dX4_dropLowest_58 ?_
      obtain ⟨g16q, eg16q, h⟩ := z_let_eq h
      refine z_put hE f_RX4_22 ft_4 (by decide) e_61 rfl (tyX4_ok 1 (by decide)) rfl rfl (Nat.le_of_ble_eq_true rfl) (u_61_1 eg16q) dX4_dropLowest_59 ?_
      obtain rfl := Option.some.inj h
      exact hret _ _ dX4_dropLowest_62
    · replace h := z_f c13q h
      refine z_aload_n hE 0 dX4_dropLowest_18 rfl ?_
      refine z_get hE f_RX4_15 (by decide) e_61 rfl dX4_dropLowest_19 ?_
      refine z_iload_n hE 2 dX4_dropLowest_22 rfl ?_
      refine z_iconst (v := 1) hE dX4_dropLowest_23 rfl ?_
      refine z_isub hE dX4_dropLowest_24 ?_
      refine z_aload_n hE 0 dX4_dropLowest_25 rfl ?_
      refine z_get hE f_RX4_15 (by decide) e_61 rfl dX4_dropLowest_26 ?_
      refine z_iload_n hE 2 dX4_dropLowest_29 rfl ?_
      obtain ⟨k17q, h⟩ := z_ck_some h
      obtain ⟨q18q, eq18q, h⟩ := z_let_eq h
      obtain ⟨k19q, h⟩ := z_ck_some h
      have hq18q : q18q < 13 := of_decide_eq_true k19q
      refine z_aald (a := z_ad X (3 * q18q)) hE (by decide) e_62 k17q (by show some (z_ad X (3 * (Int32.toNatClampNeg (z_rd g 62 x2) % 13))) = _; rw [← eq18q, Nat.mod_eq_of_lt hq18q]) dX4_dropLowest_30 ?_
      obtain ⟨k20q, h⟩ := z_ck_some h
      obtain ⟨g21q, eg21q, h⟩ := z_let_eq h
      refine z_aast hE (by decide) e_62 k20q (by omega) (e_col hq18q) (ua_62 hq18q eg21q) dX4_dropLowest_31 ?_
      refine z_iinc (v := x2 + 1) hE 2 [(2, .int (x2 + 1)), (0, .ref (z_ad X 61)), (1, .ref (z_ad X (3 * q_x1)))] dX4_dropLowest_32 rfl rfl (by decide) rfl ?_
      refine z_goto hE 9 dX4_dropLowest_35 rfl ?_
      refine z_sub [(0, .ref (z_ad X 61)), (1, .ref (z_ad X (3 * q_x1))), (2, .int (x2 + 1))] [1, 2, 0] rfl ?_
      exact ih q_x1 (x2 + 1) g21q hq_x1 h
set_option maxHeartbeats 1000000 in
set_option maxRecDepth 20000 in
theorem c_Pile_dropLowest_61 {X : z_X} {l : Launch} {o : z_G} (g : z_G) (r : z_G) (h : s_Pile_dropLowest_61 g = some r) : z_MV X l 71 yX4_dropLowest cX4_dropLowest 3 none 0 0 [.ref (z_ad X 61)] g o r o := by
  unfold s_Pile_dropLowest_61 at h
  refine z_metv (by decide) (Nat.le_of_ble_eq_true rfl) (fun E hl hE hret => ?_)
  subst hl
  refine z_aload_n hE 0 dX4_dropLowest_0 rfl ?_
  refine z_get hE f_RX4_15 (by decide) e_61 rfl dX4_dropLowest_1 ?_
  refine z_iconst (v := 0) hE dX4_dropLowest_4 rfl ?_
  obtain ⟨k22q, h⟩ := z_ck_some h
  obtain ⟨q23q, eq23q, h⟩ := z_let_eq h
  obtain ⟨k24q, h⟩ := z_ck_some h
  have hq23q : q23q < 13 := of_decide_eq_true k24q
  refine z_aald (a := z_ad X (3 * q23q)) hE (by decide) e_62 k22q (by show some (z_ad X (3 * (Int32.toNatClampNeg (z_rd g 62 0) % 13))) = _; rw [← eq23q, Nat.mod_eq_of_lt hq23q]) dX4_dropLowest_5 ?_
  refine z_astore_n hE [(1, .ref (z_ad X (3 * q23q))), (0, .ref (z_ad X 61))] dX4_dropLowest_6 rfl (by decide) rfl ?_
  refine z_iconst (v := 1) hE dX4_dropLowest_7 rfl ?_
  refine z_istore_n hE [(2, .int 1), (1, .ref (z_ad X (3 * q23q))), (0, .ref (z_ad X 61))] dX4_dropLowest_8 rfl (by decide) rfl ?_
  refine z_sub [(0, .ref (z_ad X 61)), (1, .ref (z_ad X (3 * q23q))), (2, .int 1)] [2, 1, 0] rfl ?_
  exact b_Pile_dropLowest_61_L9 hE hret z_F q23q 1 g hq23q h
theorem dX4_put_0 : decode cX4_put 0 = .ok (.aload_n 0, 1) := by decide +kernel
theorem dX4_put_1 : decode cX4_put 1 = .ok (.getfield 22, 3) := by decide +kernel
theorem dX4_put_4 : decode cX4_put 4 = .ok (.aload_n 0, 1) := by decide +kernel
theorem dX4_put_5 : decode cX4_put 5 = .ok (.getfield 15, 3) := by decide +kernel
theorem dX4_put_8 : decode cX4_put 8 = .ok (.arraylength, 1) := by decide +kernel
theorem dX4_put_9 : decode cX4_put 9 = .ok (.if_icmp .lt 7, 3) := by decide +kernel
theorem dX4_put_12 : decode cX4_put 12 = .ok (.aload_n 0, 1) := by decide +kernel
theorem dX4_put_13 : decode cX4_put 13 = .ok (.invokevirtual 26, 3) := by decide +kernel
theorem dX4_put_16 : decode cX4_put 16 = .ok (.aload_n 0, 1) := by decide +kernel
theorem dX4_put_17 : decode cX4_put 17 = .ok (.getfield 15, 3) := by decide +kernel
theorem dX4_put_20 : decode cX4_put 20 = .ok (.aload_n 0, 1) := by decide +kernel
theorem dX4_put_21 : decode cX4_put 21 = .ok (.getfield 22, 3) := by decide +kernel
theorem dX4_put_24 : decode cX4_put 24 = .ok (.aaload, 1) := by decide +kernel
theorem dX4_put_25 : decode cX4_put 25 = .ok (.aload_n 1, 1) := by decide +kernel
theorem dX4_put_26 : decode cX4_put 26 = .ok (.invokevirtual 29, 3) := by decide +kernel
theorem dX4_put_29 : decode cX4_put 29 = .ok (.aload_n 0, 1) := by decide +kernel
theorem dX4_put_30 : decode cX4_put 30 = .ok (.dup, 1) := by decide +kernel
theorem dX4_put_31 : decode cX4_put 31 = .ok (.getfield 22, 3) := by decide +kernel
theorem dX4_put_34 : decode cX4_put 34 = .ok (.iconst 1, 1) := by decide +kernel
theorem dX4_put_35 : decode cX4_put 35 = .ok (.iadd, 1) := by decide +kernel
theorem dX4_put_36 : decode cX4_put 36 = .ok (.putfield 22, 3) := by decide +kernel
theorem dX4_put_39 : decode cX4_put 39 = .ok (.return_, 1) := by decide +kernel
def s_Pile_put_61_b16 (c1 : Nat)  (g : z_G) : Option (z_G) := (z_ck (z_inb (g 61 1) 8) (z_let (α := Nat) (Int32.toNatClampNeg (z_rd g 62 (g 61 1))) fun q8q => (z_ck (decide (q8q < 13)) (z_let (α := z_G) (z_up (s_Col_copyFrom q8q c1 g) 61 1 (((s_Col_copyFrom q8q c1 g) 61 1) + 1)) fun g10q => (some g10q)))))
def s_Pile_put_61 (c1 : Nat) (g : z_G) : Option (z_G) := (if (g 61 1) < 8 then (s_Pile_put_61_b16 c1 g) else (Option.bind (s_Pile_dropLowest_61 g) fun r12q => (s_Pile_put_61_b16 c1 r12q)))
set_option maxHeartbeats 1000000 in
set_option maxRecDepth 20000 in
theorem b_Pile_put_61_b16 {X : z_X} {E : z_ET} {o : z_G} {c1 : Nat} (hc1 : c1 < 13) (hE : z_EV X E cX4_put 2 RX4 2 81 71) {r : z_G} (hret : ∀ (pc : Nat) (lv : List (Nat × Value)), decode cX4_put pc = .ok (.return_, 1) → z_V X E 2 r o pc lv [])  (g : z_G)  (h : s_Pile_put_61_b16 c1 g = some r) : z_V X E 2 g o 16 [(0, .ref (z_ad X 61)), (1, .ref (z_ad X (3 * c1)))] [] := by
  unfold s_Pile_put_61_b16 at h
  refine z_aload_n hE 0 dX4_put_16 rfl ?_
  refine z_get hE f_RX4_15 (by decide) e_61 rfl dX4_put_17 ?_
  refine z_aload_n hE 0 dX4_put_20 rfl ?_
  refine z_get hE f_RX4_22 (by decide) e_61 rfl dX4_put_21 ?_
  obtain ⟨k7q, h⟩ := z_ck_some h
  obtain ⟨q8q, eq8q, h⟩ := z_let_eq h
  obtain ⟨k9q, h⟩ := z_ck_some h
  have hq8q : q8q < 13 := of_decide_eq_true k9q
  refine z_aald (a := z_ad X (3 * q8q)) hE (by decide) e_62 k7q (by show some (z_ad X (3 * (Int32.toNatClampNeg (z_rd g 62 (g 61 1)) % 13))) = _; rw [← eq8q, Nat.mod_eq_of_lt hq8q]) dX4_put_24 ?_
  refine z_aload_n hE 1 dX4_put_25 rfl ?_
  refine z_vV (rest := []) (av := [.ref (z_ad X (3 * c1))]) hE (c_Col_copyFrom q8q c1 g hq8q hc1) l_RX4_29 (by decide) (by omega) (e_col hq8q) rfl ⟨by decide, by decide⟩ dX4_put_26 rfl (Nat.le_of_ble_eq_true rfl) ?_
  refine z_aload_n hE 0 dX4_put_29 rfl ?_
  refine z_dup hE dX4_put_30 rfl ?_
  refine z_get hE f_RX4_22 (by decide) e_61 rfl dX4_put_31 ?_
  refine z_iconst (v := 1) hE dX4_put_34 rfl ?_
  refine z_iadd hE dX4_put_35 ?_
  obtain ⟨g10q, eg10q, h⟩ := z_let_eq h
  refine z_put hE f_RX4_22 ft_4 (by decide) e_61 rfl (tyX4_ok 1 (by decide)) rfl rfl (Nat.le_of_ble_eq_true rfl) (u_61_1 eg10q) dX4_put_36 ?_
  obtain rfl := Option.some.inj h
  exact hret _ _ dX4_put_39
set_option maxHeartbeats 1000000 in
set_option maxRecDepth 20000 in
theorem c_Pile_put_61 {X : z_X} {l : Launch} {o : z_G} (c1 : Nat) (g : z_G) (hc1 : c1 < 13) (r : z_G) (h : s_Pile_put_61 c1 g = some r) : z_MV X l 71 yX4_put cX4_put 2 none 2 81 [.ref (z_ad X 61), .ref (z_ad X (3 * c1))] g o r o := by
  unfold s_Pile_put_61 at h
  refine z_metv (by decide) (Nat.le_of_ble_eq_true rfl) (fun E hl hE hret => ?_)
  subst hl
  refine z_aload_n hE 0 dX4_put_0 rfl ?_
  refine z_get hE f_RX4_22 (by decide) e_61 rfl dX4_put_1 ?_
  refine z_aload_n hE 0 dX4_put_4 rfl ?_
  refine z_get hE f_RX4_15 (by decide) e_61 rfl dX4_put_5 ?_
  refine z_alen (v := 8) hE 3 (by decide) e_62 rfl rfl dX4_put_8 ?_
  refine z_icmp_lt hE 16 dX4_put_9 rfl (fun c11q => ?_) (fun c11q => ?_)
  · replace h := z_t c11q h
    exact b_Pile_put_61_b16 hc1 hE hret g h
  · replace h := z_f c11q h
    refine z_aload_n hE 0 dX4_put_12 rfl ?_
    obtain ⟨r12q, hr12q, h⟩ := z_bind_some h
    refine z_vV (rest := []) (av := []) hE (c_Pile_dropLowest_61 g r12q hr12q) l_RX4_26 (by decide) (by decide) e_61 rfl ⟨by decide, by decide⟩ dX4_put_13 rfl (Nat.le_of_ble_eq_true rfl) ?_
    exact b_Pile_put_61_b16 hc1 hE hret r12q h
theorem dX0_pullOn_0 : decode cX0_pullOn 0 = .ok (.aload_n 0, 1) := by decide +kernel
theorem dX0_pullOn_1 : decode cX0_pullOn 1 = .ok (.iload_n 1, 1) := by decide +kernel
theorem dX0_pullOn_2 : decode cX0_pullOn 2 = .ok (.invokevirtual 49, 3) := by decide +kernel
theorem dX0_pullOn_5 : decode cX0_pullOn 5 = .ok (.ifCond .ne 18, 3) := by decide +kernel
theorem dX0_pullOn_8 : decode cX0_pullOn 8 = .ok (.aload_n 2, 1) := by decide +kernel
theorem dX0_pullOn_9 : decode cX0_pullOn 9 = .ok (.getfield 53, 3) := by decide +kernel
theorem dX0_pullOn_12 : decode cX0_pullOn 12 = .ok (.iload_n 1, 1) := by decide +kernel
theorem dX0_pullOn_13 : decode cX0_pullOn 13 = .ok (.iaload, 1) := by decide +kernel
theorem dX0_pullOn_14 : decode cX0_pullOn 14 = .ok (.aload_n 0, 1) := by decide +kernel
theorem dX0_pullOn_15 : decode cX0_pullOn 15 = .ok (.getfield 15, 3) := by decide +kernel
theorem dX0_pullOn_18 : decode cX0_pullOn 18 = .ok (.iload_n 1, 1) := by decide +kernel
theorem dX0_pullOn_19 : decode cX0_pullOn 19 = .ok (.iaload, 1) := by decide +kernel
theorem dX0_pullOn_20 : decode cX0_pullOn 20 = .ok (.if_icmp .eq 8, 3) := by decide +kernel
theorem dX0_pullOn_23 : decode cX0_pullOn 23 = .ok (.bipush (-4), 2) := by decide +kernel
theorem dX0_pullOn_25 : decode cX0_pullOn 25 = .ok (.goto 14, 3) := by decide +kernel
theorem dX0_pullOn_28 : decode cX0_pullOn 28 = .ok (.aload_n 2, 1) := by decide +kernel
theorem dX0_pullOn_29 : decode cX0_pullOn 29 = .ok (.getfield 56, 3) := by decide +kernel
theorem dX0_pullOn_32 : decode cX0_pullOn 32 = .ok (.aload_n 0, 1) := by decide +kernel
theorem dX0_pullOn_33 : decode cX0_pullOn 33 = .ok (.getfield 15, 3) := by decide +kernel
theorem dX0_pullOn_36 : decode cX0_pullOn 36 = .ok (.iload_n 1, 1) := by decide +kernel
theorem dX0_pullOn_37 : decode cX0_pullOn 37 = .ok (.iaload, 1) := by decide +kernel
theorem dX0_pullOn_38 : decode cX0_pullOn 38 = .ok (.iaload, 1) := by decide +kernel
theorem dX0_pullOn_39 : decode cX0_pullOn 39 = .ok (.ireturn, 1) := by decide +kernel
def s_Col_pullOn_b23 (c0 : Nat) (g : z_G) : Option (Int32) := (some (-4))
def s_Col_pullOn (c0 : Nat) (x1 : Int32) (g : z_G) : Option (Int32) := (if (s_Col_isTied c0 x1 g) = 0 then (z_ck (z_inb x1 6) (z_ck (z_inb x1 6) (if (z_rd g 45 x1) = (z_rd g (3 * c0 + 2) x1) then (z_ck (z_inb x1 6) (z_ck (z_inb (z_rd g (3 * c0 + 2) x1) 4) (some (z_rd g 44 (z_rd g (3 * c0 + 2) x1))))) else (s_Col_pullOn_b23 c0 g)))) else (s_Col_pullOn_b23 c0 g))
set_option maxHeartbeats 1000000 in
set_option maxRecDepth 20000 in
theorem b_Col_pullOn_b23 {X : z_X} {E : z_ET} {o : z_G} {c0 : Nat} (hc0 : c0 < 13) (hE : z_EV X E cX0_pullOn 3 RX0 1 21 71) {g : z_G} {r : Int32} (hret : ∀ (pc : Nat) (lv : List (Nat × Value)), decode cX0_pullOn pc = .ok (.ireturn, 1) → z_V X E 3 g o pc lv [.int r])   (h : s_Col_pullOn_b23 c0 g = some r) : z_V X E 3 g o 23 [] [] := by
  unfold s_Col_pullOn_b23 at h
  refine z_bipush (v := (-4)) hE dX0_pullOn_23 rfl ?_
  refine z_goto hE 39 dX0_pullOn_25 rfl ?_
  obtain rfl := Option.some.inj h
  exact hret _ _ dX0_pullOn_39
set_option maxHeartbeats 1000000 in
set_option maxRecDepth 20000 in
theorem c_Col_pullOn {X : z_X} {l : Launch} {o : z_G} (c0 : Nat) (x1 : Int32) (g : z_G) (hc0 : c0 < 13) (r : Int32) (h : s_Col_pullOn c0 x1 g = some r) : z_MI X l 71 yX0_pullOn cX0_pullOn 3 (some .int) 1 21 [.ref (z_ad X (3 * c0)), .int x1, .ref (z_ad X 43)] g o g o r := by
  unfold s_Col_pullOn at h
  refine z_meti (ty := .int) rfl rfl (by decide) (Nat.le_of_ble_eq_true rfl) (fun E hl hE hret => ?_)
  subst hl
  refine z_aload_n hE 0 dX0_pullOn_0 rfl ?_
  refine z_iload_n hE 1 dX0_pullOn_1 rfl ?_
  refine z_iV (rest := []) (av := [.int x1]) hE (c_Col_isTied c0 x1 g hc0) l_RX0_49 (by decide) (by omega) (e_col hc0) rfl ⟨by decide, by decide⟩ dX0_pullOn_2 rfl (Nat.le_of_ble_eq_true rfl) ?_
  refine z_if_ne hE 23 dX0_pullOn_5 rfl (fun c7q => ?_) (fun c7q => ?_)
  · replace h := z_f c7q h
    refine z_sub [] [] rfl ?_
    exact b_Col_pullOn_b23 hc0 hE hret h
  · replace h := z_t c7q h
    refine z_aload_n hE 2 dX0_pullOn_8 rfl ?_
    refine z_get hE f_RX0_53 (by decide) e_43 rfl dX0_pullOn_9 ?_
    refine z_iload_n hE 1 dX0_pullOn_12 rfl ?_
    obtain ⟨k8q, h⟩ := z_ck_some h
    refine z_iald hE (by decide) e_45 k8q dX0_pullOn_13 ?_
    refine z_aload_n hE 0 dX0_pullOn_14 rfl ?_
    refine z_get hE f_RX0_15 (by omega) (e_col hc0) rfl dX0_pullOn_15 ?_
    refine z_iload_n hE 1 dX0_pullOn_18 rfl ?_
    obtain ⟨k9q, h⟩ := z_ck_some h
    refine z_iald hE (by omega) (e_right hc0) k9q dX0_pullOn_19 ?_
    refine z_icmp_eq hE 28 dX0_pullOn_20 rfl (fun c10q => ?_) (fun c10q => ?_)
    · replace h := z_t c10q h
      refine z_aload_n hE 2 dX0_pullOn_28 rfl ?_
      refine z_get hE f_RX0_56 (by decide) e_43 rfl dX0_pullOn_29 ?_
      refine z_aload_n hE 0 dX0_pullOn_32 rfl ?_
      refine z_get hE f_RX0_15 (by omega) (e_col hc0) rfl dX0_pullOn_33 ?_
      refine z_iload_n hE 1 dX0_pullOn_36 rfl ?_
      obtain ⟨k11q, h⟩ := z_ck_some h
      refine z_iald hE (by omega) (e_right hc0) k11q dX0_pullOn_37 ?_
      obtain ⟨k12q, h⟩ := z_ck_some h
      refine z_iald hE (by decide) e_44 k12q dX0_pullOn_38 ?_
      obtain rfl := Option.some.inj h
      exact hret _ _ dX0_pullOn_39
    · replace h := z_f c10q h
      refine z_sub [] [] rfl ?_
      exact b_Col_pullOn_b23 hc0 hE hret h
theorem dX8_marched_0 : decode cX8_marched 0 = .ok (.iload_n 0, 1) := by decide +kernel
theorem dX8_marched_1 : decode cX8_marched 1 = .ok (.invokestatic 25, 3) := by decide +kernel
theorem dX8_marched_4 : decode cX8_marched 4 = .ok (.iload_n 1, 1) := by decide +kernel
theorem dX8_marched_5 : decode cX8_marched 5 = .ok (.iadd, 1) := by decide +kernel
theorem dX8_marched_6 : decode cX8_marched 6 = .ok (.bipush 8, 2) := by decide +kernel
theorem dX8_marched_8 : decode cX8_marched 8 = .ok (.irem, 1) := by decide +kernel
theorem dX8_marched_9 : decode cX8_marched 9 = .ok (.istore_n 3, 1) := by decide +kernel
theorem dX8_marched_10 : decode cX8_marched 10 = .ok (.iload_n 0, 1) := by decide +kernel
theorem dX8_marched_11 : decode cX8_marched 11 = .ok (.invokestatic 15, 3) := by decide +kernel
theorem dX8_marched_14 : decode cX8_marched 14 = .ok (.invokestatic 19, 3) := by decide +kernel
theorem dX8_marched_17 : decode cX8_marched 17 = .ok (.istore 4, 2) := by decide +kernel
theorem dX8_marched_19 : decode cX8_marched 19 = .ok (.iload_n 0, 1) := by decide +kernel
theorem dX8_marched_20 : decode cX8_marched 20 = .ok (.invokestatic 15, 3) := by decide +kernel
theorem dX8_marched_23 : decode cX8_marched 23 = .ok (.invokestatic 22, 3) := by decide +kernel
theorem dX8_marched_26 : decode cX8_marched 26 = .ok (.istore 5, 2) := by decide +kernel
theorem dX8_marched_28 : decode cX8_marched 28 = .ok (.iconst 0, 1) := by decide +kernel
theorem dX8_marched_29 : decode cX8_marched 29 = .ok (.istore 6, 2) := by decide +kernel
theorem dX8_marched_31 : decode cX8_marched 31 = .ok (.iload 6, 2) := by decide +kernel
theorem dX8_marched_33 : decode cX8_marched 33 = .ok (.iload_n 2, 1) := by decide +kernel
theorem dX8_marched_34 : decode cX8_marched 34 = .ok (.if_icmp .ge 50, 3) := by decide +kernel
theorem dX8_marched_37 : decode cX8_marched 37 = .ok (.iload 4, 2) := by decide +kernel
theorem dX8_marched_39 : decode cX8_marched 39 = .ok (.getstatic 44, 3) := by decide +kernel
theorem dX8_marched_42 : decode cX8_marched 42 = .ok (.iload_n 3, 1) := by decide +kernel
theorem dX8_marched_43 : decode cX8_marched 43 = .ok (.iaload, 1) := by decide +kernel
theorem dX8_marched_44 : decode cX8_marched 44 = .ok (.iadd, 1) := by decide +kernel
theorem dX8_marched_45 : decode cX8_marched 45 = .ok (.istore 7, 2) := by decide +kernel
theorem dX8_marched_47 : decode cX8_marched 47 = .ok (.iload 5, 2) := by decide +kernel
theorem dX8_marched_49 : decode cX8_marched 49 = .ok (.getstatic 48, 3) := by decide +kernel
theorem dX8_marched_52 : decode cX8_marched 52 = .ok (.iload_n 3, 1) := by decide +kernel
theorem dX8_marched_53 : decode cX8_marched 53 = .ok (.iaload, 1) := by decide +kernel
theorem dX8_marched_54 : decode cX8_marched 54 = .ok (.iadd, 1) := by decide +kernel
theorem dX8_marched_55 : decode cX8_marched 55 = .ok (.istore 8, 2) := by decide +kernel
theorem dX8_marched_57 : decode cX8_marched 57 = .ok (.iload 7, 2) := by decide +kernel
theorem dX8_marched_59 : decode cX8_marched 59 = .ok (.iload 8, 2) := by decide +kernel
theorem dX8_marched_61 : decode cX8_marched 61 = .ok (.invokestatic 51, 3) := by decide +kernel
theorem dX8_marched_64 : decode cX8_marched 64 = .ok (.ifCond .ne 6, 3) := by decide +kernel
theorem dX8_marched_67 : decode cX8_marched 67 = .ok (.goto 17, 3) := by decide +kernel
theorem dX8_marched_70 : decode cX8_marched 70 = .ok (.iload 7, 2) := by decide +kernel
theorem dX8_marched_72 : decode cX8_marched 72 = .ok (.istore 4, 2) := by decide +kernel
theorem dX8_marched_74 : decode cX8_marched 74 = .ok (.iload 8, 2) := by decide +kernel
theorem dX8_marched_76 : decode cX8_marched 76 = .ok (.istore 5, 2) := by decide +kernel
theorem dX8_marched_78 : decode cX8_marched 78 = .ok (.iinc 6 1, 3) := by decide +kernel
theorem dX8_marched_81 : decode cX8_marched 81 = .ok (.goto (-50), 3) := by decide +kernel
theorem dX8_marched_84 : decode cX8_marched 84 = .ok (.iload 4, 2) := by decide +kernel
theorem dX8_marched_86 : decode cX8_marched 86 = .ok (.iload 5, 2) := by decide +kernel
theorem dX8_marched_88 : decode cX8_marched 88 = .ok (.iload_n 3, 1) := by decide +kernel
theorem dX8_marched_89 : decode cX8_marched 89 = .ok (.invokestatic 55, 3) := by decide +kernel
theorem dX8_marched_92 : decode cX8_marched 92 = .ok (.ireturn, 1) := by decide +kernel
def s_Ways_marched_b84 (x3 : Int32) (x4 : Int32) (x5 : Int32) : Option (Int32) := (some (s_Ways_spotAt x4 x5 x3))
def s_Ways_marched_L31 : Nat → Int32 → Int32 → Int32 → Int32 → Int32 → Option (Int32)
  | 0, _, _, _, _, _ => none
  | n + 1, x2, x3, x4, x5, x6 => (if x2 ≤ x6 then (s_Ways_marched_b84 x3 x4 x5) else (z_ck (z_inb x3 8) (z_let (α := Int32) ((x4 + (z_cs (Int32.toNatClampNeg x3)))) fun v12q => (z_ck (z_inb x3 8) (z_let (α := Int32) ((x5 + (z_rs (Int32.toNatClampNeg x3)))) fun v14q => (if (s_Top_isCell v12q v14q) = 0 then (s_Ways_marched_b84 x3 x4 x5) else ((s_Ways_marched_L31 n) x2 x3 v12q v14q (x6 + 1))))))))
def s_Ways_marched (x0 : Int32) (x1 : Int32) (x2 : Int32) : Option (Int32) := (z_let (α := Int32) ((z_rem ((s_Ways_lookOf x0) + x1) 8)) fun v16q => (z_let (α := Int32) ((s_Ways_columnOf (s_Ways_cellOf x0))) fun v17q => (z_let (α := Int32) ((s_Ways_rowOf (s_Ways_cellOf x0))) fun v18q => (s_Ways_marched_L31 z_F x2 v16q v17q v18q 0))))
set_option maxHeartbeats 1000000 in
set_option maxRecDepth 20000 in
theorem b_Ways_marched_b84 {X : z_X} {E : z_ET} {o : z_G} {g : z_G} (hE : z_EV X E cX8_marched 9 RX8 2 43 71) {r : Int32} (hret : ∀ (pc : Nat) (lv : List (Nat × Value)), decode cX8_marched pc = .ok (.ireturn, 1) → z_V X E 9 g o pc lv [.int r]) (x3 : Int32) (x4 : Int32) (x5 : Int32)  (h : s_Ways_marched_b84 x3 x4 x5 = some r) : z_V X E 9 g o 84 [(3, .int x3), (4, .int x4), (5, .int x5)] [] := by
  unfold s_Ways_marched_b84 at h
  refine z_iload hE 1 dX8_marched_84 rfl ?_
  refine z_iload hE 2 dX8_marched_86 rfl ?_
  refine z_iload_n hE 0 dX8_marched_88 rfl ?_
  refine z_iS (rest := []) (av := [.int x4, .int x5, .int x3]) hE (c_Ways_spotAt x4 x5 x3 g) l_RX8_55 (by decide) ⟨by decide, by decide⟩ dX8_marched_89 rfl (Nat.le_of_ble_eq_true rfl) ?_
  obtain rfl := Option.some.inj h
  exact hret _ _ dX8_marched_92
set_option maxHeartbeats 1000000 in
set_option maxRecDepth 20000 in
theorem b_Ways_marched_L31 {X : z_X} {E : z_ET} {o : z_G} {g : z_G} (hE : z_EV X E cX8_marched 9 RX8 2 43 71) {r : Int32} (hret : ∀ (pc : Nat) (lv : List (Nat × Value)), decode cX8_marched pc = .ok (.ireturn, 1) → z_V X E 9 g o pc lv [.int r]) : ∀ (n : Nat) (x2 : Int32) (x3 : Int32) (x4 : Int32) (x5 : Int32) (x6 : Int32), s_Ways_marched_L31 n x2 x3 x4 x5 x6 = some r → z_V X E 9 g o 31 [(2, .int x2), (3, .int x3), (4, .int x4), (5, .int x5), (6, .int x6)] [] := by
  intro n
  induction n with
  | zero => intro x2 x3 x4 x5 x6 h; exact z_none h
  | succ n ih =>
    intro x2 x3 x4 x5 x6 h
    rw [s_Ways_marched_L31] at h
    refine z_iload hE 4 dX8_marched_31 rfl ?_
    refine z_iload_n hE 0 dX8_marched_33 rfl ?_
    refine z_icmp_ge hE 84 dX8_marched_34 rfl (fun c10q => ?_) (fun c10q => ?_)
    · replace h := z_t c10q h
      refine z_sub [(3, .int x3), (4, .int x4), (5, .int x5)] [1, 2, 3] rfl ?_
      exact b_Ways_marched_b84 hE hret x3 x4 x5 h
    · replace h := z_f c10q h
      refine z_iload hE 2 dX8_marched_37 rfl ?_
      refine z_gst0 hE w_241 dX8_marched_39 ?_
      refine z_iload_n hE 1 dX8_marched_42 rfl ?_
      obtain ⟨k11q, h⟩ := z_ck_some h
      refine z_tld0 hE k11q dX8_marched_43 ?_
      refine z_iadd hE dX8_marched_44 ?_
      obtain ⟨v12q, ev12q, h⟩ := z_let_eq h
      refine z_topi ev12q ?_
      refine z_istore hE [(7, .int v12q), (2, .int x2), (3, .int x3), (4, .int x4), (5, .int x5), (6, .int x6)] dX8_marched_45 (by decide) rfl ?_
      refine z_iload hE 4 dX8_marched_47 rfl ?_
      refine z_gst1 hE w_242 dX8_marched_49 ?_
      refine z_iload_n hE 2 dX8_marched_52 rfl ?_
      obtain ⟨k13q, h⟩ := z_ck_some h
      refine z_tld1 hE k13q dX8_marched_53 ?_
      refine z_iadd hE dX8_marched_54 ?_
      obtain ⟨v14q, ev14q, h⟩ := z_let_eq h
      refine z_topi ev14q ?_
      refine z_istore hE [(8, .int v14q), (7, .int v12q), (2, .int x2), (3, .int x3), (4, .int x4), (5, .int x5), (6, .int x6)] dX8_marched_55 (by decide) rfl ?_
      refine z_iload hE 1 dX8_marched_57 rfl ?_
      refine z_iload hE 0 dX8_marched_59 rfl ?_
      refine z_iS (rest := []) (av := [.int v12q, .int v14q]) hE (c_Top_isCell v12q v14q g) l_RX8_51 (by decide) ⟨by decide, by decide⟩ dX8_marched_61 rfl (Nat.le_of_ble_eq_true rfl) ?_
      refine z_if_ne hE 70 dX8_marched_64 rfl (fun c15q => ?_) (fun c15q => ?_)
      · replace h := z_f c15q h
        refine z_iload hE 1 dX8_marched_70 rfl ?_
        refine z_istore hE [(4, .int v12q), (8, .int v14q), (7, .int v12q), (2, .int x2), (3, .int x3), (5, .int x5), (6, .int x6)] dX8_marched_72 (by decide) rfl ?_
        refine z_iload hE 1 dX8_marched_74 rfl ?_
        refine z_istore hE [(5, .int v14q), (4, .int v12q), (8, .int v14q), (7, .int v12q), (2, .int x2), (3, .int x3), (6, .int x6)] dX8_marched_76 (by decide) rfl ?_
        refine z_iinc (v := x6 + 1) hE 6 [(6, .int (x6 + 1)), (5, .int v14q), (4, .int v12q), (8, .int v14q), (7, .int v12q), (2, .int x2), (3, .int x3)] dX8_marched_78 rfl rfl (by decide) rfl ?_
        refine z_goto hE 31 dX8_marched_81 rfl ?_
        refine z_sub [(2, .int x2), (3, .int x3), (4, .int v12q), (5, .int v14q), (6, .int (x6 + 1))] [5, 6, 2, 1, 0] rfl ?_
        exact ih x2 x3 v12q v14q (x6 + 1) h
      · replace h := z_t c15q h
        refine z_goto hE 84 dX8_marched_67 rfl ?_
        refine z_sub [(3, .int x3), (4, .int x4), (5, .int x5)] [3, 4, 5] rfl ?_
        exact b_Ways_marched_b84 hE hret x3 x4 x5 h
set_option maxHeartbeats 1000000 in
set_option maxRecDepth 20000 in
theorem c_Ways_marched {X : z_X} {l : Launch} {o : z_G} (x0 : Int32) (x1 : Int32) (x2 : Int32) (g : z_G) (r : Int32) (h : s_Ways_marched x0 x1 x2 = some r) : z_MI X l 71 yX8_marched cX8_marched 9 (some .int) 2 43 [.int x0, .int x1, .int x2] g o g o r := by
  unfold s_Ways_marched at h
  refine z_meti (ty := .int) rfl rfl (by decide) (Nat.le_of_ble_eq_true rfl) (fun E hl hE hret => ?_)
  subst hl
  refine z_iload_n hE 0 dX8_marched_0 rfl ?_
  refine z_iS (rest := []) (av := [.int x0]) hE (c_Ways_lookOf x0 g) l_RX8_25 (by decide) ⟨by decide, by decide⟩ dX8_marched_1 rfl (Nat.le_of_ble_eq_true rfl) ?_
  refine z_iload_n hE 1 dX8_marched_4 rfl ?_
  refine z_iadd hE dX8_marched_5 ?_
  refine z_bipush (v := 8) hE dX8_marched_6 rfl ?_
  refine z_irem hE dX8_marched_8 (by decide) ?_
  obtain ⟨v16q, ev16q, h⟩ := z_let_eq h
  refine z_topi ev16q ?_
  refine z_istore_n hE [(3, .int v16q), (0, .int x0), (1, .int x1), (2, .int x2)] dX8_marched_9 rfl (by decide) rfl ?_
  refine z_iload_n hE 1 dX8_marched_10 rfl ?_
  refine z_iS (rest := []) (av := [.int x0]) hE (c_Ways_cellOf x0 g) l_RX8_15 (by decide) ⟨by decide, by decide⟩ dX8_marched_11 rfl (Nat.le_of_ble_eq_true rfl) ?_
  refine z_iS (rest := []) (av := [.int (s_Ways_cellOf x0)]) hE (c_Ways_columnOf (s_Ways_cellOf x0) g) l_RX8_19 (by decide) ⟨by decide, by decide⟩ dX8_marched_14 rfl (Nat.le_of_ble_eq_true rfl) ?_
  obtain ⟨v17q, ev17q, h⟩ := z_let_eq h
  refine z_topi ev17q ?_
  refine z_istore hE [(4, .int v17q), (3, .int v16q), (0, .int x0), (1, .int x1), (2, .int x2)] dX8_marched_17 (by decide) rfl ?_
  refine z_iload_n hE 2 dX8_marched_19 rfl ?_
  refine z_iS (rest := []) (av := [.int x0]) hE (c_Ways_cellOf x0 g) l_RX8_15 (by decide) ⟨by decide, by decide⟩ dX8_marched_20 rfl (Nat.le_of_ble_eq_true rfl) ?_
  refine z_iS (rest := []) (av := [.int (s_Ways_cellOf x0)]) hE (c_Ways_rowOf (s_Ways_cellOf x0) g) l_RX8_22 (by decide) ⟨by decide, by decide⟩ dX8_marched_23 rfl (Nat.le_of_ble_eq_true rfl) ?_
  obtain ⟨v18q, ev18q, h⟩ := z_let_eq h
  refine z_topi ev18q ?_
  refine z_istore hE [(5, .int v18q), (4, .int v17q), (3, .int v16q), (0, .int x0), (1, .int x1), (2, .int x2)] dX8_marched_26 (by decide) rfl ?_
  refine z_iconst (v := 0) hE dX8_marched_28 rfl ?_
  refine z_istore hE [(6, .int 0), (5, .int v18q), (4, .int v17q), (3, .int v16q), (0, .int x0), (1, .int x1), (2, .int x2)] dX8_marched_29 (by decide) rfl ?_
  refine z_sub [(2, .int x2), (3, .int v16q), (4, .int v17q), (5, .int v18q), (6, .int 0)] [6, 3, 2, 1, 0] rfl ?_
  exact b_Ways_marched_L31 hE hret z_F x2 v16q v17q v18q 0 h
