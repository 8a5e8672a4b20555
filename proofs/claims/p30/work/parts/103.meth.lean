theorem dX8_shorterTurn_0 : decode cX8_shorterTurn 0 = .ok (.iload_n 1, 1) := by decide +kernel
theorem dX8_shorterTurn_1 : decode cX8_shorterTurn 1 = .ok (.iload_n 0, 1) := by decide +kernel
theorem dX8_shorterTurn_2 : decode cX8_shorterTurn 2 = .ok (.isub, 1) := by decide +kernel
theorem dX8_shorterTurn_3 : decode cX8_shorterTurn 3 = .ok (.bipush 8, 2) := by decide +kernel
theorem dX8_shorterTurn_5 : decode cX8_shorterTurn 5 = .ok (.iadd, 1) := by decide +kernel
theorem dX8_shorterTurn_6 : decode cX8_shorterTurn 6 = .ok (.bipush 8, 2) := by decide +kernel
theorem dX8_shorterTurn_8 : decode cX8_shorterTurn 8 = .ok (.irem, 1) := by decide +kernel
theorem dX8_shorterTurn_9 : decode cX8_shorterTurn 9 = .ok (.istore_n 2, 1) := by decide +kernel
theorem dX8_shorterTurn_10 : decode cX8_shorterTurn 10 = .ok (.iload_n 2, 1) := by decide +kernel
theorem dX8_shorterTurn_11 : decode cX8_shorterTurn 11 = .ok (.iconst 4, 1) := by decide +kernel
theorem dX8_shorterTurn_12 : decode cX8_shorterTurn 12 = .ok (.if_icmp .le 10, 3) := by decide +kernel
theorem dX8_shorterTurn_15 : decode cX8_shorterTurn 15 = .ok (.iload_n 2, 1) := by decide +kernel
theorem dX8_shorterTurn_16 : decode cX8_shorterTurn 16 = .ok (.bipush 8, 2) := by decide +kernel
theorem dX8_shorterTurn_18 : decode cX8_shorterTurn 18 = .ok (.isub, 1) := by decide +kernel
theorem dX8_shorterTurn_19 : decode cX8_shorterTurn 19 = .ok (.goto 4, 3) := by decide +kernel
theorem dX8_shorterTurn_22 : decode cX8_shorterTurn 22 = .ok (.iload_n 2, 1) := by decide +kernel
theorem dX8_shorterTurn_23 : decode cX8_shorterTurn 23 = .ok (.ireturn, 1) := by decide +kernel
def s_Ways_shorterTurn (x0 : Int32) (x1 : Int32) : Int32 := (z_let (α := Int32) ((z_rem ((x1 - x0) + 8) 8)) fun v3q => (if v3q ≤ 4 then v3q else (v3q - 8)))
set_option maxHeartbeats 1000000 in
set_option maxRecDepth 20000 in
theorem c_Ways_shorterTurn {X : z_X} {l : Launch} {o : z_G} (x0 : Int32) (x1 : Int32) (g : z_G) : z_MI X l 71 yX8_shorterTurn cX8_shorterTurn 3 (some .int) 0 0 [.int x0, .int x1] g o g o (s_Ways_shorterTurn x0 x1) := by
  obtain ⟨r, h⟩ : ∃ r, s_Ways_shorterTurn x0 x1 = r := ⟨_, rfl⟩
  rw [h]
  unfold s_Ways_shorterTurn at h
  refine z_meti (ty := .int) rfl rfl (by decide) (Nat.le_of_ble_eq_true rfl) (fun E hl hE hret => ?_)
  subst hl
  refine z_iload_n hE 1 dX8_shorterTurn_0 rfl ?_
  refine z_iload_n hE 0 dX8_shorterTurn_1 rfl ?_
  refine z_isub hE dX8_shorterTurn_2 ?_
  refine z_bipush (v := 8) hE dX8_shorterTurn_3 rfl ?_
  refine z_iadd hE dX8_shorterTurn_5 ?_
  refine z_bipush (v := 8) hE dX8_shorterTurn_6 rfl ?_
  refine z_irem hE dX8_shorterTurn_8 (by decide) ?_
  obtain ⟨v3q, ev3q, h⟩ := z_let_eq h
  refine z_topi ev3q ?_
  refine z_istore_n hE [(2, .int v3q), (0, .int x0), (1, .int x1)] dX8_shorterTurn_9 rfl (by decide) rfl ?_
  refine z_iload_n hE 0 dX8_shorterTurn_10 rfl ?_
  refine z_iconst (v := 4) hE dX8_shorterTurn_11 rfl ?_
  refine z_icmp_le hE 22 dX8_shorterTurn_12 rfl (fun c4q => ?_) (fun c4q => ?_)
  · replace h := z_t c4q h
    refine z_iload_n hE 0 dX8_shorterTurn_22 rfl ?_
    subst h
    exact hret _ _ dX8_shorterTurn_23
  · replace h := z_f c4q h
    refine z_iload_n hE 0 dX8_shorterTurn_15 rfl ?_
    refine z_bipush (v := 8) hE dX8_shorterTurn_16 rfl ?_
    refine z_isub hE dX8_shorterTurn_18 ?_
    refine z_goto hE 23 dX8_shorterTurn_19 rfl ?_
    subst h
    exact hret _ _ dX8_shorterTurn_23
theorem dX8_atMost_0 : decode cX8_atMost 0 = .ok (.iload_n 0, 1) := by decide +kernel
theorem dX8_atMost_1 : decode cX8_atMost 1 = .ok (.ineg, 1) := by decide +kernel
theorem dX8_atMost_2 : decode cX8_atMost 2 = .ok (.iload_n 0, 1) := by decide +kernel
theorem dX8_atMost_3 : decode cX8_atMost 3 = .ok (.iload_n 1, 1) := by decide +kernel
theorem dX8_atMost_4 : decode cX8_atMost 4 = .ok (.invokestatic 73, 3) := by decide +kernel
theorem dX8_atMost_7 : decode cX8_atMost 7 = .ok (.invokestatic 33, 3) := by decide +kernel
theorem dX8_atMost_10 : decode cX8_atMost 10 = .ok (.ireturn, 1) := by decide +kernel
def s_Ways_atMost (x0 : Int32) (x1 : Int32) : Int32 := (z_max (-x0) (z_min x0 x1))
set_option maxHeartbeats 1000000 in
set_option maxRecDepth 20000 in
theorem c_Ways_atMost {X : z_X} {l : Launch} {o : z_G} (x0 : Int32) (x1 : Int32) (g : z_G) : z_MI X l 71 yX8_atMost cX8_atMost 2 (some .int) 1 30 [.int x0, .int x1] g o g o (s_Ways_atMost x0 x1) := by
  obtain ⟨r, h⟩ : ∃ r, s_Ways_atMost x0 x1 = r := ⟨_, rfl⟩
  rw [h]
  unfold s_Ways_atMost at h
  refine z_meti (ty := .int) rfl rfl (by decide) (Nat.le_of_ble_eq_true rfl) (fun E hl hE hret => ?_)
  subst hl
  refine z_iload_n hE 0 dX8_atMost_0 rfl ?_
  refine z_ineg hE dX8_atMost_1 ?_
  refine z_iload_n hE 0 dX8_atMost_2 rfl ?_
  refine z_iload_n hE 1 dX8_atMost_3 rfl ?_
  refine z_mmin hE l_RX8_73 (by decide) (Nat.le_of_ble_eq_true rfl) dX8_atMost_4 ?_
  refine z_mmax hE l_RX8_33 (by decide) (Nat.le_of_ble_eq_true rfl) dX8_atMost_7 ?_
  subst h
  exact hret _ _ dX8_atMost_10
theorem dX8_contrary_0 : decode cX8_contrary 0 = .ok (.iload_n 0, 1) := by decide +kernel
theorem dX8_contrary_1 : decode cX8_contrary 1 = .ok (.iconst 4, 1) := by decide +kernel
theorem dX8_contrary_2 : decode cX8_contrary 2 = .ok (.if_icmp .ne 5, 3) := by decide +kernel
theorem dX8_contrary_5 : decode cX8_contrary 5 = .ok (.iconst 0, 1) := by decide +kernel
theorem dX8_contrary_6 : decode cX8_contrary 6 = .ok (.ireturn, 1) := by decide +kernel
theorem dX8_contrary_7 : decode cX8_contrary 7 = .ok (.iload_n 0, 1) := by decide +kernel
theorem dX8_contrary_8 : decode cX8_contrary 8 = .ok (.ifCond .ge 7, 3) := by decide +kernel
theorem dX8_contrary_11 : decode cX8_contrary 11 = .ok (.iconst 1, 1) := by decide +kernel
theorem dX8_contrary_12 : decode cX8_contrary 12 = .ok (.goto 4, 3) := by decide +kernel
theorem dX8_contrary_15 : decode cX8_contrary 15 = .ok (.iconst (-1), 1) := by decide +kernel
theorem dX8_contrary_16 : decode cX8_contrary 16 = .ok (.ireturn, 1) := by decide +kernel
def s_Ways_contrary (x0 : Int32) : Int32 := (if x0 = 4 then 0 else (if (0 : Int32) ≤ x0 then (-1) else 1))
set_option maxHeartbeats 1000000 in
set_option maxRecDepth 20000 in
theorem c_Ways_contrary {X : z_X} {l : Launch} {o : z_G} (x0 : Int32) (g : z_G) : z_MI X l 71 yX8_contrary cX8_contrary 1 (some .int) 0 0 [.int x0] g o g o (s_Ways_contrary x0) := by
  obtain ⟨r, h⟩ : ∃ r, s_Ways_contrary x0 = r := ⟨_, rfl⟩
  rw [h]
  unfold s_Ways_contrary at h
  refine z_meti (ty := .int) rfl rfl (by decide) (Nat.le_of_ble_eq_true rfl) (fun E hl hE hret => ?_)
  subst hl
  refine z_iload_n hE 0 dX8_contrary_0 rfl ?_
  refine z_iconst (v := 4) hE dX8_contrary_1 rfl ?_
  refine z_icmp_ne hE 7 dX8_contrary_2 rfl (fun c3q => ?_) (fun c3q => ?_)
  · replace h := z_f c3q h
    refine z_iload_n hE 0 dX8_contrary_7 rfl ?_
    refine z_if_ge hE 15 dX8_contrary_8 rfl (fun c4q => ?_) (fun c4q => ?_)
    · replace h := z_t c4q h
      refine z_iconst (v := (-1)) hE dX8_contrary_15 rfl ?_
      subst h
      exact hret _ _ dX8_contrary_16
    · replace h := z_f c4q h
      refine z_iconst (v := 1) hE dX8_contrary_11 rfl ?_
      refine z_goto hE 16 dX8_contrary_12 rfl ?_
      subst h
      exact hret _ _ dX8_contrary_16
  · replace h := z_t c3q h
    refine z_iconst (v := 0) hE dX8_contrary_5 rfl ?_
    subst h
    exact hret _ _ dX8_contrary_6
theorem dX8_eighthsToRight_0 : decode cX8_eighthsToRight 0 = .ok (.iload_n 0, 1) := by decide +kernel
theorem dX8_eighthsToRight_1 : decode cX8_eighthsToRight 1 = .ok (.tableswitch 68 0 4 #[35, 41, 47, 68, 63], 35) := by decide +kernel
theorem dX8_eighthsToRight_36 : decode cX8_eighthsToRight 36 = .ok (.iconst 1, 1) := by decide +kernel
theorem dX8_eighthsToRight_37 : decode cX8_eighthsToRight 37 = .ok (.iload_n 1, 1) := by decide +kernel
theorem dX8_eighthsToRight_38 : decode cX8_eighthsToRight 38 = .ok (.invokestatic 67, 3) := by decide +kernel
theorem dX8_eighthsToRight_41 : decode cX8_eighthsToRight 41 = .ok (.ireturn, 1) := by decide +kernel
theorem dX8_eighthsToRight_42 : decode cX8_eighthsToRight 42 = .ok (.iconst 2, 1) := by decide +kernel
theorem dX8_eighthsToRight_43 : decode cX8_eighthsToRight 43 = .ok (.iload_n 1, 1) := by decide +kernel
theorem dX8_eighthsToRight_44 : decode cX8_eighthsToRight 44 = .ok (.invokestatic 67, 3) := by decide +kernel
theorem dX8_eighthsToRight_47 : decode cX8_eighthsToRight 47 = .ok (.ireturn, 1) := by decide +kernel
theorem dX8_eighthsToRight_48 : decode cX8_eighthsToRight 48 = .ok (.iload_n 2, 1) := by decide +kernel
theorem dX8_eighthsToRight_49 : decode cX8_eighthsToRight 49 = .ok (.iconst 2, 1) := by decide +kernel
theorem dX8_eighthsToRight_50 : decode cX8_eighthsToRight 50 = .ok (.irem, 1) := by decide +kernel
theorem dX8_eighthsToRight_51 : decode cX8_eighthsToRight 51 = .ok (.ifCond .ne 11, 3) := by decide +kernel
theorem dX8_eighthsToRight_54 : decode cX8_eighthsToRight 54 = .ok (.iconst 1, 1) := by decide +kernel
theorem dX8_eighthsToRight_55 : decode cX8_eighthsToRight 55 = .ok (.iload_n 1, 1) := by decide +kernel
theorem dX8_eighthsToRight_56 : decode cX8_eighthsToRight 56 = .ok (.invokestatic 67, 3) := by decide +kernel
theorem dX8_eighthsToRight_59 : decode cX8_eighthsToRight 59 = .ok (.goto 4, 3) := by decide +kernel
theorem dX8_eighthsToRight_62 : decode cX8_eighthsToRight 62 = .ok (.iconst 0, 1) := by decide +kernel
theorem dX8_eighthsToRight_63 : decode cX8_eighthsToRight 63 = .ok (.ireturn, 1) := by decide +kernel
theorem dX8_eighthsToRight_64 : decode cX8_eighthsToRight 64 = .ok (.iload_n 1, 1) := by decide +kernel
theorem dX8_eighthsToRight_65 : decode cX8_eighthsToRight 65 = .ok (.invokestatic 70, 3) := by decide +kernel
theorem dX8_eighthsToRight_68 : decode cX8_eighthsToRight 68 = .ok (.ireturn, 1) := by decide +kernel
theorem dX8_eighthsToRight_69 : decode cX8_eighthsToRight 69 = .ok (.iconst 0, 1) := by decide +kernel
theorem dX8_eighthsToRight_70 : decode cX8_eighthsToRight 70 = .ok (.ireturn, 1) := by decide +kernel
def s_Ways_eighthsToRight_b69 : Int32 := 0
def s_Ways_eighthsToRight (x0 : Int32) (x1 : Int32) (x2 : Int32) : Int32 := (if x0 = 0 then (s_Ways_atMost 1 x1) else (if x0 = 1 then (s_Ways_atMost 2 x1) else (if x0 = 2 then (if (z_rem x2 2) = 0 then (s_Ways_atMost 1 x1) else 0) else (if x0 = 3 then (s_Ways_eighthsToRight_b69) else (if x0 = 4 then (s_Ways_contrary x1) else (s_Ways_eighthsToRight_b69))))))
set_option maxHeartbeats 1000000 in
set_option maxRecDepth 20000 in
theorem b_Ways_eighthsToRight_b69 {X : z_X} {E : z_ET} {o : z_G} {g : z_G} (hE : z_EV X E cX8_eighthsToRight 3 RX8 2 51 71) {r : Int32} (hret : ∀ (pc : Nat) (lv : List (Nat × Value)), decode cX8_eighthsToRight pc = .ok (.ireturn, 1) → z_V X E 3 g o pc lv [.int r])   (h : s_Ways_eighthsToRight_b69 = r) : z_V X E 3 g o 69 [] [] := by
  unfold s_Ways_eighthsToRight_b69 at h
  refine z_iconst (v := 0) hE dX8_eighthsToRight_69 rfl ?_
  subst h
  exact hret _ _ dX8_eighthsToRight_70
set_option maxHeartbeats 1000000 in
set_option maxRecDepth 20000 in
theorem c_Ways_eighthsToRight {X : z_X} {l : Launch} {o : z_G} (x0 : Int32) (x1 : Int32) (x2 : Int32) (g : z_G) : z_MI X l 71 yX8_eighthsToRight cX8_eighthsToRight 3 (some .int) 2 51 [.int x0, .int x1, .int x2] g o g o (s_Ways_eighthsToRight x0 x1 x2) := by
  obtain ⟨r, h⟩ : ∃ r, s_Ways_eighthsToRight x0 x1 x2 = r := ⟨_, rfl⟩
  rw [h]
  unfold s_Ways_eighthsToRight at h
  refine z_meti (ty := .int) rfl rfl (by decide) (Nat.le_of_ble_eq_true rfl) (fun E hl hE hret => ?_)
  subst hl
  refine z_iload_n hE 0 dX8_eighthsToRight_0 rfl ?_
  by_cases c7q : x0 = 0
  · replace h := z_t c7q h
    refine z_tIn (off := 35) hE 36 dX8_eighthsToRight_1 (by rw [c7q]; decide) (by rw [c7q]; decide) (by rw [c7q]; decide) rfl ?_
    refine z_iconst (v := 1) hE dX8_eighthsToRight_36 rfl ?_
    refine z_iload_n hE 1 dX8_eighthsToRight_37 rfl ?_
    refine z_iS (rest := []) (av := [.int 1, .int x1]) hE (c_Ways_atMost 1 x1 g) l_RX8_67 (by decide) ⟨by decide, by decide⟩ dX8_eighthsToRight_38 rfl (Nat.le_of_ble_eq_true rfl) ?_
    subst h
    exact hret _ _ dX8_eighthsToRight_41
  replace h := z_f c7q h
  by_cases c8q : x0 = 1
  · replace h := z_t c8q h
    refine z_tIn (off := 41) hE 42 dX8_eighthsToRight_1 (by rw [c8q]; decide) (by rw [c8q]; decide) (by rw [c8q]; decide) rfl ?_
    refine z_iconst (v := 2) hE dX8_eighthsToRight_42 rfl ?_
    refine z_iload_n hE 1 dX8_eighthsToRight_43 rfl ?_
    refine z_iS (rest := []) (av := [.int 2, .int x1]) hE (c_Ways_atMost 2 x1 g) l_RX8_67 (by decide) ⟨by decide, by decide⟩ dX8_eighthsToRight_44 rfl (Nat.le_of_ble_eq_true rfl) ?_
    subst h
    exact hret _ _ dX8_eighthsToRight_47
  replace h := z_f c8q h
  by_cases c9q : x0 = 2
  · replace h := z_t c9q h
    refine z_tIn (off := 47) hE 48 dX8_eighthsToRight_1 (by rw [c9q]; decide) (by rw [c9q]; decide) (by rw [c9q]; decide) rfl ?_
    refine z_iload_n hE 2 dX8_eighthsToRight_48 rfl ?_
    refine z_iconst (v := 2) hE dX8_eighthsToRight_49 rfl ?_
    refine z_irem hE dX8_eighthsToRight_50 (by decide) ?_
    refine z_if_ne hE 62 dX8_eighthsToRight_51 rfl (fun c10q => ?_) (fun c10q => ?_)
    · replace h := z_f c10q h
      refine z_iconst (v := 0) hE dX8_eighthsToRight_62 rfl ?_
      subst h
      exact hret _ _ dX8_eighthsToRight_63
    · replace h := z_t c10q h
      refine z_iconst (v := 1) hE dX8_eighthsToRight_54 rfl ?_
      refine z_iload_n hE 1 dX8_eighthsToRight_55 rfl ?_
      refine z_iS (rest := []) (av := [.int 1, .int x1]) hE (c_Ways_atMost 1 x1 g) l_RX8_67 (by decide) ⟨by decide, by decide⟩ dX8_eighthsToRight_56 rfl (Nat.le_of_ble_eq_true rfl) ?_
      refine z_goto hE 63 dX8_eighthsToRight_59 rfl ?_
      subst h
      exact hret _ _ dX8_eighthsToRight_63
  replace h := z_f c9q h
  by_cases c11q : x0 = 3
  · replace h := z_t c11q h
    refine z_tIn (off := 68) hE 69 dX8_eighthsToRight_1 (by rw [c11q]; decide) (by rw [c11q]; decide) (by rw [c11q]; decide) rfl ?_
    refine z_sub [] [] rfl ?_
    exact b_Ways_eighthsToRight_b69 hE hret h
  replace h := z_f c11q h
  by_cases c12q : x0 = 4
  · replace h := z_t c12q h
    refine z_tIn (off := 63) hE 64 dX8_eighthsToRight_1 (by rw [c12q]; decide) (by rw [c12q]; decide) (by rw [c12q]; decide) rfl ?_
    refine z_iload_n hE 1 dX8_eighthsToRight_64 rfl ?_
    refine z_iS (rest := []) (av := [.int x1]) hE (c_Ways_contrary x1 g) l_RX8_70 (by decide) ⟨by decide, by decide⟩ dX8_eighthsToRight_65 rfl (Nat.le_of_ble_eq_true rfl) ?_
    subst h
    exact hret _ _ dX8_eighthsToRight_68
  replace h := z_f c12q h
  have ic7q : Int32.toInt x0 ≠ 0 := z_ne c7q
  have ic8q : Int32.toInt x0 ≠ 1 := z_ne c8q
  have ic9q : Int32.toInt x0 ≠ 2 := z_ne c9q
  have ic11q : Int32.toInt x0 ≠ 3 := z_ne c11q
  have ic12q : Int32.toInt x0 ≠ 4 := z_ne c12q
  refine z_tOut hE 69 dX8_eighthsToRight_1 (by omega) rfl ?_
  refine z_sub [] [] rfl ?_
  exact b_Ways_eighthsToRight_b69 hE hret h
theorem dX8_halted_0 : decode cX8_halted 0 = .ok (.iload_n 1, 1) := by decide +kernel
theorem dX8_halted_1 : decode cX8_halted 1 = .ok (.bipush (-4), 2) := by decide +kernel
theorem dX8_halted_3 : decode cX8_halted 3 = .ok (.if_icmp .ne 5, 3) := by decide +kernel
theorem dX8_halted_6 : decode cX8_halted 6 = .ok (.iload_n 0, 1) := by decide +kernel
theorem dX8_halted_7 : decode cX8_halted 7 = .ok (.ireturn, 1) := by decide +kernel
theorem dX8_halted_8 : decode cX8_halted 8 = .ok (.iload_n 0, 1) := by decide +kernel
theorem dX8_halted_9 : decode cX8_halted 9 = .ok (.invokestatic 15, 3) := by decide +kernel
theorem dX8_halted_12 : decode cX8_halted 12 = .ok (.iload_n 1, 1) := by decide +kernel
theorem dX8_halted_13 : decode cX8_halted 13 = .ok (.invokestatic 58, 3) := by decide +kernel
theorem dX8_halted_16 : decode cX8_halted 16 = .ok (.istore 4, 2) := by decide +kernel
theorem dX8_halted_18 : decode cX8_halted 18 = .ok (.iload 4, 2) := by decide +kernel
theorem dX8_halted_20 : decode cX8_halted 20 = .ok (.bipush (-4), 2) := by decide +kernel
theorem dX8_halted_22 : decode cX8_halted 22 = .ok (.if_icmp .ne 5, 3) := by decide +kernel
theorem dX8_halted_25 : decode cX8_halted 25 = .ok (.iload_n 0, 1) := by decide +kernel
theorem dX8_halted_26 : decode cX8_halted 26 = .ok (.ireturn, 1) := by decide +kernel
theorem dX8_halted_27 : decode cX8_halted 27 = .ok (.iload_n 0, 1) := by decide +kernel
theorem dX8_halted_28 : decode cX8_halted 28 = .ok (.invokestatic 25, 3) := by decide +kernel
theorem dX8_halted_31 : decode cX8_halted 31 = .ok (.istore 5, 2) := by decide +kernel
theorem dX8_halted_33 : decode cX8_halted 33 = .ok (.iload 5, 2) := by decide +kernel
theorem dX8_halted_35 : decode cX8_halted 35 = .ok (.iload_n 2, 1) := by decide +kernel
theorem dX8_halted_36 : decode cX8_halted 36 = .ok (.iload 5, 2) := by decide +kernel
theorem dX8_halted_38 : decode cX8_halted 38 = .ok (.iload 4, 2) := by decide +kernel
theorem dX8_halted_40 : decode cX8_halted 40 = .ok (.invokestatic 61, 3) := by decide +kernel
theorem dX8_halted_43 : decode cX8_halted 43 = .ok (.iload_n 3, 1) := by decide +kernel
theorem dX8_halted_44 : decode cX8_halted 44 = .ok (.invokestatic 64, 3) := by decide +kernel
theorem dX8_halted_47 : decode cX8_halted 47 = .ok (.iadd, 1) := by decide +kernel
theorem dX8_halted_48 : decode cX8_halted 48 = .ok (.bipush 8, 2) := by decide +kernel
theorem dX8_halted_50 : decode cX8_halted 50 = .ok (.iadd, 1) := by decide +kernel
theorem dX8_halted_51 : decode cX8_halted 51 = .ok (.istore 6, 2) := by decide +kernel
theorem dX8_halted_53 : decode cX8_halted 53 = .ok (.iload_n 0, 1) := by decide +kernel
theorem dX8_halted_54 : decode cX8_halted 54 = .ok (.iload 5, 2) := by decide +kernel
theorem dX8_halted_56 : decode cX8_halted 56 = .ok (.isub, 1) := by decide +kernel
theorem dX8_halted_57 : decode cX8_halted 57 = .ok (.iload 6, 2) := by decide +kernel
theorem dX8_halted_59 : decode cX8_halted 59 = .ok (.bipush 8, 2) := by decide +kernel
theorem dX8_halted_61 : decode cX8_halted 61 = .ok (.irem, 1) := by decide +kernel
theorem dX8_halted_62 : decode cX8_halted 62 = .ok (.iadd, 1) := by decide +kernel
theorem dX8_halted_63 : decode cX8_halted 63 = .ok (.ireturn, 1) := by decide +kernel
def s_Ways_halted (x0 : Int32) (x1 : Int32) (x2 : Int32) (x3 : Int32) : Int32 := (if x1 = (-4) then x0 else (z_let (α := Int32) ((s_Ways_wayTo (s_Ways_cellOf x0) x1)) fun v7q => (if v7q = (-4) then x0 else (z_let (α := Int32) ((s_Ways_lookOf x0)) fun v9q => (z_let (α := Int32) (((v9q + (s_Ways_eighthsToRight x2 (s_Ways_shorterTurn v9q v7q) x3)) + 8)) fun v10q => ((x0 - v9q) + (z_rem v10q 8)))))))
set_option maxHeartbeats 1000000 in
set_option maxRecDepth 20000 in
theorem c_Ways_halted {X : z_X} {l : Launch} {o : z_G} (x0 : Int32) (x1 : Int32) (x2 : Int32) (x3 : Int32) (g : z_G) : z_MI X l 71 yX8_halted cX8_halted 7 (some .int) 3 73 [.int x0, .int x1, .int x2, .int x3] g o g o (s_Ways_halted x0 x1 x2 x3) := by
  obtain ⟨r, h⟩ : ∃ r, s_Ways_halted x0 x1 x2 x3 = r := ⟨_, rfl⟩
  rw [h]
  unfold s_Ways_halted at h
  refine z_meti (ty := .int) rfl rfl (by decide) (Nat.le_of_ble_eq_true rfl) (fun E hl hE hret => ?_)
  subst hl
  refine z_iload_n hE 1 dX8_halted_0 rfl ?_
  refine z_bipush (v := (-4)) hE dX8_halted_1 rfl ?_
  refine z_icmp_ne hE 8 dX8_halted_3 rfl (fun c6q => ?_) (fun c6q => ?_)
  · replace h := z_f c6q h
    refine z_iload_n hE 0 dX8_halted_8 rfl ?_
    refine z_iS (rest := []) (av := [.int x0]) hE (c_Ways_cellOf x0 g) l_RX8_15 (by decide) ⟨by decide, by decide⟩ dX8_halted_9 rfl (Nat.le_of_ble_eq_true rfl) ?_
    refine z_iload_n hE 1 dX8_halted_12 rfl ?_
    refine z_iS (rest := []) (av := [.int (s_Ways_cellOf x0), .int x1]) hE (c_Ways_wayTo (s_Ways_cellOf x0) x1 g) l_RX8_58 (by decide) ⟨by decide, by decide⟩ dX8_halted_13 rfl (Nat.le_of_ble_eq_true rfl) ?_
    obtain ⟨v7q, ev7q, h⟩ := z_let_eq h
    refine z_topi ev7q ?_
    refine z_istore hE [(4, .int v7q), (0, .int x0), (1, .int x1), (2, .int x2), (3, .int x3)] dX8_halted_16 (by decide) rfl ?_
    refine z_iload hE 0 dX8_halted_18 rfl ?_
    refine z_bipush (v := (-4)) hE dX8_halted_20 rfl ?_
    refine z_icmp_ne hE 27 dX8_halted_22 rfl (fun c8q => ?_) (fun c8q => ?_)
    · replace h := z_f c8q h
      refine z_iload_n hE 1 dX8_halted_27 rfl ?_
      refine z_iS (rest := []) (av := [.int x0]) hE (c_Ways_lookOf x0 g) l_RX8_25 (by decide) ⟨by decide, by decide⟩ dX8_halted_28 rfl (Nat.le_of_ble_eq_true rfl) ?_
      obtain ⟨v9q, ev9q, h⟩ := z_let_eq h
      refine z_topi ev9q ?_
      refine z_istore hE [(5, .int v9q), (4, .int v7q), (0, .int x0), (1, .int x1), (2, .int x2), (3, .int x3)] dX8_halted_31 (by decide) rfl ?_
      refine z_iload hE 0 dX8_halted_33 rfl ?_
      refine z_iload_n hE 4 dX8_halted_35 rfl ?_
      refine z_iload hE 0 dX8_halted_36 rfl ?_
      refine z_iload hE 1 dX8_halted_38 rfl ?_
      refine z_iS (rest := [.int x2, .int v9q]) (av := [.int v9q, .int v7q]) hE (c_Ways_shorterTurn v9q v7q g) l_RX8_61 (by decide) ⟨by decide, by decide⟩ dX8_halted_40 rfl (Nat.le_of_ble_eq_true rfl) ?_
      refine z_iload_n hE 5 dX8_halted_43 rfl ?_
      refine z_iS (rest := [.int v9q]) (av := [.int x2, .int (s_Ways_shorterTurn v9q v7q), .int x3]) hE (c_Ways_eighthsToRight x2 (s_Ways_shorterTurn v9q v7q) x3 g) l_RX8_64 (by decide) ⟨by decide, by decide⟩ dX8_halted_44 rfl (Nat.le_of_ble_eq_true rfl) ?_
      refine z_iadd hE dX8_halted_47 ?_
      refine z_bipush (v := 8) hE dX8_halted_48 rfl ?_
      refine z_iadd hE dX8_halted_50 ?_
      obtain ⟨v10q, ev10q, h⟩ := z_let_eq h
      refine z_topi ev10q ?_
      refine z_istore hE [(6, .int v10q), (5, .int v9q), (4, .int v7q), (0, .int x0), (1, .int x1), (2, .int x2), (3, .int x3)] dX8_halted_51 (by decide) rfl ?_
      refine z_iload_n hE 3 dX8_halted_53 rfl ?_
      refine z_iload hE 1 dX8_halted_54 rfl ?_
      refine z_isub hE dX8_halted_56 ?_
      refine z_iload hE 0 dX8_halted_57 rfl ?_
      refine z_bipush (v := 8) hE dX8_halted_59 rfl ?_
      refine z_irem hE dX8_halted_61 (by decide) ?_
      refine z_iadd hE dX8_halted_62 ?_
      subst h
      exact hret _ _ dX8_halted_63
    · replace h := z_t c8q h
      refine z_iload_n hE 1 dX8_halted_25 rfl ?_
      subst h
      exact hret _ _ dX8_halted_26
  · replace h := z_t c6q h
    refine z_iload_n hE 0 dX8_halted_6 rfl ?_
    subst h
    exact hret _ _ dX8_halted_7
theorem dX8_ordered_0 : decode cX8_ordered 0 = .ok (.iload_n 0, 1) := by decide +kernel
theorem dX8_ordered_1 : decode cX8_ordered 1 = .ok (.iload_n 1, 1) := by decide +kernel
theorem dX8_ordered_2 : decode cX8_ordered 2 = .ok (.iload_n 2, 1) := by decide +kernel
theorem dX8_ordered_3 : decode cX8_ordered 3 = .ok (.invokestatic 36, 3) := by decide +kernel
theorem dX8_ordered_6 : decode cX8_ordered 6 = .ok (.iload_n 3, 1) := by decide +kernel
theorem dX8_ordered_7 : decode cX8_ordered 7 = .ok (.iload 4, 2) := by decide +kernel
theorem dX8_ordered_9 : decode cX8_ordered 9 = .ok (.iload 5, 2) := by decide +kernel
theorem dX8_ordered_11 : decode cX8_ordered 11 = .ok (.invokestatic 40, 3) := by decide +kernel
theorem dX8_ordered_14 : decode cX8_ordered 14 = .ok (.ireturn, 1) := by decide +kernel
def s_Ways_ordered (x0 : Int32) (x1 : Int32) (x2 : Int32) (x3 : Int32) (x4 : Int32) (x5 : Int32) : Option (Int32) := (Option.bind (s_Ways_marched x0 x1 x2) fun r2q => (some (s_Ways_halted r2q x3 x4 x5)))
set_option maxHeartbeats 1000000 in
set_option maxRecDepth 20000 in
theorem c_Ways_ordered {X : z_X} {l : Launch} {o : z_G} (x0 : Int32) (x1 : Int32) (x2 : Int32) (x3 : Int32) (x4 : Int32) (x5 : Int32) (g : z_G) (r : Int32) (h : s_Ways_ordered x0 x1 x2 x3 x4 x5 = some r) : z_MI X l 71 yX8_ordered cX8_ordered 6 (some .int) 4 99 [.int x0, .int x1, .int x2, .int x3, .int x4, .int x5] g o g o r := by
  unfold s_Ways_ordered at h
  refine z_meti (ty := .int) rfl rfl (by decide) (Nat.le_of_ble_eq_true rfl) (fun E hl hE hret => ?_)
  subst hl
  refine z_iload_n hE 0 dX8_ordered_0 rfl ?_
  refine z_iload_n hE 1 dX8_ordered_1 rfl ?_
  refine z_iload_n hE 2 dX8_ordered_2 rfl ?_
  obtain ⟨r2q, hr2q, h⟩ := z_bind_some h
  refine z_iS (rest := []) (av := [.int x0, .int x1, .int x2]) hE (c_Ways_marched x0 x1 x2 g r2q hr2q) l_RX8_36 (by decide) ⟨by decide, by decide⟩ dX8_ordered_3 rfl (Nat.le_of_ble_eq_true rfl) ?_
  refine z_iload_n hE 3 dX8_ordered_6 rfl ?_
  refine z_iload hE 4 dX8_ordered_7 rfl ?_
  refine z_iload hE 5 dX8_ordered_9 rfl ?_
  refine z_iS (rest := []) (av := [.int r2q, .int x3, .int x4, .int x5]) hE (c_Ways_halted r2q x3 x4 x5 g) l_RX8_40 (by decide) ⟨by decide, by decide⟩ dX8_ordered_11 rfl (Nat.le_of_ble_eq_true rfl) ?_
  obtain rfl := Option.some.inj h
  exact hret _ _ dX8_ordered_14
theorem dX0_obey_0 : decode cX0_obey 0 = .ok (.aload_n 0, 1) := by decide +kernel
theorem dX0_obey_1 : decode cX0_obey 1 = .ok (.dup, 1) := by decide +kernel
theorem dX0_obey_2 : decode cX0_obey 2 = .ok (.getfield 28, 3) := by decide +kernel
theorem dX0_obey_5 : decode cX0_obey 5 = .ok (.iconst 1, 1) := by decide +kernel
theorem dX0_obey_6 : decode cX0_obey 6 = .ok (.iadd, 1) := by decide +kernel
theorem dX0_obey_7 : decode cX0_obey 7 = .ok (.putfield 28, 3) := by decide +kernel
theorem dX0_obey_10 : decode cX0_obey 10 = .ok (.iconst 0, 1) := by decide +kernel
theorem dX0_obey_11 : decode cX0_obey 11 = .ok (.istore 4, 2) := by decide +kernel
theorem dX0_obey_13 : decode cX0_obey 13 = .ok (.iload 4, 2) := by decide +kernel
theorem dX0_obey_15 : decode cX0_obey 15 = .ok (.aload_n 3, 1) := by decide +kernel
theorem dX0_obey_16 : decode cX0_obey 16 = .ok (.getfield 31, 3) := by decide +kernel
theorem dX0_obey_19 : decode cX0_obey 19 = .ok (.if_icmp .ge 46, 3) := by decide +kernel
theorem dX0_obey_22 : decode cX0_obey 22 = .ok (.aload_n 0, 1) := by decide +kernel
theorem dX0_obey_23 : decode cX0_obey 23 = .ok (.getfield 9, 3) := by decide +kernel
theorem dX0_obey_26 : decode cX0_obey 26 = .ok (.iload 4, 2) := by decide +kernel
theorem dX0_obey_28 : decode cX0_obey 28 = .ok (.aload_n 0, 1) := by decide +kernel
theorem dX0_obey_29 : decode cX0_obey 29 = .ok (.getfield 9, 3) := by decide +kernel
theorem dX0_obey_32 : decode cX0_obey 32 = .ok (.iload 4, 2) := by decide +kernel
theorem dX0_obey_34 : decode cX0_obey 34 = .ok (.iaload, 1) := by decide +kernel
theorem dX0_obey_35 : decode cX0_obey 35 = .ok (.iload_n 1, 1) := by decide +kernel
theorem dX0_obey_36 : decode cX0_obey 36 = .ok (.iload_n 2, 1) := by decide +kernel
theorem dX0_obey_37 : decode cX0_obey 37 = .ok (.aload_n 0, 1) := by decide +kernel
theorem dX0_obey_38 : decode cX0_obey 38 = .ok (.iload 4, 2) := by decide +kernel
theorem dX0_obey_40 : decode cX0_obey 40 = .ok (.aload_n 3, 1) := by decide +kernel
theorem dX0_obey_41 : decode cX0_obey 41 = .ok (.invokevirtual 36, 3) := by decide +kernel
theorem dX0_obey_44 : decode cX0_obey 44 = .ok (.aload_n 3, 1) := by decide +kernel
theorem dX0_obey_45 : decode cX0_obey 45 = .ok (.getfield 40, 3) := by decide +kernel
theorem dX0_obey_48 : decode cX0_obey 48 = .ok (.iload 4, 2) := by decide +kernel
theorem dX0_obey_50 : decode cX0_obey 50 = .ok (.iaload, 1) := by decide +kernel
theorem dX0_obey_51 : decode cX0_obey 51 = .ok (.aload_n 0, 1) := by decide +kernel
theorem dX0_obey_52 : decode cX0_obey 52 = .ok (.getfield 28, 3) := by decide +kernel
theorem dX0_obey_55 : decode cX0_obey 55 = .ok (.invokestatic 43, 3) := by decide +kernel
theorem dX0_obey_58 : decode cX0_obey 58 = .ok (.iastore, 1) := by decide +kernel
theorem dX0_obey_59 : decode cX0_obey 59 = .ok (.iinc 4 1, 3) := by decide +kernel
theorem dX0_obey_62 : decode cX0_obey 62 = .ok (.goto (-49), 3) := by decide +kernel
theorem dX0_obey_65 : decode cX0_obey 65 = .ok (.return_, 1) := by decide +kernel
def s_Col_obey_L13 (c0 : Nat) : Nat → Int32 → Int32 → Int32 → z_G → Option (z_G)
  | 0, _, _, _, _ => none
  | n + 1, x1, x2, x4, g => (if (g 43 1) ≤ x4 then (some g) else (z_ck (z_inb x4 6) (Option.bind (s_Col_pullOn c0 x4 g) fun r11q => (z_ck (z_inb x4 6) (Option.bind (s_Ways_ordered (z_rd g (3 * c0 + 1) x4) x1 x2 r11q (z_rd g 46 x4) (g (3 * c0) 3)) fun r13q => (z_ck (z_inb x4 6) (z_let (α := z_G) (z_wr g (3 * c0 + 1) x4 r13q) fun g15q => ((s_Col_obey_L13 c0 n) x1 x2 (x4 + 1) g15q))))))))
def s_Col_obey (c0 : Nat) (x1 : Int32) (x2 : Int32) (g : z_G) : Option (z_G) := (z_let (α := z_G) (z_up g (3 * c0) 3 ((g (3 * c0) 3) + 1)) fun g16q => (s_Col_obey_L13 c0 z_F x1 x2 0 g16q))
set_option maxHeartbeats 1000000 in
set_option maxRecDepth 20000 in
theorem b_Col_obey_L13 {X : z_X} {E : z_ET} {o : z_G} {c0 : Nat} (hc0 : c0 < 13) (hE : z_EV X E cX0_obey 5 RX0 5 124 71) {r : z_G} (hret : ∀ (pc : Nat) (lv : List (Nat × Value)), decode cX0_obey pc = .ok (.return_, 1) → z_V X E 5 r o pc lv []) : ∀ (n : Nat) (x1 : Int32) (x2 : Int32) (x4 : Int32) (g : z_G), s_Col_obey_L13 c0 n x1 x2 x4 g = some r → z_V X E 5 g o 13 [(0, .ref (z_ad X (3 * c0))), (1, .int x1), (2, .int x2), (3, .ref (z_ad X 43)), (4, .int x4)] [] := by
  intro n
  induction n with
  | zero => intro x1 x2 x4 g h; exact z_none h
  | succ n ih =>
    intro x1 x2 x4 g h
    rw [s_Col_obey_L13] at h
    refine z_iload hE 4 dX0_obey_13 rfl ?_
    refine z_aload_n hE 3 dX0_obey_15 rfl ?_
    refine z_get hE f_RX0_31 (by decide) e_43 rfl dX0_obey_16 ?_
    refine z_icmp_ge hE 65 dX0_obey_19 rfl (fun c9q => ?_) (fun c9q => ?_)
    · replace h := z_t c9q h
      obtain rfl := Option.some.inj h
      exact hret _ _ dX0_obey_65
    · replace h := z_f c9q h
      refine z_aload_n hE 0 dX0_obey_22 rfl ?_
      refine z_get hE f_RX0_9 (by omega) (e_col hc0) rfl dX0_obey_23 ?_
      refine z_iload hE 4 dX0_obey_26 rfl ?_
      refine z_aload_n hE 0 dX0_obey_28 rfl ?_
      refine z_get hE f_RX0_9 (by omega) (e_col hc0) rfl dX0_obey_29 ?_
      refine z_iload hE 4 dX0_obey_32 rfl ?_
      obtain ⟨k10q, h⟩ := z_ck_some h
      refine z_iald hE (by omega) (e_spot hc0) k10q dX0_obey_34 ?_
      refine z_iload_n hE 1 dX0_obey_35 rfl ?_
      refine z_iload_n hE 2 dX0_obey_36 rfl ?_
      refine z_aload_n hE 0 dX0_obey_37 rfl ?_
      refine z_iload hE 4 dX0_obey_38 rfl ?_
      refine z_aload_n hE 3 dX0_obey_40 rfl ?_
      obtain ⟨r11q, hr11q, h⟩ := z_bind_some h
      refine z_iV (rest := [.int x2, .int x1, .int (z_rd g (3 * c0 + 1) x4), .int x4, .ref (z_ad X (3 * c0 + 1))]) (av := [.int x4, .ref (z_ad X 43)]) hE (c_Col_pullOn c0 x4 g hc0 r11q hr11q) l_RX0_36 (by decide) (by omega) (e_col hc0) rfl ⟨by decide, by decide⟩ dX0_obey_41 rfl (Nat.le_of_ble_eq_true rfl) ?_
      refine z_aload_n hE 3 dX0_obey_44 rfl ?_
      refine z_get hE f_RX0_40 (by decide) e_43 rfl dX0_obey_45 ?_
      refine z_iload hE 4 dX0_obey_48 rfl ?_
      obtain ⟨k12q, h⟩ := z_ck_some h
      refine z_iald hE (by decide) e_46 k12q dX0_obey_50 ?_
      refine z_aload_n hE 0 dX0_obey_51 rfl ?_
      refine z_get hE f_RX0_28 (by omega) (e_col hc0) rfl dX0_obey_52 ?_
      obtain ⟨r13q, hr13q, h⟩ := z_bind_some h
      refine z_iS (rest := [.int x4, .ref (z_ad X (3 * c0 + 1))]) (av := [.int (z_rd g (3 * c0 + 1) x4), .int x1, .int x2, .int r11q, .int (z_rd g 46 x4), .int (g (3 * c0) 3)]) hE (c_Ways_ordered (z_rd g (3 * c0 + 1) x4) x1 x2 r11q (z_rd g 46 x4) (g (3 * c0) 3) g r13q hr13q) l_RX0_43 (by decide) ⟨by decide, by decide⟩ dX0_obey_55 rfl (Nat.le_of_ble_eq_true rfl) ?_
      obtain ⟨k14q, h⟩ := z_ck_some h
      obtain ⟨g15q, eg15q, h⟩ := z_let_eq h
      refine z_iast hE (by omega) (e_spot hc0) k14q (ua_spot hc0 eg15q) dX0_obey_58 ?_
      refine z_iinc (v := x4 + 1) hE 4 [(4, .int (x4 + 1)), (0, .ref (z_ad X (3 * c0))), (1, .int x1), (2, .int x2), (3, .ref (z_ad X 43))] dX0_obey_59 rfl rfl (by decide) rfl ?_
      refine z_goto hE 13 dX0_obey_62 rfl ?_
      refine z_sub [(0, .ref (z_ad X (3 * c0))), (1, .int x1), (2, .int x2), (3, .ref (z_ad X 43)), (4, .int (x4 + 1))] [1, 2, 3, 4, 0] rfl ?_
      exact ih x1 x2 (x4 + 1) g15q h
set_option maxHeartbeats 1000000 in
set_option maxRecDepth 20000 in
theorem c_Col_obey {X : z_X} {l : Launch} {o : z_G} (c0 : Nat) (x1 : Int32) (x2 : Int32) (g : z_G) (hc0 : c0 < 13) (r : z_G) (h : s_Col_obey c0 x1 x2 g = some r) : z_MV X l 71 yX0_obey cX0_obey 5 none 5 124 [.ref (z_ad X (3 * c0)), .int x1, .int x2, .ref (z_ad X 43)] g o r o := by
  unfold s_Col_obey at h
  refine z_metv (by decide) (Nat.le_of_ble_eq_true rfl) (fun E hl hE hret => ?_)
  subst hl
  refine z_aload_n hE 0 dX0_obey_0 rfl ?_
  refine z_dup hE dX0_obey_1 rfl ?_
  refine z_get hE f_RX0_28 (by omega) (e_col hc0) rfl dX0_obey_2 ?_
  refine z_iconst (v := 1) hE dX0_obey_5 rfl ?_
  refine z_iadd hE dX0_obey_6 ?_
  obtain ⟨g16q, eg16q, h⟩ := z_let_eq h
  refine z_put hE f_RX0_28 ft_0 (by omega) (e_col hc0) rfl (tyX0_ok 3 (by decide)) rfl rfl (Nat.le_of_ble_eq_true rfl) (u_col_3 hc0 eg16q) dX0_obey_7 ?_
  refine z_iconst (v := 0) hE dX0_obey_10 rfl ?_
  refine z_istore hE [(4, .int 0), (0, .ref (z_ad X (3 * c0))), (1, .int x1), (2, .int x2), (3, .ref (z_ad X 43))] dX0_obey_11 (by decide) rfl ?_
  refine z_sub [(0, .ref (z_ad X (3 * c0))), (1, .int x1), (2, .int x2), (3, .ref (z_ad X 43)), (4, .int 0)] [1, 2, 3, 4, 0] rfl ?_
  exact b_Col_obey_L13 hc0 hE hret z_F x1 x2 0 g16q h
theorem dX0_lostMen_0 : decode cX0_lostMen 0 = .ok (.iconst 0, 1) := by decide +kernel
theorem dX0_lostMen_1 : decode cX0_lostMen 1 = .ok (.istore_n 2, 1) := by decide +kernel
theorem dX0_lostMen_2 : decode cX0_lostMen 2 = .ok (.iconst 0, 1) := by decide +kernel
theorem dX0_lostMen_3 : decode cX0_lostMen 3 = .ok (.istore_n 3, 1) := by decide +kernel
theorem dX0_lostMen_4 : decode cX0_lostMen 4 = .ok (.iload_n 3, 1) := by decide +kernel
theorem dX0_lostMen_5 : decode cX0_lostMen 5 = .ok (.aload_n 1, 1) := by decide +kernel
theorem dX0_lostMen_6 : decode cX0_lostMen 6 = .ok (.getfield 31, 3) := by decide +kernel
theorem dX0_lostMen_9 : decode cX0_lostMen 9 = .ok (.if_icmp .ge 21, 3) := by decide +kernel
theorem dX0_lostMen_12 : decode cX0_lostMen 12 = .ok (.iload_n 2, 1) := by decide +kernel
theorem dX0_lostMen_13 : decode cX0_lostMen 13 = .ok (.aload_n 0, 1) := by decide +kernel
theorem dX0_lostMen_14 : decode cX0_lostMen 14 = .ok (.iload_n 3, 1) := by decide +kernel
theorem dX0_lostMen_15 : decode cX0_lostMen 15 = .ok (.aload_n 1, 1) := by decide +kernel
theorem dX0_lostMen_16 : decode cX0_lostMen 16 = .ok (.invokevirtual 75, 3) := by decide +kernel
theorem dX0_lostMen_19 : decode cX0_lostMen 19 = .ok (.invokestatic 79, 3) := by decide +kernel
theorem dX0_lostMen_22 : decode cX0_lostMen 22 = .ok (.iadd, 1) := by decide +kernel
theorem dX0_lostMen_23 : decode cX0_lostMen 23 = .ok (.istore_n 2, 1) := by decide +kernel
theorem dX0_lostMen_24 : decode cX0_lostMen 24 = .ok (.iinc 3 1, 3) := by decide +kernel
theorem dX0_lostMen_27 : decode cX0_lostMen 27 = .ok (.goto (-23), 3) := by decide +kernel
theorem dX0_lostMen_30 : decode cX0_lostMen 30 = .ok (.iload_n 2, 1) := by decide +kernel
theorem dX0_lostMen_31 : decode cX0_lostMen 31 = .ok (.ireturn, 1) := by decide +kernel
def s_Col_lostMen_L4 (c0 : Nat) (g : z_G) : Nat → Int32 → Int32 → Option (Int32)
  | 0, _, _ => none
  | n + 1, x2, x3 => (if (g 43 1) ≤ x3 then (some x2) else (Option.bind (s_Col_isLost c0 x3 g) fun r5q => (z_let (α := Int32) ((x2 + (s_Top_asNumber r5q))) fun v6q => ((s_Col_lostMen_L4 c0 g n) v6q (x3 + 1)))))
def s_Col_lostMen (c0 : Nat) (g : z_G) : Option (Int32) := (s_Col_lostMen_L4 c0 g z_F 0 0)
set_option maxHeartbeats 1000000 in
set_option maxRecDepth 20000 in
theorem b_Col_lostMen_L4 {X : z_X} {E : z_ET} {o : z_G} {c0 : Nat} (hc0 : c0 < 13) (hE : z_EV X E cX0_lostMen 4 RX0 3 73 71) {g : z_G} {r : Int32} (hret : ∀ (pc : Nat) (lv : List (Nat × Value)), decode cX0_lostMen pc = .ok (.ireturn, 1) → z_V X E 4 g o pc lv [.int r]) : ∀ (n : Nat) (x2 : Int32) (x3 : Int32), s_Col_lostMen_L4 c0 g n x2 x3 = some r → z_V X E 4 g o 4 [(0, .ref (z_ad X (3 * c0))), (1, .ref (z_ad X 43)), (2, .int x2), (3, .int x3)] [] := by
  intro n
  induction n with
  | zero => intro x2 x3 h; exact z_none h
  | succ n ih =>
    intro x2 x3 h
    rw [s_Col_lostMen_L4] at h
    refine z_iload_n hE 3 dX0_lostMen_4 rfl ?_
    refine z_aload_n hE 1 dX0_lostMen_5 rfl ?_
    refine z_get hE f_RX0_31 (by decide) e_43 rfl dX0_lostMen_6 ?_
    refine z_icmp_ge hE 30 dX0_lostMen_9 rfl (fun c4q => ?_) (fun c4q => ?_)
    · replace h := z_t c4q h
      refine z_iload_n hE 2 dX0_lostMen_30 rfl ?_
      obtain rfl := Option.some.inj h
      exact hret _ _ dX0_lostMen_31
    · replace h := z_f c4q h
      refine z_iload_n hE 2 dX0_lostMen_12 rfl ?_
      refine z_aload_n hE 0 dX0_lostMen_13 rfl ?_
      refine z_iload_n hE 3 dX0_lostMen_14 rfl ?_
      refine z_aload_n hE 1 dX0_lostMen_15 rfl ?_
      obtain ⟨r5q, hr5q, h⟩ := z_bind_some h
      refine z_iV (rest := [.int x2]) (av := [.int x3, .ref (z_ad X 43)]) hE (c_Col_isLost c0 x3 g hc0 r5q hr5q) l_RX0_75 (by decide) (by omega) (e_col hc0) rfl ⟨by decide, by decide⟩ dX0_lostMen_16 rfl (Nat.le_of_ble_eq_true rfl) ?_
      refine z_iS (rest := [.int x2]) (av := [.int r5q]) hE (c_Top_asNumber r5q g) l_RX0_79 (by decide) ⟨by decide, by decide⟩ dX0_lostMen_19 rfl (Nat.le_of_ble_eq_true rfl) ?_
      refine z_iadd hE dX0_lostMen_22 ?_
      obtain ⟨v6q, ev6q, h⟩ := z_let_eq h
      refine z_topi ev6q ?_
      refine z_istore_n hE [(2, .int v6q), (0, .ref (z_ad X (3 * c0))), (1, .ref (z_ad X 43)), (3, .int x3)] dX0_lostMen_23 rfl (by decide) rfl ?_
      refine z_iinc (v := x3 + 1) hE 3 [(3, .int (x3 + 1)), (2, .int v6q), (0, .ref (z_ad X (3 * c0))), (1, .ref (z_ad X 43))] dX0_lostMen_24 rfl rfl (by decide) rfl ?_
      refine z_goto hE 4 dX0_lostMen_27 rfl ?_
      refine z_sub [(0, .ref (z_ad X (3 * c0))), (1, .ref (z_ad X 43)), (2, .int v6q), (3, .int (x3 + 1))] [2, 3, 1, 0] rfl ?_
      exact ih v6q (x3 + 1) h
set_option maxHeartbeats 1000000 in
set_option maxRecDepth 20000 in
theorem c_Col_lostMen {X : z_X} {l : Launch} {o : z_G} (c0 : Nat) (g : z_G) (hc0 : c0 < 13) (r : Int32) (h : s_Col_lostMen c0 g = some r) : z_MI X l 71 yX0_lostMen cX0_lostMen 4 (some .int) 3 73 [.ref (z_ad X (3 * c0)), .ref (z_ad X 43)] g o g o r := by
  unfold s_Col_lostMen at h
  refine z_meti (ty := .int) rfl rfl (by decide) (Nat.le_of_ble_eq_true rfl) (fun E hl hE hret => ?_)
  subst hl
  refine z_iconst (v := 0) hE dX0_lostMen_0 rfl ?_
  refine z_istore_n hE [(2, .int 0), (0, .ref (z_ad X (3 * c0))), (1, .ref (z_ad X 43))] dX0_lostMen_1 rfl (by decide) rfl ?_
  refine z_iconst (v := 0) hE dX0_lostMen_2 rfl ?_
  refine z_istore_n hE [(3, .int 0), (2, .int 0), (0, .ref (z_ad X (3 * c0))), (1, .ref (z_ad X 43))] dX0_lostMen_3 rfl (by decide) rfl ?_
  refine z_sub [(0, .ref (z_ad X (3 * c0))), (1, .ref (z_ad X 43)), (2, .int 0), (3, .int 0)] [2, 3, 1, 0] rfl ?_
  exact b_Col_lostMen_L4 hc0 hE hret z_F 0 0 h
theorem dX9_order_0 : decode cX9_order 0 = .ok (.iload_n 1, 1) := by decide +kernel
theorem dX9_order_1 : decode cX9_order 1 = .ok (.iload_n 2, 1) := by decide +kernel
theorem dX9_order_2 : decode cX9_order 2 = .ok (.invokestatic 171, 3) := by decide +kernel
theorem dX9_order_5 : decode cX9_order 5 = .ok (.ifCond .ne 5, 3) := by decide +kernel
theorem dX9_order_8 : decode cX9_order 8 = .ok (.iconst (-1), 1) := by decide +kernel
theorem dX9_order_9 : decode cX9_order 9 = .ok (.ireturn, 1) := by decide +kernel
theorem dX9_order_10 : decode cX9_order 10 = .ok (.aload_n 0, 1) := by decide +kernel
theorem dX9_order_11 : decode cX9_order 11 = .ok (.getfield 56, 3) := by decide +kernel
theorem dX9_order_14 : decode cX9_order 14 = .ok (.aload_n 0, 1) := by decide +kernel
theorem dX9_order_15 : decode cX9_order 15 = .ok (.getfield 30, 3) := by decide +kernel
theorem dX9_order_18 : decode cX9_order 18 = .ok (.invokevirtual 174, 3) := by decide +kernel
theorem dX9_order_21 : decode cX9_order 21 = .ok (.aload_n 0, 1) := by decide +kernel
theorem dX9_order_22 : decode cX9_order 22 = .ok (.getfield 30, 3) := by decide +kernel
theorem dX9_order_25 : decode cX9_order 25 = .ok (.iload_n 1, 1) := by decide +kernel
theorem dX9_order_26 : decode cX9_order 26 = .ok (.iload_n 2, 1) := by decide +kernel
theorem dX9_order_27 : decode cX9_order 27 = .ok (.aload_n 0, 1) := by decide +kernel
theorem dX9_order_28 : decode cX9_order 28 = .ok (.getfield 23, 3) := by decide +kernel
theorem dX9_order_31 : decode cX9_order 31 = .ok (.invokevirtual 178, 3) := by decide +kernel
theorem dX9_order_34 : decode cX9_order 34 = .ok (.aload_n 0, 1) := by decide +kernel
theorem dX9_order_35 : decode cX9_order 35 = .ok (.getfield 30, 3) := by decide +kernel
theorem dX9_order_38 : decode cX9_order 38 = .ok (.aload_n 0, 1) := by decide +kernel
theorem dX9_order_39 : decode cX9_order 39 = .ok (.getfield 23, 3) := by decide +kernel
theorem dX9_order_42 : decode cX9_order 42 = .ok (.invokevirtual 182, 3) := by decide +kernel
theorem dX9_order_45 : decode cX9_order 45 = .ok (.ireturn, 1) := by decide +kernel
def s_Top_order (x1 : Int32) (x2 : Int32) (g : z_G) : Option (Int32 × z_G) := (if (s_Top_isOrder x1 x2) = 0 then (some ((-1), g)) else (Option.bind (s_Pile_put_61 0 g) fun r6q => (Option.bind (s_Col_obey 0 x1 x2 r6q) fun r7q => (Option.bind (s_Col_lostMen 0 r7q) fun r8q => (some (r8q, r7q))))))
set_option maxHeartbeats 1000000 in
set_option maxRecDepth 20000 in
theorem c_Top_order {X : z_X} {l : Launch} {o : z_G} (x1 : Int32) (x2 : Int32) (g : z_G) (r : Int32 × z_G) (h : s_Top_order x1 x2 g = some r) : z_MI X l 71 yX9_order cX9_order 3 (some .int) 6 148 [.ref (z_ad X 39), .int x1, .int x2] g o r.2 o r.1 := by
  unfold s_Top_order at h
  refine z_meti (ty := .int) rfl rfl (by decide) (Nat.le_of_ble_eq_true rfl) (fun E hl hE hret => ?_)
  subst hl
  refine z_iload_n hE 1 dX9_order_0 rfl ?_
  refine z_iload_n hE 2 dX9_order_1 rfl ?_
  refine z_iS (rest := []) (av := [.int x1, .int x2]) hE (c_Top_isOrder x1 x2 g) l_RX9_171 (by decide) ⟨by decide, by decide⟩ dX9_order_2 rfl (Nat.le_of_ble_eq_true rfl) ?_
  refine z_if_ne hE 10 dX9_order_5 rfl (fun c5q => ?_) (fun c5q => ?_)
  · replace h := z_f c5q h
    refine z_aload_n hE 0 dX9_order_10 rfl ?_
    refine z_get hE f_RX9_56 (by decide) e_39 rfl dX9_order_11 ?_
    refine z_aload_n hE 0 dX9_order_14 rfl ?_
    refine z_get hE f_RX9_30 (by decide) e_39 rfl dX9_order_15 ?_
    obtain ⟨r6q, hr6q, h⟩ := z_bind_some h
    refine z_vV (rest := []) (av := [.ref (z_ad X 0)]) hE (c_Pile_put_61 0 g (by decide) r6q hr6q) l_RX9_174 (by decide) (by decide) e_61 rfl ⟨by decide, by decide⟩ dX9_order_18 rfl (Nat.le_of_ble_eq_true rfl) ?_
    refine z_aload_n hE 0 dX9_order_21 rfl ?_
    refine z_get hE f_RX9_30 (by decide) e_39 rfl dX9_order_22 ?_
    refine z_iload_n hE 1 dX9_order_25 rfl ?_
    refine z_iload_n hE 2 dX9_order_26 rfl ?_
    refine z_aload_n hE 0 dX9_order_27 rfl ?_
    refine z_get hE f_RX9_23 (by decide) e_39 rfl dX9_order_28 ?_
    obtain ⟨r7q, hr7q, h⟩ := z_bind_some h
    refine z_vV (rest := []) (av := [.int x1, .int x2, .ref (z_ad X 43)]) hE (c_Col_obey 0 x1 x2 r6q (by decide) r7q hr7q) l_RX9_178 (by decide) (by decide) e_0 rfl ⟨by decide, by decide⟩ dX9_order_31 rfl (Nat.le_of_ble_eq_true rfl) ?_
    refine z_aload_n hE 0 dX9_order_34 rfl ?_
    refine z_get hE f_RX9_30 (by decide) e_39 rfl dX9_order_35 ?_
    refine z_aload_n hE 0 dX9_order_38 rfl ?_
    refine z_get hE f_RX9_23 (by decide) e_39 rfl dX9_order_39 ?_
    obtain ⟨r8q, hr8q, h⟩ := z_bind_some h
    refine z_iV (rest := []) (av := [.ref (z_ad X 43)]) hE (c_Col_lostMen 0 r7q (by decide) r8q hr8q) l_RX9_182 (by decide) (by decide) e_0 rfl ⟨by decide, by decide⟩ dX9_order_42 rfl (Nat.le_of_ble_eq_true rfl) ?_
    obtain rfl := Option.some.inj h
    exact hret _ _ dX9_order_45
  · replace h := z_t c5q h
    refine z_iconst (v := (-1)) hE dX9_order_8 rfl ?_
    obtain rfl := Option.some.inj h
    exact hret _ _ dX9_order_9
theorem dX0_changeTie_0 : decode cX0_changeTie 0 = .ok (.aload_n 0, 1) := by decide +kernel
theorem dX0_changeTie_1 : decode cX0_changeTie 1 = .ok (.dup, 1) := by decide +kernel
theorem dX0_changeTie_2 : decode cX0_changeTie 2 = .ok (.getfield 24, 3) := by decide +kernel
theorem dX0_changeTie_5 : decode cX0_changeTie 5 = .ok (.iconst 1, 1) := by decide +kernel
theorem dX0_changeTie_6 : decode cX0_changeTie 6 = .ok (.iload_n 1, 1) := by decide +kernel
theorem dX0_changeTie_7 : decode cX0_changeTie 7 = .ok (.ishl, 1) := by decide +kernel
theorem dX0_changeTie_8 : decode cX0_changeTie 8 = .ok (.ixor, 1) := by decide +kernel
theorem dX0_changeTie_9 : decode cX0_changeTie 9 = .ok (.putfield 24, 3) := by decide +kernel
theorem dX0_changeTie_12 : decode cX0_changeTie 12 = .ok (.return_, 1) := by decide +kernel
def s_Col_changeTie (c0 : Nat) (x1 : Int32) (g : z_G) : z_G := (z_let (α := z_G) (z_up g (3 * c0) 2 ((g (3 * c0) 2) ^^^ (1 <<< (x1 &&& 31)))) fun g2q => g2q)
set_option maxHeartbeats 1000000 in
set_option maxRecDepth 20000 in
theorem c_Col_changeTie {X : z_X} {l : Launch} {o : z_G} (c0 : Nat) (x1 : Int32) (g : z_G) (hc0 : c0 < 13) : z_MV X l 71 yX0_changeTie cX0_changeTie 2 none 0 0 [.ref (z_ad X (3 * c0)), .int x1] g o (s_Col_changeTie c0 x1 g) o := by
  obtain ⟨r, h⟩ : ∃ r, s_Col_changeTie c0 x1 g = r := ⟨_, rfl⟩
  rw [h]
  unfold s_Col_changeTie at h
  refine z_metv (by decide) (Nat.le_of_ble_eq_true rfl) (fun E hl hE hret => ?_)
  subst hl
  refine z_aload_n hE 0 dX0_changeTie_0 rfl ?_
  refine z_dup hE dX0_changeTie_1 rfl ?_
  refine z_get hE f_RX0_24 (by omega) (e_col hc0) rfl dX0_changeTie_2 ?_
  refine z_iconst (v := 1) hE dX0_changeTie_5 rfl ?_
  refine z_iload_n hE 1 dX0_changeTie_6 rfl ?_
  refine z_ishl hE dX0_changeTie_7 ?_
  refine z_ixor hE dX0_changeTie_8 ?_
  obtain ⟨g2q, eg2q, h⟩ := z_let_eq h
  refine z_put hE f_RX0_24 ft_0 (by omega) (e_col hc0) rfl (tyX0_ok 2 (by decide)) rfl rfl (Nat.le_of_ble_eq_true rfl) (u_col_2 hc0 eg2q) dX0_changeTie_9 ?_
  subst h
  exact hret _ _ dX0_changeTie_12
theorem dJ6_bitCount_0f7a4_0 : decode cJ6_bitCount_0f7a4 0 = .ok (.iload_n 0, 1) := by decide +kernel
theorem dJ6_bitCount_0f7a4_1 : decode cJ6_bitCount_0f7a4 1 = .ok (.iload_n 0, 1) := by decide +kernel
theorem dJ6_bitCount_0f7a4_2 : decode cJ6_bitCount_0f7a4 2 = .ok (.iconst 1, 1) := by decide +kernel
theorem dJ6_bitCount_0f7a4_3 : decode cJ6_bitCount_0f7a4 3 = .ok (.iushr, 1) := by decide +kernel
theorem dJ6_bitCount_0f7a4_4 : decode cJ6_bitCount_0f7a4 4 = .ok (.ldc_w 265, 3) := by decide +kernel
theorem dJ6_bitCount_0f7a4_7 : decode cJ6_bitCount_0f7a4 7 = .ok (.iand, 1) := by decide +kernel
theorem dJ6_bitCount_0f7a4_8 : decode cJ6_bitCount_0f7a4 8 = .ok (.isub, 1) := by decide +kernel
theorem dJ6_bitCount_0f7a4_9 : decode cJ6_bitCount_0f7a4 9 = .ok (.istore_n 0, 1) := by decide +kernel
theorem dJ6_bitCount_0f7a4_10 : decode cJ6_bitCount_0f7a4 10 = .ok (.iload_n 0, 1) := by decide +kernel
theorem dJ6_bitCount_0f7a4_11 : decode cJ6_bitCount_0f7a4 11 = .ok (.ldc_w 266, 3) := by decide +kernel
theorem dJ6_bitCount_0f7a4_14 : decode cJ6_bitCount_0f7a4 14 = .ok (.iand, 1) := by decide +kernel
theorem dJ6_bitCount_0f7a4_15 : decode cJ6_bitCount_0f7a4 15 = .ok (.iload_n 0, 1) := by decide +kernel
theorem dJ6_bitCount_0f7a4_16 : decode cJ6_bitCount_0f7a4 16 = .ok (.iconst 2, 1) := by decide +kernel
theorem dJ6_bitCount_0f7a4_17 : decode cJ6_bitCount_0f7a4 17 = .ok (.iushr, 1) := by decide +kernel
theorem dJ6_bitCount_0f7a4_18 : decode cJ6_bitCount_0f7a4 18 = .ok (.ldc_w 266, 3) := by decide +kernel
theorem dJ6_bitCount_0f7a4_21 : decode cJ6_bitCount_0f7a4 21 = .ok (.iand, 1) := by decide +kernel
theorem dJ6_bitCount_0f7a4_22 : decode cJ6_bitCount_0f7a4 22 = .ok (.iadd, 1) := by decide +kernel
theorem dJ6_bitCount_0f7a4_23 : decode cJ6_bitCount_0f7a4 23 = .ok (.istore_n 0, 1) := by decide +kernel
theorem dJ6_bitCount_0f7a4_24 : decode cJ6_bitCount_0f7a4 24 = .ok (.iload_n 0, 1) := by decide +kernel
theorem dJ6_bitCount_0f7a4_25 : decode cJ6_bitCount_0f7a4 25 = .ok (.iload_n 0, 1) := by decide +kernel
theorem dJ6_bitCount_0f7a4_26 : decode cJ6_bitCount_0f7a4 26 = .ok (.iconst 4, 1) := by decide +kernel
theorem dJ6_bitCount_0f7a4_27 : decode cJ6_bitCount_0f7a4 27 = .ok (.iushr, 1) := by decide +kernel
theorem dJ6_bitCount_0f7a4_28 : decode cJ6_bitCount_0f7a4 28 = .ok (.iadd, 1) := by decide +kernel
theorem dJ6_bitCount_0f7a4_29 : decode cJ6_bitCount_0f7a4 29 = .ok (.ldc_w 267, 3) := by decide +kernel
theorem dJ6_bitCount_0f7a4_32 : decode cJ6_bitCount_0f7a4 32 = .ok (.iand, 1) := by decide +kernel
theorem dJ6_bitCount_0f7a4_33 : decode cJ6_bitCount_0f7a4 33 = .ok (.istore_n 0, 1) := by decide +kernel
theorem dJ6_bitCount_0f7a4_34 : decode cJ6_bitCount_0f7a4 34 = .ok (.iload_n 0, 1) := by decide +kernel
theorem dJ6_bitCount_0f7a4_35 : decode cJ6_bitCount_0f7a4 35 = .ok (.iload_n 0, 1) := by decide +kernel
theorem dJ6_bitCount_0f7a4_36 : decode cJ6_bitCount_0f7a4 36 = .ok (.bipush 8, 2) := by decide +kernel
theorem dJ6_bitCount_0f7a4_38 : decode cJ6_bitCount_0f7a4 38 = .ok (.iushr, 1) := by decide +kernel
theorem dJ6_bitCount_0f7a4_39 : decode cJ6_bitCount_0f7a4 39 = .ok (.iadd, 1) := by decide +kernel
theorem dJ6_bitCount_0f7a4_40 : decode cJ6_bitCount_0f7a4 40 = .ok (.istore_n 0, 1) := by decide +kernel
theorem dJ6_bitCount_0f7a4_41 : decode cJ6_bitCount_0f7a4 41 = .ok (.iload_n 0, 1) := by decide +kernel
theorem dJ6_bitCount_0f7a4_42 : decode cJ6_bitCount_0f7a4 42 = .ok (.iload_n 0, 1) := by decide +kernel
theorem dJ6_bitCount_0f7a4_43 : decode cJ6_bitCount_0f7a4 43 = .ok (.bipush 16, 2) := by decide +kernel
theorem dJ6_bitCount_0f7a4_45 : decode cJ6_bitCount_0f7a4 45 = .ok (.iushr, 1) := by decide +kernel
theorem dJ6_bitCount_0f7a4_46 : decode cJ6_bitCount_0f7a4 46 = .ok (.iadd, 1) := by decide +kernel
theorem dJ6_bitCount_0f7a4_47 : decode cJ6_bitCount_0f7a4 47 = .ok (.istore_n 0, 1) := by decide +kernel
theorem dJ6_bitCount_0f7a4_48 : decode cJ6_bitCount_0f7a4 48 = .ok (.iload_n 0, 1) := by decide +kernel
theorem dJ6_bitCount_0f7a4_49 : decode cJ6_bitCount_0f7a4 49 = .ok (.bipush 63, 2) := by decide +kernel
theorem dJ6_bitCount_0f7a4_51 : decode cJ6_bitCount_0f7a4 51 = .ok (.iand, 1) := by decide +kernel
theorem dJ6_bitCount_0f7a4_52 : decode cJ6_bitCount_0f7a4 52 = .ok (.ireturn, 1) := by decide +kernel
def s_Int_bitCount (x0 : Int32) : Int32 := (z_let (α := Int32) ((x0 - ((Int32.toUInt32 x0 >>> (Int32.toUInt32 1 &&& Int32.toUInt32 31)).toInt32 &&& 1431655765))) fun v6q => (z_let (α := Int32) (((v6q &&& 858993459) + ((Int32.toUInt32 v6q >>> (Int32.toUInt32 2 &&& Int32.toUInt32 31)).toInt32 &&& 858993459))) fun v7q => (z_let (α := Int32) (((v7q + (Int32.toUInt32 v7q >>> (Int32.toUInt32 4 &&& Int32.toUInt32 31)).toInt32) &&& 252645135)) fun v8q => (z_let (α := Int32) ((v8q + (Int32.toUInt32 v8q >>> (Int32.toUInt32 8 &&& Int32.toUInt32 31)).toInt32)) fun v9q => (z_let (α := Int32) ((v9q + (Int32.toUInt32 v9q >>> (Int32.toUInt32 16 &&& Int32.toUInt32 31)).toInt32)) fun v10q => (v10q &&& 63))))))
set_option maxHeartbeats 1000000 in
set_option maxRecDepth 20000 in
theorem c_Int_bitCount {X : z_X} {l : Launch} {o : z_G} (x0 : Int32) (g : z_G) : z_MI X l 71 yJ6_bitCount_0f7a4 cJ6_bitCount_0f7a4 1 (some .int) 0 0 [.int x0] g o g o (s_Int_bitCount x0) := by
  obtain ⟨r, h⟩ : ∃ r, s_Int_bitCount x0 = r := ⟨_, rfl⟩
  rw [h]
  unfold s_Int_bitCount at h
  refine z_meti (ty := .int) rfl rfl (by decide) (Nat.le_of_ble_eq_true rfl) (fun E hl hE hret => ?_)
  subst hl
  refine z_iload_n hE 0 dJ6_bitCount_0f7a4_0 rfl ?_
  refine z_iload_n hE 0 dJ6_bitCount_0f7a4_1 rfl ?_
  refine z_iconst (v := 1) hE dJ6_bitCount_0f7a4_2 rfl ?_
  refine z_iushr hE dJ6_bitCount_0f7a4_3 ?_
  refine z_ldcw hE dJ6_bitCount_0f7a4_4 w_282 ?_
  refine z_iand hE dJ6_bitCount_0f7a4_7 ?_
  refine z_isub hE dJ6_bitCount_0f7a4_8 ?_
  obtain ⟨v6q, ev6q, h⟩ := z_let_eq h
  refine z_topi ev6q ?_
  refine z_istore_n hE [(0, .int v6q)] dJ6_bitCount_0f7a4_9 rfl (by decide) rfl ?_
  refine z_iload_n hE 0 dJ6_bitCount_0f7a4_10 rfl ?_
  refine z_ldcw hE dJ6_bitCount_0f7a4_11 w_283 ?_
  refine z_iand hE dJ6_bitCount_0f7a4_14 ?_
  refine z_iload_n hE 0 dJ6_bitCount_0f7a4_15 rfl ?_
  refine z_iconst (v := 2) hE dJ6_bitCount_0f7a4_16 rfl ?_
  refine z_iushr hE dJ6_bitCount_0f7a4_17 ?_
  refine z_ldcw hE dJ6_bitCount_0f7a4_18 w_283 ?_
  refine z_iand hE dJ6_bitCount_0f7a4_21 ?_
  refine z_iadd hE dJ6_bitCount_0f7a4_22 ?_
  obtain ⟨v7q, ev7q, h⟩ := z_let_eq h
  refine z_topi ev7q ?_
  refine z_istore_n hE [(0, .int v7q)] dJ6_bitCount_0f7a4_23 rfl (by decide) rfl ?_
  refine z_iload_n hE 0 dJ6_bitCount_0f7a4_24 rfl ?_
  refine z_iload_n hE 0 dJ6_bitCount_0f7a4_25 rfl ?_
  refine z_iconst (v := 4) hE dJ6_bitCount_0f7a4_26 rfl ?_
  refine z_iushr hE dJ6_bitCount_0f7a4_27 ?_
  refine z_iadd hE dJ6_bitCount_0f7a4_28 ?_
  refine z_ldcw hE dJ6_bitCount_0f7a4_29 w_284 ?_
  refine z_iand hE dJ6_bitCount_0f7a4_32 ?_
  obtain ⟨v8q, ev8q, h⟩ := z_let_eq h
  refine z_topi ev8q ?_
  refine z_istore_n hE [(0, .int v8q)] dJ6_bitCount_0f7a4_33 rfl (by decide) rfl ?_
  refine z_iload_n hE 0 dJ6_bitCount_0f7a4_34 rfl ?_
  refine z_iload_n hE 0 dJ6_bitCount_0f7a4_35 rfl ?_
  refine z_bipush (v := 8) hE dJ6_bitCount_0f7a4_36 rfl ?_
  refine z_iushr hE dJ6_bitCount_0f7a4_38 ?_
  refine z_iadd hE dJ6_bitCount_0f7a4_39 ?_
  obtain ⟨v9q, ev9q, h⟩ := z_let_eq h
  refine z_topi ev9q ?_
  refine z_istore_n hE [(0, .int v9q)] dJ6_bitCount_0f7a4_40 rfl (by decide) rfl ?_
  refine z_iload_n hE 0 dJ6_bitCount_0f7a4_41 rfl ?_
  refine z_iload_n hE 0 dJ6_bitCount_0f7a4_42 rfl ?_
  refine z_bipush (v := 16) hE dJ6_bitCount_0f7a4_43 rfl ?_
  refine z_iushr hE dJ6_bitCount_0f7a4_45 ?_
  refine z_iadd hE dJ6_bitCount_0f7a4_46 ?_
  obtain ⟨v10q, ev10q, h⟩ := z_let_eq h
  refine z_topi ev10q ?_
  refine z_istore_n hE [(0, .int v10q)] dJ6_bitCount_0f7a4_47 rfl (by decide) rfl ?_
  refine z_iload_n hE 0 dJ6_bitCount_0f7a4_48 rfl ?_
  refine z_bipush (v := 63) hE dJ6_bitCount_0f7a4_49 rfl ?_
  refine z_iand hE dJ6_bitCount_0f7a4_51 ?_
  subst h
  exact hret _ _ dJ6_bitCount_0f7a4_52
theorem dX0_tiedMen_0 : decode cX0_tiedMen 0 = .ok (.aload_n 0, 1) := by decide +kernel
theorem dX0_tiedMen_1 : decode cX0_tiedMen 1 = .ok (.getfield 24, 3) := by decide +kernel
theorem dX0_tiedMen_4 : decode cX0_tiedMen 4 = .ok (.invokestatic 59, 3) := by decide +kernel
theorem dX0_tiedMen_7 : decode cX0_tiedMen 7 = .ok (.ireturn, 1) := by decide +kernel
def s_Col_tiedMen (c0 : Nat) (g : z_G) : Int32 := (s_Int_bitCount (g (3 * c0) 2))
set_option maxHeartbeats 1000000 in
set_option maxRecDepth 20000 in
theorem c_Col_tiedMen {X : z_X} {l : Launch} {o : z_G} (c0 : Nat) (g : z_G) (hc0 : c0 < 13) : z_MI X l 71 yX0_tiedMen cX0_tiedMen 1 (some .int) 1 20 [.ref (z_ad X (3 * c0))] g o g o (s_Col_tiedMen c0 g) := by
  obtain ⟨r, h⟩ : ∃ r, s_Col_tiedMen c0 g = r := ⟨_, rfl⟩
  rw [h]
  unfold s_Col_tiedMen at h
  refine z_meti (ty := .int) rfl rfl (by decide) (Nat.le_of_ble_eq_true rfl) (fun E hl hE hret => ?_)
  subst hl
  refine z_aload_n hE 0 dX0_tiedMen_0 rfl ?_
  refine z_get hE f_RX0_24 (by omega) (e_col hc0) rfl dX0_tiedMen_1 ?_
  refine z_iS (rest := []) (av := [.int (g (3 * c0) 2)]) hE (c_Int_bitCount (g (3 * c0) 2) g) l_RX0_59 (by decide) ⟨by decide, by decide⟩ dX0_tiedMen_4 rfl (Nat.le_of_ble_eq_true rfl) ?_
  subst h
  exact hret _ _ dX0_tiedMen_7
theorem dX9_tie_0 : decode cX9_tie 0 = .ok (.aload_n 0, 1) := by decide +kernel
theorem dX9_tie_1 : decode cX9_tie 1 = .ok (.iload_n 1, 1) := by decide +kernel
theorem dX9_tie_2 : decode cX9_tie 2 = .ok (.invokevirtual 107, 3) := by decide +kernel
theorem dX9_tie_5 : decode cX9_tie 5 = .ok (.ifCond .ne 5, 3) := by decide +kernel
theorem dX9_tie_8 : decode cX9_tie 8 = .ok (.iconst (-1), 1) := by decide +kernel
theorem dX9_tie_9 : decode cX9_tie 9 = .ok (.ireturn, 1) := by decide +kernel
theorem dX9_tie_10 : decode cX9_tie 10 = .ok (.aload_n 0, 1) := by decide +kernel
theorem dX9_tie_11 : decode cX9_tie 11 = .ok (.getfield 30, 3) := by decide +kernel
theorem dX9_tie_14 : decode cX9_tie 14 = .ok (.iload_n 1, 1) := by decide +kernel
theorem dX9_tie_15 : decode cX9_tie 15 = .ok (.invokevirtual 130, 3) := by decide +kernel
theorem dX9_tie_18 : decode cX9_tie 18 = .ok (.iload_n 2, 1) := by decide +kernel
theorem dX9_tie_19 : decode cX9_tie 19 = .ok (.if_icmp .ne 6, 3) := by decide +kernel
theorem dX9_tie_22 : decode cX9_tie 22 = .ok (.bipush (-2), 2) := by decide +kernel
theorem dX9_tie_24 : decode cX9_tie 24 = .ok (.ireturn, 1) := by decide +kernel
theorem dX9_tie_25 : decode cX9_tie 25 = .ok (.aload_n 0, 1) := by decide +kernel
theorem dX9_tie_26 : decode cX9_tie 26 = .ok (.getfield 56, 3) := by decide +kernel
theorem dX9_tie_29 : decode cX9_tie 29 = .ok (.aload_n 0, 1) := by decide +kernel
theorem dX9_tie_30 : decode cX9_tie 30 = .ok (.getfield 30, 3) := by decide +kernel
theorem dX9_tie_33 : decode cX9_tie 33 = .ok (.invokevirtual 174, 3) := by decide +kernel
theorem dX9_tie_36 : decode cX9_tie 36 = .ok (.aload_n 0, 1) := by decide +kernel
theorem dX9_tie_37 : decode cX9_tie 37 = .ok (.getfield 30, 3) := by decide +kernel
theorem dX9_tie_40 : decode cX9_tie 40 = .ok (.iload_n 1, 1) := by decide +kernel
theorem dX9_tie_41 : decode cX9_tie 41 = .ok (.invokevirtual 186, 3) := by decide +kernel
theorem dX9_tie_44 : decode cX9_tie 44 = .ok (.aload_n 0, 1) := by decide +kernel
theorem dX9_tie_45 : decode cX9_tie 45 = .ok (.getfield 30, 3) := by decide +kernel
theorem dX9_tie_48 : decode cX9_tie 48 = .ok (.invokevirtual 189, 3) := by decide +kernel
theorem dX9_tie_51 : decode cX9_tie 51 = .ok (.ireturn, 1) := by decide +kernel
def s_Top_tie (x1 : Int32) (x2 : Int32) (g : z_G) : Option (Int32 × z_G) := (if (s_Top_isMan x1 g) = 0 then (some ((-1), g)) else (if (s_Col_isTied 0 x1 g) = x2 then (some ((-2), g)) else (Option.bind (s_Pile_put_61 0 g) fun r6q => (some ((s_Col_tiedMen 0 (s_Col_changeTie 0 x1 r6q)), (s_Col_changeTie 0 x1 r6q))))))
set_option maxHeartbeats 1000000 in
set_option maxRecDepth 20000 in
theorem c_Top_tie {X : z_X} {l : Launch} {o : z_G} (x1 : Int32) (x2 : Int32) (g : z_G) (r : Int32 × z_G) (h : s_Top_tie x1 x2 g = some r) : z_MI X l 71 yX9_tie cX9_tie 3 (some .int) 3 102 [.ref (z_ad X 39), .int x1, .int x2] g o r.2 o r.1 := by
  unfold s_Top_tie at h
  refine z_meti (ty := .int) rfl rfl (by decide) (Nat.le_of_ble_eq_true rfl) (fun E hl hE hret => ?_)
  subst hl
  refine z_aload_n hE 0 dX9_tie_0 rfl ?_
  refine z_iload_n hE 1 dX9_tie_1 rfl ?_
  refine z_iV (rest := []) (av := [.int x1]) hE (c_Top_isMan x1 g) l_RX9_107 (by decide) (by decide) e_39 rfl ⟨by decide, by decide⟩ dX9_tie_2 rfl (Nat.le_of_ble_eq_true rfl) ?_
  refine z_if_ne hE 10 dX9_tie_5 rfl (fun c4q => ?_) (fun c4q => ?_)
  · replace h := z_f c4q h
    refine z_aload_n hE 0 dX9_tie_10 rfl ?_
    refine z_get hE f_RX9_30 (by decide) e_39 rfl dX9_tie_11 ?_
    refine z_iload_n hE 1 dX9_tie_14 rfl ?_
    refine z_iV (rest := []) (av := [.int x1]) hE (c_Col_isTied 0 x1 g (by decide)) l_RX9_130 (by decide) (by decide) e_0 rfl ⟨by decide, by decide⟩ dX9_tie_15 rfl (Nat.le_of_ble_eq_true rfl) ?_
    refine z_iload_n hE 2 dX9_tie_18 rfl ?_
    refine z_icmp_ne hE 25 dX9_tie_19 rfl (fun c5q => ?_) (fun c5q => ?_)
    · replace h := z_f c5q h
      refine z_aload_n hE 0 dX9_tie_25 rfl ?_
      refine z_get hE f_RX9_56 (by decide) e_39 rfl dX9_tie_26 ?_
      refine z_aload_n hE 0 dX9_tie_29 rfl ?_
      refine z_get hE f_RX9_30 (by decide) e_39 rfl dX9_tie_30 ?_
      obtain ⟨r6q, hr6q, h⟩ := z_bind_some h
      refine z_vV (rest := []) (av := [.ref (z_ad X 0)]) hE (c_Pile_put_61 0 g (by decide) r6q hr6q) l_RX9_174 (by decide) (by decide) e_61 rfl ⟨by decide, by decide⟩ dX9_tie_33 rfl (Nat.le_of_ble_eq_true rfl) ?_
      refine z_aload_n hE 0 dX9_tie_36 rfl ?_
      refine z_get hE f_RX9_30 (by decide) e_39 rfl dX9_tie_37 ?_
      refine z_iload_n hE 1 dX9_tie_40 rfl ?_
      refine z_vV (rest := []) (av := [.int x1]) hE (c_Col_changeTie 0 x1 r6q (by decide)) l_RX9_186 (by decide) (by decide) e_0 rfl ⟨by decide, by decide⟩ dX9_tie_41 rfl (Nat.le_of_ble_eq_true rfl) ?_
      refine z_aload_n hE 0 dX9_tie_44 rfl ?_
      refine z_get hE f_RX9_30 (by decide) e_39 rfl dX9_tie_45 ?_
      refine z_iV (rest := []) (av := []) hE (c_Col_tiedMen 0 (s_Col_changeTie 0 x1 r6q) (by decide)) l_RX9_189 (by decide) (by decide) e_0 rfl ⟨by decide, by decide⟩ dX9_tie_48 rfl (Nat.le_of_ble_eq_true rfl) ?_
      obtain rfl := Option.some.inj h
      exact hret _ _ dX9_tie_51
    · replace h := z_t c5q h
      refine z_bipush (v := (-2)) hE dX9_tie_22 rfl ?_
      obtain rfl := Option.some.inj h
      exact hret _ _ dX9_tie_24
  · replace h := z_t c4q h
    refine z_iconst (v := (-1)) hE dX9_tie_8 rfl ?_
    obtain rfl := Option.some.inj h
    exact hret _ _ dX9_tie_9
theorem dX9_swap_0 : decode cX9_swap 0 = .ok (.aload_n 0, 1) := by decide +kernel
theorem dX9_swap_1 : decode cX9_swap 1 = .ok (.iload_n 1, 1) := by decide +kernel
theorem dX9_swap_2 : decode cX9_swap 2 = .ok (.invokevirtual 107, 3) := by decide +kernel
theorem dX9_swap_5 : decode cX9_swap 5 = .ok (.ifCond .eq 16, 3) := by decide +kernel
theorem dX9_swap_8 : decode cX9_swap 8 = .ok (.aload_n 0, 1) := by decide +kernel
theorem dX9_swap_9 : decode cX9_swap 9 = .ok (.iload_n 2, 1) := by decide +kernel
theorem dX9_swap_10 : decode cX9_swap 10 = .ok (.invokevirtual 107, 3) := by decide +kernel
theorem dX9_swap_13 : decode cX9_swap 13 = .ok (.ifCond .eq 8, 3) := by decide +kernel
theorem dX9_swap_16 : decode cX9_swap 16 = .ok (.iload_n 1, 1) := by decide +kernel
theorem dX9_swap_17 : decode cX9_swap 17 = .ok (.iload_n 2, 1) := by decide +kernel
theorem dX9_swap_18 : decode cX9_swap 18 = .ok (.if_icmp .ne 5, 3) := by decide +kernel
theorem dX9_swap_21 : decode cX9_swap 21 = .ok (.iconst (-1), 1) := by decide +kernel
theorem dX9_swap_22 : decode cX9_swap 22 = .ok (.ireturn, 1) := by decide +kernel
theorem dX9_swap_23 : decode cX9_swap 23 = .ok (.aload_n 0, 1) := by decide +kernel
theorem dX9_swap_24 : decode cX9_swap 24 = .ok (.getfield 56, 3) := by decide +kernel
theorem dX9_swap_27 : decode cX9_swap 27 = .ok (.aload_n 0, 1) := by decide +kernel
theorem dX9_swap_28 : decode cX9_swap 28 = .ok (.getfield 30, 3) := by decide +kernel
theorem dX9_swap_31 : decode cX9_swap 31 = .ok (.invokevirtual 174, 3) := by decide +kernel
theorem dX9_swap_34 : decode cX9_swap 34 = .ok (.aload_n 0, 1) := by decide +kernel
theorem dX9_swap_35 : decode cX9_swap 35 = .ok (.getfield 30, 3) := by decide +kernel
theorem dX9_swap_38 : decode cX9_swap 38 = .ok (.getfield 124, 3) := by decide +kernel
theorem dX9_swap_41 : decode cX9_swap 41 = .ok (.iload_n 1, 1) := by decide +kernel
theorem dX9_swap_42 : decode cX9_swap 42 = .ok (.iaload, 1) := by decide +kernel
theorem dX9_swap_43 : decode cX9_swap 43 = .ok (.istore_n 3, 1) := by decide +kernel
theorem dX9_swap_44 : decode cX9_swap 44 = .ok (.aload_n 0, 1) := by decide +kernel
theorem dX9_swap_45 : decode cX9_swap 45 = .ok (.getfield 30, 3) := by decide +kernel
theorem dX9_swap_48 : decode cX9_swap 48 = .ok (.getfield 124, 3) := by decide +kernel
theorem dX9_swap_51 : decode cX9_swap 51 = .ok (.iload_n 1, 1) := by decide +kernel
theorem dX9_swap_52 : decode cX9_swap 52 = .ok (.aload_n 0, 1) := by decide +kernel
theorem dX9_swap_53 : decode cX9_swap 53 = .ok (.getfield 30, 3) := by decide +kernel
theorem dX9_swap_56 : decode cX9_swap 56 = .ok (.getfield 124, 3) := by decide +kernel
theorem dX9_swap_59 : decode cX9_swap 59 = .ok (.iload_n 2, 1) := by decide +kernel
theorem dX9_swap_60 : decode cX9_swap 60 = .ok (.iaload, 1) := by decide +kernel
theorem dX9_swap_61 : decode cX9_swap 61 = .ok (.iastore, 1) := by decide +kernel
theorem dX9_swap_62 : decode cX9_swap 62 = .ok (.aload_n 0, 1) := by decide +kernel
theorem dX9_swap_63 : decode cX9_swap 63 = .ok (.getfield 30, 3) := by decide +kernel
theorem dX9_swap_66 : decode cX9_swap 66 = .ok (.getfield 124, 3) := by decide +kernel
theorem dX9_swap_69 : decode cX9_swap 69 = .ok (.iload_n 2, 1) := by decide +kernel
theorem dX9_swap_70 : decode cX9_swap 70 = .ok (.iload_n 3, 1) := by decide +kernel
theorem dX9_swap_71 : decode cX9_swap 71 = .ok (.iastore, 1) := by decide +kernel
theorem dX9_swap_72 : decode cX9_swap 72 = .ok (.aload_n 0, 1) := by decide +kernel
theorem dX9_swap_73 : decode cX9_swap 73 = .ok (.getfield 30, 3) := by decide +kernel
theorem dX9_swap_76 : decode cX9_swap 76 = .ok (.getfield 124, 3) := by decide +kernel
theorem dX9_swap_79 : decode cX9_swap 79 = .ok (.iload_n 1, 1) := by decide +kernel
theorem dX9_swap_80 : decode cX9_swap 80 = .ok (.iaload, 1) := by decide +kernel
theorem dX9_swap_81 : decode cX9_swap 81 = .ok (.ireturn, 1) := by decide +kernel
def s_Top_swap_b21  (g : z_G) : Option (Int32 × z_G) := (some ((-1), g))
def s_Top_swap (x1 : Int32) (x2 : Int32) (g : z_G) : Option (Int32 × z_G) := (if (s_Top_isMan x1 g) = 0 then (s_Top_swap_b21 g) else (if (s_Top_isMan x2 g) = 0 then (s_Top_swap_b21 g) else (if x1 = x2 then (s_Top_swap_b21 g) else (Option.bind (s_Pile_put_61 0 g) fun r16q => (z_ck (z_inb x1 6) (z_let (α := Int32) ((z_rd r16q 2 x1)) fun v18q => (z_ck (z_inb x2 6) (z_ck (z_inb x1 6) (z_let (α := z_G) (z_wr r16q 2 x1 (z_rd r16q 2 x2)) fun g21q => (z_ck (z_inb x2 6) (z_let (α := z_G) (z_wr g21q 2 x2 v18q) fun g23q => (z_ck (z_inb x1 6) (some ((z_rd g23q 2 x1), g23q))))))))))))))
set_option maxHeartbeats 1000000 in
set_option maxRecDepth 20000 in
theorem b_Top_swap_b21 {X : z_X} {E : z_ET} {o : z_G} (hE : z_EV X E cX9_swap 4 RX9 3 102 71) {r : Int32 × z_G} (hret : ∀ (pc : Nat) (lv : List (Nat × Value)), decode cX9_swap pc = .ok (.ireturn, 1) → z_V X E 4 r.2 o pc lv [.int r.1])  (g : z_G)  (h : s_Top_swap_b21 g = some r) : z_V X E 4 g o 21 [] [] := by
  unfold s_Top_swap_b21 at h
  refine z_iconst (v := (-1)) hE dX9_swap_21 rfl ?_
  obtain rfl := Option.some.inj h
  exact hret _ _ dX9_swap_22
set_option maxHeartbeats 1000000 in
set_option maxRecDepth 20000 in
theorem c_Top_swap {X : z_X} {l : Launch} {o : z_G} (x1 : Int32) (x2 : Int32) (g : z_G) (r : Int32 × z_G) (h : s_Top_swap x1 x2 g = some r) : z_MI X l 71 yX9_swap cX9_swap 4 (some .int) 3 102 [.ref (z_ad X 39), .int x1, .int x2] g o r.2 o r.1 := by
  unfold s_Top_swap at h
  refine z_meti (ty := .int) rfl rfl (by decide) (Nat.le_of_ble_eq_true rfl) (fun E hl hE hret => ?_)
  subst hl
  refine z_aload_n hE 0 dX9_swap_0 rfl ?_
  refine z_iload_n hE 1 dX9_swap_1 rfl ?_
  refine z_iV (rest := []) (av := [.int x1]) hE (c_Top_isMan x1 g) l_RX9_107 (by decide) (by decide) e_39 rfl ⟨by decide, by decide⟩ dX9_swap_2 rfl (Nat.le_of_ble_eq_true rfl) ?_
  refine z_if_eq hE 21 dX9_swap_5 rfl (fun c13q => ?_) (fun c13q => ?_)
  · replace h := z_t c13q h
    refine z_sub [] [] rfl ?_
    exact b_Top_swap_b21 hE hret g h
  · replace h := z_f c13q h
    refine z_aload_n hE 0 dX9_swap_8 rfl ?_
    refine z_iload_n hE 2 dX9_swap_9 rfl ?_
    refine z_iV (rest := []) (av := [.int x2]) hE (c_Top_isMan x2 g) l_RX9_107 (by decide) (by decide) e_39 rfl ⟨by decide, by decide⟩ dX9_swap_10 rfl (Nat.le_of_ble_eq_true rfl) ?_
    refine z_if_eq hE 21 dX9_swap_13 rfl (fun c14q => ?_) (fun c14q => ?_)
    · replace h := z_t c14q h
      refine z_sub [] [] rfl ?_
      exact b_Top_swap_b21 hE hret g h
    · replace h := z_f c14q h
      refine z_iload_n hE 1 dX9_swap_16 rfl ?_
      refine z_iload_n hE 2 dX9_swap_17 rfl ?_
      refine z_icmp_ne hE 23 dX9_swap_18 rfl (fun c15q => ?_) (fun c15q => ?_)
      · replace h := z_f c15q h
        refine z_aload_n hE 0 dX9_swap_23 rfl ?_
        refine z_get hE f_RX9_56 (by decide) e_39 rfl dX9_swap_24 ?_
        refine z_aload_n hE 0 dX9_swap_27 rfl ?_
        refine z_get hE f_RX9_30 (by decide) e_39 rfl dX9_swap_28 ?_
        obtain ⟨r16q, hr16q, h⟩ := z_bind_some h
        refine z_vV (rest := []) (av := [.ref (z_ad X 0)]) hE (c_Pile_put_61 0 g (by decide) r16q hr16q) l_RX9_174 (by decide) (by decide) e_61 rfl ⟨by decide, by decide⟩ dX9_swap_31 rfl (Nat.le_of_ble_eq_true rfl) ?_
        refine z_aload_n hE 0 dX9_swap_34 rfl ?_
        refine z_get hE f_RX9_30 (by decide) e_39 rfl dX9_swap_35 ?_
        refine z_get hE f_RX9_124 (by decide) e_0 rfl dX9_swap_38 ?_
        refine z_iload_n hE 1 dX9_swap_41 rfl ?_
        obtain ⟨k17q, h⟩ := z_ck_some h
        refine z_iald hE (by decide) e_2 k17q dX9_swap_42 ?_
        obtain ⟨v18q, ev18q, h⟩ := z_let_eq h
        refine z_topi ev18q ?_
        refine z_istore_n hE [(3, .int v18q), (0, .ref (z_ad X 39)), (1, .int x1), (2, .int x2)] dX9_swap_43 rfl (by decide) rfl ?_
        refine z_aload_n hE 1 dX9_swap_44 rfl ?_
        refine z_get hE f_RX9_30 (by decide) e_39 rfl dX9_swap_45 ?_
        refine z_get hE f_RX9_124 (by decide) e_0 rfl dX9_swap_48 ?_
        refine z_iload_n hE 2 dX9_swap_51 rfl ?_
        refine z_aload_n hE 1 dX9_swap_52 rfl ?_
        refine z_get hE f_RX9_30 (by decide) e_39 rfl dX9_swap_53 ?_
        refine z_get hE f_RX9_124 (by decide) e_0 rfl dX9_swap_56 ?_
        refine z_iload_n hE 3 dX9_swap_59 rfl ?_
        obtain ⟨k19q, h⟩ := z_ck_some h
        refine z_iald hE (by decide) e_2 k19q dX9_swap_60 ?_
        obtain ⟨k20q, h⟩ := z_ck_some h
        obtain ⟨g21q, eg21q, h⟩ := z_let_eq h
        refine z_iast hE (by decide) e_2 k20q (ua_2 eg21q) dX9_swap_61 ?_
        refine z_aload_n hE 1 dX9_swap_62 rfl ?_
        refine z_get hE f_RX9_30 (by decide) e_39 rfl dX9_swap_63 ?_
        refine z_get hE f_RX9_124 (by decide) e_0 rfl dX9_swap_66 ?_
        refine z_iload_n hE 3 dX9_swap_69 rfl ?_
        refine z_iload_n hE 0 dX9_swap_70 rfl ?_
        obtain ⟨k22q, h⟩ := z_ck_some h
        obtain ⟨g23q, eg23q, h⟩ := z_let_eq h
        refine z_iast hE (by decide) e_2 k22q (ua_2 eg23q) dX9_swap_71 ?_
        refine z_aload_n hE 1 dX9_swap_72 rfl ?_
        refine z_get hE f_RX9_30 (by decide) e_39 rfl dX9_swap_73 ?_
        refine z_get hE f_RX9_124 (by decide) e_0 rfl dX9_swap_76 ?_
        refine z_iload_n hE 2 dX9_swap_79 rfl ?_
        obtain ⟨k24q, h⟩ := z_ck_some h
        refine z_iald hE (by decide) e_2 k24q dX9_swap_80 ?_
        obtain rfl := Option.some.inj h
        exact hret _ _ dX9_swap_81
      · replace h := z_t c15q h
        refine z_sub [] [] rfl ?_
        exact b_Top_swap_b21 hE hret g h
theorem dX4_takeInto_0 : decode cX4_takeInto 0 = .ok (.aload_n 0, 1) := by decide +kernel
theorem dX4_takeInto_1 : decode cX4_takeInto 1 = .ok (.dup, 1) := by decide +kernel
theorem dX4_takeInto_2 : decode cX4_takeInto 2 = .ok (.getfield 22, 3) := by decide +kernel
theorem dX4_takeInto_5 : decode cX4_takeInto 5 = .ok (.iconst 1, 1) := by decide +kernel
theorem dX4_takeInto_6 : decode cX4_takeInto 6 = .ok (.isub, 1) := by decide +kernel
theorem dX4_takeInto_7 : decode cX4_takeInto 7 = .ok (.putfield 22, 3) := by decide +kernel
theorem dX4_takeInto_10 : decode cX4_takeInto 10 = .ok (.aload_n 1, 1) := by decide +kernel
theorem dX4_takeInto_11 : decode cX4_takeInto 11 = .ok (.aload_n 0, 1) := by decide +kernel
theorem dX4_takeInto_12 : decode cX4_takeInto 12 = .ok (.getfield 15, 3) := by decide +kernel
theorem dX4_takeInto_15 : decode cX4_takeInto 15 = .ok (.aload_n 0, 1) := by decide +kernel
theorem dX4_takeInto_16 : decode cX4_takeInto 16 = .ok (.getfield 22, 3) := by decide +kernel
theorem dX4_takeInto_19 : decode cX4_takeInto 19 = .ok (.aaload, 1) := by decide +kernel
theorem dX4_takeInto_20 : decode cX4_takeInto 20 = .ok (.invokevirtual 29, 3) := by decide +kernel
theorem dX4_takeInto_23 : decode cX4_takeInto 23 = .ok (.return_, 1) := by decide +kernel
def s_Pile_takeInto_61 (c1 : Nat) (g : z_G) : Option (z_G) := (z_let (α := z_G) (z_up g 61 1 ((g 61 1) - 1)) fun g5q => (z_ck (z_inb (g5q 61 1) 8) (z_let (α := Nat) (Int32.toNatClampNeg (z_rd g5q 62 (g5q 61 1))) fun q7q => (z_ck (decide (q7q < 13)) (some (s_Col_copyFrom c1 q7q g5q))))))
set_option maxHeartbeats 1000000 in
set_option maxRecDepth 20000 in
theorem c_Pile_takeInto_61 {X : z_X} {l : Launch} {o : z_G} (c1 : Nat) (g : z_G) (hc1 : c1 < 13) (r : z_G) (h : s_Pile_takeInto_61 c1 g = some r) : z_MV X l 71 yX4_takeInto cX4_takeInto 2 none 2 81 [.ref (z_ad X 61), .ref (z_ad X (3 * c1))] g o r o := by
  unfold s_Pile_takeInto_61 at h
  refine z_metv (by decide) (Nat.le_of_ble_eq_true rfl) (fun E hl hE hret => ?_)
  subst hl
  refine z_aload_n hE 0 dX4_takeInto_0 rfl ?_
  refine z_dup hE dX4_takeInto_1 rfl ?_
  refine z_get hE f_RX4_22 (by decide) e_61 rfl dX4_takeInto_2 ?_
  refine z_iconst (v := 1) hE dX4_takeInto_5 rfl ?_
  refine z_isub hE dX4_takeInto_6 ?_
  obtain ⟨g5q, eg5q, h⟩ := z_let_eq h
  refine z_put hE f_RX4_22 ft_4 (by decide) e_61 rfl (tyX4_ok 1 (by decide)) rfl rfl (Nat.le_of_ble_eq_true rfl) (u_61_1 eg5q) dX4_takeInto_7 ?_
  refine z_aload_n hE 1 dX4_takeInto_10 rfl ?_
  refine z_aload_n hE 0 dX4_takeInto_11 rfl ?_
  refine z_get hE f_RX4_15 (by decide) e_61 rfl dX4_takeInto_12 ?_
  refine z_aload_n hE 0 dX4_takeInto_15 rfl ?_
  refine z_get hE f_RX4_22 (by decide) e_61 rfl dX4_takeInto_16 ?_
  obtain ⟨k6q, h⟩ := z_ck_some h
  obtain ⟨q7q, eq7q, h⟩ := z_let_eq h
  obtain ⟨k8q, h⟩ := z_ck_some h
  have hq7q : q7q < 13 := of_decide_eq_true k8q
  refine z_aald (a := z_ad X (3 * q7q)) hE (by decide) e_62 k6q (by show some (z_ad X (3 * (Int32.toNatClampNeg (z_rd g5q 62 (g5q 61 1)) % 13))) = _; rw [← eq7q, Nat.mod_eq_of_lt hq7q]) dX4_takeInto_19 ?_
  refine z_vV (rest := []) (av := [.ref (z_ad X (3 * q7q))]) hE (c_Col_copyFrom c1 q7q g5q hc1 hq7q) l_RX4_29 (by decide) (by omega) (e_col hc1) rfl ⟨by decide, by decide⟩ dX4_takeInto_20 rfl (Nat.le_of_ble_eq_true rfl) ?_
  obtain rfl := Option.some.inj h
  exact hret _ _ dX4_takeInto_23
theorem dX9_undo_0 : decode cX9_undo 0 = .ok (.aload_n 0, 1) := by decide +kernel
theorem dX9_undo_1 : decode cX9_undo 1 = .ok (.getfield 56, 3) := by decide +kernel
theorem dX9_undo_4 : decode cX9_undo 4 = .ok (.getfield 193, 3) := by decide +kernel
theorem dX9_undo_7 : decode cX9_undo 7 = .ok (.ifCond .ne 6, 3) := by decide +kernel
theorem dX9_undo_10 : decode cX9_undo 10 = .ok (.bipush (-2), 2) := by decide +kernel
theorem dX9_undo_12 : decode cX9_undo 12 = .ok (.ireturn, 1) := by decide +kernel
theorem dX9_undo_13 : decode cX9_undo 13 = .ok (.aload_n 0, 1) := by decide +kernel
theorem dX9_undo_14 : decode cX9_undo 14 = .ok (.getfield 56, 3) := by decide +kernel
theorem dX9_undo_17 : decode cX9_undo 17 = .ok (.aload_n 0, 1) := by decide +kernel
theorem dX9_undo_18 : decode cX9_undo 18 = .ok (.getfield 30, 3) := by decide +kernel
theorem dX9_undo_21 : decode cX9_undo 21 = .ok (.invokevirtual 196, 3) := by decide +kernel
theorem dX9_undo_24 : decode cX9_undo 24 = .ok (.aload_n 0, 1) := by decide +kernel
theorem dX9_undo_25 : decode cX9_undo 25 = .ok (.getfield 56, 3) := by decide +kernel
theorem dX9_undo_28 : decode cX9_undo 28 = .ok (.getfield 193, 3) := by decide +kernel
theorem dX9_undo_31 : decode cX9_undo 31 = .ok (.ireturn, 1) := by decide +kernel
def s_Top_undo (g : z_G) : Option (Int32 × z_G) := (if (g 61 1) = 0 then (some ((-2), g)) else (Option.bind (s_Pile_takeInto_61 0 g) fun r4q => (some ((r4q 61 1), r4q))))
set_option maxHeartbeats 1000000 in
set_option maxRecDepth 20000 in
theorem c_Top_undo {X : z_X} {l : Launch} {o : z_G} (g : z_G) (r : Int32 × z_G) (h : s_Top_undo g = some r) : z_MI X l 71 yX9_undo cX9_undo 1 (some .int) 3 102 [.ref (z_ad X 39)] g o r.2 o r.1 := by
  unfold s_Top_undo at h
  refine z_meti (ty := .int) rfl rfl (by decide) (Nat.le_of_ble_eq_true rfl) (fun E hl hE hret => ?_)
  subst hl
  refine z_aload_n hE 0 dX9_undo_0 rfl ?_
  refine z_get hE f_RX9_56 (by decide) e_39 rfl dX9_undo_1 ?_
  refine z_get hE f_RX9_193 (by decide) e_61 rfl dX9_undo_4 ?_
  refine z_if_ne hE 13 dX9_undo_7 rfl (fun c3q => ?_) (fun c3q => ?_)
  · replace h := z_f c3q h
    refine z_aload_n hE 0 dX9_undo_13 rfl ?_
    refine z_get hE f_RX9_56 (by decide) e_39 rfl dX9_undo_14 ?_
    refine z_aload_n hE 0 dX9_undo_17 rfl ?_
    refine z_get hE f_RX9_30 (by decide) e_39 rfl dX9_undo_18 ?_
    obtain ⟨r4q, hr4q, h⟩ := z_bind_some h
    refine z_vV (rest := []) (av := [.ref (z_ad X 0)]) hE (c_Pile_takeInto_61 0 g (by decide) r4q hr4q) l_RX9_196 (by decide) (by decide) e_61 rfl ⟨by decide, by decide⟩ dX9_undo_21 rfl (Nat.le_of_ble_eq_true rfl) ?_
    refine z_aload_n hE 0 dX9_undo_24 rfl ?_
    refine z_get hE f_RX9_56 (by decide) e_39 rfl dX9_undo_25 ?_
    refine z_get hE f_RX9_193 (by decide) e_61 rfl dX9_undo_28 ?_
    obtain rfl := Option.some.inj h
    exact hret _ _ dX9_undo_31
  · replace h := z_t c3q h
    refine z_bipush (v := (-2)) hE dX9_undo_10 rfl ?_
    obtain rfl := Option.some.inj h
    exact hret _ _ dX9_undo_12
def s_Row_add_51 (x1 : Int32) (x2 : Int32) (g : z_G) : Option (Int32 × z_G) := (if (g 51 2) < 6 then (z_ck (z_inb (g 51 2) 6) (z_let (α := z_G) (z_wr g 52 (g 51 2) x1) fun g9q => (z_ck (z_inb (g9q 51 2) 6) (z_let (α := z_G) (z_wr g9q 53 (g9q 51 2) x2) fun g11q => (z_let (α := z_G) (z_up g11q 51 2 ((g11q 51 2) + 1)) fun g12q => (some (1, g12q))))))) else (some (0, g)))
set_option maxHeartbeats 1000000 in
set_option maxRecDepth 20000 in
theorem c_Row_add_51 {X : z_X} {l : Launch} {o : z_G} (x1 : Int32) (x2 : Int32) (g : z_G) (r : Int32 × z_G) (h : s_Row_add_51 x1 x2 g = some r) : z_MI X l 71 yX6_add cX6_add 3 (some .boolean) 0 0 [.ref (z_ad X 51), .int x1, .int x2] g o r.2 o r.1 := by
  unfold s_Row_add_51 at h
  refine z_metz (by decide) (Nat.le_of_ble_eq_true rfl) (fun E hl hE hret => ?_)
  subst hl
  refine z_aload_n hE 0 dX6_add_0 rfl ?_
  refine z_get hE f_RX6_18 (by decide) e_51 rfl dX6_add_1 ?_
  refine z_bipush (v := 6) hE dX6_add_4 rfl ?_
  refine z_icmp_lt hE 11 dX6_add_6 rfl (fun c7q => ?_) (fun c7q => ?_)
  · replace h := z_t c7q h
    refine z_aload_n hE 0 dX6_add_11 rfl ?_
    refine z_get hE f_RX6_9 (by decide) e_51 rfl dX6_add_12 ?_
    refine z_aload_n hE 0 dX6_add_15 rfl ?_
    refine z_get hE f_RX6_18 (by decide) e_51 rfl dX6_add_16 ?_
    refine z_iload_n hE 1 dX6_add_19 rfl ?_
    obtain ⟨k8q, h⟩ := z_ck_some h
    obtain ⟨g9q, eg9q, h⟩ := z_let_eq h
    refine z_iast hE (by decide) e_52 k8q (ua_52 eg9q) dX6_add_20 ?_
    refine z_aload_n hE 0 dX6_add_21 rfl ?_
    refine z_get hE f_RX6_15 (by decide) e_51 rfl dX6_add_22 ?_
    refine z_aload_n hE 0 dX6_add_25 rfl ?_
    refine z_get hE f_RX6_18 (by decide) e_51 rfl dX6_add_26 ?_
    refine z_iload_n hE 2 dX6_add_29 rfl ?_
    obtain ⟨k10q, h⟩ := z_ck_some h
    obtain ⟨g11q, eg11q, h⟩ := z_let_eq h
    refine z_iast hE (by decide) e_53 k10q (ua_53 eg11q) dX6_add_30 ?_
    refine z_aload_n hE 0 dX6_add_31 rfl ?_
    refine z_dup hE dX6_add_32 rfl ?_
    refine z_get hE f_RX6_18 (by decide) e_51 rfl dX6_add_33 ?_
    refine z_iconst (v := 1) hE dX6_add_36 rfl ?_
    refine z_iadd hE dX6_add_37 ?_
    obtain ⟨g12q, eg12q, h⟩ := z_let_eq h
    refine z_put hE f_RX6_18 ft_6 (by decide) e_51 rfl (tyX6_ok 2 (by decide)) rfl rfl (Nat.le_of_ble_eq_true rfl) (u_51_2 eg12q) dX6_add_38 ?_
    refine z_iconst (v := 1) hE dX6_add_41 rfl ?_
    obtain rfl := Option.some.inj h
    exact hret _ _ z_b1 dX6_add_42
  · replace h := z_f c7q h
    refine z_iconst (v := 0) hE dX6_add_9 rfl ?_
    obtain rfl := Option.some.inj h
    exact hret _ _ z_b0 dX6_add_10
