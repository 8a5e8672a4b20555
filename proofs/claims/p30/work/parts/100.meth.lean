theorem dX9_isWithin_0 : decode cX9_isWithin 0 = .ok (.iload_n 0, 1) := by decide +kernel
theorem dX9_isWithin_1 : decode cX9_isWithin 1 = .ok (.iload_n 1, 1) := by decide +kernel
theorem dX9_isWithin_2 : decode cX9_isWithin 2 = .ok (.if_icmp .lt 12, 3) := by decide +kernel
theorem dX9_isWithin_5 : decode cX9_isWithin 5 = .ok (.iload_n 0, 1) := by decide +kernel
theorem dX9_isWithin_6 : decode cX9_isWithin 6 = .ok (.iload_n 2, 1) := by decide +kernel
theorem dX9_isWithin_7 : decode cX9_isWithin 7 = .ok (.if_icmp .gt 7, 3) := by decide +kernel
theorem dX9_isWithin_10 : decode cX9_isWithin 10 = .ok (.iconst 1, 1) := by decide +kernel
theorem dX9_isWithin_11 : decode cX9_isWithin 11 = .ok (.goto 4, 3) := by decide +kernel
theorem dX9_isWithin_14 : decode cX9_isWithin 14 = .ok (.iconst 0, 1) := by decide +kernel
theorem dX9_isWithin_15 : decode cX9_isWithin 15 = .ok (.ireturn, 1) := by decide +kernel
def s_Top_isWithin_b14 : Int32 := 0
def s_Top_isWithin (x0 : Int32) (x1 : Int32) (x2 : Int32) : Int32 := (if x0 < x1 then (s_Top_isWithin_b14) else (if x2 < x0 then (s_Top_isWithin_b14) else 1))
set_option maxHeartbeats 1000000 in
set_option maxRecDepth 20000 in
theorem b_Top_isWithin_b14 {X : z_X} {E : z_ET} {o : z_G} {g : z_G} (hE : z_EV X E cX9_isWithin 3 RX9 0 0 71) {r : Int32} (hret : ∀ (pc : Nat) (lv : List (Nat × Value)), z_bit r = true → decode cX9_isWithin pc = .ok (.ireturn, 1) → z_V X E 3 g o pc lv [.int r])   (h : s_Top_isWithin_b14 = r) : z_V X E 3 g o 14 [] [] := by
  unfold s_Top_isWithin_b14 at h
  refine z_iconst (v := 0) hE dX9_isWithin_14 rfl ?_
  subst h
  exact hret _ _ z_b0 dX9_isWithin_15
set_option maxHeartbeats 1000000 in
set_option maxRecDepth 20000 in
theorem t_Top_isWithin (x0 : Int32) (x1 : Int32) (x2 : Int32) : z_bit (s_Top_isWithin x0 x1 x2) = true := by
  unfold s_Top_isWithin s_Top_isWithin_b14
  repeat' split
  all_goals (first | rfl | decide | rfl)
set_option maxHeartbeats 1000000 in
set_option maxRecDepth 20000 in
theorem c_Top_isWithin {X : z_X} {l : Launch} {o : z_G} (x0 : Int32) (x1 : Int32) (x2 : Int32) (g : z_G) : z_MI X l 71 yX9_isWithin cX9_isWithin 3 (some .boolean) 0 0 [.int x0, .int x1, .int x2] g o g o (s_Top_isWithin x0 x1 x2) := by
  obtain ⟨r, h⟩ : ∃ r, s_Top_isWithin x0 x1 x2 = r := ⟨_, rfl⟩
  rw [h]
  unfold s_Top_isWithin at h
  refine z_metz (by decide) (Nat.le_of_ble_eq_true rfl) (fun E hl hE hret => ?_)
  subst hl
  refine z_iload_n hE 0 dX9_isWithin_0 rfl ?_
  refine z_iload_n hE 1 dX9_isWithin_1 rfl ?_
  refine z_icmp_lt hE 14 dX9_isWithin_2 rfl (fun c3q => ?_) (fun c3q => ?_)
  · replace h := z_t c3q h
    refine z_sub [] [] rfl ?_
    exact b_Top_isWithin_b14 hE hret h
  · replace h := z_f c3q h
    refine z_iload_n hE 0 dX9_isWithin_5 rfl ?_
    refine z_iload_n hE 2 dX9_isWithin_6 rfl ?_
    refine z_icmp_gt hE 14 dX9_isWithin_7 rfl (fun c4q => ?_) (fun c4q => ?_)
    · replace h := z_t c4q h
      refine z_sub [] [] rfl ?_
      exact b_Top_isWithin_b14 hE hret h
    · replace h := z_f c4q h
      refine z_iconst (v := 1) hE dX9_isWithin_10 rfl ?_
      refine z_goto hE 15 dX9_isWithin_11 rfl ?_
      subst h
      exact hret _ _ z_b1 dX9_isWithin_15
theorem dX9_write_0 : decode cX9_write 0 = .ok (.iload_n 1, 1) := by decide +kernel
theorem dX9_write_1 : decode cX9_write 1 = .ok (.bipush 32, 2) := by decide +kernel
theorem dX9_write_3 : decode cX9_write 3 = .ok (.bipush 126, 2) := by decide +kernel
theorem dX9_write_5 : decode cX9_write 5 = .ok (.invokestatic 92, 3) := by decide +kernel
theorem dX9_write_8 : decode cX9_write 8 = .ok (.ifCond .ne 5, 3) := by decide +kernel
theorem dX9_write_11 : decode cX9_write 11 = .ok (.iconst (-1), 1) := by decide +kernel
theorem dX9_write_12 : decode cX9_write 12 = .ok (.ireturn, 1) := by decide +kernel
theorem dX9_write_13 : decode cX9_write 13 = .ok (.aload_n 0, 1) := by decide +kernel
theorem dX9_write_14 : decode cX9_write 14 = .ok (.getfield 96, 3) := by decide +kernel
theorem dX9_write_17 : decode cX9_write 17 = .ok (.sipush 200, 3) := by decide +kernel
theorem dX9_write_20 : decode cX9_write 20 = .ok (.if_icmp .lt 6, 3) := by decide +kernel
theorem dX9_write_23 : decode cX9_write 23 = .ok (.bipush (-3), 2) := by decide +kernel
theorem dX9_write_25 : decode cX9_write 25 = .ok (.ireturn, 1) := by decide +kernel
theorem dX9_write_26 : decode cX9_write 26 = .ok (.aload_n 0, 1) := by decide +kernel
theorem dX9_write_27 : decode cX9_write 27 = .ok (.getfield 9, 3) := by decide +kernel
theorem dX9_write_30 : decode cX9_write 30 = .ok (.aload_n 0, 1) := by decide +kernel
theorem dX9_write_31 : decode cX9_write 31 = .ok (.getfield 96, 3) := by decide +kernel
theorem dX9_write_34 : decode cX9_write 34 = .ok (.iload_n 1, 1) := by decide +kernel
theorem dX9_write_35 : decode cX9_write 35 = .ok (.i2c, 1) := by decide +kernel
theorem dX9_write_36 : decode cX9_write 36 = .ok (.castore, 1) := by decide +kernel
theorem dX9_write_37 : decode cX9_write 37 = .ok (.aload_n 0, 1) := by decide +kernel
theorem dX9_write_38 : decode cX9_write 38 = .ok (.dup, 1) := by decide +kernel
theorem dX9_write_39 : decode cX9_write 39 = .ok (.getfield 96, 3) := by decide +kernel
theorem dX9_write_42 : decode cX9_write 42 = .ok (.iconst 1, 1) := by decide +kernel
theorem dX9_write_43 : decode cX9_write 43 = .ok (.iadd, 1) := by decide +kernel
theorem dX9_write_44 : decode cX9_write 44 = .ok (.putfield 96, 3) := by decide +kernel
theorem dX9_write_47 : decode cX9_write 47 = .ok (.aload_n 0, 1) := by decide +kernel
theorem dX9_write_48 : decode cX9_write 48 = .ok (.getfield 96, 3) := by decide +kernel
theorem dX9_write_51 : decode cX9_write 51 = .ok (.ireturn, 1) := by decide +kernel
def s_Top_write (x1 : Int32) (g : z_G) : Option (Int32 × z_G) := (if (s_Top_isWithin x1 32 126) = 0 then (some ((-1), g)) else (if (g 39 1) < 200 then (z_ck (z_inb (g 39 1) 200) (z_let (α := z_G) (z_wr g 40 (g 39 1) (vp_nar .char ((Int32.toUInt32 x1 % 65536).toInt32))) fun g9q => (z_let (α := z_G) (z_up g9q 39 1 ((g9q 39 1) + 1)) fun g10q => (some ((g10q 39 1), g10q))))) else (some ((-3), g))))
set_option maxHeartbeats 1000000 in
set_option maxRecDepth 20000 in
theorem c_Top_write {X : z_X} {l : Launch} {o : z_G} (x1 : Int32) (g : z_G) (r : Int32 × z_G) (h : s_Top_write x1 g = some r) : z_MI X l 71 yX9_write cX9_write 2 (some .int) 1 22 [.ref (z_ad X 39), .int x1] g o r.2 o r.1 := by
  unfold s_Top_write at h
  refine z_meti (ty := .int) rfl rfl (by decide) (Nat.le_of_ble_eq_true rfl) (fun E hl hE hret => ?_)
  subst hl
  refine z_iload_n hE 1 dX9_write_0 rfl ?_
  refine z_bipush (v := 32) hE dX9_write_1 rfl ?_
  refine z_bipush (v := 126) hE dX9_write_3 rfl ?_
  refine z_iS (rest := []) (av := [.int x1, .int 32, .int 126]) hE (c_Top_isWithin x1 32 126 g) l_RX9_92 (by decide) ⟨by decide, by decide⟩ dX9_write_5 rfl (Nat.le_of_ble_eq_true rfl) ?_
  refine z_if_ne hE 13 dX9_write_8 rfl (fun c6q => ?_) (fun c6q => ?_)
  · replace h := z_f c6q h
    refine z_aload_n hE 0 dX9_write_13 rfl ?_
    refine z_get hE f_RX9_96 (by decide) e_39 rfl dX9_write_14 ?_
    refine z_sipush (v := 200) hE dX9_write_17 rfl ?_
    refine z_icmp_lt hE 26 dX9_write_20 rfl (fun c7q => ?_) (fun c7q => ?_)
    · replace h := z_t c7q h
      refine z_aload_n hE 0 dX9_write_26 rfl ?_
      refine z_get hE f_RX9_9 (by decide) e_39 rfl dX9_write_27 ?_
      refine z_aload_n hE 0 dX9_write_30 rfl ?_
      refine z_get hE f_RX9_96 (by decide) e_39 rfl dX9_write_31 ?_
      refine z_iload_n hE 1 dX9_write_34 rfl ?_
      refine z_i2c hE dX9_write_35 ?_
      obtain ⟨k8q, h⟩ := z_ck_some h
      obtain ⟨g9q, eg9q, h⟩ := z_let_eq h
      refine z_cast hE (by decide) e_40 k8q (ua_40 eg9q) dX9_write_36 ?_
      refine z_aload_n hE 0 dX9_write_37 rfl ?_
      refine z_dup hE dX9_write_38 rfl ?_
      refine z_get hE f_RX9_96 (by decide) e_39 rfl dX9_write_39 ?_
      refine z_iconst (v := 1) hE dX9_write_42 rfl ?_
      refine z_iadd hE dX9_write_43 ?_
      obtain ⟨g10q, eg10q, h⟩ := z_let_eq h
      refine z_put hE f_RX9_96 ft_9 (by decide) e_39 rfl (tyX9_ok 1 (by decide)) rfl rfl (Nat.le_of_ble_eq_true rfl) (u_39_1 eg10q) dX9_write_44 ?_
      refine z_aload_n hE 0 dX9_write_47 rfl ?_
      refine z_get hE f_RX9_96 (by decide) e_39 rfl dX9_write_48 ?_
      obtain rfl := Option.some.inj h
      exact hret _ _ dX9_write_51
    · replace h := z_f c7q h
      refine z_bipush (v := (-3)) hE dX9_write_23 rfl ?_
      obtain rfl := Option.some.inj h
      exact hret _ _ dX9_write_25
  · replace h := z_t c6q h
    refine z_iconst (v := (-1)) hE dX9_write_11 rfl ?_
    obtain rfl := Option.some.inj h
    exact hret _ _ dX9_write_12
theorem dX9_wipe_0 : decode cX9_wipe 0 = .ok (.aload_n 0, 1) := by decide +kernel
theorem dX9_wipe_1 : decode cX9_wipe 1 = .ok (.getfield 96, 3) := by decide +kernel
theorem dX9_wipe_4 : decode cX9_wipe 4 = .ok (.istore_n 1, 1) := by decide +kernel
theorem dX9_wipe_5 : decode cX9_wipe 5 = .ok (.aload_n 0, 1) := by decide +kernel
theorem dX9_wipe_6 : decode cX9_wipe 6 = .ok (.iconst 0, 1) := by decide +kernel
theorem dX9_wipe_7 : decode cX9_wipe 7 = .ok (.putfield 96, 3) := by decide +kernel
theorem dX9_wipe_10 : decode cX9_wipe 10 = .ok (.iload_n 1, 1) := by decide +kernel
theorem dX9_wipe_11 : decode cX9_wipe 11 = .ok (.ireturn, 1) := by decide +kernel
def s_Top_wipe (g : z_G) : Int32 × z_G := (z_let (α := z_G) (z_up g 39 1 0) fun g2q => ((g 39 1), g2q))
set_option maxHeartbeats 1000000 in
set_option maxRecDepth 20000 in
theorem c_Top_wipe {X : z_X} {l : Launch} {o : z_G} (g : z_G) : z_MI X l 71 yX9_wipe cX9_wipe 2 (some .int) 0 0 [.ref (z_ad X 39)] g o (s_Top_wipe g).2 o (s_Top_wipe g).1 := by
  obtain ⟨r, h⟩ : ∃ r, s_Top_wipe g = r := ⟨_, rfl⟩
  rw [h]
  unfold s_Top_wipe at h
  refine z_meti (ty := .int) rfl rfl (by decide) (Nat.le_of_ble_eq_true rfl) (fun E hl hE hret => ?_)
  subst hl
  refine z_aload_n hE 0 dX9_wipe_0 rfl ?_
  refine z_get hE f_RX9_96 (by decide) e_39 rfl dX9_wipe_1 ?_
  refine z_istore_n hE [(1, .int (g 39 1)), (0, .ref (z_ad X 39))] dX9_wipe_4 rfl (by decide) rfl ?_
  refine z_aload_n hE 1 dX9_wipe_5 rfl ?_
  refine z_iconst (v := 0) hE dX9_wipe_6 rfl ?_
  obtain ⟨g2q, eg2q, h⟩ := z_let_eq h
  refine z_put hE f_RX9_96 ft_9 (by decide) e_39 rfl (tyX9_ok 1 (by decide)) rfl rfl (Nat.le_of_ble_eq_true rfl) (u_39_1 eg2q) dX9_wipe_7 ?_
  refine z_iload_n hE 0 dX9_wipe_10 rfl ?_
  subst h
  exact hret _ _ dX9_wipe_11
theorem dX5_numbersBehind_0 : decode cX5_numbersBehind 0 = .ok (.iload_n 0, 1) := by decide +kernel
theorem dX5_numbersBehind_1 : decode cX5_numbersBehind 1 = .ok (.lookupswitch 50 #[(100, 48), (104, 43), (109, 45), (111, 43)], 43) := by decide +kernel
theorem dX5_numbersBehind_44 : decode cX5_numbersBehind 44 = .ok (.iconst 2, 1) := by decide +kernel
theorem dX5_numbersBehind_45 : decode cX5_numbersBehind 45 = .ok (.ireturn, 1) := by decide +kernel
theorem dX5_numbersBehind_46 : decode cX5_numbersBehind 46 = .ok (.bipush 6, 2) := by decide +kernel
theorem dX5_numbersBehind_48 : decode cX5_numbersBehind 48 = .ok (.ireturn, 1) := by decide +kernel
theorem dX5_numbersBehind_49 : decode cX5_numbersBehind 49 = .ok (.iconst 1, 1) := by decide +kernel
theorem dX5_numbersBehind_50 : decode cX5_numbersBehind 50 = .ok (.ireturn, 1) := by decide +kernel
theorem dX5_numbersBehind_51 : decode cX5_numbersBehind 51 = .ok (.iconst 0, 1) := by decide +kernel
theorem dX5_numbersBehind_52 : decode cX5_numbersBehind 52 = .ok (.ireturn, 1) := by decide +kernel
def s_Read_numbersBehind_b44 : Int32 := 2
def s_Read_numbersBehind (x0 : Int32) : Int32 := (if x0 = 100 then 1 else (if x0 = 104 then (s_Read_numbersBehind_b44) else (if x0 = 109 then 6 else (if x0 = 111 then (s_Read_numbersBehind_b44) else 0))))
set_option maxHeartbeats 1000000 in
set_option maxRecDepth 20000 in
theorem b_Read_numbersBehind_b44 {X : z_X} {E : z_ET} {o : z_G} {g : z_G} (hE : z_EV X E cX5_numbersBehind 1 RX5 0 0 71) {r : Int32} (hret : ∀ (pc : Nat) (lv : List (Nat × Value)), decode cX5_numbersBehind pc = .ok (.ireturn, 1) → z_V X E 1 g o pc lv [.int r])   (h : s_Read_numbersBehind_b44 = r) : z_V X E 1 g o 44 [] [] := by
  unfold s_Read_numbersBehind_b44 at h
  refine z_iconst (v := 2) hE dX5_numbersBehind_44 rfl ?_
  subst h
  exact hret _ _ dX5_numbersBehind_45
set_option maxHeartbeats 1000000 in
set_option maxRecDepth 20000 in
theorem c_Read_numbersBehind {X : z_X} {l : Launch} {o : z_G} (x0 : Int32) (g : z_G) : z_MI X l 71 yX5_numbersBehind cX5_numbersBehind 1 (some .int) 0 0 [.int x0] g o g o (s_Read_numbersBehind x0) := by
  obtain ⟨r, h⟩ : ∃ r, s_Read_numbersBehind x0 = r := ⟨_, rfl⟩
  rw [h]
  unfold s_Read_numbersBehind at h
  refine z_meti (ty := .int) rfl rfl (by decide) (Nat.le_of_ble_eq_true rfl) (fun E hl hE hret => ?_)
  subst hl
  refine z_iload_n hE 0 dX5_numbersBehind_0 rfl ?_
  by_cases c5q : x0 = 100
  · replace h := z_t c5q h
    refine z_look (off := 48) hE 49 dX5_numbersBehind_1 (by decide) (by rw [c5q]; decide) rfl ?_
    refine z_iconst (v := 1) hE dX5_numbersBehind_49 rfl ?_
    subst h
    exact hret _ _ dX5_numbersBehind_50
  replace h := z_f c5q h
  by_cases c6q : x0 = 104
  · replace h := z_t c6q h
    refine z_look (off := 43) hE 44 dX5_numbersBehind_1 (by decide) (by rw [c6q]; decide) rfl ?_
    refine z_sub [] [] rfl ?_
    exact b_Read_numbersBehind_b44 hE hret h
  replace h := z_f c6q h
  by_cases c7q : x0 = 109
  · replace h := z_t c7q h
    refine z_look (off := 45) hE 46 dX5_numbersBehind_1 (by decide) (by rw [c7q]; decide) rfl ?_
    refine z_bipush (v := 6) hE dX5_numbersBehind_46 rfl ?_
    subst h
    exact hret _ _ dX5_numbersBehind_48
  replace h := z_f c7q h
  by_cases c8q : x0 = 111
  · replace h := z_t c8q h
    refine z_look (off := 43) hE 44 dX5_numbersBehind_1 (by decide) (by rw [c8q]; decide) rfl ?_
    refine z_sub [] [] rfl ?_
    exact b_Read_numbersBehind_b44 hE hret h
  replace h := z_f c8q h
  have ic5q : ¬ ((100 : Int) = Int32.toInt x0) := fun e => z_ne c5q e.symm
  have ic6q : ¬ ((104 : Int) = Int32.toInt x0) := fun e => z_ne c6q e.symm
  have ic7q : ¬ ((109 : Int) = Int32.toInt x0) := fun e => z_ne c7q e.symm
  have ic8q : ¬ ((111 : Int) = Int32.toInt x0) := fun e => z_ne c8q e.symm
  refine z_look (off := 50) hE 51 dX5_numbersBehind_1 (by decide) (by simp [Op.lookupswitch.offset, ic5q, ic6q, ic7q, ic8q]) rfl ?_
  refine z_iconst (v := 0) hE dX5_numbersBehind_51 rfl ?_
  subst h
  exact hret _ _ dX5_numbersBehind_52
theorem dX5_takeFar_0 : decode cX5_takeFar 0 = .ok (.aload_n 0, 1) := by decide +kernel
theorem dX5_takeFar_1 : decode cX5_takeFar 1 = .ok (.getfield 32, 3) := by decide +kernel
theorem dX5_takeFar_4 : decode cX5_takeFar 4 = .ok (.iconst 0, 1) := by decide +kernel
theorem dX5_takeFar_5 : decode cX5_takeFar 5 = .ok (.iaload, 1) := by decide +kernel
theorem dX5_takeFar_6 : decode cX5_takeFar 6 = .ok (.iconst 1, 1) := by decide +kernel
theorem dX5_takeFar_7 : decode cX5_takeFar 7 = .ok (.bipush 15, 2) := by decide +kernel
theorem dX5_takeFar_9 : decode cX5_takeFar 9 = .ok (.invokestatic 67, 3) := by decide +kernel
theorem dX5_takeFar_12 : decode cX5_takeFar 12 = .ok (.ifCond .ne 5, 3) := by decide +kernel
theorem dX5_takeFar_15 : decode cX5_takeFar 15 = .ok (.iconst 0, 1) := by decide +kernel
theorem dX5_takeFar_16 : decode cX5_takeFar 16 = .ok (.ireturn, 1) := by decide +kernel
theorem dX5_takeFar_17 : decode cX5_takeFar 17 = .ok (.aload_n 0, 1) := by decide +kernel
theorem dX5_takeFar_18 : decode cX5_takeFar 18 = .ok (.getfield 12, 3) := by decide +kernel
theorem dX5_takeFar_21 : decode cX5_takeFar 21 = .ok (.aload_n 0, 1) := by decide +kernel
theorem dX5_takeFar_22 : decode cX5_takeFar 22 = .ok (.getfield 32, 3) := by decide +kernel
theorem dX5_takeFar_25 : decode cX5_takeFar 25 = .ok (.iconst 0, 1) := by decide +kernel
theorem dX5_takeFar_26 : decode cX5_takeFar 26 = .ok (.iaload, 1) := by decide +kernel
theorem dX5_takeFar_27 : decode cX5_takeFar 27 = .ok (.putfield 43, 3) := by decide +kernel
theorem dX5_takeFar_30 : decode cX5_takeFar 30 = .ok (.iconst 1, 1) := by decide +kernel
theorem dX5_takeFar_31 : decode cX5_takeFar 31 = .ok (.ireturn, 1) := by decide +kernel
def s_Read_takeFar (g : z_G) : Int32 × z_G := (if (s_Top_isWithin (z_rd g 42 0) 1 15) = 0 then (0, g) else (z_let (α := z_G) (z_up g 47 2 (z_rd g 42 0)) fun g4q => (1, g4q)))
set_option maxHeartbeats 1000000 in
set_option maxRecDepth 20000 in
theorem c_Read_takeFar {X : z_X} {l : Launch} {o : z_G} (g : z_G) : z_MI X l 71 yX5_takeFar cX5_takeFar 1 (some .boolean) 1 22 [.ref (z_ad X 41)] g o (s_Read_takeFar g).2 o (s_Read_takeFar g).1 := by
  obtain ⟨r, h⟩ : ∃ r, s_Read_takeFar g = r := ⟨_, rfl⟩
  rw [h]
  unfold s_Read_takeFar at h
  refine z_metz (by decide) (Nat.le_of_ble_eq_true rfl) (fun E hl hE hret => ?_)
  subst hl
  refine z_aload_n hE 0 dX5_takeFar_0 rfl ?_
  refine z_get hE f_RX5_32 (by decide) e_41 rfl dX5_takeFar_1 ?_
  refine z_iconst (v := 0) hE dX5_takeFar_4 rfl ?_
  refine z_iald hE (by decide) e_42 (by decide) dX5_takeFar_5 ?_
  refine z_iconst (v := 1) hE dX5_takeFar_6 rfl ?_
  refine z_bipush (v := 15) hE dX5_takeFar_7 rfl ?_
  refine z_iS (rest := []) (av := [.int (z_rd g 42 0), .int 1, .int 15]) hE (c_Top_isWithin (z_rd g 42 0) 1 15 g) l_RX5_67 (by decide) ⟨by decide, by decide⟩ dX5_takeFar_9 rfl (Nat.le_of_ble_eq_true rfl) ?_
  refine z_if_ne hE 17 dX5_takeFar_12 rfl (fun c3q => ?_) (fun c3q => ?_)
  · replace h := z_f c3q h
    refine z_aload_n hE 0 dX5_takeFar_17 rfl ?_
    refine z_get hE f_RX5_12 (by decide) e_41 rfl dX5_takeFar_18 ?_
    refine z_aload_n hE 0 dX5_takeFar_21 rfl ?_
    refine z_get hE f_RX5_32 (by decide) e_41 rfl dX5_takeFar_22 ?_
    refine z_iconst (v := 0) hE dX5_takeFar_25 rfl ?_
    refine z_iald hE (by decide) e_42 (by decide) dX5_takeFar_26 ?_
    obtain ⟨g4q, eg4q, h⟩ := z_let_eq h
    refine z_put hE f_RX5_43 ft_3 (by decide) e_47 rfl (tyX3_ok 2 (by decide)) rfl rfl (Nat.le_of_ble_eq_true rfl) (u_47_2 eg4q) dX5_takeFar_27 ?_
    refine z_iconst (v := 1) hE dX5_takeFar_30 rfl ?_
    subst h
    exact hret _ _ z_b1 dX5_takeFar_31
  · replace h := z_t c3q h
    refine z_iconst (v := 0) hE dX5_takeFar_15 rfl ?_
    subst h
    exact hret _ _ z_b0 dX5_takeFar_16
theorem dX9_isCell_0 : decode cX9_isCell 0 = .ok (.iload_n 0, 1) := by decide +kernel
theorem dX9_isCell_1 : decode cX9_isCell 1 = .ok (.iconst 0, 1) := by decide +kernel
theorem dX9_isCell_2 : decode cX9_isCell 2 = .ok (.bipush 15, 2) := by decide +kernel
theorem dX9_isCell_4 : decode cX9_isCell 4 = .ok (.invokestatic 92, 3) := by decide +kernel
theorem dX9_isCell_7 : decode cX9_isCell 7 = .ok (.ifCond .eq 17, 3) := by decide +kernel
theorem dX9_isCell_10 : decode cX9_isCell 10 = .ok (.iload_n 1, 1) := by decide +kernel
theorem dX9_isCell_11 : decode cX9_isCell 11 = .ok (.iconst 0, 1) := by decide +kernel
theorem dX9_isCell_12 : decode cX9_isCell 12 = .ok (.bipush 15, 2) := by decide +kernel
theorem dX9_isCell_14 : decode cX9_isCell 14 = .ok (.invokestatic 92, 3) := by decide +kernel
theorem dX9_isCell_17 : decode cX9_isCell 17 = .ok (.ifCond .eq 7, 3) := by decide +kernel
theorem dX9_isCell_20 : decode cX9_isCell 20 = .ok (.iconst 1, 1) := by decide +kernel
theorem dX9_isCell_21 : decode cX9_isCell 21 = .ok (.goto 4, 3) := by decide +kernel
theorem dX9_isCell_24 : decode cX9_isCell 24 = .ok (.iconst 0, 1) := by decide +kernel
theorem dX9_isCell_25 : decode cX9_isCell 25 = .ok (.ireturn, 1) := by decide +kernel
def s_Top_isCell_b24 : Int32 := 0
def s_Top_isCell (x0 : Int32) (x1 : Int32) : Int32 := (if (s_Top_isWithin x0 0 15) = 0 then (s_Top_isCell_b24) else (if (s_Top_isWithin x1 0 15) = 0 then (s_Top_isCell_b24) else 1))
set_option maxHeartbeats 1000000 in
set_option maxRecDepth 20000 in
theorem b_Top_isCell_b24 {X : z_X} {E : z_ET} {o : z_G} {g : z_G} (hE : z_EV X E cX9_isCell 2 RX9 1 22 71) {r : Int32} (hret : ∀ (pc : Nat) (lv : List (Nat × Value)), z_bit r = true → decode cX9_isCell pc = .ok (.ireturn, 1) → z_V X E 2 g o pc lv [.int r])   (h : s_Top_isCell_b24 = r) : z_V X E 2 g o 24 [] [] := by
  unfold s_Top_isCell_b24 at h
  refine z_iconst (v := 0) hE dX9_isCell_24 rfl ?_
  subst h
  exact hret _ _ z_b0 dX9_isCell_25
set_option maxHeartbeats 1000000 in
set_option maxRecDepth 20000 in
theorem t_Top_isCell (x0 : Int32) (x1 : Int32) : z_bit (s_Top_isCell x0 x1) = true := by
  unfold s_Top_isCell s_Top_isCell_b24
  repeat' split
  all_goals (first | rfl | decide | rfl)
set_option maxHeartbeats 1000000 in
set_option maxRecDepth 20000 in
theorem c_Top_isCell {X : z_X} {l : Launch} {o : z_G} (x0 : Int32) (x1 : Int32) (g : z_G) : z_MI X l 71 yX9_isCell cX9_isCell 2 (some .boolean) 1 22 [.int x0, .int x1] g o g o (s_Top_isCell x0 x1) := by
  obtain ⟨r, h⟩ : ∃ r, s_Top_isCell x0 x1 = r := ⟨_, rfl⟩
  rw [h]
  unfold s_Top_isCell at h
  refine z_metz (by decide) (Nat.le_of_ble_eq_true rfl) (fun E hl hE hret => ?_)
  subst hl
  refine z_iload_n hE 0 dX9_isCell_0 rfl ?_
  refine z_iconst (v := 0) hE dX9_isCell_1 rfl ?_
  refine z_bipush (v := 15) hE dX9_isCell_2 rfl ?_
  refine z_iS (rest := []) (av := [.int x0, .int 0, .int 15]) hE (c_Top_isWithin x0 0 15 g) l_RX9_92 (by decide) ⟨by decide, by decide⟩ dX9_isCell_4 rfl (Nat.le_of_ble_eq_true rfl) ?_
  refine z_if_eq hE 24 dX9_isCell_7 rfl (fun c3q => ?_) (fun c3q => ?_)
  · replace h := z_t c3q h
    refine z_sub [] [] rfl ?_
    exact b_Top_isCell_b24 hE hret h
  · replace h := z_f c3q h
    refine z_iload_n hE 1 dX9_isCell_10 rfl ?_
    refine z_iconst (v := 0) hE dX9_isCell_11 rfl ?_
    refine z_bipush (v := 15) hE dX9_isCell_12 rfl ?_
    refine z_iS (rest := []) (av := [.int x1, .int 0, .int 15]) hE (c_Top_isWithin x1 0 15 g) l_RX9_92 (by decide) ⟨by decide, by decide⟩ dX9_isCell_14 rfl (Nat.le_of_ble_eq_true rfl) ?_
    refine z_if_eq hE 24 dX9_isCell_17 rfl (fun c4q => ?_) (fun c4q => ?_)
    · replace h := z_t c4q h
      refine z_sub [] [] rfl ?_
      exact b_Top_isCell_b24 hE hret h
    · replace h := z_f c4q h
      refine z_iconst (v := 1) hE dX9_isCell_20 rfl ?_
      refine z_goto hE 25 dX9_isCell_21 rfl ?_
      subst h
      exact hret _ _ z_b1 dX9_isCell_25
theorem dX8_cellAt_0 : decode cX8_cellAt 0 = .ok (.bipush 16, 2) := by decide +kernel
theorem dX8_cellAt_2 : decode cX8_cellAt 2 = .ok (.iload_n 1, 1) := by decide +kernel
theorem dX8_cellAt_3 : decode cX8_cellAt 3 = .ok (.imul, 1) := by decide +kernel
theorem dX8_cellAt_4 : decode cX8_cellAt 4 = .ok (.iload_n 0, 1) := by decide +kernel
theorem dX8_cellAt_5 : decode cX8_cellAt 5 = .ok (.iadd, 1) := by decide +kernel
theorem dX8_cellAt_6 : decode cX8_cellAt 6 = .ok (.ireturn, 1) := by decide +kernel
def s_Ways_cellAt (x0 : Int32) (x1 : Int32) : Int32 := ((16 * x1) + x0)
set_option maxHeartbeats 1000000 in
set_option maxRecDepth 20000 in
theorem c_Ways_cellAt {X : z_X} {l : Launch} {o : z_G} (x0 : Int32) (x1 : Int32) (g : z_G) : z_MI X l 71 yX8_cellAt cX8_cellAt 2 (some .int) 0 0 [.int x0, .int x1] g o g o (s_Ways_cellAt x0 x1) := by
  obtain ⟨r, h⟩ : ∃ r, s_Ways_cellAt x0 x1 = r := ⟨_, rfl⟩
  rw [h]
  unfold s_Ways_cellAt at h
  refine z_meti (ty := .int) rfl rfl (by decide) (Nat.le_of_ble_eq_true rfl) (fun E hl hE hret => ?_)
  subst hl
  refine z_bipush (v := 16) hE dX8_cellAt_0 rfl ?_
  refine z_iload_n hE 1 dX8_cellAt_2 rfl ?_
  refine z_imul hE dX8_cellAt_3 ?_
  refine z_iload_n hE 0 dX8_cellAt_4 rfl ?_
  refine z_iadd hE dX8_cellAt_5 ?_
  subst h
  exact hret _ _ dX8_cellAt_6
theorem dX5_takeHome_0 : decode cX5_takeHome 0 = .ok (.aload_n 0, 1) := by decide +kernel
theorem dX5_takeHome_1 : decode cX5_takeHome 1 = .ok (.getfield 12, 3) := by decide +kernel
theorem dX5_takeHome_4 : decode cX5_takeHome 4 = .ok (.getfield 36, 3) := by decide +kernel
theorem dX5_takeHome_7 : decode cX5_takeHome 7 = .ok (.iconst 4, 1) := by decide +kernel
theorem dX5_takeHome_8 : decode cX5_takeHome 8 = .ok (.if_icmp .ge 21, 3) := by decide +kernel
theorem dX5_takeHome_11 : decode cX5_takeHome 11 = .ok (.aload_n 0, 1) := by decide +kernel
theorem dX5_takeHome_12 : decode cX5_takeHome 12 = .ok (.getfield 32, 3) := by decide +kernel
theorem dX5_takeHome_15 : decode cX5_takeHome 15 = .ok (.iconst 0, 1) := by decide +kernel
theorem dX5_takeHome_16 : decode cX5_takeHome 16 = .ok (.iaload, 1) := by decide +kernel
theorem dX5_takeHome_17 : decode cX5_takeHome 17 = .ok (.aload_n 0, 1) := by decide +kernel
theorem dX5_takeHome_18 : decode cX5_takeHome 18 = .ok (.getfield 32, 3) := by decide +kernel
theorem dX5_takeHome_21 : decode cX5_takeHome 21 = .ok (.iconst 1, 1) := by decide +kernel
theorem dX5_takeHome_22 : decode cX5_takeHome 22 = .ok (.iaload, 1) := by decide +kernel
theorem dX5_takeHome_23 : decode cX5_takeHome 23 = .ok (.invokestatic 88, 3) := by decide +kernel
theorem dX5_takeHome_26 : decode cX5_takeHome 26 = .ok (.ifCond .ne 5, 3) := by decide +kernel
theorem dX5_takeHome_29 : decode cX5_takeHome 29 = .ok (.iconst 0, 1) := by decide +kernel
theorem dX5_takeHome_30 : decode cX5_takeHome 30 = .ok (.ireturn, 1) := by decide +kernel
theorem dX5_takeHome_31 : decode cX5_takeHome 31 = .ok (.aload_n 0, 1) := by decide +kernel
theorem dX5_takeHome_32 : decode cX5_takeHome 32 = .ok (.getfield 12, 3) := by decide +kernel
theorem dX5_takeHome_35 : decode cX5_takeHome 35 = .ok (.getfield 91, 3) := by decide +kernel
theorem dX5_takeHome_38 : decode cX5_takeHome 38 = .ok (.aload_n 0, 1) := by decide +kernel
theorem dX5_takeHome_39 : decode cX5_takeHome 39 = .ok (.getfield 12, 3) := by decide +kernel
theorem dX5_takeHome_42 : decode cX5_takeHome 42 = .ok (.getfield 36, 3) := by decide +kernel
theorem dX5_takeHome_45 : decode cX5_takeHome 45 = .ok (.aload_n 0, 1) := by decide +kernel
theorem dX5_takeHome_46 : decode cX5_takeHome 46 = .ok (.getfield 32, 3) := by decide +kernel
theorem dX5_takeHome_49 : decode cX5_takeHome 49 = .ok (.iconst 0, 1) := by decide +kernel
theorem dX5_takeHome_50 : decode cX5_takeHome 50 = .ok (.iaload, 1) := by decide +kernel
theorem dX5_takeHome_51 : decode cX5_takeHome 51 = .ok (.aload_n 0, 1) := by decide +kernel
theorem dX5_takeHome_52 : decode cX5_takeHome 52 = .ok (.getfield 32, 3) := by decide +kernel
theorem dX5_takeHome_55 : decode cX5_takeHome 55 = .ok (.iconst 1, 1) := by decide +kernel
theorem dX5_takeHome_56 : decode cX5_takeHome 56 = .ok (.iaload, 1) := by decide +kernel
theorem dX5_takeHome_57 : decode cX5_takeHome 57 = .ok (.invokestatic 94, 3) := by decide +kernel
theorem dX5_takeHome_60 : decode cX5_takeHome 60 = .ok (.iastore, 1) := by decide +kernel
theorem dX5_takeHome_61 : decode cX5_takeHome 61 = .ok (.aload_n 0, 1) := by decide +kernel
theorem dX5_takeHome_62 : decode cX5_takeHome 62 = .ok (.getfield 12, 3) := by decide +kernel
theorem dX5_takeHome_65 : decode cX5_takeHome 65 = .ok (.dup, 1) := by decide +kernel
theorem dX5_takeHome_66 : decode cX5_takeHome 66 = .ok (.getfield 36, 3) := by decide +kernel
theorem dX5_takeHome_69 : decode cX5_takeHome 69 = .ok (.iconst 1, 1) := by decide +kernel
theorem dX5_takeHome_70 : decode cX5_takeHome 70 = .ok (.iadd, 1) := by decide +kernel
theorem dX5_takeHome_71 : decode cX5_takeHome 71 = .ok (.putfield 36, 3) := by decide +kernel
theorem dX5_takeHome_74 : decode cX5_takeHome 74 = .ok (.iconst 1, 1) := by decide +kernel
theorem dX5_takeHome_75 : decode cX5_takeHome 75 = .ok (.ireturn, 1) := by decide +kernel
def s_Read_takeHome_b29  (g : z_G) : Option (Int32 × z_G) := (some (0, g))
def s_Read_takeHome (g : z_G) : Option (Int32 × z_G) := (if 4 ≤ (g 47 0) then (s_Read_takeHome_b29 g) else (if (s_Top_isCell (z_rd g 42 0) (z_rd g 42 1)) = 0 then (s_Read_takeHome_b29 g) else (z_ck (z_inb (g 47 0) 4) (z_let (α := z_G) (z_wr g 48 (g 47 0) (s_Ways_cellAt (z_rd g 42 0) (z_rd g 42 1))) fun g9q => (z_let (α := z_G) (z_up g9q 47 0 ((g9q 47 0) + 1)) fun g10q => (some (1, g10q)))))))
set_option maxHeartbeats 1000000 in
set_option maxRecDepth 20000 in
theorem b_Read_takeHome_b29 {X : z_X} {E : z_ET} {o : z_G} (hE : z_EV X E cX5_takeHome 1 RX5 2 43 71) {r : Int32 × z_G} (hret : ∀ (pc : Nat) (lv : List (Nat × Value)), z_bit r.1 = true → decode cX5_takeHome pc = .ok (.ireturn, 1) → z_V X E 1 r.2 o pc lv [.int r.1])  (g : z_G)  (h : s_Read_takeHome_b29 g = some r) : z_V X E 1 g o 29 [] [] := by
  unfold s_Read_takeHome_b29 at h
  refine z_iconst (v := 0) hE dX5_takeHome_29 rfl ?_
  obtain rfl := Option.some.inj h
  exact hret _ _ z_b0 dX5_takeHome_30
set_option maxHeartbeats 1000000 in
set_option maxRecDepth 20000 in
theorem c_Read_takeHome {X : z_X} {l : Launch} {o : z_G} (g : z_G) (r : Int32 × z_G) (h : s_Read_takeHome g = some r) : z_MI X l 71 yX5_takeHome cX5_takeHome 1 (some .boolean) 2 43 [.ref (z_ad X 41)] g o r.2 o r.1 := by
  unfold s_Read_takeHome at h
  refine z_metz (by decide) (Nat.le_of_ble_eq_true rfl) (fun E hl hE hret => ?_)
  subst hl
  refine z_aload_n hE 0 dX5_takeHome_0 rfl ?_
  refine z_get hE f_RX5_12 (by decide) e_41 rfl dX5_takeHome_1 ?_
  refine z_get hE f_RX5_36 (by decide) e_47 rfl dX5_takeHome_4 ?_
  refine z_iconst (v := 4) hE dX5_takeHome_7 rfl ?_
  refine z_icmp_ge hE 29 dX5_takeHome_8 rfl (fun c6q => ?_) (fun c6q => ?_)
  · replace h := z_t c6q h
    refine z_sub [] [] rfl ?_
    exact b_Read_takeHome_b29 hE hret g h
  · replace h := z_f c6q h
    refine z_aload_n hE 0 dX5_takeHome_11 rfl ?_
    refine z_get hE f_RX5_32 (by decide) e_41 rfl dX5_takeHome_12 ?_
    refine z_iconst (v := 0) hE dX5_takeHome_15 rfl ?_
    refine z_iald hE (by decide) e_42 (by decide) dX5_takeHome_16 ?_
    refine z_aload_n hE 0 dX5_takeHome_17 rfl ?_
    refine z_get hE f_RX5_32 (by decide) e_41 rfl dX5_takeHome_18 ?_
    refine z_iconst (v := 1) hE dX5_takeHome_21 rfl ?_
    refine z_iald hE (by decide) e_42 (by decide) dX5_takeHome_22 ?_
    refine z_iS (rest := []) (av := [.int (z_rd g 42 0), .int (z_rd g 42 1)]) hE (c_Top_isCell (z_rd g 42 0) (z_rd g 42 1) g) l_RX5_88 (by decide) ⟨by decide, by decide⟩ dX5_takeHome_23 rfl (Nat.le_of_ble_eq_true rfl) ?_
    refine z_if_ne hE 31 dX5_takeHome_26 rfl (fun c7q => ?_) (fun c7q => ?_)
    · replace h := z_f c7q h
      refine z_aload_n hE 0 dX5_takeHome_31 rfl ?_
      refine z_get hE f_RX5_12 (by decide) e_41 rfl dX5_takeHome_32 ?_
      refine z_get hE f_RX5_91 (by decide) e_47 rfl dX5_takeHome_35 ?_
      refine z_aload_n hE 0 dX5_takeHome_38 rfl ?_
      refine z_get hE f_RX5_12 (by decide) e_41 rfl dX5_takeHome_39 ?_
      refine z_get hE f_RX5_36 (by decide) e_47 rfl dX5_takeHome_42 ?_
      refine z_aload_n hE 0 dX5_takeHome_45 rfl ?_
      refine z_get hE f_RX5_32 (by decide) e_41 rfl dX5_takeHome_46 ?_
      refine z_iconst (v := 0) hE dX5_takeHome_49 rfl ?_
      refine z_iald hE (by decide) e_42 (by decide) dX5_takeHome_50 ?_
      refine z_aload_n hE 0 dX5_takeHome_51 rfl ?_
      refine z_get hE f_RX5_32 (by decide) e_41 rfl dX5_takeHome_52 ?_
      refine z_iconst (v := 1) hE dX5_takeHome_55 rfl ?_
      refine z_iald hE (by decide) e_42 (by decide) dX5_takeHome_56 ?_
      refine z_iS (rest := [.int (g 47 0), .ref (z_ad X 48)]) (av := [.int (z_rd g 42 0), .int (z_rd g 42 1)]) hE (c_Ways_cellAt (z_rd g 42 0) (z_rd g 42 1) g) l_RX5_94 (by decide) ⟨by decide, by decide⟩ dX5_takeHome_57 rfl (Nat.le_of_ble_eq_true rfl) ?_
      obtain ⟨k8q, h⟩ := z_ck_some h
      obtain ⟨g9q, eg9q, h⟩ := z_let_eq h
      refine z_iast hE (by decide) e_48 k8q (ua_48 eg9q) dX5_takeHome_60 ?_
      refine z_aload_n hE 0 dX5_takeHome_61 rfl ?_
      refine z_get hE f_RX5_12 (by decide) e_41 rfl dX5_takeHome_62 ?_
      refine z_dup hE dX5_takeHome_65 rfl ?_
      refine z_get hE f_RX5_36 (by decide) e_47 rfl dX5_takeHome_66 ?_
      refine z_iconst (v := 1) hE dX5_takeHome_69 rfl ?_
      refine z_iadd hE dX5_takeHome_70 ?_
      obtain ⟨g10q, eg10q, h⟩ := z_let_eq h
      refine z_put hE f_RX5_36 ft_3 (by decide) e_47 rfl (tyX3_ok 0 (by decide)) rfl rfl (Nat.le_of_ble_eq_true rfl) (u_47_0 eg10q) dX5_takeHome_71 ?_
      refine z_iconst (v := 1) hE dX5_takeHome_74 rfl ?_
      obtain rfl := Option.some.inj h
      exact hret _ _ z_b1 dX5_takeHome_75
    · replace h := z_t c7q h
      refine z_sub [] [] rfl ?_
      exact b_Read_takeHome_b29 hE hret g h
theorem dX8_spotAt_0 : decode cX8_spotAt 0 = .ok (.bipush 8, 2) := by decide +kernel
theorem dX8_spotAt_2 : decode cX8_spotAt 2 = .ok (.iload_n 0, 1) := by decide +kernel
theorem dX8_spotAt_3 : decode cX8_spotAt 3 = .ok (.iload_n 1, 1) := by decide +kernel
theorem dX8_spotAt_4 : decode cX8_spotAt 4 = .ok (.invokestatic 9, 3) := by decide +kernel
theorem dX8_spotAt_7 : decode cX8_spotAt 7 = .ok (.imul, 1) := by decide +kernel
theorem dX8_spotAt_8 : decode cX8_spotAt 8 = .ok (.iload_n 2, 1) := by decide +kernel
theorem dX8_spotAt_9 : decode cX8_spotAt 9 = .ok (.iadd, 1) := by decide +kernel
theorem dX8_spotAt_10 : decode cX8_spotAt 10 = .ok (.ireturn, 1) := by decide +kernel
def s_Ways_spotAt (x0 : Int32) (x1 : Int32) (x2 : Int32) : Int32 := ((8 * (s_Ways_cellAt x0 x1)) + x2)
set_option maxHeartbeats 1000000 in
set_option maxRecDepth 20000 in
theorem c_Ways_spotAt {X : z_X} {l : Launch} {o : z_G} (x0 : Int32) (x1 : Int32) (x2 : Int32) (g : z_G) : z_MI X l 71 yX8_spotAt cX8_spotAt 3 (some .int) 1 21 [.int x0, .int x1, .int x2] g o g o (s_Ways_spotAt x0 x1 x2) := by
  obtain ⟨r, h⟩ : ∃ r, s_Ways_spotAt x0 x1 x2 = r := ⟨_, rfl⟩
  rw [h]
  unfold s_Ways_spotAt at h
  refine z_meti (ty := .int) rfl rfl (by decide) (Nat.le_of_ble_eq_true rfl) (fun E hl hE hret => ?_)
  subst hl
  refine z_bipush (v := 8) hE dX8_spotAt_0 rfl ?_
  refine z_iload_n hE 0 dX8_spotAt_2 rfl ?_
  refine z_iload_n hE 1 dX8_spotAt_3 rfl ?_
  refine z_iS (rest := [.int 8]) (av := [.int x0, .int x1]) hE (c_Ways_cellAt x0 x1 g) l_RX8_9 (by decide) ⟨by decide, by decide⟩ dX8_spotAt_4 rfl (Nat.le_of_ble_eq_true rfl) ?_
  refine z_imul hE dX8_spotAt_7 ?_
  refine z_iload_n hE 2 dX8_spotAt_8 rfl ?_
  refine z_iadd hE dX8_spotAt_9 ?_
  subst h
  exact hret _ _ dX8_spotAt_10
theorem dX5_takeMan_0 : decode cX5_takeMan 0 = .ok (.aload_n 0, 1) := by decide +kernel
theorem dX5_takeMan_1 : decode cX5_takeMan 1 = .ok (.getfield 12, 3) := by decide +kernel
theorem dX5_takeMan_4 : decode cX5_takeMan 4 = .ok (.getfield 40, 3) := by decide +kernel
theorem dX5_takeMan_7 : decode cX5_takeMan 7 = .ok (.bipush 6, 2) := by decide +kernel
theorem dX5_takeMan_9 : decode cX5_takeMan 9 = .ok (.if_icmp .ge 36, 3) := by decide +kernel
theorem dX5_takeMan_12 : decode cX5_takeMan 12 = .ok (.aload_n 0, 1) := by decide +kernel
theorem dX5_takeMan_13 : decode cX5_takeMan 13 = .ok (.getfield 32, 3) := by decide +kernel
theorem dX5_takeMan_16 : decode cX5_takeMan 16 = .ok (.iconst 0, 1) := by decide +kernel
theorem dX5_takeMan_17 : decode cX5_takeMan 17 = .ok (.iaload, 1) := by decide +kernel
theorem dX5_takeMan_18 : decode cX5_takeMan 18 = .ok (.aload_n 0, 1) := by decide +kernel
theorem dX5_takeMan_19 : decode cX5_takeMan 19 = .ok (.getfield 32, 3) := by decide +kernel
theorem dX5_takeMan_22 : decode cX5_takeMan 22 = .ok (.iconst 1, 1) := by decide +kernel
theorem dX5_takeMan_23 : decode cX5_takeMan 23 = .ok (.iaload, 1) := by decide +kernel
theorem dX5_takeMan_24 : decode cX5_takeMan 24 = .ok (.invokestatic 88, 3) := by decide +kernel
theorem dX5_takeMan_27 : decode cX5_takeMan 27 = .ok (.ifCond .eq 18, 3) := by decide +kernel
theorem dX5_takeMan_30 : decode cX5_takeMan 30 = .ok (.aload_n 0, 1) := by decide +kernel
theorem dX5_takeMan_31 : decode cX5_takeMan 31 = .ok (.getfield 32, 3) := by decide +kernel
theorem dX5_takeMan_34 : decode cX5_takeMan 34 = .ok (.iconst 2, 1) := by decide +kernel
theorem dX5_takeMan_35 : decode cX5_takeMan 35 = .ok (.iaload, 1) := by decide +kernel
theorem dX5_takeMan_36 : decode cX5_takeMan 36 = .ok (.iconst 0, 1) := by decide +kernel
theorem dX5_takeMan_37 : decode cX5_takeMan 37 = .ok (.bipush 7, 2) := by decide +kernel
theorem dX5_takeMan_39 : decode cX5_takeMan 39 = .ok (.invokestatic 67, 3) := by decide +kernel
theorem dX5_takeMan_42 : decode cX5_takeMan 42 = .ok (.ifCond .ne 5, 3) := by decide +kernel
theorem dX5_takeMan_45 : decode cX5_takeMan 45 = .ok (.iconst 0, 1) := by decide +kernel
theorem dX5_takeMan_46 : decode cX5_takeMan 46 = .ok (.ireturn, 1) := by decide +kernel
theorem dX5_takeMan_47 : decode cX5_takeMan 47 = .ok (.aload_n 0, 1) := by decide +kernel
theorem dX5_takeMan_48 : decode cX5_takeMan 48 = .ok (.getfield 32, 3) := by decide +kernel
theorem dX5_takeMan_51 : decode cX5_takeMan 51 = .ok (.iconst 3, 1) := by decide +kernel
theorem dX5_takeMan_52 : decode cX5_takeMan 52 = .ok (.iaload, 1) := by decide +kernel
theorem dX5_takeMan_53 : decode cX5_takeMan 53 = .ok (.aload_n 0, 1) := by decide +kernel
theorem dX5_takeMan_54 : decode cX5_takeMan 54 = .ok (.getfield 12, 3) := by decide +kernel
theorem dX5_takeMan_57 : decode cX5_takeMan 57 = .ok (.getfield 36, 3) := by decide +kernel
theorem dX5_takeMan_60 : decode cX5_takeMan 60 = .ok (.if_icmp .ge 29, 3) := by decide +kernel
theorem dX5_takeMan_63 : decode cX5_takeMan 63 = .ok (.aload_n 0, 1) := by decide +kernel
theorem dX5_takeMan_64 : decode cX5_takeMan 64 = .ok (.getfield 32, 3) := by decide +kernel
theorem dX5_takeMan_67 : decode cX5_takeMan 67 = .ok (.iconst 4, 1) := by decide +kernel
theorem dX5_takeMan_68 : decode cX5_takeMan 68 = .ok (.iaload, 1) := by decide +kernel
theorem dX5_takeMan_69 : decode cX5_takeMan 69 = .ok (.aload_n 0, 1) := by decide +kernel
theorem dX5_takeMan_70 : decode cX5_takeMan 70 = .ok (.getfield 12, 3) := by decide +kernel
theorem dX5_takeMan_73 : decode cX5_takeMan 73 = .ok (.getfield 36, 3) := by decide +kernel
theorem dX5_takeMan_76 : decode cX5_takeMan 76 = .ok (.if_icmp .ge 13, 3) := by decide +kernel
theorem dX5_takeMan_79 : decode cX5_takeMan 79 = .ok (.aload_n 0, 1) := by decide +kernel
theorem dX5_takeMan_80 : decode cX5_takeMan 80 = .ok (.getfield 32, 3) := by decide +kernel
theorem dX5_takeMan_83 : decode cX5_takeMan 83 = .ok (.iconst 5, 1) := by decide +kernel
theorem dX5_takeMan_84 : decode cX5_takeMan 84 = .ok (.iaload, 1) := by decide +kernel
theorem dX5_takeMan_85 : decode cX5_takeMan 85 = .ok (.iconst 4, 1) := by decide +kernel
theorem dX5_takeMan_86 : decode cX5_takeMan 86 = .ok (.if_icmp .le 5, 3) := by decide +kernel
theorem dX5_takeMan_89 : decode cX5_takeMan 89 = .ok (.iconst 0, 1) := by decide +kernel
theorem dX5_takeMan_90 : decode cX5_takeMan 90 = .ok (.ireturn, 1) := by decide +kernel
theorem dX5_takeMan_91 : decode cX5_takeMan 91 = .ok (.aload_n 0, 1) := by decide +kernel
theorem dX5_takeMan_92 : decode cX5_takeMan 92 = .ok (.getfield 21, 3) := by decide +kernel
theorem dX5_takeMan_95 : decode cX5_takeMan 95 = .ok (.getfield 100, 3) := by decide +kernel
theorem dX5_takeMan_98 : decode cX5_takeMan 98 = .ok (.aload_n 0, 1) := by decide +kernel
theorem dX5_takeMan_99 : decode cX5_takeMan 99 = .ok (.getfield 12, 3) := by decide +kernel
theorem dX5_takeMan_102 : decode cX5_takeMan 102 = .ok (.getfield 40, 3) := by decide +kernel
theorem dX5_takeMan_105 : decode cX5_takeMan 105 = .ok (.aload_n 0, 1) := by decide +kernel
theorem dX5_takeMan_106 : decode cX5_takeMan 106 = .ok (.getfield 32, 3) := by decide +kernel
theorem dX5_takeMan_109 : decode cX5_takeMan 109 = .ok (.iconst 0, 1) := by decide +kernel
theorem dX5_takeMan_110 : decode cX5_takeMan 110 = .ok (.iaload, 1) := by decide +kernel
theorem dX5_takeMan_111 : decode cX5_takeMan 111 = .ok (.aload_n 0, 1) := by decide +kernel
theorem dX5_takeMan_112 : decode cX5_takeMan 112 = .ok (.getfield 32, 3) := by decide +kernel
theorem dX5_takeMan_115 : decode cX5_takeMan 115 = .ok (.iconst 1, 1) := by decide +kernel
theorem dX5_takeMan_116 : decode cX5_takeMan 116 = .ok (.iaload, 1) := by decide +kernel
theorem dX5_takeMan_117 : decode cX5_takeMan 117 = .ok (.aload_n 0, 1) := by decide +kernel
theorem dX5_takeMan_118 : decode cX5_takeMan 118 = .ok (.getfield 32, 3) := by decide +kernel
theorem dX5_takeMan_121 : decode cX5_takeMan 121 = .ok (.iconst 2, 1) := by decide +kernel
theorem dX5_takeMan_122 : decode cX5_takeMan 122 = .ok (.iaload, 1) := by decide +kernel
theorem dX5_takeMan_123 : decode cX5_takeMan 123 = .ok (.invokestatic 103, 3) := by decide +kernel
theorem dX5_takeMan_126 : decode cX5_takeMan 126 = .ok (.iastore, 1) := by decide +kernel
theorem dX5_takeMan_127 : decode cX5_takeMan 127 = .ok (.aload_n 0, 1) := by decide +kernel
theorem dX5_takeMan_128 : decode cX5_takeMan 128 = .ok (.getfield 12, 3) := by decide +kernel
theorem dX5_takeMan_131 : decode cX5_takeMan 131 = .ok (.getfield 107, 3) := by decide +kernel
theorem dX5_takeMan_134 : decode cX5_takeMan 134 = .ok (.aload_n 0, 1) := by decide +kernel
theorem dX5_takeMan_135 : decode cX5_takeMan 135 = .ok (.getfield 12, 3) := by decide +kernel
theorem dX5_takeMan_138 : decode cX5_takeMan 138 = .ok (.getfield 40, 3) := by decide +kernel
theorem dX5_takeMan_141 : decode cX5_takeMan 141 = .ok (.aload_n 0, 1) := by decide +kernel
theorem dX5_takeMan_142 : decode cX5_takeMan 142 = .ok (.getfield 32, 3) := by decide +kernel
theorem dX5_takeMan_145 : decode cX5_takeMan 145 = .ok (.iconst 3, 1) := by decide +kernel
theorem dX5_takeMan_146 : decode cX5_takeMan 146 = .ok (.iaload, 1) := by decide +kernel
theorem dX5_takeMan_147 : decode cX5_takeMan 147 = .ok (.iastore, 1) := by decide +kernel
theorem dX5_takeMan_148 : decode cX5_takeMan 148 = .ok (.aload_n 0, 1) := by decide +kernel
theorem dX5_takeMan_149 : decode cX5_takeMan 149 = .ok (.getfield 21, 3) := by decide +kernel
theorem dX5_takeMan_152 : decode cX5_takeMan 152 = .ok (.getfield 110, 3) := by decide +kernel
theorem dX5_takeMan_155 : decode cX5_takeMan 155 = .ok (.aload_n 0, 1) := by decide +kernel
theorem dX5_takeMan_156 : decode cX5_takeMan 156 = .ok (.getfield 12, 3) := by decide +kernel
theorem dX5_takeMan_159 : decode cX5_takeMan 159 = .ok (.getfield 40, 3) := by decide +kernel
theorem dX5_takeMan_162 : decode cX5_takeMan 162 = .ok (.aload_n 0, 1) := by decide +kernel
theorem dX5_takeMan_163 : decode cX5_takeMan 163 = .ok (.getfield 32, 3) := by decide +kernel
theorem dX5_takeMan_166 : decode cX5_takeMan 166 = .ok (.iconst 4, 1) := by decide +kernel
theorem dX5_takeMan_167 : decode cX5_takeMan 167 = .ok (.iaload, 1) := by decide +kernel
theorem dX5_takeMan_168 : decode cX5_takeMan 168 = .ok (.iastore, 1) := by decide +kernel
theorem dX5_takeMan_169 : decode cX5_takeMan 169 = .ok (.aload_n 0, 1) := by decide +kernel
theorem dX5_takeMan_170 : decode cX5_takeMan 170 = .ok (.getfield 12, 3) := by decide +kernel
theorem dX5_takeMan_173 : decode cX5_takeMan 173 = .ok (.getfield 113, 3) := by decide +kernel
theorem dX5_takeMan_176 : decode cX5_takeMan 176 = .ok (.aload_n 0, 1) := by decide +kernel
theorem dX5_takeMan_177 : decode cX5_takeMan 177 = .ok (.getfield 12, 3) := by decide +kernel
theorem dX5_takeMan_180 : decode cX5_takeMan 180 = .ok (.getfield 40, 3) := by decide +kernel
theorem dX5_takeMan_183 : decode cX5_takeMan 183 = .ok (.aload_n 0, 1) := by decide +kernel
theorem dX5_takeMan_184 : decode cX5_takeMan 184 = .ok (.getfield 32, 3) := by decide +kernel
theorem dX5_takeMan_187 : decode cX5_takeMan 187 = .ok (.iconst 5, 1) := by decide +kernel
theorem dX5_takeMan_188 : decode cX5_takeMan 188 = .ok (.iaload, 1) := by decide +kernel
theorem dX5_takeMan_189 : decode cX5_takeMan 189 = .ok (.iastore, 1) := by decide +kernel
theorem dX5_takeMan_190 : decode cX5_takeMan 190 = .ok (.aload_n 0, 1) := by decide +kernel
theorem dX5_takeMan_191 : decode cX5_takeMan 191 = .ok (.getfield 12, 3) := by decide +kernel
theorem dX5_takeMan_194 : decode cX5_takeMan 194 = .ok (.dup, 1) := by decide +kernel
theorem dX5_takeMan_195 : decode cX5_takeMan 195 = .ok (.getfield 40, 3) := by decide +kernel
theorem dX5_takeMan_198 : decode cX5_takeMan 198 = .ok (.iconst 1, 1) := by decide +kernel
theorem dX5_takeMan_199 : decode cX5_takeMan 199 = .ok (.iadd, 1) := by decide +kernel
theorem dX5_takeMan_200 : decode cX5_takeMan 200 = .ok (.putfield 40, 3) := by decide +kernel
theorem dX5_takeMan_203 : decode cX5_takeMan 203 = .ok (.iconst 1, 1) := by decide +kernel
theorem dX5_takeMan_204 : decode cX5_takeMan 204 = .ok (.ireturn, 1) := by decide +kernel
def s_Read_takeMan_b45  (g : z_G) : Option (Int32 × z_G) := (some (0, g))
def s_Read_takeMan_b89  (g : z_G) : Option (Int32 × z_G) := (some (0, g))
def s_Read_takeMan (g : z_G) : Option (Int32 × z_G) := (if 6 ≤ (g 47 1) then (s_Read_takeMan_b45 g) else (if (s_Top_isCell (z_rd g 42 0) (z_rd g 42 1)) = 0 then (s_Read_takeMan_b45 g) else (if (s_Top_isWithin (z_rd g 42 2) 0 7) = 0 then (s_Read_takeMan_b45 g) else (if (g 47 0) ≤ (z_rd g 42 3) then (s_Read_takeMan_b89 g) else (if (g 47 0) ≤ (z_rd g 42 4) then (s_Read_takeMan_b89 g) else (if (z_rd g 42 5) ≤ 4 then (z_ck (z_inb (g 47 1) 6) (z_let (α := z_G) (z_wr g 7 (g 47 1) (s_Ways_spotAt (z_rd g 42 0) (z_rd g 42 1) (z_rd g 42 2))) fun g23q => (z_ck (z_inb (g23q 47 1) 6) (z_let (α := z_G) (z_wr g23q 49 (g23q 47 1) (z_rd g23q 42 3)) fun g25q => (z_ck (z_inb (g25q 47 1) 6) (z_let (α := z_G) (z_wr g25q 8 (g25q 47 1) (z_rd g25q 42 4)) fun g27q => (z_ck (z_inb (g27q 47 1) 6) (z_let (α := z_G) (z_wr g27q 50 (g27q 47 1) (z_rd g27q 42 5)) fun g29q => (z_let (α := z_G) (z_up g29q 47 1 ((g29q 47 1) + 1)) fun g30q => (some (1, g30q))))))))))) else (s_Read_takeMan_b89 g)))))))
set_option maxHeartbeats 1000000 in
set_option maxRecDepth 20000 in
theorem b_Read_takeMan_b45 {X : z_X} {E : z_ET} {o : z_G} (hE : z_EV X E cX5_takeMan 1 RX5 2 43 71) {r : Int32 × z_G} (hret : ∀ (pc : Nat) (lv : List (Nat × Value)), z_bit r.1 = true → decode cX5_takeMan pc = .ok (.ireturn, 1) → z_V X E 1 r.2 o pc lv [.int r.1])  (g : z_G)  (h : s_Read_takeMan_b45 g = some r) : z_V X E 1 g o 45 [] [] := by
  unfold s_Read_takeMan_b45 at h
  refine z_iconst (v := 0) hE dX5_takeMan_45 rfl ?_
  obtain rfl := Option.some.inj h
  exact hret _ _ z_b0 dX5_takeMan_46
set_option maxHeartbeats 1000000 in
set_option maxRecDepth 20000 in
theorem b_Read_takeMan_b89 {X : z_X} {E : z_ET} {o : z_G} (hE : z_EV X E cX5_takeMan 1 RX5 2 43 71) {r : Int32 × z_G} (hret : ∀ (pc : Nat) (lv : List (Nat × Value)), z_bit r.1 = true → decode cX5_takeMan pc = .ok (.ireturn, 1) → z_V X E 1 r.2 o pc lv [.int r.1])  (g : z_G)  (h : s_Read_takeMan_b89 g = some r) : z_V X E 1 g o 89 [] [] := by
  unfold s_Read_takeMan_b89 at h
  refine z_iconst (v := 0) hE dX5_takeMan_89 rfl ?_
  obtain rfl := Option.some.inj h
  exact hret _ _ z_b0 dX5_takeMan_90
set_option maxHeartbeats 1000000 in
set_option maxRecDepth 20000 in
theorem c_Read_takeMan {X : z_X} {l : Launch} {o : z_G} (g : z_G) (r : Int32 × z_G) (h : s_Read_takeMan g = some r) : z_MI X l 71 yX5_takeMan cX5_takeMan 1 (some .boolean) 2 43 [.ref (z_ad X 41)] g o r.2 o r.1 := by
  unfold s_Read_takeMan at h
  refine z_metz (by decide) (Nat.le_of_ble_eq_true rfl) (fun E hl hE hret => ?_)
  subst hl
  refine z_aload_n hE 0 dX5_takeMan_0 rfl ?_
  refine z_get hE f_RX5_12 (by decide) e_41 rfl dX5_takeMan_1 ?_
  refine z_get hE f_RX5_40 (by decide) e_47 rfl dX5_takeMan_4 ?_
  refine z_bipush (v := 6) hE dX5_takeMan_7 rfl ?_
  refine z_icmp_ge hE 45 dX5_takeMan_9 rfl (fun c16q => ?_) (fun c16q => ?_)
  · replace h := z_t c16q h
    refine z_sub [] [] rfl ?_
    exact b_Read_takeMan_b45 hE hret g h
  · replace h := z_f c16q h
    refine z_aload_n hE 0 dX5_takeMan_12 rfl ?_
    refine z_get hE f_RX5_32 (by decide) e_41 rfl dX5_takeMan_13 ?_
    refine z_iconst (v := 0) hE dX5_takeMan_16 rfl ?_
    refine z_iald hE (by decide) e_42 (by decide) dX5_takeMan_17 ?_
    refine z_aload_n hE 0 dX5_takeMan_18 rfl ?_
    refine z_get hE f_RX5_32 (by decide) e_41 rfl dX5_takeMan_19 ?_
    refine z_iconst (v := 1) hE dX5_takeMan_22 rfl ?_
    refine z_iald hE (by decide) e_42 (by decide) dX5_takeMan_23 ?_
    refine z_iS (rest := []) (av := [.int (z_rd g 42 0), .int (z_rd g 42 1)]) hE (c_Top_isCell (z_rd g 42 0) (z_rd g 42 1) g) l_RX5_88 (by decide) ⟨by decide, by decide⟩ dX5_takeMan_24 rfl (Nat.le_of_ble_eq_true rfl) ?_
    refine z_if_eq hE 45 dX5_takeMan_27 rfl (fun c17q => ?_) (fun c17q => ?_)
    · replace h := z_t c17q h
      refine z_sub [] [] rfl ?_
      exact b_Read_takeMan_b45 hE hret g h
    · replace h := z_f c17q h
      refine z_aload_n hE 0 dX5_takeMan_30 rfl ?_
      refine z_get hE f_RX5_32 (by decide) e_41 rfl dX5_takeMan_31 ?_
      refine z_iconst (v := 2) hE dX5_takeMan_34 rfl ?_
      refine z_iald hE (by decide) e_42 (by decide) dX5_takeMan_35 ?_
      refine z_iconst (v := 0) hE dX5_takeMan_36 rfl ?_
      refine z_bipush (v := 7) hE dX5_takeMan_37 rfl ?_
      refine z_iS (rest := []) (av := [.int (z_rd g 42 2), .int 0, .int 7]) hE (c_Top_isWithin (z_rd g 42 2) 0 7 g) l_RX5_67 (by decide) ⟨by decide, by decide⟩ dX5_takeMan_39 rfl (Nat.le_of_ble_eq_true rfl) ?_
      refine z_if_ne hE 47 dX5_takeMan_42 rfl (fun c18q => ?_) (fun c18q => ?_)
      · replace h := z_f c18q h
        refine z_aload_n hE 0 dX5_takeMan_47 rfl ?_
        refine z_get hE f_RX5_32 (by decide) e_41 rfl dX5_takeMan_48 ?_
        refine z_iconst (v := 3) hE dX5_takeMan_51 rfl ?_
        refine z_iald hE (by decide) e_42 (by decide) dX5_takeMan_52 ?_
        refine z_aload_n hE 0 dX5_takeMan_53 rfl ?_
        refine z_get hE f_RX5_12 (by decide) e_41 rfl dX5_takeMan_54 ?_
        refine z_get hE f_RX5_36 (by decide) e_47 rfl dX5_takeMan_57 ?_
        refine z_icmp_ge hE 89 dX5_takeMan_60 rfl (fun c19q => ?_) (fun c19q => ?_)
        · replace h := z_t c19q h
          refine z_sub [] [] rfl ?_
          exact b_Read_takeMan_b89 hE hret g h
        · replace h := z_f c19q h
          refine z_aload_n hE 0 dX5_takeMan_63 rfl ?_
          refine z_get hE f_RX5_32 (by decide) e_41 rfl dX5_takeMan_64 ?_
          refine z_iconst (v := 4) hE dX5_takeMan_67 rfl ?_
          refine z_iald hE (by decide) e_42 (by decide) dX5_takeMan_68 ?_
          refine z_aload_n hE 0 dX5_takeMan_69 rfl ?_
          refine z_get hE f_RX5_12 (by decide) e_41 rfl dX5_takeMan_70 ?_
          refine z_get hE f_RX5_36 (by decide) e_47 rfl dX5_takeMan_73 ?_
          refine z_icmp_ge hE 89 dX5_takeMan_76 rfl (fun c20q => ?_) (fun c20q => ?_)
          · replace h := z_t c20q h
            refine z_sub [] [] rfl ?_
            exact b_Read_takeMan_b89 hE hret g h
          · replace h := z_f c20q h
            refine z_aload_n hE 0 dX5_takeMan_79 rfl ?_
            refine z_get hE f_RX5_32 (by decide) e_41 rfl dX5_takeMan_80 ?_
            refine z_iconst (v := 5) hE dX5_takeMan_83 rfl ?_
            refine z_iald hE (by decide) e_42 (by decide) dX5_takeMan_84 ?_
            refine z_iconst (v := 4) hE dX5_takeMan_85 rfl ?_
            refine z_icmp_le hE 91 dX5_takeMan_86 rfl (fun c21q => ?_) (fun c21q => ?_)
            · replace h := z_t c21q h
              refine z_aload_n hE 0 dX5_takeMan_91 rfl ?_
              refine z_get hE f_RX5_21 (by decide) e_41 rfl dX5_takeMan_92 ?_
              refine z_get hE f_RX5_100 (by decide) e_6 rfl dX5_takeMan_95 ?_
              refine z_aload_n hE 0 dX5_takeMan_98 rfl ?_
              refine z_get hE f_RX5_12 (by decide) e_41 rfl dX5_takeMan_99 ?_
              refine z_get hE f_RX5_40 (by decide) e_47 rfl dX5_takeMan_102 ?_
              refine z_aload_n hE 0 dX5_takeMan_105 rfl ?_
              refine z_get hE f_RX5_32 (by decide) e_41 rfl dX5_takeMan_106 ?_
              refine z_iconst (v := 0) hE dX5_takeMan_109 rfl ?_
              refine z_iald hE (by decide) e_42 (by decide) dX5_takeMan_110 ?_
              refine z_aload_n hE 0 dX5_takeMan_111 rfl ?_
              refine z_get hE f_RX5_32 (by decide) e_41 rfl dX5_takeMan_112 ?_
              refine z_iconst (v := 1) hE dX5_takeMan_115 rfl ?_
              refine z_iald hE (by decide) e_42 (by decide) dX5_takeMan_116 ?_
              refine z_aload_n hE 0 dX5_takeMan_117 rfl ?_
              refine z_get hE f_RX5_32 (by decide) e_41 rfl dX5_takeMan_118 ?_
              refine z_iconst (v := 2) hE dX5_takeMan_121 rfl ?_
              refine z_iald hE (by decide) e_42 (by decide) dX5_takeMan_122 ?_
              refine z_iS (rest := [.int (g 47 1), .ref (z_ad X 7)]) (av := [.int (z_rd g 42 0), .int (z_rd g 42 1), .int (z_rd g 42 2)]) hE (c_Ways_spotAt (z_rd g 42 0) (z_rd g 42 1) (z_rd g 42 2) g) l_RX5_103 (by decide) ⟨by decide, by decide⟩ dX5_takeMan_123 rfl (Nat.le_of_ble_eq_true rfl) ?_
              obtain ⟨k22q, h⟩ := z_ck_some h
              obtain ⟨g23q, eg23q, h⟩ := z_let_eq h
              refine z_iast hE (by decide) e_7 k22q (ua_7 eg23q) dX5_takeMan_126 ?_
              refine z_aload_n hE 0 dX5_takeMan_127 rfl ?_
              refine z_get hE f_RX5_12 (by decide) e_41 rfl dX5_takeMan_128 ?_
              refine z_get hE f_RX5_107 (by decide) e_47 rfl dX5_takeMan_131 ?_
              refine z_aload_n hE 0 dX5_takeMan_134 rfl ?_
              refine z_get hE f_RX5_12 (by decide) e_41 rfl dX5_takeMan_135 ?_
              refine z_get hE f_RX5_40 (by decide) e_47 rfl dX5_takeMan_138 ?_
              refine z_aload_n hE 0 dX5_takeMan_141 rfl ?_
              refine z_get hE f_RX5_32 (by decide) e_41 rfl dX5_takeMan_142 ?_
              refine z_iconst (v := 3) hE dX5_takeMan_145 rfl ?_
              refine z_iald hE (by decide) e_42 (by decide) dX5_takeMan_146 ?_
              obtain ⟨k24q, h⟩ := z_ck_some h
              obtain ⟨g25q, eg25q, h⟩ := z_let_eq h
              refine z_iast hE (by decide) e_49 k24q (ua_49 eg25q) dX5_takeMan_147 ?_
              refine z_aload_n hE 0 dX5_takeMan_148 rfl ?_
              refine z_get hE f_RX5_21 (by decide) e_41 rfl dX5_takeMan_149 ?_
              refine z_get hE f_RX5_110 (by decide) e_6 rfl dX5_takeMan_152 ?_
              refine z_aload_n hE 0 dX5_takeMan_155 rfl ?_
              refine z_get hE f_RX5_12 (by decide) e_41 rfl dX5_takeMan_156 ?_
              refine z_get hE f_RX5_40 (by decide) e_47 rfl dX5_takeMan_159 ?_
              refine z_aload_n hE 0 dX5_takeMan_162 rfl ?_
              refine z_get hE f_RX5_32 (by decide) e_41 rfl dX5_takeMan_163 ?_
              refine z_iconst (v := 4) hE dX5_takeMan_166 rfl ?_
              refine z_iald hE (by decide) e_42 (by decide) dX5_takeMan_167 ?_
              obtain ⟨k26q, h⟩ := z_ck_some h
              obtain ⟨g27q, eg27q, h⟩ := z_let_eq h
              refine z_iast hE (by decide) e_8 k26q (ua_8 eg27q) dX5_takeMan_168 ?_
              refine z_aload_n hE 0 dX5_takeMan_169 rfl ?_
              refine z_get hE f_RX5_12 (by decide) e_41 rfl dX5_takeMan_170 ?_
              refine z_get hE f_RX5_113 (by decide) e_47 rfl dX5_takeMan_173 ?_
              refine z_aload_n hE 0 dX5_takeMan_176 rfl ?_
              refine z_get hE f_RX5_12 (by decide) e_41 rfl dX5_takeMan_177 ?_
              refine z_get hE f_RX5_40 (by decide) e_47 rfl dX5_takeMan_180 ?_
              refine z_aload_n hE 0 dX5_takeMan_183 rfl ?_
              refine z_get hE f_RX5_32 (by decide) e_41 rfl dX5_takeMan_184 ?_
              refine z_iconst (v := 5) hE dX5_takeMan_187 rfl ?_
              refine z_iald hE (by decide) e_42 (by decide) dX5_takeMan_188 ?_
              obtain ⟨k28q, h⟩ := z_ck_some h
              obtain ⟨g29q, eg29q, h⟩ := z_let_eq h
              refine z_iast hE (by decide) e_50 k28q (ua_50 eg29q) dX5_takeMan_189 ?_
              refine z_aload_n hE 0 dX5_takeMan_190 rfl ?_
              refine z_get hE f_RX5_12 (by decide) e_41 rfl dX5_takeMan_191 ?_
              refine z_dup hE dX5_takeMan_194 rfl ?_
              refine z_get hE f_RX5_40 (by decide) e_47 rfl dX5_takeMan_195 ?_
              refine z_iconst (v := 1) hE dX5_takeMan_198 rfl ?_
              refine z_iadd hE dX5_takeMan_199 ?_
              obtain ⟨g30q, eg30q, h⟩ := z_let_eq h
              refine z_put hE f_RX5_40 ft_3 (by decide) e_47 rfl (tyX3_ok 1 (by decide)) rfl rfl (Nat.le_of_ble_eq_true rfl) (u_47_1 eg30q) dX5_takeMan_200 ?_
              refine z_iconst (v := 1) hE dX5_takeMan_203 rfl ?_
              obtain rfl := Option.some.inj h
              exact hret _ _ z_b1 dX5_takeMan_204
            · replace h := z_f c21q h
              refine z_sub [] [] rfl ?_
              exact b_Read_takeMan_b89 hE hret g h
      · replace h := z_t c18q h
        refine z_sub [] [] rfl ?_
        exact b_Read_takeMan_b45 hE hret g h
theorem dX9_isOrder_0 : decode cX9_isOrder 0 = .ok (.iload_n 0, 1) := by decide +kernel
theorem dX9_isOrder_1 : decode cX9_isOrder 1 = .ok (.iconst 0, 1) := by decide +kernel
theorem dX9_isOrder_2 : decode cX9_isOrder 2 = .ok (.bipush 7, 2) := by decide +kernel
theorem dX9_isOrder_4 : decode cX9_isOrder 4 = .ok (.invokestatic 92, 3) := by decide +kernel
theorem dX9_isOrder_7 : decode cX9_isOrder 7 = .ok (.ifCond .eq 17, 3) := by decide +kernel
theorem dX9_isOrder_10 : decode cX9_isOrder 10 = .ok (.iload_n 1, 1) := by decide +kernel
theorem dX9_isOrder_11 : decode cX9_isOrder 11 = .ok (.iconst 0, 1) := by decide +kernel
theorem dX9_isOrder_12 : decode cX9_isOrder 12 = .ok (.bipush 9, 2) := by decide +kernel
theorem dX9_isOrder_14 : decode cX9_isOrder 14 = .ok (.invokestatic 92, 3) := by decide +kernel
theorem dX9_isOrder_17 : decode cX9_isOrder 17 = .ok (.ifCond .eq 7, 3) := by decide +kernel
theorem dX9_isOrder_20 : decode cX9_isOrder 20 = .ok (.iconst 1, 1) := by decide +kernel
theorem dX9_isOrder_21 : decode cX9_isOrder 21 = .ok (.goto 4, 3) := by decide +kernel
theorem dX9_isOrder_24 : decode cX9_isOrder 24 = .ok (.iconst 0, 1) := by decide +kernel
theorem dX9_isOrder_25 : decode cX9_isOrder 25 = .ok (.ireturn, 1) := by decide +kernel
def s_Top_isOrder_b24 : Int32 := 0
def s_Top_isOrder (x0 : Int32) (x1 : Int32) : Int32 := (if (s_Top_isWithin x0 0 7) = 0 then (s_Top_isOrder_b24) else (if (s_Top_isWithin x1 0 9) = 0 then (s_Top_isOrder_b24) else 1))
set_option maxHeartbeats 1000000 in
set_option maxRecDepth 20000 in
theorem b_Top_isOrder_b24 {X : z_X} {E : z_ET} {o : z_G} {g : z_G} (hE : z_EV X E cX9_isOrder 2 RX9 1 22 71) {r : Int32} (hret : ∀ (pc : Nat) (lv : List (Nat × Value)), z_bit r = true → decode cX9_isOrder pc = .ok (.ireturn, 1) → z_V X E 2 g o pc lv [.int r])   (h : s_Top_isOrder_b24 = r) : z_V X E 2 g o 24 [] [] := by
  unfold s_Top_isOrder_b24 at h
  refine z_iconst (v := 0) hE dX9_isOrder_24 rfl ?_
  subst h
  exact hret _ _ z_b0 dX9_isOrder_25
set_option maxHeartbeats 1000000 in
set_option maxRecDepth 20000 in
theorem t_Top_isOrder (x0 : Int32) (x1 : Int32) : z_bit (s_Top_isOrder x0 x1) = true := by
  unfold s_Top_isOrder s_Top_isOrder_b24
  repeat' split
  all_goals (first | rfl | decide | rfl)
set_option maxHeartbeats 1000000 in
set_option maxRecDepth 20000 in
theorem c_Top_isOrder {X : z_X} {l : Launch} {o : z_G} (x0 : Int32) (x1 : Int32) (g : z_G) : z_MI X l 71 yX9_isOrder cX9_isOrder 2 (some .boolean) 1 22 [.int x0, .int x1] g o g o (s_Top_isOrder x0 x1) := by
  obtain ⟨r, h⟩ : ∃ r, s_Top_isOrder x0 x1 = r := ⟨_, rfl⟩
  rw [h]
  unfold s_Top_isOrder at h
  refine z_metz (by decide) (Nat.le_of_ble_eq_true rfl) (fun E hl hE hret => ?_)
  subst hl
  refine z_iload_n hE 0 dX9_isOrder_0 rfl ?_
  refine z_iconst (v := 0) hE dX9_isOrder_1 rfl ?_
  refine z_bipush (v := 7) hE dX9_isOrder_2 rfl ?_
  refine z_iS (rest := []) (av := [.int x0, .int 0, .int 7]) hE (c_Top_isWithin x0 0 7 g) l_RX9_92 (by decide) ⟨by decide, by decide⟩ dX9_isOrder_4 rfl (Nat.le_of_ble_eq_true rfl) ?_
  refine z_if_eq hE 24 dX9_isOrder_7 rfl (fun c3q => ?_) (fun c3q => ?_)
  · replace h := z_t c3q h
    refine z_sub [] [] rfl ?_
    exact b_Top_isOrder_b24 hE hret h
  · replace h := z_f c3q h
    refine z_iload_n hE 1 dX9_isOrder_10 rfl ?_
    refine z_iconst (v := 0) hE dX9_isOrder_11 rfl ?_
    refine z_bipush (v := 9) hE dX9_isOrder_12 rfl ?_
    refine z_iS (rest := []) (av := [.int x1, .int 0, .int 9]) hE (c_Top_isWithin x1 0 9 g) l_RX9_92 (by decide) ⟨by decide, by decide⟩ dX9_isOrder_14 rfl (Nat.le_of_ble_eq_true rfl) ?_
    refine z_if_eq hE 24 dX9_isOrder_17 rfl (fun c4q => ?_) (fun c4q => ?_)
    · replace h := z_t c4q h
      refine z_sub [] [] rfl ?_
      exact b_Top_isOrder_b24 hE hret h
    · replace h := z_f c4q h
      refine z_iconst (v := 1) hE dX9_isOrder_20 rfl ?_
      refine z_goto hE 25 dX9_isOrder_21 rfl ?_
      subst h
      exact hret _ _ z_b1 dX9_isOrder_25
theorem dX6_add_0 : decode cX6_add 0 = .ok (.aload_n 0, 1) := by decide +kernel
theorem dX6_add_1 : decode cX6_add 1 = .ok (.getfield 18, 3) := by decide +kernel
theorem dX6_add_4 : decode cX6_add 4 = .ok (.bipush 6, 2) := by decide +kernel
theorem dX6_add_6 : decode cX6_add 6 = .ok (.if_icmp .lt 5, 3) := by decide +kernel
theorem dX6_add_9 : decode cX6_add 9 = .ok (.iconst 0, 1) := by decide +kernel
theorem dX6_add_10 : decode cX6_add 10 = .ok (.ireturn, 1) := by decide +kernel
theorem dX6_add_11 : decode cX6_add 11 = .ok (.aload_n 0, 1) := by decide +kernel
theorem dX6_add_12 : decode cX6_add 12 = .ok (.getfield 9, 3) := by decide +kernel
theorem dX6_add_15 : decode cX6_add 15 = .ok (.aload_n 0, 1) := by decide +kernel
theorem dX6_add_16 : decode cX6_add 16 = .ok (.getfield 18, 3) := by decide +kernel
theorem dX6_add_19 : decode cX6_add 19 = .ok (.iload_n 1, 1) := by decide +kernel
theorem dX6_add_20 : decode cX6_add 20 = .ok (.iastore, 1) := by decide +kernel
theorem dX6_add_21 : decode cX6_add 21 = .ok (.aload_n 0, 1) := by decide +kernel
theorem dX6_add_22 : decode cX6_add 22 = .ok (.getfield 15, 3) := by decide +kernel
theorem dX6_add_25 : decode cX6_add 25 = .ok (.aload_n 0, 1) := by decide +kernel
theorem dX6_add_26 : decode cX6_add 26 = .ok (.getfield 18, 3) := by decide +kernel
theorem dX6_add_29 : decode cX6_add 29 = .ok (.iload_n 2, 1) := by decide +kernel
theorem dX6_add_30 : decode cX6_add 30 = .ok (.iastore, 1) := by decide +kernel
theorem dX6_add_31 : decode cX6_add 31 = .ok (.aload_n 0, 1) := by decide +kernel
theorem dX6_add_32 : decode cX6_add 32 = .ok (.dup, 1) := by decide +kernel
theorem dX6_add_33 : decode cX6_add 33 = .ok (.getfield 18, 3) := by decide +kernel
theorem dX6_add_36 : decode cX6_add 36 = .ok (.iconst 1, 1) := by decide +kernel
theorem dX6_add_37 : decode cX6_add 37 = .ok (.iadd, 1) := by decide +kernel
theorem dX6_add_38 : decode cX6_add 38 = .ok (.putfield 18, 3) := by decide +kernel
theorem dX6_add_41 : decode cX6_add 41 = .ok (.iconst 1, 1) := by decide +kernel
theorem dX6_add_42 : decode cX6_add 42 = .ok (.ireturn, 1) := by decide +kernel
def s_Row_add_54 (x1 : Int32) (x2 : Int32) (g : z_G) : Option (Int32 × z_G) := (if (g 54 2) < 6 then (z_ck (z_inb (g 54 2) 6) (z_let (α := z_G) (z_wr g 55 (g 54 2) x1) fun g9q => (z_ck (z_inb (g9q 54 2) 6) (z_let (α := z_G) (z_wr g9q 56 (g9q 54 2) x2) fun g11q => (z_let (α := z_G) (z_up g11q 54 2 ((g11q 54 2) + 1)) fun g12q => (some (1, g12q))))))) else (some (0, g)))
set_option maxHeartbeats 1000000 in
set_option maxRecDepth 20000 in
theorem c_Row_add_54 {X : z_X} {l : Launch} {o : z_G} (x1 : Int32) (x2 : Int32) (g : z_G) (r : Int32 × z_G) (h : s_Row_add_54 x1 x2 g = some r) : z_MI X l 71 yX6_add cX6_add 3 (some .boolean) 0 0 [.ref (z_ad X 54), .int x1, .int x2] g o r.2 o r.1 := by
  unfold s_Row_add_54 at h
  refine z_metz (by decide) (Nat.le_of_ble_eq_true rfl) (fun E hl hE hret => ?_)
  subst hl
  refine z_aload_n hE 0 dX6_add_0 rfl ?_
  refine z_get hE f_RX6_18 (by decide) e_54 rfl dX6_add_1 ?_
  refine z_bipush (v := 6) hE dX6_add_4 rfl ?_
  refine z_icmp_lt hE 11 dX6_add_6 rfl (fun c7q => ?_) (fun c7q => ?_)
  · replace h := z_t c7q h
    refine z_aload_n hE 0 dX6_add_11 rfl ?_
    refine z_get hE f_RX6_9 (by decide) e_54 rfl dX6_add_12 ?_
    refine z_aload_n hE 0 dX6_add_15 rfl ?_
    refine z_get hE f_RX6_18 (by decide) e_54 rfl dX6_add_16 ?_
    refine z_iload_n hE 1 dX6_add_19 rfl ?_
    obtain ⟨k8q, h⟩ := z_ck_some h
    obtain ⟨g9q, eg9q, h⟩ := z_let_eq h
    refine z_iast hE (by decide) e_55 k8q (ua_55 eg9q) dX6_add_20 ?_
    refine z_aload_n hE 0 dX6_add_21 rfl ?_
    refine z_get hE f_RX6_15 (by decide) e_54 rfl dX6_add_22 ?_
    refine z_aload_n hE 0 dX6_add_25 rfl ?_
    refine z_get hE f_RX6_18 (by decide) e_54 rfl dX6_add_26 ?_
    refine z_iload_n hE 2 dX6_add_29 rfl ?_
    obtain ⟨k10q, h⟩ := z_ck_some h
    obtain ⟨g11q, eg11q, h⟩ := z_let_eq h
    refine z_iast hE (by decide) e_56 k10q (ua_56 eg11q) dX6_add_30 ?_
    refine z_aload_n hE 0 dX6_add_31 rfl ?_
    refine z_dup hE dX6_add_32 rfl ?_
    refine z_get hE f_RX6_18 (by decide) e_54 rfl dX6_add_33 ?_
    refine z_iconst (v := 1) hE dX6_add_36 rfl ?_
    refine z_iadd hE dX6_add_37 ?_
    obtain ⟨g12q, eg12q, h⟩ := z_let_eq h
    refine z_put hE f_RX6_18 ft_6 (by decide) e_54 rfl (tyX6_ok 2 (by decide)) rfl rfl (Nat.le_of_ble_eq_true rfl) (u_54_2 eg12q) dX6_add_38 ?_
    refine z_iconst (v := 1) hE dX6_add_41 rfl ?_
    obtain rfl := Option.some.inj h
    exact hret _ _ z_b1 dX6_add_42
  · replace h := z_f c7q h
    refine z_iconst (v := 0) hE dX6_add_9 rfl ?_
    obtain rfl := Option.some.inj h
    exact hret _ _ z_b0 dX6_add_10
theorem dX5_takeItem_0 : decode cX5_takeItem 0 = .ok (.iload_n 1, 1) := by decide +kernel
theorem dX5_takeItem_1 : decode cX5_takeItem 1 = .ok (.lookupswitch 104 #[(100, 99), (104, 43), (109, 48), (111, 53)], 43) := by decide +kernel
theorem dX5_takeItem_44 : decode cX5_takeItem 44 = .ok (.aload_n 0, 1) := by decide +kernel
theorem dX5_takeItem_45 : decode cX5_takeItem 45 = .ok (.invokevirtual 71, 3) := by decide +kernel
theorem dX5_takeItem_48 : decode cX5_takeItem 48 = .ok (.ireturn, 1) := by decide +kernel
theorem dX5_takeItem_49 : decode cX5_takeItem 49 = .ok (.aload_n 0, 1) := by decide +kernel
theorem dX5_takeItem_50 : decode cX5_takeItem 50 = .ok (.invokevirtual 75, 3) := by decide +kernel
theorem dX5_takeItem_53 : decode cX5_takeItem 53 = .ok (.ireturn, 1) := by decide +kernel
theorem dX5_takeItem_54 : decode cX5_takeItem 54 = .ok (.aload_n 0, 1) := by decide +kernel
theorem dX5_takeItem_55 : decode cX5_takeItem 55 = .ok (.getfield 32, 3) := by decide +kernel
theorem dX5_takeItem_58 : decode cX5_takeItem 58 = .ok (.iconst 0, 1) := by decide +kernel
theorem dX5_takeItem_59 : decode cX5_takeItem 59 = .ok (.iaload, 1) := by decide +kernel
theorem dX5_takeItem_60 : decode cX5_takeItem 60 = .ok (.aload_n 0, 1) := by decide +kernel
theorem dX5_takeItem_61 : decode cX5_takeItem 61 = .ok (.getfield 32, 3) := by decide +kernel
theorem dX5_takeItem_64 : decode cX5_takeItem 64 = .ok (.iconst 1, 1) := by decide +kernel
theorem dX5_takeItem_65 : decode cX5_takeItem 65 = .ok (.iaload, 1) := by decide +kernel
theorem dX5_takeItem_66 : decode cX5_takeItem 66 = .ok (.invokestatic 78, 3) := by decide +kernel
theorem dX5_takeItem_69 : decode cX5_takeItem 69 = .ok (.ifCond .eq 29, 3) := by decide +kernel
theorem dX5_takeItem_72 : decode cX5_takeItem 72 = .ok (.aload_n 0, 1) := by decide +kernel
theorem dX5_takeItem_73 : decode cX5_takeItem 73 = .ok (.getfield 28, 3) := by decide +kernel
theorem dX5_takeItem_76 : decode cX5_takeItem 76 = .ok (.aload_n 0, 1) := by decide +kernel
theorem dX5_takeItem_77 : decode cX5_takeItem 77 = .ok (.getfield 32, 3) := by decide +kernel
theorem dX5_takeItem_80 : decode cX5_takeItem 80 = .ok (.iconst 0, 1) := by decide +kernel
theorem dX5_takeItem_81 : decode cX5_takeItem 81 = .ok (.iaload, 1) := by decide +kernel
theorem dX5_takeItem_82 : decode cX5_takeItem 82 = .ok (.aload_n 0, 1) := by decide +kernel
theorem dX5_takeItem_83 : decode cX5_takeItem 83 = .ok (.getfield 32, 3) := by decide +kernel
theorem dX5_takeItem_86 : decode cX5_takeItem 86 = .ok (.iconst 1, 1) := by decide +kernel
theorem dX5_takeItem_87 : decode cX5_takeItem 87 = .ok (.iaload, 1) := by decide +kernel
theorem dX5_takeItem_88 : decode cX5_takeItem 88 = .ok (.invokevirtual 82, 3) := by decide +kernel
theorem dX5_takeItem_91 : decode cX5_takeItem 91 = .ok (.ifCond .eq 7, 3) := by decide +kernel
theorem dX5_takeItem_94 : decode cX5_takeItem 94 = .ok (.iconst 1, 1) := by decide +kernel
theorem dX5_takeItem_95 : decode cX5_takeItem 95 = .ok (.goto 4, 3) := by decide +kernel
theorem dX5_takeItem_98 : decode cX5_takeItem 98 = .ok (.iconst 0, 1) := by decide +kernel
theorem dX5_takeItem_99 : decode cX5_takeItem 99 = .ok (.ireturn, 1) := by decide +kernel
theorem dX5_takeItem_100 : decode cX5_takeItem 100 = .ok (.aload_n 0, 1) := by decide +kernel
theorem dX5_takeItem_101 : decode cX5_takeItem 101 = .ok (.invokevirtual 85, 3) := by decide +kernel
theorem dX5_takeItem_104 : decode cX5_takeItem 104 = .ok (.ireturn, 1) := by decide +kernel
theorem dX5_takeItem_105 : decode cX5_takeItem 105 = .ok (.iconst 0, 1) := by decide +kernel
theorem dX5_takeItem_106 : decode cX5_takeItem 106 = .ok (.ireturn, 1) := by decide +kernel
def s_Read_takeItem_b98  (g : z_G) : Option (Int32 × z_G) := (some (0, g))
def s_Read_takeItem (x1 : Int32) (g : z_G) : Option (Int32 × z_G) := (if x1 = 100 then (z_ck (z_bit ((s_Read_takeFar g).1)) (some ((s_Read_takeFar g).1, (s_Read_takeFar g).2))) else (if x1 = 104 then (Option.bind (s_Read_takeHome g) fun r16q => (z_ck (z_bit r16q.1) (some (r16q.1, r16q.2)))) else (if x1 = 109 then (Option.bind (s_Read_takeMan g) fun r19q => (z_ck (z_bit r19q.1) (some (r19q.1, r19q.2)))) else (if x1 = 111 then (if (s_Top_isOrder (z_rd g 42 0) (z_rd g 42 1)) = 0 then (s_Read_takeItem_b98 g) else (Option.bind (s_Row_add_54 (z_rd g 42 0) (z_rd g 42 1) g) fun r23q => (if r23q.1 = 0 then (s_Read_takeItem_b98 r23q.2) else (some (1, r23q.2))))) else (some (0, g))))))
set_option maxHeartbeats 1000000 in
set_option maxRecDepth 20000 in
theorem b_Read_takeItem_b98 {X : z_X} {E : z_ET} {o : z_G} (hE : z_EV X E cX5_takeItem 2 RX5 3 63 71) {r : Int32 × z_G} (hret : ∀ (pc : Nat) (lv : List (Nat × Value)), z_bit r.1 = true → decode cX5_takeItem pc = .ok (.ireturn, 1) → z_V X E 2 r.2 o pc lv [.int r.1])  (g : z_G)  (h : s_Read_takeItem_b98 g = some r) : z_V X E 2 g o 98 [] [] := by
  unfold s_Read_takeItem_b98 at h
  refine z_iconst (v := 0) hE dX5_takeItem_98 rfl ?_
  obtain rfl := Option.some.inj h
  exact hret _ _ z_b0 dX5_takeItem_99
set_option maxHeartbeats 1000000 in
set_option maxRecDepth 20000 in
theorem c_Read_takeItem {X : z_X} {l : Launch} {o : z_G} (x1 : Int32) (g : z_G) (r : Int32 × z_G) (h : s_Read_takeItem x1 g = some r) : z_MI X l 71 yX5_takeItem cX5_takeItem 2 (some .boolean) 3 63 [.ref (z_ad X 41), .int x1] g o r.2 o r.1 := by
  unfold s_Read_takeItem at h
  refine z_metz (by decide) (Nat.le_of_ble_eq_true rfl) (fun E hl hE hret => ?_)
  subst hl
  refine z_iload_n hE 1 dX5_takeItem_0 rfl ?_
  by_cases c13q : x1 = 100
  · replace h := z_t c13q h
    refine z_look (off := 99) hE 100 dX5_takeItem_1 (by decide) (by rw [c13q]; decide) rfl ?_
    refine z_aload_n hE 0 dX5_takeItem_100 rfl ?_
    refine z_iV (rest := []) (av := []) hE (c_Read_takeFar g) l_RX5_85 (by decide) (by decide) e_41 rfl ⟨by decide, by decide⟩ dX5_takeItem_101 rfl (Nat.le_of_ble_eq_true rfl) ?_
    obtain ⟨k14q, h⟩ := z_ck_some h
    obtain rfl := Option.some.inj h
    exact hret _ _ k14q dX5_takeItem_104
  replace h := z_f c13q h
  by_cases c15q : x1 = 104
  · replace h := z_t c15q h
    refine z_look (off := 43) hE 44 dX5_takeItem_1 (by decide) (by rw [c15q]; decide) rfl ?_
    refine z_aload_n hE 0 dX5_takeItem_44 rfl ?_
    obtain ⟨r16q, hr16q, h⟩ := z_bind_some h
    refine z_iV (rest := []) (av := []) hE (c_Read_takeHome g r16q hr16q) l_RX5_71 (by decide) (by decide) e_41 rfl ⟨by decide, by decide⟩ dX5_takeItem_45 rfl (Nat.le_of_ble_eq_true rfl) ?_
    obtain ⟨k17q, h⟩ := z_ck_some h
    obtain rfl := Option.some.inj h
    exact hret _ _ k17q dX5_takeItem_48
  replace h := z_f c15q h
  by_cases c18q : x1 = 109
  · replace h := z_t c18q h
    refine z_look (off := 48) hE 49 dX5_takeItem_1 (by decide) (by rw [c18q]; decide) rfl ?_
    refine z_aload_n hE 0 dX5_takeItem_49 rfl ?_
    obtain ⟨r19q, hr19q, h⟩ := z_bind_some h
    refine z_iV (rest := []) (av := []) hE (c_Read_takeMan g r19q hr19q) l_RX5_75 (by decide) (by decide) e_41 rfl ⟨by decide, by decide⟩ dX5_takeItem_50 rfl (Nat.le_of_ble_eq_true rfl) ?_
    obtain ⟨k20q, h⟩ := z_ck_some h
    obtain rfl := Option.some.inj h
    exact hret _ _ k20q dX5_takeItem_53
  replace h := z_f c18q h
  by_cases c21q : x1 = 111
  · replace h := z_t c21q h
    refine z_look (off := 53) hE 54 dX5_takeItem_1 (by decide) (by rw [c21q]; decide) rfl ?_
    refine z_aload_n hE 0 dX5_takeItem_54 rfl ?_
    refine z_get hE f_RX5_32 (by decide) e_41 rfl dX5_takeItem_55 ?_
    refine z_iconst (v := 0) hE dX5_takeItem_58 rfl ?_
    refine z_iald hE (by decide) e_42 (by decide) dX5_takeItem_59 ?_
    refine z_aload_n hE 0 dX5_takeItem_60 rfl ?_
    refine z_get hE f_RX5_32 (by decide) e_41 rfl dX5_takeItem_61 ?_
    refine z_iconst (v := 1) hE dX5_takeItem_64 rfl ?_
    refine z_iald hE (by decide) e_42 (by decide) dX5_takeItem_65 ?_
    refine z_iS (rest := []) (av := [.int (z_rd g 42 0), .int (z_rd g 42 1)]) hE (c_Top_isOrder (z_rd g 42 0) (z_rd g 42 1) g) l_RX5_78 (by decide) ⟨by decide, by decide⟩ dX5_takeItem_66 rfl (Nat.le_of_ble_eq_true rfl) ?_
    refine z_if_eq hE 98 dX5_takeItem_69 rfl (fun c22q => ?_) (fun c22q => ?_)
    · replace h := z_t c22q h
      refine z_sub [] [] rfl ?_
      exact b_Read_takeItem_b98 hE hret g h
    · replace h := z_f c22q h
      refine z_aload_n hE 0 dX5_takeItem_72 rfl ?_
      refine z_get hE f_RX5_28 (by decide) e_41 rfl dX5_takeItem_73 ?_
      refine z_aload_n hE 0 dX5_takeItem_76 rfl ?_
      refine z_get hE f_RX5_32 (by decide) e_41 rfl dX5_takeItem_77 ?_
      refine z_iconst (v := 0) hE dX5_takeItem_80 rfl ?_
      refine z_iald hE (by decide) e_42 (by decide) dX5_takeItem_81 ?_
      refine z_aload_n hE 0 dX5_takeItem_82 rfl ?_
      refine z_get hE f_RX5_32 (by decide) e_41 rfl dX5_takeItem_83 ?_
      refine z_iconst (v := 1) hE dX5_takeItem_86 rfl ?_
      refine z_iald hE (by decide) e_42 (by decide) dX5_takeItem_87 ?_
      obtain ⟨r23q, hr23q, h⟩ := z_bind_some h
      refine z_iV (rest := []) (av := [.int (z_rd g 42 0), .int (z_rd g 42 1)]) hE (c_Row_add_54 (z_rd g 42 0) (z_rd g 42 1) g r23q hr23q) l_RX5_82 (by decide) (by decide) e_54 rfl ⟨by decide, by decide⟩ dX5_takeItem_88 rfl (Nat.le_of_ble_eq_true rfl) ?_
      refine z_if_eq hE 98 dX5_takeItem_91 rfl (fun c24q => ?_) (fun c24q => ?_)
      · replace h := z_t c24q h
        refine z_sub [] [] rfl ?_
        exact b_Read_takeItem_b98 hE hret r23q.2 h
      · replace h := z_f c24q h
        refine z_iconst (v := 1) hE dX5_takeItem_94 rfl ?_
        refine z_goto hE 99 dX5_takeItem_95 rfl ?_
        obtain rfl := Option.some.inj h
        exact hret _ _ z_b1 dX5_takeItem_99
  replace h := z_f c21q h
  have ic13q : ¬ ((100 : Int) = Int32.toInt x1) := fun e => z_ne c13q e.symm
  have ic15q : ¬ ((104 : Int) = Int32.toInt x1) := fun e => z_ne c15q e.symm
  have ic18q : ¬ ((109 : Int) = Int32.toInt x1) := fun e => z_ne c18q e.symm
  have ic21q : ¬ ((111 : Int) = Int32.toInt x1) := fun e => z_ne c21q e.symm
  refine z_look (off := 104) hE 105 dX5_takeItem_1 (by decide) (by simp [Op.lookupswitch.offset, ic13q, ic15q, ic18q, ic21q]) rfl ?_
  refine z_iconst (v := 0) hE dX5_takeItem_105 rfl ?_
  obtain rfl := Option.some.inj h
  exact hret _ _ z_b0 dX5_takeItem_106
theorem dX5_figuresAt_0 : decode cX5_figuresAt 0 = .ok (.iconst 0, 1) := by decide +kernel
theorem dX5_figuresAt_1 : decode cX5_figuresAt 1 = .ok (.istore_n 3, 1) := by decide +kernel
theorem dX5_figuresAt_2 : decode cX5_figuresAt 2 = .ok (.iload_n 3, 1) := by decide +kernel
theorem dX5_figuresAt_3 : decode cX5_figuresAt 3 = .ok (.iconst 2, 1) := by decide +kernel
theorem dX5_figuresAt_4 : decode cX5_figuresAt 4 = .ok (.if_icmp .ge 31, 3) := by decide +kernel
theorem dX5_figuresAt_7 : decode cX5_figuresAt 7 = .ok (.iload_n 2, 1) := by decide +kernel
theorem dX5_figuresAt_8 : decode cX5_figuresAt 8 = .ok (.iload_n 3, 1) := by decide +kernel
theorem dX5_figuresAt_9 : decode cX5_figuresAt 9 = .ok (.iadd, 1) := by decide +kernel
theorem dX5_figuresAt_10 : decode cX5_figuresAt 10 = .ok (.iload_n 1, 1) := by decide +kernel
theorem dX5_figuresAt_11 : decode cX5_figuresAt 11 = .ok (.if_icmp .ge 24, 3) := by decide +kernel
theorem dX5_figuresAt_14 : decode cX5_figuresAt 14 = .ok (.aload_n 0, 1) := by decide +kernel
theorem dX5_figuresAt_15 : decode cX5_figuresAt 15 = .ok (.iload_n 2, 1) := by decide +kernel
theorem dX5_figuresAt_16 : decode cX5_figuresAt 16 = .ok (.iload_n 3, 1) := by decide +kernel
theorem dX5_figuresAt_17 : decode cX5_figuresAt 17 = .ok (.iadd, 1) := by decide +kernel
theorem dX5_figuresAt_18 : decode cX5_figuresAt 18 = .ok (.caload, 1) := by decide +kernel
theorem dX5_figuresAt_19 : decode cX5_figuresAt 19 = .ok (.bipush 48, 2) := by decide +kernel
theorem dX5_figuresAt_21 : decode cX5_figuresAt 21 = .ok (.bipush 57, 2) := by decide +kernel
theorem dX5_figuresAt_23 : decode cX5_figuresAt 23 = .ok (.invokestatic 67, 3) := by decide +kernel
theorem dX5_figuresAt_26 : decode cX5_figuresAt 26 = .ok (.ifCond .eq 9, 3) := by decide +kernel
theorem dX5_figuresAt_29 : decode cX5_figuresAt 29 = .ok (.iinc 3 1, 3) := by decide +kernel
theorem dX5_figuresAt_32 : decode cX5_figuresAt 32 = .ok (.goto (-30), 3) := by decide +kernel
theorem dX5_figuresAt_35 : decode cX5_figuresAt 35 = .ok (.iload_n 3, 1) := by decide +kernel
theorem dX5_figuresAt_36 : decode cX5_figuresAt 36 = .ok (.ireturn, 1) := by decide +kernel
def s_Read_figuresAt_40_b35 (g : z_G) (x3 : Int32) : Option (Int32) := (some x3)
def s_Read_figuresAt_40_L2 (g : z_G) : Nat → Int32 → Int32 → Int32 → Option (Int32)
  | 0, _, _, _ => none
  | n + 1, x1, x2, x3 => (if 2 ≤ x3 then (s_Read_figuresAt_40_b35 g x3) else (if x1 ≤ (x2 + x3) then (s_Read_figuresAt_40_b35 g x3) else (z_ck (z_inb (x2 + x3) 200) (if (s_Top_isWithin (z_rd g 40 (x2 + x3)) 48 57) = 0 then (s_Read_figuresAt_40_b35 g x3) else ((s_Read_figuresAt_40_L2 g n) x1 x2 (x3 + 1))))))
def s_Read_figuresAt_40 (x1 : Int32) (x2 : Int32) (g : z_G) : Option (Int32) := (s_Read_figuresAt_40_L2 g z_F x1 x2 0)
set_option maxHeartbeats 1000000 in
set_option maxRecDepth 20000 in
theorem b_Read_figuresAt_40_b35 {X : z_X} {E : z_ET} {o : z_G} (hE : z_EV X E cX5_figuresAt 4 RX5 1 22 71) {g : z_G} {r : Int32} (hret : ∀ (pc : Nat) (lv : List (Nat × Value)), decode cX5_figuresAt pc = .ok (.ireturn, 1) → z_V X E 4 g o pc lv [.int r]) (x3 : Int32)  (h : s_Read_figuresAt_40_b35 g x3 = some r) : z_V X E 4 g o 35 [(3, .int x3)] [] := by
  unfold s_Read_figuresAt_40_b35 at h
  refine z_iload_n hE 0 dX5_figuresAt_35 rfl ?_
  obtain rfl := Option.some.inj h
  exact hret _ _ dX5_figuresAt_36
set_option maxHeartbeats 1000000 in
set_option maxRecDepth 20000 in
theorem b_Read_figuresAt_40_L2 {X : z_X} {E : z_ET} {o : z_G} (hE : z_EV X E cX5_figuresAt 4 RX5 1 22 71) {g : z_G} {r : Int32} (hret : ∀ (pc : Nat) (lv : List (Nat × Value)), decode cX5_figuresAt pc = .ok (.ireturn, 1) → z_V X E 4 g o pc lv [.int r]) : ∀ (n : Nat) (x1 : Int32) (x2 : Int32) (x3 : Int32), s_Read_figuresAt_40_L2 g n x1 x2 x3 = some r → z_V X E 4 g o 2 [(0, .ref (z_ad X 40)), (1, .int x1), (2, .int x2), (3, .int x3)] [] := by
  intro n
  induction n with
  | zero => intro x1 x2 x3 h; exact z_none h
  | succ n ih =>
    intro x1 x2 x3 h
    rw [s_Read_figuresAt_40_L2] at h
    refine z_iload_n hE 3 dX5_figuresAt_2 rfl ?_
    refine z_iconst (v := 2) hE dX5_figuresAt_3 rfl ?_
    refine z_icmp_ge hE 35 dX5_figuresAt_4 rfl (fun c5q => ?_) (fun c5q => ?_)
    · replace h := z_t c5q h
      refine z_sub [(3, .int x3)] [3] rfl ?_
      exact b_Read_figuresAt_40_b35 hE hret x3 h
    · replace h := z_f c5q h
      refine z_iload_n hE 2 dX5_figuresAt_7 rfl ?_
      refine z_iload_n hE 3 dX5_figuresAt_8 rfl ?_
      refine z_iadd hE dX5_figuresAt_9 ?_
      refine z_iload_n hE 1 dX5_figuresAt_10 rfl ?_
      refine z_icmp_ge hE 35 dX5_figuresAt_11 rfl (fun c6q => ?_) (fun c6q => ?_)
      · replace h := z_t c6q h
        refine z_sub [(3, .int x3)] [3] rfl ?_
        exact b_Read_figuresAt_40_b35 hE hret x3 h
      · replace h := z_f c6q h
        refine z_aload_n hE 0 dX5_figuresAt_14 rfl ?_
        refine z_iload_n hE 2 dX5_figuresAt_15 rfl ?_
        refine z_iload_n hE 3 dX5_figuresAt_16 rfl ?_
        refine z_iadd hE dX5_figuresAt_17 ?_
        obtain ⟨k7q, h⟩ := z_ck_some h
        refine z_cald hE (by decide) e_40 k7q dX5_figuresAt_18 ?_
        refine z_bipush (v := 48) hE dX5_figuresAt_19 rfl ?_
        refine z_bipush (v := 57) hE dX5_figuresAt_21 rfl ?_
        refine z_iS (rest := []) (av := [.int (z_rd g 40 (x2 + x3)), .int 48, .int 57]) hE (c_Top_isWithin (z_rd g 40 (x2 + x3)) 48 57 g) l_RX5_67 (by decide) ⟨by decide, by decide⟩ dX5_figuresAt_23 rfl (Nat.le_of_ble_eq_true rfl) ?_
        refine z_if_eq hE 35 dX5_figuresAt_26 rfl (fun c8q => ?_) (fun c8q => ?_)
        · replace h := z_t c8q h
          refine z_sub [(3, .int x3)] [3] rfl ?_
          exact b_Read_figuresAt_40_b35 hE hret x3 h
        · replace h := z_f c8q h
          refine z_iinc (v := x3 + 1) hE 3 [(3, .int (x3 + 1)), (0, .ref (z_ad X 40)), (1, .int x1), (2, .int x2)] dX5_figuresAt_29 rfl rfl (by decide) rfl ?_
          refine z_goto hE 2 dX5_figuresAt_32 rfl ?_
          refine z_sub [(0, .ref (z_ad X 40)), (1, .int x1), (2, .int x2), (3, .int (x3 + 1))] [1, 2, 3, 0] rfl ?_
          exact ih x1 x2 (x3 + 1) h
set_option maxHeartbeats 1000000 in
set_option maxRecDepth 20000 in
theorem c_Read_figuresAt_40 {X : z_X} {l : Launch} {o : z_G} (x1 : Int32) (x2 : Int32) (g : z_G) (r : Int32) (h : s_Read_figuresAt_40 x1 x2 g = some r) : z_MI X l 71 yX5_figuresAt cX5_figuresAt 4 (some .int) 1 22 [.ref (z_ad X 40), .int x1, .int x2] g o g o r := by
  unfold s_Read_figuresAt_40 at h
  refine z_meti (ty := .int) rfl rfl (by decide) (Nat.le_of_ble_eq_true rfl) (fun E hl hE hret => ?_)
  subst hl
  refine z_iconst (v := 0) hE dX5_figuresAt_0 rfl ?_
  refine z_istore_n hE [(3, .int 0), (0, .ref (z_ad X 40)), (1, .int x1), (2, .int x2)] dX5_figuresAt_1 rfl (by decide) rfl ?_
  refine z_sub [(0, .ref (z_ad X 40)), (1, .int x1), (2, .int x2), (3, .int 0)] [1, 2, 3, 0] rfl ?_
  exact b_Read_figuresAt_40_L2 hE hret z_F x1 x2 0 h
