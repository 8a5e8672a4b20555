theorem dX9_tell_0 : decode cX9_tell 0 = .ok (.iload_n 1, 1) := by decide +kernel
theorem dX9_tell_1 : decode cX9_tell 1 = .ok (.iload_n 2, 1) := by decide +kernel
theorem dX9_tell_2 : decode cX9_tell 2 = .ok (.invokestatic 171, 3) := by decide +kernel
theorem dX9_tell_5 : decode cX9_tell 5 = .ok (.ifCond .ne 5, 3) := by decide +kernel
theorem dX9_tell_8 : decode cX9_tell 8 = .ok (.iconst (-1), 1) := by decide +kernel
theorem dX9_tell_9 : decode cX9_tell 9 = .ok (.ireturn, 1) := by decide +kernel
theorem dX9_tell_10 : decode cX9_tell 10 = .ok (.aload_n 0, 1) := by decide +kernel
theorem dX9_tell_11 : decode cX9_tell 11 = .ok (.getfield 40, 3) := by decide +kernel
theorem dX9_tell_14 : decode cX9_tell 14 = .ok (.iload_n 1, 1) := by decide +kernel
theorem dX9_tell_15 : decode cX9_tell 15 = .ok (.iload_n 2, 1) := by decide +kernel
theorem dX9_tell_16 : decode cX9_tell 16 = .ok (.invokevirtual 199, 3) := by decide +kernel
theorem dX9_tell_19 : decode cX9_tell 19 = .ok (.ifCond .eq 13, 3) := by decide +kernel
theorem dX9_tell_22 : decode cX9_tell 22 = .ok (.aload_n 0, 1) := by decide +kernel
theorem dX9_tell_23 : decode cX9_tell 23 = .ok (.getfield 40, 3) := by decide +kernel
theorem dX9_tell_26 : decode cX9_tell 26 = .ok (.getfield 157, 3) := by decide +kernel
theorem dX9_tell_29 : decode cX9_tell 29 = .ok (.goto 5, 3) := by decide +kernel
theorem dX9_tell_32 : decode cX9_tell 32 = .ok (.bipush (-3), 2) := by decide +kernel
theorem dX9_tell_34 : decode cX9_tell 34 = .ok (.ireturn, 1) := by decide +kernel
def s_Top_tell (x1 : Int32) (x2 : Int32) (g : z_G) : Option (Int32 × z_G) := (if (s_Top_isOrder x1 x2) = 0 then (some ((-1), g)) else (Option.bind (s_Row_add_51 x1 x2 g) fun r5q => (if r5q.1 = 0 then (some ((-3), r5q.2)) else (some ((r5q.2 51 2), r5q.2)))))
set_option maxHeartbeats 1000000 in
set_option maxRecDepth 20000 in
theorem c_Top_tell {X : z_X} {l : Launch} {o : z_G} (x1 : Int32) (x2 : Int32) (g : z_G) (r : Int32 × z_G) (h : s_Top_tell x1 x2 g = some r) : z_MI X l 71 yX9_tell cX9_tell 3 (some .int) 2 43 [.ref (z_ad X 39), .int x1, .int x2] g o r.2 o r.1 := by
  unfold s_Top_tell at h
  refine z_meti (ty := .int) rfl rfl (by decide) (Nat.le_of_ble_eq_true rfl) (fun E hl hE hret => ?_)
  subst hl
  refine z_iload_n hE 1 dX9_tell_0 rfl ?_
  refine z_iload_n hE 2 dX9_tell_1 rfl ?_
  refine z_iS (rest := []) (av := [.int x1, .int x2]) hE (c_Top_isOrder x1 x2 g) l_RX9_171 (by decide) ⟨by decide, by decide⟩ dX9_tell_2 rfl (Nat.le_of_ble_eq_true rfl) ?_
  refine z_if_ne hE 10 dX9_tell_5 rfl (fun c4q => ?_) (fun c4q => ?_)
  · replace h := z_f c4q h
    refine z_aload_n hE 0 dX9_tell_10 rfl ?_
    refine z_get hE f_RX9_40 (by decide) e_39 rfl dX9_tell_11 ?_
    refine z_iload_n hE 1 dX9_tell_14 rfl ?_
    refine z_iload_n hE 2 dX9_tell_15 rfl ?_
    obtain ⟨r5q, hr5q, h⟩ := z_bind_some h
    refine z_iV (rest := []) (av := [.int x1, .int x2]) hE (c_Row_add_51 x1 x2 g r5q hr5q) l_RX9_199 (by decide) (by decide) e_51 rfl ⟨by decide, by decide⟩ dX9_tell_16 rfl (Nat.le_of_ble_eq_true rfl) ?_
    refine z_if_eq hE 32 dX9_tell_19 rfl (fun c6q => ?_) (fun c6q => ?_)
    · replace h := z_t c6q h
      refine z_bipush (v := (-3)) hE dX9_tell_32 rfl ?_
      obtain rfl := Option.some.inj h
      exact hret _ _ dX9_tell_34
    · replace h := z_f c6q h
      refine z_aload_n hE 0 dX9_tell_22 rfl ?_
      refine z_get hE f_RX9_40 (by decide) e_39 rfl dX9_tell_23 ?_
      refine z_get hE f_RX9_157 (by decide) e_51 rfl dX9_tell_26 ?_
      refine z_goto hE 34 dX9_tell_29 rfl ?_
      obtain rfl := Option.some.inj h
      exact hret _ _ dX9_tell_34
  · replace h := z_t c4q h
    refine z_iconst (v := (-1)) hE dX9_tell_8 rfl ?_
    obtain rfl := Option.some.inj h
    exact hret _ _ dX9_tell_9
theorem dX9_noRow_0 : decode cX9_noRow 0 = .ok (.aload_n 0, 1) := by decide +kernel
theorem dX9_noRow_1 : decode cX9_noRow 1 = .ok (.getfield 40, 3) := by decide +kernel
theorem dX9_noRow_4 : decode cX9_noRow 4 = .ok (.getfield 157, 3) := by decide +kernel
theorem dX9_noRow_7 : decode cX9_noRow 7 = .ok (.istore_n 1, 1) := by decide +kernel
theorem dX9_noRow_8 : decode cX9_noRow 8 = .ok (.aload_n 0, 1) := by decide +kernel
theorem dX9_noRow_9 : decode cX9_noRow 9 = .ok (.getfield 40, 3) := by decide +kernel
theorem dX9_noRow_12 : decode cX9_noRow 12 = .ok (.iconst 0, 1) := by decide +kernel
theorem dX9_noRow_13 : decode cX9_noRow 13 = .ok (.putfield 157, 3) := by decide +kernel
theorem dX9_noRow_16 : decode cX9_noRow 16 = .ok (.aload_n 0, 1) := by decide +kernel
theorem dX9_noRow_17 : decode cX9_noRow 17 = .ok (.getfield 47, 3) := by decide +kernel
theorem dX9_noRow_20 : decode cX9_noRow 20 = .ok (.iconst 0, 1) := by decide +kernel
theorem dX9_noRow_21 : decode cX9_noRow 21 = .ok (.putfield 202, 3) := by decide +kernel
theorem dX9_noRow_24 : decode cX9_noRow 24 = .ok (.iload_n 1, 1) := by decide +kernel
theorem dX9_noRow_25 : decode cX9_noRow 25 = .ok (.ireturn, 1) := by decide +kernel
def s_Top_noRow (g : z_G) : Int32 × z_G := (z_let (α := z_G) (z_up g 51 2 0) fun g3q => (z_let (α := z_G) (z_up g3q 57 3 0) fun g4q => ((g 51 2), g4q)))
set_option maxHeartbeats 1000000 in
set_option maxRecDepth 20000 in
theorem c_Top_noRow {X : z_X} {l : Launch} {o : z_G} (g : z_G) : z_MI X l 71 yX9_noRow cX9_noRow 2 (some .int) 0 0 [.ref (z_ad X 39)] g o (s_Top_noRow g).2 o (s_Top_noRow g).1 := by
  obtain ⟨r, h⟩ : ∃ r, s_Top_noRow g = r := ⟨_, rfl⟩
  rw [h]
  unfold s_Top_noRow at h
  refine z_meti (ty := .int) rfl rfl (by decide) (Nat.le_of_ble_eq_true rfl) (fun E hl hE hret => ?_)
  subst hl
  refine z_aload_n hE 0 dX9_noRow_0 rfl ?_
  refine z_get hE f_RX9_40 (by decide) e_39 rfl dX9_noRow_1 ?_
  refine z_get hE f_RX9_157 (by decide) e_51 rfl dX9_noRow_4 ?_
  refine z_istore_n hE [(1, .int (g 51 2)), (0, .ref (z_ad X 39))] dX9_noRow_7 rfl (by decide) rfl ?_
  refine z_aload_n hE 1 dX9_noRow_8 rfl ?_
  refine z_get hE f_RX9_40 (by decide) e_39 rfl dX9_noRow_9 ?_
  refine z_iconst (v := 0) hE dX9_noRow_12 rfl ?_
  obtain ⟨g3q, eg3q, h⟩ := z_let_eq h
  refine z_put hE f_RX9_157 ft_6 (by decide) e_51 rfl (tyX6_ok 2 (by decide)) rfl rfl (Nat.le_of_ble_eq_true rfl) (u_51_2 eg3q) dX9_noRow_13 ?_
  refine z_aload_n hE 1 dX9_noRow_16 rfl ?_
  refine z_get hE f_RX9_47 (by decide) e_39 rfl dX9_noRow_17 ?_
  refine z_iconst (v := 0) hE dX9_noRow_20 rfl ?_
  obtain ⟨g4q, eg4q, h⟩ := z_let_eq h
  refine z_put hE f_RX9_202 ft_7 (by decide) e_57 rfl (tyX7_ok 3 (by decide)) rfl rfl (Nat.le_of_ble_eq_true rfl) (u_57_3 eg4q) dX9_noRow_21 ?_
  refine z_iload_n hE 0 dX9_noRow_24 rfl ?_
  subst h
  exact hret _ _ dX9_noRow_25
theorem dX9_spotAfter_0 : decode cX9_spotAfter 0 = .ok (.iload_n 2, 1) := by decide +kernel
theorem dX9_spotAfter_1 : decode cX9_spotAfter 1 = .ok (.iload_n 3, 1) := by decide +kernel
theorem dX9_spotAfter_2 : decode cX9_spotAfter 2 = .ok (.iload 4, 2) := by decide +kernel
theorem dX9_spotAfter_4 : decode cX9_spotAfter 4 = .ok (.aload_n 0, 1) := by decide +kernel
theorem dX9_spotAfter_5 : decode cX9_spotAfter 5 = .ok (.getfield 30, 3) := by decide +kernel
theorem dX9_spotAfter_8 : decode cX9_spotAfter 8 = .ok (.iload_n 1, 1) := by decide +kernel
theorem dX9_spotAfter_9 : decode cX9_spotAfter 9 = .ok (.aload_n 0, 1) := by decide +kernel
theorem dX9_spotAfter_10 : decode cX9_spotAfter 10 = .ok (.getfield 23, 3) := by decide +kernel
theorem dX9_spotAfter_13 : decode cX9_spotAfter 13 = .ok (.invokevirtual 216, 3) := by decide +kernel
theorem dX9_spotAfter_16 : decode cX9_spotAfter 16 = .ok (.aload_n 0, 1) := by decide +kernel
theorem dX9_spotAfter_17 : decode cX9_spotAfter 17 = .ok (.getfield 23, 3) := by decide +kernel
theorem dX9_spotAfter_20 : decode cX9_spotAfter 20 = .ok (.getfield 127, 3) := by decide +kernel
theorem dX9_spotAfter_23 : decode cX9_spotAfter 23 = .ok (.iload_n 1, 1) := by decide +kernel
theorem dX9_spotAfter_24 : decode cX9_spotAfter 24 = .ok (.iaload, 1) := by decide +kernel
theorem dX9_spotAfter_25 : decode cX9_spotAfter 25 = .ok (.aload_n 0, 1) := by decide +kernel
theorem dX9_spotAfter_26 : decode cX9_spotAfter 26 = .ok (.getfield 30, 3) := by decide +kernel
theorem dX9_spotAfter_29 : decode cX9_spotAfter 29 = .ok (.getfield 224, 3) := by decide +kernel
theorem dX9_spotAfter_32 : decode cX9_spotAfter 32 = .ok (.iload 5, 2) := by decide +kernel
theorem dX9_spotAfter_34 : decode cX9_spotAfter 34 = .ok (.iadd, 1) := by decide +kernel
theorem dX9_spotAfter_35 : decode cX9_spotAfter 35 = .ok (.iconst 1, 1) := by decide +kernel
theorem dX9_spotAfter_36 : decode cX9_spotAfter 36 = .ok (.iadd, 1) := by decide +kernel
theorem dX9_spotAfter_37 : decode cX9_spotAfter 37 = .ok (.invokestatic 289, 3) := by decide +kernel
theorem dX9_spotAfter_40 : decode cX9_spotAfter 40 = .ok (.ireturn, 1) := by decide +kernel
def s_Top_spotAfter (x1 : Int32) (x2 : Int32) (x3 : Int32) (x4 : Int32) (x5 : Int32) (g : z_G) : Option (Int32) := (Option.bind (s_Col_pullOn 0 x1 g) fun r4q => (z_ck (z_inb x1 6) (Option.bind (s_Ways_ordered x2 x3 x4 r4q (z_rd g 46 x1) (((g 0 3) + x5) + 1)) fun r6q => (some r6q))))
set_option maxHeartbeats 1000000 in
set_option maxRecDepth 20000 in
theorem c_Top_spotAfter {X : z_X} {l : Launch} {o : z_G} (x1 : Int32) (x2 : Int32) (x3 : Int32) (x4 : Int32) (x5 : Int32) (g : z_G) (r : Int32) (h : s_Top_spotAfter x1 x2 x3 x4 x5 g = some r) : z_MI X l 71 yX9_spotAfter cX9_spotAfter 6 (some .int) 5 124 [.ref (z_ad X 39), .int x1, .int x2, .int x3, .int x4, .int x5] g o g o r := by
  unfold s_Top_spotAfter at h
  refine z_meti (ty := .int) rfl rfl (by decide) (Nat.le_of_ble_eq_true rfl) (fun E hl hE hret => ?_)
  subst hl
  refine z_iload_n hE 2 dX9_spotAfter_0 rfl ?_
  refine z_iload_n hE 3 dX9_spotAfter_1 rfl ?_
  refine z_iload hE 4 dX9_spotAfter_2 rfl ?_
  refine z_aload_n hE 0 dX9_spotAfter_4 rfl ?_
  refine z_get hE f_RX9_30 (by decide) e_39 rfl dX9_spotAfter_5 ?_
  refine z_iload_n hE 1 dX9_spotAfter_8 rfl ?_
  refine z_aload_n hE 0 dX9_spotAfter_9 rfl ?_
  refine z_get hE f_RX9_23 (by decide) e_39 rfl dX9_spotAfter_10 ?_
  obtain ⟨r4q, hr4q, h⟩ := z_bind_some h
  refine z_iV (rest := [.int x4, .int x3, .int x2]) (av := [.int x1, .ref (z_ad X 43)]) hE (c_Col_pullOn 0 x1 g (by decide) r4q hr4q) l_RX9_216 (by decide) (by decide) e_0 rfl ⟨by decide, by decide⟩ dX9_spotAfter_13 rfl (Nat.le_of_ble_eq_true rfl) ?_
  refine z_aload_n hE 0 dX9_spotAfter_16 rfl ?_
  refine z_get hE f_RX9_23 (by decide) e_39 rfl dX9_spotAfter_17 ?_
  refine z_get hE f_RX9_127 (by decide) e_43 rfl dX9_spotAfter_20 ?_
  refine z_iload_n hE 1 dX9_spotAfter_23 rfl ?_
  obtain ⟨k5q, h⟩ := z_ck_some h
  refine z_iald hE (by decide) e_46 k5q dX9_spotAfter_24 ?_
  refine z_aload_n hE 0 dX9_spotAfter_25 rfl ?_
  refine z_get hE f_RX9_30 (by decide) e_39 rfl dX9_spotAfter_26 ?_
  refine z_get hE f_RX9_224 (by decide) e_0 rfl dX9_spotAfter_29 ?_
  refine z_iload hE 5 dX9_spotAfter_32 rfl ?_
  refine z_iadd hE dX9_spotAfter_34 ?_
  refine z_iconst (v := 1) hE dX9_spotAfter_35 rfl ?_
  refine z_iadd hE dX9_spotAfter_36 ?_
  obtain ⟨r6q, hr6q, h⟩ := z_bind_some h
  refine z_iS (rest := []) (av := [.int x2, .int x3, .int x4, .int r4q, .int (z_rd g 46 x1), .int (((g 0 3) + x5) + 1)]) hE (c_Ways_ordered x2 x3 x4 r4q (z_rd g 46 x1) (((g 0 3) + x5) + 1) g r6q hr6q) l_RX9_289 (by decide) ⟨by decide, by decide⟩ dX9_spotAfter_37 rfl (Nat.le_of_ble_eq_true rfl) ?_
  obtain rfl := Option.some.inj h
  exact hret _ _ dX9_spotAfter_40
theorem dX9_behind_0 : decode cX9_behind 0 = .ok (.iload_n 1, 1) := by decide +kernel
theorem dX9_behind_1 : decode cX9_behind 1 = .ok (.iconst 0, 1) := by decide +kernel
theorem dX9_behind_2 : decode cX9_behind 2 = .ok (.aload_n 0, 1) := by decide +kernel
theorem dX9_behind_3 : decode cX9_behind 3 = .ok (.getfield 40, 3) := by decide +kernel
theorem dX9_behind_6 : decode cX9_behind 6 = .ok (.getfield 157, 3) := by decide +kernel
theorem dX9_behind_9 : decode cX9_behind 9 = .ok (.invokestatic 92, 3) := by decide +kernel
theorem dX9_behind_12 : decode cX9_behind 12 = .ok (.ifCond .eq 20, 3) := by decide +kernel
theorem dX9_behind_15 : decode cX9_behind 15 = .ok (.aload_n 0, 1) := by decide +kernel
theorem dX9_behind_16 : decode cX9_behind 16 = .ok (.iload_n 2, 1) := by decide +kernel
theorem dX9_behind_17 : decode cX9_behind 17 = .ok (.invokevirtual 107, 3) := by decide +kernel
theorem dX9_behind_20 : decode cX9_behind 20 = .ok (.ifCond .eq 12, 3) := by decide +kernel
theorem dX9_behind_23 : decode cX9_behind 23 = .ok (.iload_n 3, 1) := by decide +kernel
theorem dX9_behind_24 : decode cX9_behind 24 = .ok (.iconst 0, 1) := by decide +kernel
theorem dX9_behind_25 : decode cX9_behind 25 = .ok (.iconst 2, 1) := by decide +kernel
theorem dX9_behind_26 : decode cX9_behind 26 = .ok (.invokestatic 92, 3) := by decide +kernel
theorem dX9_behind_29 : decode cX9_behind 29 = .ok (.ifCond .ne 5, 3) := by decide +kernel
theorem dX9_behind_32 : decode cX9_behind 32 = .ok (.iconst (-1), 1) := by decide +kernel
theorem dX9_behind_33 : decode cX9_behind 33 = .ok (.ireturn, 1) := by decide +kernel
theorem dX9_behind_34 : decode cX9_behind 34 = .ok (.aload_n 0, 1) := by decide +kernel
theorem dX9_behind_35 : decode cX9_behind 35 = .ok (.getfield 30, 3) := by decide +kernel
theorem dX9_behind_38 : decode cX9_behind 38 = .ok (.getfield 111, 3) := by decide +kernel
theorem dX9_behind_41 : decode cX9_behind 41 = .ok (.iload_n 2, 1) := by decide +kernel
theorem dX9_behind_42 : decode cX9_behind 42 = .ok (.iaload, 1) := by decide +kernel
theorem dX9_behind_43 : decode cX9_behind 43 = .ok (.istore 4, 2) := by decide +kernel
theorem dX9_behind_45 : decode cX9_behind 45 = .ok (.iconst 0, 1) := by decide +kernel
theorem dX9_behind_46 : decode cX9_behind 46 = .ok (.istore 5, 2) := by decide +kernel
theorem dX9_behind_48 : decode cX9_behind 48 = .ok (.iload 5, 2) := by decide +kernel
theorem dX9_behind_50 : decode cX9_behind 50 = .ok (.iload_n 1, 1) := by decide +kernel
theorem dX9_behind_51 : decode cX9_behind 51 = .ok (.if_icmp .ge 40, 3) := by decide +kernel
theorem dX9_behind_54 : decode cX9_behind 54 = .ok (.aload_n 0, 1) := by decide +kernel
theorem dX9_behind_55 : decode cX9_behind 55 = .ok (.iload_n 2, 1) := by decide +kernel
theorem dX9_behind_56 : decode cX9_behind 56 = .ok (.iload 4, 2) := by decide +kernel
theorem dX9_behind_58 : decode cX9_behind 58 = .ok (.aload_n 0, 1) := by decide +kernel
theorem dX9_behind_59 : decode cX9_behind 59 = .ok (.getfield 40, 3) := by decide +kernel
theorem dX9_behind_62 : decode cX9_behind 62 = .ok (.getfield 203, 3) := by decide +kernel
theorem dX9_behind_65 : decode cX9_behind 65 = .ok (.iload 5, 2) := by decide +kernel
theorem dX9_behind_67 : decode cX9_behind 67 = .ok (.iaload, 1) := by decide +kernel
theorem dX9_behind_68 : decode cX9_behind 68 = .ok (.aload_n 0, 1) := by decide +kernel
theorem dX9_behind_69 : decode cX9_behind 69 = .ok (.getfield 40, 3) := by decide +kernel
theorem dX9_behind_72 : decode cX9_behind 72 = .ok (.getfield 206, 3) := by decide +kernel
theorem dX9_behind_75 : decode cX9_behind 75 = .ok (.iload 5, 2) := by decide +kernel
theorem dX9_behind_77 : decode cX9_behind 77 = .ok (.iaload, 1) := by decide +kernel
theorem dX9_behind_78 : decode cX9_behind 78 = .ok (.iload 5, 2) := by decide +kernel
theorem dX9_behind_80 : decode cX9_behind 80 = .ok (.invokevirtual 209, 3) := by decide +kernel
theorem dX9_behind_83 : decode cX9_behind 83 = .ok (.istore 4, 2) := by decide +kernel
theorem dX9_behind_85 : decode cX9_behind 85 = .ok (.iinc 5 1, 3) := by decide +kernel
theorem dX9_behind_88 : decode cX9_behind 88 = .ok (.goto (-40), 3) := by decide +kernel
theorem dX9_behind_91 : decode cX9_behind 91 = .ok (.iload 4, 2) := by decide +kernel
theorem dX9_behind_93 : decode cX9_behind 93 = .ok (.iload_n 3, 1) := by decide +kernel
theorem dX9_behind_94 : decode cX9_behind 94 = .ok (.invokestatic 115, 3) := by decide +kernel
theorem dX9_behind_97 : decode cX9_behind 97 = .ok (.ireturn, 1) := by decide +kernel
def s_Top_behind_b32 (g : z_G) : Option (Int32) := (some (-1))
def s_Top_behind_L48 (g : z_G) : Nat → Int32 → Int32 → Int32 → Int32 → Int32 → Option (Int32)
  | 0, _, _, _, _, _ => none
  | n + 1, x1, x2, x3, x4, x5 => (if x1 ≤ x5 then (some (s_Ways_partOf x4 x3)) else (z_ck (z_inb x5 6) (z_ck (z_inb x5 6) (Option.bind (s_Top_spotAfter x2 x4 (z_rd g 52 x5) (z_rd g 53 x5) x5 g) fun r12q => ((s_Top_behind_L48 g n) x1 x2 x3 r12q (x5 + 1))))))
def s_Top_behind (x1 : Int32) (x2 : Int32) (x3 : Int32) (g : z_G) : Option (Int32) := (if (s_Top_isWithin x1 0 (g 51 2)) = 0 then (s_Top_behind_b32 g) else (if (s_Top_isMan x2 g) = 0 then (s_Top_behind_b32 g) else (if (s_Top_isWithin x3 0 2) = 0 then (s_Top_behind_b32 g) else (z_ck (z_inb x2 6) (s_Top_behind_L48 g z_F x1 x2 x3 (z_rd g 1 x2) 0)))))
set_option maxHeartbeats 1000000 in
set_option maxRecDepth 20000 in
theorem b_Top_behind_b32 {X : z_X} {E : z_ET} {o : z_G} (hE : z_EV X E cX9_behind 6 RX9 6 149 71) {g : z_G} {r : Int32} (hret : ∀ (pc : Nat) (lv : List (Nat × Value)), decode cX9_behind pc = .ok (.ireturn, 1) → z_V X E 6 g o pc lv [.int r])   (h : s_Top_behind_b32 g = some r) : z_V X E 6 g o 32 [] [] := by
  unfold s_Top_behind_b32 at h
  refine z_iconst (v := (-1)) hE dX9_behind_32 rfl ?_
  obtain rfl := Option.some.inj h
  exact hret _ _ dX9_behind_33
set_option maxHeartbeats 1000000 in
set_option maxRecDepth 20000 in
theorem b_Top_behind_L48 {X : z_X} {E : z_ET} {o : z_G} (hE : z_EV X E cX9_behind 6 RX9 6 149 71) {g : z_G} {r : Int32} (hret : ∀ (pc : Nat) (lv : List (Nat × Value)), decode cX9_behind pc = .ok (.ireturn, 1) → z_V X E 6 g o pc lv [.int r]) : ∀ (n : Nat) (x1 : Int32) (x2 : Int32) (x3 : Int32) (x4 : Int32) (x5 : Int32), s_Top_behind_L48 g n x1 x2 x3 x4 x5 = some r → z_V X E 6 g o 48 [(0, .ref (z_ad X 39)), (1, .int x1), (2, .int x2), (3, .int x3), (4, .int x4), (5, .int x5)] [] := by
  intro n
  induction n with
  | zero => intro x1 x2 x3 x4 x5 h; exact z_none h
  | succ n ih =>
    intro x1 x2 x3 x4 x5 h
    rw [s_Top_behind_L48] at h
    refine z_iload hE 5 dX9_behind_48 rfl ?_
    refine z_iload_n hE 1 dX9_behind_50 rfl ?_
    refine z_icmp_ge hE 91 dX9_behind_51 rfl (fun c9q => ?_) (fun c9q => ?_)
    · replace h := z_t c9q h
      refine z_iload hE 4 dX9_behind_91 rfl ?_
      refine z_iload_n hE 3 dX9_behind_93 rfl ?_
      refine z_iS (rest := []) (av := [.int x4, .int x3]) hE (c_Ways_partOf x4 x3 g) l_RX9_115 (by decide) ⟨by decide, by decide⟩ dX9_behind_94 rfl (Nat.le_of_ble_eq_true rfl) ?_
      obtain rfl := Option.some.inj h
      exact hret _ _ dX9_behind_97
    · replace h := z_f c9q h
      refine z_aload_n hE 0 dX9_behind_54 rfl ?_
      refine z_iload_n hE 2 dX9_behind_55 rfl ?_
      refine z_iload hE 4 dX9_behind_56 rfl ?_
      refine z_aload_n hE 0 dX9_behind_58 rfl ?_
      refine z_get hE f_RX9_40 (by decide) e_39 rfl dX9_behind_59 ?_
      refine z_get hE f_RX9_203 (by decide) e_51 rfl dX9_behind_62 ?_
      refine z_iload hE 5 dX9_behind_65 rfl ?_
      obtain ⟨k10q, h⟩ := z_ck_some h
      refine z_iald hE (by decide) e_52 k10q dX9_behind_67 ?_
      refine z_aload_n hE 0 dX9_behind_68 rfl ?_
      refine z_get hE f_RX9_40 (by decide) e_39 rfl dX9_behind_69 ?_
      refine z_get hE f_RX9_206 (by decide) e_51 rfl dX9_behind_72 ?_
      refine z_iload hE 5 dX9_behind_75 rfl ?_
      obtain ⟨k11q, h⟩ := z_ck_some h
      refine z_iald hE (by decide) e_53 k11q dX9_behind_77 ?_
      refine z_iload hE 5 dX9_behind_78 rfl ?_
      obtain ⟨r12q, hr12q, h⟩ := z_bind_some h
      refine z_iV (rest := []) (av := [.int x2, .int x4, .int (z_rd g 52 x5), .int (z_rd g 53 x5), .int x5]) hE (c_Top_spotAfter x2 x4 (z_rd g 52 x5) (z_rd g 53 x5) x5 g r12q hr12q) l_RX9_209 (by decide) (by decide) e_39 rfl ⟨by decide, by decide⟩ dX9_behind_80 rfl (Nat.le_of_ble_eq_true rfl) ?_
      refine z_istore hE [(4, .int r12q), (0, .ref (z_ad X 39)), (1, .int x1), (2, .int x2), (3, .int x3), (5, .int x5)] dX9_behind_83 (by decide) rfl ?_
      refine z_iinc (v := x5 + 1) hE 5 [(5, .int (x5 + 1)), (4, .int r12q), (0, .ref (z_ad X 39)), (1, .int x1), (2, .int x2), (3, .int x3)] dX9_behind_85 rfl rfl (by decide) rfl ?_
      refine z_goto hE 48 dX9_behind_88 rfl ?_
      refine z_sub [(0, .ref (z_ad X 39)), (1, .int x1), (2, .int x2), (3, .int x3), (4, .int r12q), (5, .int (x5 + 1))] [2, 3, 4, 5, 1, 0] rfl ?_
      exact ih x1 x2 x3 r12q (x5 + 1) h
set_option maxHeartbeats 1000000 in
set_option maxRecDepth 20000 in
theorem c_Top_behind {X : z_X} {l : Launch} {o : z_G} (x1 : Int32) (x2 : Int32) (x3 : Int32) (g : z_G) (r : Int32) (h : s_Top_behind x1 x2 x3 g = some r) : z_MI X l 71 yX9_behind cX9_behind 6 (some .int) 6 149 [.ref (z_ad X 39), .int x1, .int x2, .int x3] g o g o r := by
  unfold s_Top_behind at h
  refine z_meti (ty := .int) rfl rfl (by decide) (Nat.le_of_ble_eq_true rfl) (fun E hl hE hret => ?_)
  subst hl
  refine z_iload_n hE 1 dX9_behind_0 rfl ?_
  refine z_iconst (v := 0) hE dX9_behind_1 rfl ?_
  refine z_aload_n hE 0 dX9_behind_2 rfl ?_
  refine z_get hE f_RX9_40 (by decide) e_39 rfl dX9_behind_3 ?_
  refine z_get hE f_RX9_157 (by decide) e_51 rfl dX9_behind_6 ?_
  refine z_iS (rest := []) (av := [.int x1, .int 0, .int (g 51 2)]) hE (c_Top_isWithin x1 0 (g 51 2) g) l_RX9_92 (by decide) ⟨by decide, by decide⟩ dX9_behind_9 rfl (Nat.le_of_ble_eq_true rfl) ?_
  refine z_if_eq hE 32 dX9_behind_12 rfl (fun c13q => ?_) (fun c13q => ?_)
  · replace h := z_t c13q h
    refine z_sub [] [] rfl ?_
    exact b_Top_behind_b32 hE hret h
  · replace h := z_f c13q h
    refine z_aload_n hE 0 dX9_behind_15 rfl ?_
    refine z_iload_n hE 2 dX9_behind_16 rfl ?_
    refine z_iV (rest := []) (av := [.int x2]) hE (c_Top_isMan x2 g) l_RX9_107 (by decide) (by decide) e_39 rfl ⟨by decide, by decide⟩ dX9_behind_17 rfl (Nat.le_of_ble_eq_true rfl) ?_
    refine z_if_eq hE 32 dX9_behind_20 rfl (fun c14q => ?_) (fun c14q => ?_)
    · replace h := z_t c14q h
      refine z_sub [] [] rfl ?_
      exact b_Top_behind_b32 hE hret h
    · replace h := z_f c14q h
      refine z_iload_n hE 3 dX9_behind_23 rfl ?_
      refine z_iconst (v := 0) hE dX9_behind_24 rfl ?_
      refine z_iconst (v := 2) hE dX9_behind_25 rfl ?_
      refine z_iS (rest := []) (av := [.int x3, .int 0, .int 2]) hE (c_Top_isWithin x3 0 2 g) l_RX9_92 (by decide) ⟨by decide, by decide⟩ dX9_behind_26 rfl (Nat.le_of_ble_eq_true rfl) ?_
      refine z_if_ne hE 34 dX9_behind_29 rfl (fun c15q => ?_) (fun c15q => ?_)
      · replace h := z_f c15q h
        refine z_aload_n hE 0 dX9_behind_34 rfl ?_
        refine z_get hE f_RX9_30 (by decide) e_39 rfl dX9_behind_35 ?_
        refine z_get hE f_RX9_111 (by decide) e_0 rfl dX9_behind_38 ?_
        refine z_iload_n hE 2 dX9_behind_41 rfl ?_
        obtain ⟨k16q, h⟩ := z_ck_some h
        refine z_iald hE (by decide) e_1 k16q dX9_behind_42 ?_
        refine z_istore hE [(4, .int (z_rd g 1 x2)), (0, .ref (z_ad X 39)), (1, .int x1), (2, .int x2), (3, .int x3)] dX9_behind_43 (by decide) rfl ?_
        refine z_iconst (v := 0) hE dX9_behind_45 rfl ?_
        refine z_istore hE [(5, .int 0), (4, .int (z_rd g 1 x2)), (0, .ref (z_ad X 39)), (1, .int x1), (2, .int x2), (3, .int x3)] dX9_behind_46 (by decide) rfl ?_
        refine z_sub [(0, .ref (z_ad X 39)), (1, .int x1), (2, .int x2), (3, .int x3), (4, .int (z_rd g 1 x2)), (5, .int 0)] [2, 3, 4, 5, 1, 0] rfl ?_
        exact b_Top_behind_L48 hE hret z_F x1 x2 x3 (z_rd g 1 x2) 0 h
      · replace h := z_t c15q h
        refine z_sub [] [] rfl ?_
        exact b_Top_behind_b32 hE hret h
theorem dX9_strayed_0 : decode cX9_strayed 0 = .ok (.aload_n 0, 1) := by decide +kernel
theorem dX9_strayed_1 : decode cX9_strayed 1 = .ok (.getfield 34, 3) := by decide +kernel
theorem dX9_strayed_4 : decode cX9_strayed 4 = .ok (.aload_n 0, 1) := by decide +kernel
theorem dX9_strayed_5 : decode cX9_strayed 5 = .ok (.getfield 30, 3) := by decide +kernel
theorem dX9_strayed_8 : decode cX9_strayed 8 = .ok (.invokevirtual 213, 3) := by decide +kernel
theorem dX9_strayed_11 : decode cX9_strayed 11 = .ok (.iconst 0, 1) := by decide +kernel
theorem dX9_strayed_12 : decode cX9_strayed 12 = .ok (.istore_n 1, 1) := by decide +kernel
theorem dX9_strayed_13 : decode cX9_strayed 13 = .ok (.iload_n 1, 1) := by decide +kernel
theorem dX9_strayed_14 : decode cX9_strayed 14 = .ok (.aload_n 0, 1) := by decide +kernel
theorem dX9_strayed_15 : decode cX9_strayed 15 = .ok (.getfield 40, 3) := by decide +kernel
theorem dX9_strayed_18 : decode cX9_strayed 18 = .ok (.getfield 157, 3) := by decide +kernel
theorem dX9_strayed_21 : decode cX9_strayed 21 = .ok (.if_icmp .ge 56, 3) := by decide +kernel
theorem dX9_strayed_24 : decode cX9_strayed 24 = .ok (.aload_n 0, 1) := by decide +kernel
theorem dX9_strayed_25 : decode cX9_strayed 25 = .ok (.getfield 34, 3) := by decide +kernel
theorem dX9_strayed_28 : decode cX9_strayed 28 = .ok (.aload_n 0, 1) := by decide +kernel
theorem dX9_strayed_29 : decode cX9_strayed 29 = .ok (.getfield 40, 3) := by decide +kernel
theorem dX9_strayed_32 : decode cX9_strayed 32 = .ok (.getfield 203, 3) := by decide +kernel
theorem dX9_strayed_35 : decode cX9_strayed 35 = .ok (.iload_n 1, 1) := by decide +kernel
theorem dX9_strayed_36 : decode cX9_strayed 36 = .ok (.iaload, 1) := by decide +kernel
theorem dX9_strayed_37 : decode cX9_strayed 37 = .ok (.aload_n 0, 1) := by decide +kernel
theorem dX9_strayed_38 : decode cX9_strayed 38 = .ok (.getfield 40, 3) := by decide +kernel
theorem dX9_strayed_41 : decode cX9_strayed 41 = .ok (.getfield 206, 3) := by decide +kernel
theorem dX9_strayed_44 : decode cX9_strayed 44 = .ok (.iload_n 1, 1) := by decide +kernel
theorem dX9_strayed_45 : decode cX9_strayed 45 = .ok (.iaload, 1) := by decide +kernel
theorem dX9_strayed_46 : decode cX9_strayed 46 = .ok (.aload_n 0, 1) := by decide +kernel
theorem dX9_strayed_47 : decode cX9_strayed 47 = .ok (.getfield 23, 3) := by decide +kernel
theorem dX9_strayed_50 : decode cX9_strayed 50 = .ok (.invokevirtual 178, 3) := by decide +kernel
theorem dX9_strayed_53 : decode cX9_strayed 53 = .ok (.aload_n 0, 1) := by decide +kernel
theorem dX9_strayed_54 : decode cX9_strayed 54 = .ok (.getfield 34, 3) := by decide +kernel
theorem dX9_strayed_57 : decode cX9_strayed 57 = .ok (.aload_n 0, 1) := by decide +kernel
theorem dX9_strayed_58 : decode cX9_strayed 58 = .ok (.getfield 23, 3) := by decide +kernel
theorem dX9_strayed_61 : decode cX9_strayed 61 = .ok (.invokevirtual 182, 3) := by decide +kernel
theorem dX9_strayed_64 : decode cX9_strayed 64 = .ok (.ifCond .le 7, 3) := by decide +kernel
theorem dX9_strayed_67 : decode cX9_strayed 67 = .ok (.iload_n 1, 1) := by decide +kernel
theorem dX9_strayed_68 : decode cX9_strayed 68 = .ok (.iconst 1, 1) := by decide +kernel
theorem dX9_strayed_69 : decode cX9_strayed 69 = .ok (.iadd, 1) := by decide +kernel
theorem dX9_strayed_70 : decode cX9_strayed 70 = .ok (.ireturn, 1) := by decide +kernel
theorem dX9_strayed_71 : decode cX9_strayed 71 = .ok (.iinc 1 1, 3) := by decide +kernel
theorem dX9_strayed_74 : decode cX9_strayed 74 = .ok (.goto (-61), 3) := by decide +kernel
theorem dX9_strayed_77 : decode cX9_strayed 77 = .ok (.bipush (-4), 2) := by decide +kernel
theorem dX9_strayed_79 : decode cX9_strayed 79 = .ok (.ireturn, 1) := by decide +kernel
def s_Top_strayed_L13 : Nat → Int32 → z_G → Option (Int32 × z_G)
  | 0, _, _ => none
  | n + 1, x1, g => (if (g 51 2) ≤ x1 then (some ((-4), g)) else (z_ck (z_inb x1 6) (z_ck (z_inb x1 6) (Option.bind (s_Col_obey 1 (z_rd g 52 x1) (z_rd g 53 x1) g) fun r10q => (Option.bind (s_Col_lostMen 1 r10q) fun r11q => (if r11q ≤ 0 then ((s_Top_strayed_L13 n) (x1 + 1) r10q) else (some ((x1 + 1), r10q))))))))
def s_Top_strayed (g : z_G) : Option (Int32 × z_G) := (s_Top_strayed_L13 z_F 0 (s_Col_copyFrom 1 0 g))
set_option maxHeartbeats 1000000 in
set_option maxRecDepth 20000 in
theorem b_Top_strayed_L13 {X : z_X} {E : z_ET} {o : z_G} (hE : z_EV X E cX9_strayed 2 RX9 6 148 71) {r : Int32 × z_G} (hret : ∀ (pc : Nat) (lv : List (Nat × Value)), decode cX9_strayed pc = .ok (.ireturn, 1) → z_V X E 2 r.2 o pc lv [.int r.1]) : ∀ (n : Nat) (x1 : Int32) (g : z_G), s_Top_strayed_L13 n x1 g = some r → z_V X E 2 g o 13 [(0, .ref (z_ad X 39)), (1, .int x1)] [] := by
  intro n
  induction n with
  | zero => intro x1 g h; exact z_none h
  | succ n ih =>
    intro x1 g h
    rw [s_Top_strayed_L13] at h
    refine z_iload_n hE 1 dX9_strayed_13 rfl ?_
    refine z_aload_n hE 0 dX9_strayed_14 rfl ?_
    refine z_get hE f_RX9_40 (by decide) e_39 rfl dX9_strayed_15 ?_
    refine z_get hE f_RX9_157 (by decide) e_51 rfl dX9_strayed_18 ?_
    refine z_icmp_ge hE 77 dX9_strayed_21 rfl (fun c7q => ?_) (fun c7q => ?_)
    · replace h := z_t c7q h
      refine z_bipush (v := (-4)) hE dX9_strayed_77 rfl ?_
      obtain rfl := Option.some.inj h
      exact hret _ _ dX9_strayed_79
    · replace h := z_f c7q h
      refine z_aload_n hE 0 dX9_strayed_24 rfl ?_
      refine z_get hE f_RX9_34 (by decide) e_39 rfl dX9_strayed_25 ?_
      refine z_aload_n hE 0 dX9_strayed_28 rfl ?_
      refine z_get hE f_RX9_40 (by decide) e_39 rfl dX9_strayed_29 ?_
      refine z_get hE f_RX9_203 (by decide) e_51 rfl dX9_strayed_32 ?_
      refine z_iload_n hE 1 dX9_strayed_35 rfl ?_
      obtain ⟨k8q, h⟩ := z_ck_some h
      refine z_iald hE (by decide) e_52 k8q dX9_strayed_36 ?_
      refine z_aload_n hE 0 dX9_strayed_37 rfl ?_
      refine z_get hE f_RX9_40 (by decide) e_39 rfl dX9_strayed_38 ?_
      refine z_get hE f_RX9_206 (by decide) e_51 rfl dX9_strayed_41 ?_
      refine z_iload_n hE 1 dX9_strayed_44 rfl ?_
      obtain ⟨k9q, h⟩ := z_ck_some h
      refine z_iald hE (by decide) e_53 k9q dX9_strayed_45 ?_
      refine z_aload_n hE 0 dX9_strayed_46 rfl ?_
      refine z_get hE f_RX9_23 (by decide) e_39 rfl dX9_strayed_47 ?_
      obtain ⟨r10q, hr10q, h⟩ := z_bind_some h
      refine z_vV (rest := []) (av := [.int (z_rd g 52 x1), .int (z_rd g 53 x1), .ref (z_ad X 43)]) hE (c_Col_obey 1 (z_rd g 52 x1) (z_rd g 53 x1) g (by decide) r10q hr10q) l_RX9_178 (by decide) (by decide) e_3 rfl ⟨by decide, by decide⟩ dX9_strayed_50 rfl (Nat.le_of_ble_eq_true rfl) ?_
      refine z_aload_n hE 0 dX9_strayed_53 rfl ?_
      refine z_get hE f_RX9_34 (by decide) e_39 rfl dX9_strayed_54 ?_
      refine z_aload_n hE 0 dX9_strayed_57 rfl ?_
      refine z_get hE f_RX9_23 (by decide) e_39 rfl dX9_strayed_58 ?_
      obtain ⟨r11q, hr11q, h⟩ := z_bind_some h
      refine z_iV (rest := []) (av := [.ref (z_ad X 43)]) hE (c_Col_lostMen 1 r10q (by decide) r11q hr11q) l_RX9_182 (by decide) (by decide) e_3 rfl ⟨by decide, by decide⟩ dX9_strayed_61 rfl (Nat.le_of_ble_eq_true rfl) ?_
      refine z_if_le hE 71 dX9_strayed_64 rfl (fun c12q => ?_) (fun c12q => ?_)
      · replace h := z_t c12q h
        refine z_iinc (v := x1 + 1) hE 1 [(1, .int (x1 + 1)), (0, .ref (z_ad X 39))] dX9_strayed_71 rfl rfl (by decide) rfl ?_
        refine z_goto hE 13 dX9_strayed_74 rfl ?_
        refine z_sub [(0, .ref (z_ad X 39)), (1, .int (x1 + 1))] [1, 0] rfl ?_
        exact ih (x1 + 1) r10q h
      · replace h := z_f c12q h
        refine z_iload_n hE 1 dX9_strayed_67 rfl ?_
        refine z_iconst (v := 1) hE dX9_strayed_68 rfl ?_
        refine z_iadd hE dX9_strayed_69 ?_
        obtain rfl := Option.some.inj h
        exact hret _ _ dX9_strayed_70
set_option maxHeartbeats 1000000 in
set_option maxRecDepth 20000 in
theorem c_Top_strayed {X : z_X} {l : Launch} {o : z_G} (g : z_G) (r : Int32 × z_G) (h : s_Top_strayed g = some r) : z_MI X l 71 yX9_strayed cX9_strayed 2 (some .int) 6 148 [.ref (z_ad X 39)] g o r.2 o r.1 := by
  unfold s_Top_strayed at h
  refine z_meti (ty := .int) rfl rfl (by decide) (Nat.le_of_ble_eq_true rfl) (fun E hl hE hret => ?_)
  subst hl
  refine z_aload_n hE 0 dX9_strayed_0 rfl ?_
  refine z_get hE f_RX9_34 (by decide) e_39 rfl dX9_strayed_1 ?_
  refine z_aload_n hE 0 dX9_strayed_4 rfl ?_
  refine z_get hE f_RX9_30 (by decide) e_39 rfl dX9_strayed_5 ?_
  refine z_vV (rest := []) (av := [.ref (z_ad X 0)]) hE (c_Col_copyFrom 1 0 g (by decide) (by decide)) l_RX9_213 (by decide) (by decide) e_3 rfl ⟨by decide, by decide⟩ dX9_strayed_8 rfl (Nat.le_of_ble_eq_true rfl) ?_
  refine z_iconst (v := 0) hE dX9_strayed_11 rfl ?_
  refine z_istore_n hE [(1, .int 0), (0, .ref (z_ad X 39))] dX9_strayed_12 rfl (by decide) rfl ?_
  refine z_sub [(0, .ref (z_ad X 39)), (1, .int 0)] [1, 0] rfl ?_
  exact b_Top_strayed_L13 hE hret z_F 0 (s_Col_copyFrom 1 0 g) h
theorem dX2_setOut_0 : decode cX2_setOut 0 = .ok (.aload_n 0, 1) := by decide +kernel
theorem dX2_setOut_1 : decode cX2_setOut 1 = .ok (.iload_n 1, 1) := by decide +kernel
theorem dX2_setOut_2 : decode cX2_setOut 2 = .ok (.putfield 15, 3) := by decide +kernel
theorem dX2_setOut_5 : decode cX2_setOut 5 = .ok (.aload_n 0, 1) := by decide +kernel
theorem dX2_setOut_6 : decode cX2_setOut 6 = .ok (.iload_n 2, 1) := by decide +kernel
theorem dX2_setOut_7 : decode cX2_setOut 7 = .ok (.putfield 19, 3) := by decide +kernel
theorem dX2_setOut_10 : decode cX2_setOut 10 = .ok (.aload_n 0, 1) := by decide +kernel
theorem dX2_setOut_11 : decode cX2_setOut 11 = .ok (.iload_n 3, 1) := by decide +kernel
theorem dX2_setOut_12 : decode cX2_setOut 12 = .ok (.putfield 22, 3) := by decide +kernel
theorem dX2_setOut_15 : decode cX2_setOut 15 = .ok (.return_, 1) := by decide +kernel
def s_Guide_setOut (x1 : Int32) (x2 : Int32) (x3 : Int32) (g : z_G) : z_G := (z_let (α := z_G) (z_up g 65 1 x1) fun g4q => (z_let (α := z_G) (z_up g4q 65 2 x2) fun g5q => (z_let (α := z_G) (z_up g5q 65 3 x3) fun g6q => g6q)))
set_option maxHeartbeats 1000000 in
set_option maxRecDepth 20000 in
theorem c_Guide_setOut {X : z_X} {l : Launch} {o : z_G} (x1 : Int32) (x2 : Int32) (x3 : Int32) (g : z_G) : z_MV X l 71 yX2_setOut cX2_setOut 4 none 0 0 [.ref (z_ad X 65), .int x1, .int x2, .int x3] g o (s_Guide_setOut x1 x2 x3 g) o := by
  obtain ⟨r, h⟩ : ∃ r, s_Guide_setOut x1 x2 x3 g = r := ⟨_, rfl⟩
  rw [h]
  unfold s_Guide_setOut at h
  refine z_metv (by decide) (Nat.le_of_ble_eq_true rfl) (fun E hl hE hret => ?_)
  subst hl
  refine z_aload_n hE 0 dX2_setOut_0 rfl ?_
  refine z_iload_n hE 1 dX2_setOut_1 rfl ?_
  obtain ⟨g4q, eg4q, h⟩ := z_let_eq h
  refine z_put hE f_RX2_15 ft_2 (by decide) e_65 rfl (tyX2_ok 1 (by decide)) rfl rfl (Nat.le_of_ble_eq_true rfl) (u_65_1 eg4q) dX2_setOut_2 ?_
  refine z_aload_n hE 0 dX2_setOut_5 rfl ?_
  refine z_iload_n hE 2 dX2_setOut_6 rfl ?_
  obtain ⟨g5q, eg5q, h⟩ := z_let_eq h
  refine z_put hE f_RX2_19 ft_2 (by decide) e_65 rfl (tyX2_ok 2 (by decide)) rfl rfl (Nat.le_of_ble_eq_true rfl) (u_65_2 eg5q) dX2_setOut_7 ?_
  refine z_aload_n hE 0 dX2_setOut_10 rfl ?_
  refine z_iload_n hE 3 dX2_setOut_11 rfl ?_
  obtain ⟨g6q, eg6q, h⟩ := z_let_eq h
  refine z_put hE f_RX2_22 ft_2 (by decide) e_65 rfl (tyX2_ok 3 (by decide)) rfl rfl (Nat.le_of_ble_eq_true rfl) (u_65_3 eg6q) dX2_setOut_12 ?_
  subst h
  exact hret _ _ dX2_setOut_15
theorem dX2_leads_0 : decode cX2_leads 0 = .ok (.iload 4, 2) := by decide +kernel
theorem dX2_leads_2 : decode cX2_leads 2 = .ok (.iload_n 3, 1) := by decide +kernel
theorem dX2_leads_3 : decode cX2_leads 3 = .ok (.isub, 1) := by decide +kernel
theorem dX2_leads_4 : decode cX2_leads 4 = .ok (.istore 5, 2) := by decide +kernel
theorem dX2_leads_6 : decode cX2_leads 6 = .ok (.iload 5, 2) := by decide +kernel
theorem dX2_leads_8 : decode cX2_leads 8 = .ok (.ifCond .le 8, 3) := by decide +kernel
theorem dX2_leads_11 : decode cX2_leads 11 = .ok (.iload_n 3, 1) := by decide +kernel
theorem dX2_leads_12 : decode cX2_leads 12 = .ok (.iconst 3, 1) := by decide +kernel
theorem dX2_leads_13 : decode cX2_leads 13 = .ok (.if_icmp .lt 20, 3) := by decide +kernel
theorem dX2_leads_16 : decode cX2_leads 16 = .ok (.iload_n 1, 1) := by decide +kernel
theorem dX2_leads_17 : decode cX2_leads 17 = .ok (.invokestatic 29, 3) := by decide +kernel
theorem dX2_leads_20 : decode cX2_leads 20 = .ok (.aload_n 0, 1) := by decide +kernel
theorem dX2_leads_21 : decode cX2_leads 21 = .ok (.getfield 15, 3) := by decide +kernel
theorem dX2_leads_24 : decode cX2_leads 24 = .ok (.if_icmp .ne 7, 3) := by decide +kernel
theorem dX2_leads_27 : decode cX2_leads 27 = .ok (.iconst 1, 1) := by decide +kernel
theorem dX2_leads_28 : decode cX2_leads 28 = .ok (.goto 4, 3) := by decide +kernel
theorem dX2_leads_31 : decode cX2_leads 31 = .ok (.iconst 0, 1) := by decide +kernel
theorem dX2_leads_32 : decode cX2_leads 32 = .ok (.ireturn, 1) := by decide +kernel
theorem dX2_leads_33 : decode cX2_leads 33 = .ok (.iload_n 1, 1) := by decide +kernel
theorem dX2_leads_34 : decode cX2_leads 34 = .ok (.invokestatic 29, 3) := by decide +kernel
theorem dX2_leads_37 : decode cX2_leads 37 = .ok (.aload_n 0, 1) := by decide +kernel
theorem dX2_leads_38 : decode cX2_leads 38 = .ok (.getfield 15, 3) := by decide +kernel
theorem dX2_leads_41 : decode cX2_leads 41 = .ok (.invokestatic 35, 3) := by decide +kernel
theorem dX2_leads_44 : decode cX2_leads 44 = .ok (.iconst 3, 1) := by decide +kernel
theorem dX2_leads_45 : decode cX2_leads 45 = .ok (.iload 5, 2) := by decide +kernel
theorem dX2_leads_47 : decode cX2_leads 47 = .ok (.imul, 1) := by decide +kernel
theorem dX2_leads_48 : decode cX2_leads 48 = .ok (.if_icmp .le 5, 3) := by decide +kernel
theorem dX2_leads_51 : decode cX2_leads 51 = .ok (.iconst 0, 1) := by decide +kernel
theorem dX2_leads_52 : decode cX2_leads 52 = .ok (.ireturn, 1) := by decide +kernel
theorem dX2_leads_53 : decode cX2_leads 53 = .ok (.iconst 0, 1) := by decide +kernel
theorem dX2_leads_54 : decode cX2_leads 54 = .ok (.istore 6, 2) := by decide +kernel
theorem dX2_leads_56 : decode cX2_leads 56 = .ok (.iload 6, 2) := by decide +kernel
theorem dX2_leads_58 : decode cX2_leads 58 = .ok (.bipush 8, 2) := by decide +kernel
theorem dX2_leads_60 : decode cX2_leads 60 = .ok (.if_icmp .ge 78, 3) := by decide +kernel
theorem dX2_leads_63 : decode cX2_leads 63 = .ok (.iconst 1, 1) := by decide +kernel
theorem dX2_leads_64 : decode cX2_leads 64 = .ok (.istore 7, 2) := by decide +kernel
theorem dX2_leads_66 : decode cX2_leads 66 = .ok (.iload 7, 2) := by decide +kernel
theorem dX2_leads_68 : decode cX2_leads 68 = .ok (.iconst 3, 1) := by decide +kernel
theorem dX2_leads_69 : decode cX2_leads 69 = .ok (.if_icmp .gt 63, 3) := by decide +kernel
theorem dX2_leads_72 : decode cX2_leads 72 = .ok (.iload_n 1, 1) := by decide +kernel
theorem dX2_leads_73 : decode cX2_leads 73 = .ok (.iload 6, 2) := by decide +kernel
theorem dX2_leads_75 : decode cX2_leads 75 = .ok (.iload 7, 2) := by decide +kernel
theorem dX2_leads_77 : decode cX2_leads 77 = .ok (.aload_n 0, 1) := by decide +kernel
theorem dX2_leads_78 : decode cX2_leads 78 = .ok (.getfield 19, 3) := by decide +kernel
theorem dX2_leads_81 : decode cX2_leads 81 = .ok (.aload_n 0, 1) := by decide +kernel
theorem dX2_leads_82 : decode cX2_leads 82 = .ok (.getfield 22, 3) := by decide +kernel
theorem dX2_leads_85 : decode cX2_leads 85 = .ok (.iload_n 2, 1) := by decide +kernel
theorem dX2_leads_86 : decode cX2_leads 86 = .ok (.iconst 1, 1) := by decide +kernel
theorem dX2_leads_87 : decode cX2_leads 87 = .ok (.iadd, 1) := by decide +kernel
theorem dX2_leads_88 : decode cX2_leads 88 = .ok (.invokestatic 39, 3) := by decide +kernel
theorem dX2_leads_91 : decode cX2_leads 91 = .ok (.istore 8, 2) := by decide +kernel
theorem dX2_leads_93 : decode cX2_leads 93 = .ok (.aload_n 0, 1) := by decide +kernel
theorem dX2_leads_94 : decode cX2_leads 94 = .ok (.iload 8, 2) := by decide +kernel
theorem dX2_leads_96 : decode cX2_leads 96 = .ok (.iload_n 2, 1) := by decide +kernel
theorem dX2_leads_97 : decode cX2_leads 97 = .ok (.iconst 1, 1) := by decide +kernel
theorem dX2_leads_98 : decode cX2_leads 98 = .ok (.iadd, 1) := by decide +kernel
theorem dX2_leads_99 : decode cX2_leads 99 = .ok (.iload_n 3, 1) := by decide +kernel
theorem dX2_leads_100 : decode cX2_leads 100 = .ok (.iconst 1, 1) := by decide +kernel
theorem dX2_leads_101 : decode cX2_leads 101 = .ok (.iadd, 1) := by decide +kernel
theorem dX2_leads_102 : decode cX2_leads 102 = .ok (.iload 4, 2) := by decide +kernel
theorem dX2_leads_104 : decode cX2_leads 104 = .ok (.invokevirtual 25, 3) := by decide +kernel
theorem dX2_leads_107 : decode cX2_leads 107 = .ok (.ifCond .eq 19, 3) := by decide +kernel
theorem dX2_leads_110 : decode cX2_leads 110 = .ok (.aload_n 0, 1) := by decide +kernel
theorem dX2_leads_111 : decode cX2_leads 111 = .ok (.getfield 9, 3) := by decide +kernel
theorem dX2_leads_114 : decode cX2_leads 114 = .ok (.iload_n 3, 1) := by decide +kernel
theorem dX2_leads_115 : decode cX2_leads 115 = .ok (.bipush 10, 2) := by decide +kernel
theorem dX2_leads_117 : decode cX2_leads 117 = .ok (.iload 6, 2) := by decide +kernel
theorem dX2_leads_119 : decode cX2_leads 119 = .ok (.imul, 1) := by decide +kernel
theorem dX2_leads_120 : decode cX2_leads 120 = .ok (.iload 7, 2) := by decide +kernel
theorem dX2_leads_122 : decode cX2_leads 122 = .ok (.iadd, 1) := by decide +kernel
theorem dX2_leads_123 : decode cX2_leads 123 = .ok (.iastore, 1) := by decide +kernel
theorem dX2_leads_124 : decode cX2_leads 124 = .ok (.iconst 1, 1) := by decide +kernel
theorem dX2_leads_125 : decode cX2_leads 125 = .ok (.ireturn, 1) := by decide +kernel
theorem dX2_leads_126 : decode cX2_leads 126 = .ok (.iinc 7 1, 3) := by decide +kernel
theorem dX2_leads_129 : decode cX2_leads 129 = .ok (.goto (-63), 3) := by decide +kernel
theorem dX2_leads_132 : decode cX2_leads 132 = .ok (.iinc 6 1, 3) := by decide +kernel
theorem dX2_leads_135 : decode cX2_leads 135 = .ok (.goto (-79), 3) := by decide +kernel
theorem dX2_leads_138 : decode cX2_leads 138 = .ok (.iconst 0, 1) := by decide +kernel
theorem dX2_leads_139 : decode cX2_leads 139 = .ok (.ireturn, 1) := by decide +kernel
def s_Guide_leads_b16 (rec : Int32 → Int32 → Int32 → Int32 → z_G → Option (Int32 × z_G)) (x1 : Int32) (g : z_G) : Option (Int32 × z_G) := (if (s_Ways_cellOf x1) = (g 65 1) then (some (1, g)) else (some (0, g)))
def s_Guide_leads_L66 (rec : Int32 → Int32 → Int32 → Int32 → z_G → Option (Int32 × z_G)) (k56 : Int32 → Int32 → Int32 → Int32 → Int32 → z_G → Option (Int32 × z_G)) : Nat → Int32 → Int32 → Int32 → Int32 → Int32 → Int32 → z_G → Option (Int32 × z_G)
  | 0, _, _, _, _, _, _, _ => none
  | n + 1, x1, x2, x3, x4, x6, x7, g => (if 3 < x7 then (k56 x1 x2 x3 x4 (x6 + 1) g) else (Option.bind (s_Ways_ordered x1 x6 x7 (g 65 2) (g 65 3) (x2 + 1)) fun r14q => (Option.bind (rec r14q (x2 + 1) (x3 + 1) x4 g) fun r15q => (if r15q.1 = 0 then ((s_Guide_leads_L66 rec k56 n) x1 x2 x3 x4 x6 (x7 + 1) r15q.2) else (z_ck (z_inb x3 3) (z_let (α := z_G) (z_wr r15q.2 66 x3 ((10 * x6) + x7)) fun g18q => (some (1, g18q))))))))
def s_Guide_leads_L56 (rec : Int32 → Int32 → Int32 → Int32 → z_G → Option (Int32 × z_G)) : Nat → Int32 → Int32 → Int32 → Int32 → Int32 → z_G → Option (Int32 × z_G)
  | 0, _, _, _, _, _, _ => none
  | n + 1, x1, x2, x3, x4, x6, g => (if 8 ≤ x6 then (some (0, g)) else (s_Guide_leads_L66 rec (s_Guide_leads_L56 rec n) z_F x1 x2 x3 x4 x6 1 g))
def s_Guide_leads : Nat → Int32 → Int32 → Int32 → Int32 → z_G → Option (Int32 × z_G)
  | 0, _, _, _, _, _ => none
  | d + 1, x1, x2, x3, x4, g => (if (x4 - x3) ≤ 0 then (s_Guide_leads_b16 (s_Guide_leads d) x1 g) else (if x3 < 3 then (if (s_Ways_apart (s_Ways_cellOf x1) (g 65 1)) ≤ (3 * (x4 - x3)) then (s_Guide_leads_L56 (s_Guide_leads d) z_F x1 x2 x3 x4 0 g) else (some (0, g))) else (s_Guide_leads_b16 (s_Guide_leads d) x1 g)))
set_option maxHeartbeats 1000000 in
set_option maxRecDepth 20000 in
theorem b_Guide_leads_b16 {X : z_X} {E : z_ET} {o : z_G} {d : Nat} (hE : z_EV X E cX2_leads 9 RX2 (5 + (d + 1)) (124 + 28 * (d + 1)) 71) {r : Int32 × z_G} (hret : ∀ (pc : Nat) (lv : List (Nat × Value)), z_bit r.1 = true → decode cX2_leads pc = .ok (.ireturn, 1) → z_V X E 9 r.2 o pc lv [.int r.1]) {rec : Int32 → Int32 → Int32 → Int32 → z_G → Option (Int32 × z_G)} (hrec : ∀ (x1 : Int32) (x2 : Int32) (x3 : Int32) (x4 : Int32) (g : z_G) (r : Int32 × z_G), rec x1 x2 x3 x4 g = some r → z_MI X E.2.1 71 yX2_leads cX2_leads 9 (some .boolean) (5 + d) (124 + 28 * d) [.ref (z_ad X 65), .int x1, .int x2, .int x3, .int x4] g o r.2 o r.1) (x1 : Int32) (g : z_G)  (h : s_Guide_leads_b16 rec x1 g = some r) : z_V X E 9 g o 16 [(0, .ref (z_ad X 65)), (1, .int x1)] [] := by
  unfold s_Guide_leads_b16 at h
  refine z_iload_n hE 1 dX2_leads_16 rfl ?_
  refine z_iS (rest := []) (av := [.int x1]) hE (c_Ways_cellOf x1 g) l_RX2_29 (by decide) ⟨by omega, by omega⟩ dX2_leads_17 rfl (Nat.le_of_ble_eq_true rfl) ?_
  refine z_aload_n hE 0 dX2_leads_20 rfl ?_
  refine z_get hE f_RX2_15 (by decide) e_65 rfl dX2_leads_21 ?_
  refine z_icmp_ne hE 31 dX2_leads_24 rfl (fun c12q => ?_) (fun c12q => ?_)
  · replace h := z_f c12q h
    refine z_iconst (v := 0) hE dX2_leads_31 rfl ?_
    obtain rfl := Option.some.inj h
    exact hret _ _ z_b0 dX2_leads_32
  · replace h := z_t c12q h
    refine z_iconst (v := 1) hE dX2_leads_27 rfl ?_
    refine z_goto hE 32 dX2_leads_28 rfl ?_
    obtain rfl := Option.some.inj h
    exact hret _ _ z_b1 dX2_leads_32
set_option maxHeartbeats 1000000 in
set_option maxRecDepth 20000 in
theorem b_Guide_leads_L66 {X : z_X} {E : z_ET} {o : z_G} {d : Nat} (hE : z_EV X E cX2_leads 9 RX2 (5 + (d + 1)) (124 + 28 * (d + 1)) 71) {r : Int32 × z_G} (hret : ∀ (pc : Nat) (lv : List (Nat × Value)), z_bit r.1 = true → decode cX2_leads pc = .ok (.ireturn, 1) → z_V X E 9 r.2 o pc lv [.int r.1]) {rec : Int32 → Int32 → Int32 → Int32 → z_G → Option (Int32 × z_G)} (hrec : ∀ (x1 : Int32) (x2 : Int32) (x3 : Int32) (x4 : Int32) (g : z_G) (r : Int32 × z_G), rec x1 x2 x3 x4 g = some r → z_MI X E.2.1 71 yX2_leads cX2_leads 9 (some .boolean) (5 + d) (124 + 28 * d) [.ref (z_ad X 65), .int x1, .int x2, .int x3, .int x4] g o r.2 o r.1) (k56 : Int32 → Int32 → Int32 → Int32 → Int32 → z_G → Option (Int32 × z_G)) (hk56 : ∀ (x1 : Int32) (x2 : Int32) (x3 : Int32) (x4 : Int32) (x6 : Int32) (g : z_G), k56 x1 x2 x3 x4 x6 g = some r → z_V X E 9 g o 56 [(0, .ref (z_ad X 65)), (1, .int x1), (2, .int x2), (3, .int x3), (4, .int x4), (6, .int x6)] []) : ∀ (n : Nat) (x1 : Int32) (x2 : Int32) (x3 : Int32) (x4 : Int32) (x6 : Int32) (x7 : Int32) (g : z_G), s_Guide_leads_L66 rec k56 n x1 x2 x3 x4 x6 x7 g = some r → z_V X E 9 g o 66 [(0, .ref (z_ad X 65)), (1, .int x1), (2, .int x2), (3, .int x3), (4, .int x4), (6, .int x6), (7, .int x7)] [] := by
  intro n
  induction n with
  | zero => intro x1 x2 x3 x4 x6 x7 g h; exact z_none h
  | succ n ih =>
    intro x1 x2 x3 x4 x6 x7 g h
    rw [s_Guide_leads_L66] at h
    refine z_iload hE 6 dX2_leads_66 rfl ?_
    refine z_iconst (v := 3) hE dX2_leads_68 rfl ?_
    refine z_icmp_gt hE 132 dX2_leads_69 rfl (fun c13q => ?_) (fun c13q => ?_)
    · replace h := z_t c13q h
      refine z_iinc (v := x6 + 1) hE 5 [(6, .int (x6 + 1)), (0, .ref (z_ad X 65)), (1, .int x1), (2, .int x2), (3, .int x3), (4, .int x4), (7, .int x7)] dX2_leads_132 rfl rfl (by decide) rfl ?_
      refine z_goto hE 56 dX2_leads_135 rfl ?_
      refine z_sub [(0, .ref (z_ad X 65)), (1, .int x1), (2, .int x2), (3, .int x3), (4, .int x4), (6, .int (x6 + 1))] [1, 2, 3, 4, 5, 0] rfl ?_
      exact hk56 x1 x2 x3 x4 (x6 + 1) g h
    · replace h := z_f c13q h
      refine z_iload_n hE 1 dX2_leads_72 rfl ?_
      refine z_iload hE 5 dX2_leads_73 rfl ?_
      refine z_iload hE 6 dX2_leads_75 rfl ?_
      refine z_aload_n hE 0 dX2_leads_77 rfl ?_
      refine z_get hE f_RX2_19 (by decide) e_65 rfl dX2_leads_78 ?_
      refine z_aload_n hE 0 dX2_leads_81 rfl ?_
      refine z_get hE f_RX2_22 (by decide) e_65 rfl dX2_leads_82 ?_
      refine z_iload_n hE 2 dX2_leads_85 rfl ?_
      refine z_iconst (v := 1) hE dX2_leads_86 rfl ?_
      refine z_iadd hE dX2_leads_87 ?_
      obtain ⟨r14q, hr14q, h⟩ := z_bind_some h
      refine z_iS (rest := []) (av := [.int x1, .int x6, .int x7, .int (g 65 2), .int (g 65 3), .int (x2 + 1)]) hE (c_Ways_ordered x1 x6 x7 (g 65 2) (g 65 3) (x2 + 1) g r14q hr14q) l_RX2_39 (by decide) ⟨by omega, by omega⟩ dX2_leads_88 rfl (Nat.le_of_ble_eq_true rfl) ?_
      refine z_istore hE [(8, .int r14q), (0, .ref (z_ad X 65)), (1, .int x1), (2, .int x2), (3, .int x3), (4, .int x4), (6, .int x6), (7, .int x7)] dX2_leads_91 (by decide) rfl ?_
      refine z_aload_n hE 1 dX2_leads_93 rfl ?_
      refine z_iload hE 0 dX2_leads_94 rfl ?_
      refine z_iload_n hE 3 dX2_leads_96 rfl ?_
      refine z_iconst (v := 1) hE dX2_leads_97 rfl ?_
      refine z_iadd hE dX2_leads_98 ?_
      refine z_iload_n hE 4 dX2_leads_99 rfl ?_
      refine z_iconst (v := 1) hE dX2_leads_100 rfl ?_
      refine z_iadd hE dX2_leads_101 ?_
      refine z_iload hE 5 dX2_leads_102 rfl ?_
      obtain ⟨r15q, hr15q, h⟩ := z_bind_some h
      refine z_iV (rest := []) (av := [.int r14q, .int (x2 + 1), .int (x3 + 1), .int x4]) hE (hrec r14q (x2 + 1) (x3 + 1) x4 g r15q hr15q) l_RX2_25 (by decide) (by decide) e_65 rfl ⟨by omega, by omega⟩ dX2_leads_104 rfl (Nat.le_of_ble_eq_true rfl) ?_
      refine z_if_eq hE 126 dX2_leads_107 rfl (fun c16q => ?_) (fun c16q => ?_)
      · replace h := z_t c16q h
        refine z_iinc (v := x7 + 1) hE 7 [(7, .int (x7 + 1)), (8, .int r14q), (0, .ref (z_ad X 65)), (1, .int x1), (2, .int x2), (3, .int x3), (4, .int x4), (6, .int x6)] dX2_leads_126 rfl rfl (by decide) rfl ?_
        refine z_goto hE 66 dX2_leads_129 rfl ?_
        refine z_sub [(0, .ref (z_ad X 65)), (1, .int x1), (2, .int x2), (3, .int x3), (4, .int x4), (6, .int x6), (7, .int (x7 + 1))] [2, 3, 4, 5, 6, 7, 0] rfl ?_
        exact ih x1 x2 x3 x4 x6 (x7 + 1) r15q.2 h
      · replace h := z_f c16q h
        refine z_aload_n hE 1 dX2_leads_110 rfl ?_
        refine z_get hE f_RX2_9 (by decide) e_65 rfl dX2_leads_111 ?_
        refine z_iload_n hE 4 dX2_leads_114 rfl ?_
        refine z_bipush (v := 10) hE dX2_leads_115 rfl ?_
        refine z_iload hE 6 dX2_leads_117 rfl ?_
        refine z_imul hE dX2_leads_119 ?_
        refine z_iload hE 7 dX2_leads_120 rfl ?_
        refine z_iadd hE dX2_leads_122 ?_
        obtain ⟨k17q, h⟩ := z_ck_some h
        obtain ⟨g18q, eg18q, h⟩ := z_let_eq h
        refine z_iast hE (by decide) e_66 k17q (ua_66 eg18q) dX2_leads_123 ?_
        refine z_iconst (v := 1) hE dX2_leads_124 rfl ?_
        obtain rfl := Option.some.inj h
        exact hret _ _ z_b1 dX2_leads_125
set_option maxHeartbeats 1000000 in
set_option maxRecDepth 20000 in
theorem b_Guide_leads_L56 {X : z_X} {E : z_ET} {o : z_G} {d : Nat} (hE : z_EV X E cX2_leads 9 RX2 (5 + (d + 1)) (124 + 28 * (d + 1)) 71) {r : Int32 × z_G} (hret : ∀ (pc : Nat) (lv : List (Nat × Value)), z_bit r.1 = true → decode cX2_leads pc = .ok (.ireturn, 1) → z_V X E 9 r.2 o pc lv [.int r.1]) {rec : Int32 → Int32 → Int32 → Int32 → z_G → Option (Int32 × z_G)} (hrec : ∀ (x1 : Int32) (x2 : Int32) (x3 : Int32) (x4 : Int32) (g : z_G) (r : Int32 × z_G), rec x1 x2 x3 x4 g = some r → z_MI X E.2.1 71 yX2_leads cX2_leads 9 (some .boolean) (5 + d) (124 + 28 * d) [.ref (z_ad X 65), .int x1, .int x2, .int x3, .int x4] g o r.2 o r.1) : ∀ (n : Nat) (x1 : Int32) (x2 : Int32) (x3 : Int32) (x4 : Int32) (x6 : Int32) (g : z_G), s_Guide_leads_L56 rec n x1 x2 x3 x4 x6 g = some r → z_V X E 9 g o 56 [(0, .ref (z_ad X 65)), (1, .int x1), (2, .int x2), (3, .int x3), (4, .int x4), (6, .int x6)] [] := by
  intro n
  induction n with
  | zero => intro x1 x2 x3 x4 x6 g h; exact z_none h
  | succ n ih =>
    intro x1 x2 x3 x4 x6 g h
    rw [s_Guide_leads_L56] at h
    refine z_iload hE 5 dX2_leads_56 rfl ?_
    refine z_bipush (v := 8) hE dX2_leads_58 rfl ?_
    refine z_icmp_ge hE 138 dX2_leads_60 rfl (fun c19q => ?_) (fun c19q => ?_)
    · replace h := z_t c19q h
      refine z_iconst (v := 0) hE dX2_leads_138 rfl ?_
      obtain rfl := Option.some.inj h
      exact hret _ _ z_b0 dX2_leads_139
    · replace h := z_f c19q h
      refine z_iconst (v := 1) hE dX2_leads_63 rfl ?_
      refine z_istore hE [(7, .int 1), (0, .ref (z_ad X 65)), (1, .int x1), (2, .int x2), (3, .int x3), (4, .int x4), (6, .int x6)] dX2_leads_64 (by decide) rfl ?_
      refine z_sub [(0, .ref (z_ad X 65)), (1, .int x1), (2, .int x2), (3, .int x3), (4, .int x4), (6, .int x6), (7, .int 1)] [1, 2, 3, 4, 5, 6, 0] rfl ?_
      exact b_Guide_leads_L66 hE hret hrec (s_Guide_leads_L56 rec n) ih z_F x1 x2 x3 x4 x6 1 g h
set_option maxHeartbeats 1000000 in
set_option maxRecDepth 20000 in
theorem c_Guide_leads {X : z_X} {l : Launch} {o : z_G} : ∀ (d : Nat) (x1 : Int32) (x2 : Int32) (x3 : Int32) (x4 : Int32) (g : z_G) (r : Int32 × z_G), s_Guide_leads d x1 x2 x3 x4 g = some r → z_MI X l 71 yX2_leads cX2_leads 9 (some .boolean) (5 + d) (124 + 28 * d) [.ref (z_ad X 65), .int x1, .int x2, .int x3, .int x4] g o r.2 o r.1 := by
  intro d
  induction d with
  | zero => intro x1 x2 x3 x4 g r h; exact z_none h
  | succ d hrec =>
    intro x1 x2 x3 x4 g r h
    rw [s_Guide_leads] at h
    refine z_metz (by decide) (Nat.le_of_ble_eq_true rfl) (fun E hl hE hret => ?_)
    subst hl
    refine z_iload hE 4 dX2_leads_0 rfl ?_
    refine z_iload_n hE 3 dX2_leads_2 rfl ?_
    refine z_isub hE dX2_leads_3 ?_
    refine z_istore hE [(5, .int (x4 - x3)), (0, .ref (z_ad X 65)), (1, .int x1), (2, .int x2), (3, .int x3), (4, .int x4)] dX2_leads_4 (by decide) rfl ?_
    refine z_iload hE 0 dX2_leads_6 rfl ?_
    refine z_if_le hE 16 dX2_leads_8 rfl (fun c20q => ?_) (fun c20q => ?_)
    · replace h := z_t c20q h
      refine z_sub [(0, .ref (z_ad X 65)), (1, .int x1)] [1, 2] rfl ?_
      exact b_Guide_leads_b16 hE hret hrec x1 g h
    · replace h := z_f c20q h
      refine z_iload_n hE 4 dX2_leads_11 rfl ?_
      refine z_iconst (v := 3) hE dX2_leads_12 rfl ?_
      refine z_icmp_lt hE 33 dX2_leads_13 rfl (fun c21q => ?_) (fun c21q => ?_)
      · replace h := z_t c21q h
        refine z_iload_n hE 2 dX2_leads_33 rfl ?_
        refine z_iS (rest := []) (av := [.int x1]) hE (c_Ways_cellOf x1 g) l_RX2_29 (by decide) ⟨by omega, by omega⟩ dX2_leads_34 rfl (Nat.le_of_ble_eq_true rfl) ?_
        refine z_aload_n hE 1 dX2_leads_37 rfl ?_
        refine z_get hE f_RX2_15 (by decide) e_65 rfl dX2_leads_38 ?_
        refine z_iS (rest := []) (av := [.int (s_Ways_cellOf x1), .int (g 65 1)]) hE (c_Ways_apart (s_Ways_cellOf x1) (g 65 1) g) l_RX2_35 (by decide) ⟨by omega, by omega⟩ dX2_leads_41 rfl (Nat.le_of_ble_eq_true rfl) ?_
        refine z_iconst (v := 3) hE dX2_leads_44 rfl ?_
        refine z_iload hE 0 dX2_leads_45 rfl ?_
        refine z_imul hE dX2_leads_47 ?_
        refine z_icmp_le hE 53 dX2_leads_48 rfl (fun c22q => ?_) (fun c22q => ?_)
        · replace h := z_t c22q h
          refine z_iconst (v := 0) hE dX2_leads_53 rfl ?_
          refine z_istore hE [(6, .int 0), (5, .int (x4 - x3)), (0, .ref (z_ad X 65)), (1, .int x1), (2, .int x2), (3, .int x3), (4, .int x4)] dX2_leads_54 (by decide) rfl ?_
          refine z_sub [(0, .ref (z_ad X 65)), (1, .int x1), (2, .int x2), (3, .int x3), (4, .int x4), (6, .int 0)] [2, 3, 4, 5, 6, 0] rfl ?_
          exact b_Guide_leads_L56 hE hret hrec z_F x1 x2 x3 x4 0 g h
        · replace h := z_f c22q h
          refine z_iconst (v := 0) hE dX2_leads_51 rfl ?_
          obtain rfl := Option.some.inj h
          exact hret _ _ z_b0 dX2_leads_52
      · replace h := z_f c21q h
        refine z_sub [(0, .ref (z_ad X 65)), (1, .int x1)] [1, 2] rfl ?_
        exact b_Guide_leads_b16 hE hret hrec x1 g h
theorem dX2_fewestOrders_0 : decode cX2_fewestOrders 0 = .ok (.iconst 0, 1) := by decide +kernel
theorem dX2_fewestOrders_1 : decode cX2_fewestOrders 1 = .ok (.istore_n 3, 1) := by decide +kernel
theorem dX2_fewestOrders_2 : decode cX2_fewestOrders 2 = .ok (.iload_n 3, 1) := by decide +kernel
theorem dX2_fewestOrders_3 : decode cX2_fewestOrders 3 = .ok (.iconst 3, 1) := by decide +kernel
theorem dX2_fewestOrders_4 : decode cX2_fewestOrders 4 = .ok (.if_icmp .gt 22, 3) := by decide +kernel
theorem dX2_fewestOrders_7 : decode cX2_fewestOrders 7 = .ok (.aload_n 0, 1) := by decide +kernel
theorem dX2_fewestOrders_8 : decode cX2_fewestOrders 8 = .ok (.iload_n 1, 1) := by decide +kernel
theorem dX2_fewestOrders_9 : decode cX2_fewestOrders 9 = .ok (.iload_n 2, 1) := by decide +kernel
theorem dX2_fewestOrders_10 : decode cX2_fewestOrders 10 = .ok (.iconst 0, 1) := by decide +kernel
theorem dX2_fewestOrders_11 : decode cX2_fewestOrders 11 = .ok (.iload_n 3, 1) := by decide +kernel
theorem dX2_fewestOrders_12 : decode cX2_fewestOrders 12 = .ok (.invokevirtual 25, 3) := by decide +kernel
theorem dX2_fewestOrders_15 : decode cX2_fewestOrders 15 = .ok (.ifCond .eq 5, 3) := by decide +kernel
theorem dX2_fewestOrders_18 : decode cX2_fewestOrders 18 = .ok (.iload_n 3, 1) := by decide +kernel
theorem dX2_fewestOrders_19 : decode cX2_fewestOrders 19 = .ok (.ireturn, 1) := by decide +kernel
theorem dX2_fewestOrders_20 : decode cX2_fewestOrders 20 = .ok (.iinc 3 1, 3) := by decide +kernel
theorem dX2_fewestOrders_23 : decode cX2_fewestOrders 23 = .ok (.goto (-21), 3) := by decide +kernel
theorem dX2_fewestOrders_26 : decode cX2_fewestOrders 26 = .ok (.bipush (-4), 2) := by decide +kernel
theorem dX2_fewestOrders_28 : decode cX2_fewestOrders 28 = .ok (.ireturn, 1) := by decide +kernel
def s_Guide_fewestOrders_L2 : Nat → Int32 → Int32 → Int32 → z_G → Option (Int32 × z_G)
  | 0, _, _, _, _ => none
  | n + 1, x1, x2, x3, g => (if 3 < x3 then (some ((-4), g)) else (Option.bind (s_Guide_leads 8 x1 x2 0 x3 g) fun r5q => (if r5q.1 = 0 then ((s_Guide_fewestOrders_L2 n) x1 x2 (x3 + 1) r5q.2) else (some (x3, r5q.2)))))
def s_Guide_fewestOrders (x1 : Int32) (x2 : Int32) (g : z_G) : Option (Int32 × z_G) := (s_Guide_fewestOrders_L2 z_F x1 x2 0 g)
set_option maxHeartbeats 1000000 in
set_option maxRecDepth 20000 in
theorem b_Guide_fewestOrders_L2 {X : z_X} {E : z_ET} {o : z_G} (hE : z_EV X E cX2_fewestOrders 4 RX2 14 376 71) {r : Int32 × z_G} (hret : ∀ (pc : Nat) (lv : List (Nat × Value)), decode cX2_fewestOrders pc = .ok (.ireturn, 1) → z_V X E 4 r.2 o pc lv [.int r.1]) : ∀ (n : Nat) (x1 : Int32) (x2 : Int32) (x3 : Int32) (g : z_G), s_Guide_fewestOrders_L2 n x1 x2 x3 g = some r → z_V X E 4 g o 2 [(0, .ref (z_ad X 65)), (1, .int x1), (2, .int x2), (3, .int x3)] [] := by
  intro n
  induction n with
  | zero => intro x1 x2 x3 g h; exact z_none h
  | succ n ih =>
    intro x1 x2 x3 g h
    rw [s_Guide_fewestOrders_L2] at h
    refine z_iload_n hE 3 dX2_fewestOrders_2 rfl ?_
    refine z_iconst (v := 3) hE dX2_fewestOrders_3 rfl ?_
    refine z_icmp_gt hE 26 dX2_fewestOrders_4 rfl (fun c4q => ?_) (fun c4q => ?_)
    · replace h := z_t c4q h
      refine z_bipush (v := (-4)) hE dX2_fewestOrders_26 rfl ?_
      obtain rfl := Option.some.inj h
      exact hret _ _ dX2_fewestOrders_28
    · replace h := z_f c4q h
      refine z_aload_n hE 0 dX2_fewestOrders_7 rfl ?_
      refine z_iload_n hE 1 dX2_fewestOrders_8 rfl ?_
      refine z_iload_n hE 2 dX2_fewestOrders_9 rfl ?_
      refine z_iconst (v := 0) hE dX2_fewestOrders_10 rfl ?_
      refine z_iload_n hE 3 dX2_fewestOrders_11 rfl ?_
      obtain ⟨r5q, hr5q, h⟩ := z_bind_some h
      refine z_iV (rest := []) (av := [.int x1, .int x2, .int 0, .int x3]) hE (c_Guide_leads 8 x1 x2 0 x3 g r5q hr5q) l_RX2_25 (by decide) (by decide) e_65 rfl ⟨by decide, by decide⟩ dX2_fewestOrders_12 rfl (Nat.le_of_ble_eq_true rfl) ?_
      refine z_if_eq hE 20 dX2_fewestOrders_15 rfl (fun c6q => ?_) (fun c6q => ?_)
      · replace h := z_t c6q h
        refine z_iinc (v := x3 + 1) hE 3 [(3, .int (x3 + 1)), (0, .ref (z_ad X 65)), (1, .int x1), (2, .int x2)] dX2_fewestOrders_20 rfl rfl (by decide) rfl ?_
        refine z_goto hE 2 dX2_fewestOrders_23 rfl ?_
        refine z_sub [(0, .ref (z_ad X 65)), (1, .int x1), (2, .int x2), (3, .int (x3 + 1))] [1, 2, 3, 0] rfl ?_
        exact ih x1 x2 (x3 + 1) r5q.2 h
      · replace h := z_f c6q h
        refine z_iload_n hE 3 dX2_fewestOrders_18 rfl ?_
        obtain rfl := Option.some.inj h
        exact hret _ _ dX2_fewestOrders_19
set_option maxHeartbeats 1000000 in
set_option maxRecDepth 20000 in
theorem c_Guide_fewestOrders {X : z_X} {l : Launch} {o : z_G} (x1 : Int32) (x2 : Int32) (g : z_G) (r : Int32 × z_G) (h : s_Guide_fewestOrders x1 x2 g = some r) : z_MI X l 71 yX2_fewestOrders cX2_fewestOrders 4 (some .int) 14 376 [.ref (z_ad X 65), .int x1, .int x2] g o r.2 o r.1 := by
  unfold s_Guide_fewestOrders at h
  refine z_meti (ty := .int) rfl rfl (by decide) (Nat.le_of_ble_eq_true rfl) (fun E hl hE hret => ?_)
  subst hl
  refine z_iconst (v := 0) hE dX2_fewestOrders_0 rfl ?_
  refine z_istore_n hE [(3, .int 0), (0, .ref (z_ad X 65)), (1, .int x1), (2, .int x2)] dX2_fewestOrders_1 rfl (by decide) rfl ?_
  refine z_sub [(0, .ref (z_ad X 65)), (1, .int x1), (2, .int x2), (3, .int 0)] [1, 2, 3, 0] rfl ?_
  exact b_Guide_fewestOrders_L2 hE hret z_F x1 x2 0 g h
theorem dX9_bring_0 : decode cX9_bring 0 = .ok (.aload_n 0, 1) := by decide +kernel
theorem dX9_bring_1 : decode cX9_bring 1 = .ok (.iload_n 1, 1) := by decide +kernel
theorem dX9_bring_2 : decode cX9_bring 2 = .ok (.invokevirtual 107, 3) := by decide +kernel
theorem dX9_bring_5 : decode cX9_bring 5 = .ok (.ifCond .eq 21, 3) := by decide +kernel
theorem dX9_bring_8 : decode cX9_bring 8 = .ok (.iload_n 2, 1) := by decide +kernel
theorem dX9_bring_9 : decode cX9_bring 9 = .ok (.iload_n 3, 1) := by decide +kernel
theorem dX9_bring_10 : decode cX9_bring 10 = .ok (.invokestatic 161, 3) := by decide +kernel
theorem dX9_bring_13 : decode cX9_bring 13 = .ok (.ifCond .eq 13, 3) := by decide +kernel
theorem dX9_bring_16 : decode cX9_bring 16 = .ok (.iload 4, 2) := by decide +kernel
theorem dX9_bring_18 : decode cX9_bring 18 = .ok (.iconst 0, 1) := by decide +kernel
theorem dX9_bring_19 : decode cX9_bring 19 = .ok (.iconst 3, 1) := by decide +kernel
theorem dX9_bring_20 : decode cX9_bring 20 = .ok (.invokestatic 92, 3) := by decide +kernel
theorem dX9_bring_23 : decode cX9_bring 23 = .ok (.ifCond .ne 5, 3) := by decide +kernel
theorem dX9_bring_26 : decode cX9_bring 26 = .ok (.iconst (-1), 1) := by decide +kernel
theorem dX9_bring_27 : decode cX9_bring 27 = .ok (.ireturn, 1) := by decide +kernel
theorem dX9_bring_28 : decode cX9_bring 28 = .ok (.aload_n 0, 1) := by decide +kernel
theorem dX9_bring_29 : decode cX9_bring 29 = .ok (.getfield 66, 3) := by decide +kernel
theorem dX9_bring_32 : decode cX9_bring 32 = .ok (.iload_n 2, 1) := by decide +kernel
theorem dX9_bring_33 : decode cX9_bring 33 = .ok (.iload_n 3, 1) := by decide +kernel
theorem dX9_bring_34 : decode cX9_bring 34 = .ok (.invokestatic 165, 3) := by decide +kernel
theorem dX9_bring_37 : decode cX9_bring 37 = .ok (.aload_n 0, 1) := by decide +kernel
theorem dX9_bring_38 : decode cX9_bring 38 = .ok (.getfield 30, 3) := by decide +kernel
theorem dX9_bring_41 : decode cX9_bring 41 = .ok (.iload_n 1, 1) := by decide +kernel
theorem dX9_bring_42 : decode cX9_bring 42 = .ok (.aload_n 0, 1) := by decide +kernel
theorem dX9_bring_43 : decode cX9_bring 43 = .ok (.getfield 23, 3) := by decide +kernel
theorem dX9_bring_46 : decode cX9_bring 46 = .ok (.invokevirtual 216, 3) := by decide +kernel
theorem dX9_bring_49 : decode cX9_bring 49 = .ok (.aload_n 0, 1) := by decide +kernel
theorem dX9_bring_50 : decode cX9_bring 50 = .ok (.getfield 23, 3) := by decide +kernel
theorem dX9_bring_53 : decode cX9_bring 53 = .ok (.getfield 127, 3) := by decide +kernel
theorem dX9_bring_56 : decode cX9_bring 56 = .ok (.iload_n 1, 1) := by decide +kernel
theorem dX9_bring_57 : decode cX9_bring 57 = .ok (.iaload, 1) := by decide +kernel
theorem dX9_bring_58 : decode cX9_bring 58 = .ok (.invokevirtual 220, 3) := by decide +kernel
theorem dX9_bring_61 : decode cX9_bring 61 = .ok (.aload_n 0, 1) := by decide +kernel
theorem dX9_bring_62 : decode cX9_bring 62 = .ok (.getfield 66, 3) := by decide +kernel
theorem dX9_bring_65 : decode cX9_bring 65 = .ok (.aload_n 0, 1) := by decide +kernel
theorem dX9_bring_66 : decode cX9_bring 66 = .ok (.getfield 30, 3) := by decide +kernel
theorem dX9_bring_69 : decode cX9_bring 69 = .ok (.getfield 111, 3) := by decide +kernel
theorem dX9_bring_72 : decode cX9_bring 72 = .ok (.iload_n 1, 1) := by decide +kernel
theorem dX9_bring_73 : decode cX9_bring 73 = .ok (.iaload, 1) := by decide +kernel
theorem dX9_bring_74 : decode cX9_bring 74 = .ok (.aload_n 0, 1) := by decide +kernel
theorem dX9_bring_75 : decode cX9_bring 75 = .ok (.getfield 30, 3) := by decide +kernel
theorem dX9_bring_78 : decode cX9_bring 78 = .ok (.getfield 224, 3) := by decide +kernel
theorem dX9_bring_81 : decode cX9_bring 81 = .ok (.invokevirtual 227, 3) := by decide +kernel
theorem dX9_bring_84 : decode cX9_bring 84 = .ok (.istore 5, 2) := by decide +kernel
theorem dX9_bring_86 : decode cX9_bring 86 = .ok (.iload 5, 2) := by decide +kernel
theorem dX9_bring_88 : decode cX9_bring 88 = .ok (.bipush (-4), 2) := by decide +kernel
theorem dX9_bring_90 : decode cX9_bring 90 = .ok (.if_icmp .eq 8, 3) := by decide +kernel
theorem dX9_bring_93 : decode cX9_bring 93 = .ok (.iload 4, 2) := by decide +kernel
theorem dX9_bring_95 : decode cX9_bring 95 = .ok (.ifCond .ne 6, 3) := by decide +kernel
theorem dX9_bring_98 : decode cX9_bring 98 = .ok (.iload 5, 2) := by decide +kernel
theorem dX9_bring_100 : decode cX9_bring 100 = .ok (.ireturn, 1) := by decide +kernel
theorem dX9_bring_101 : decode cX9_bring 101 = .ok (.iload 4, 2) := by decide +kernel
theorem dX9_bring_103 : decode cX9_bring 103 = .ok (.iload 5, 2) := by decide +kernel
theorem dX9_bring_105 : decode cX9_bring 105 = .ok (.if_icmp .gt 18, 3) := by decide +kernel
theorem dX9_bring_108 : decode cX9_bring 108 = .ok (.aload_n 0, 1) := by decide +kernel
theorem dX9_bring_109 : decode cX9_bring 109 = .ok (.getfield 66, 3) := by decide +kernel
theorem dX9_bring_112 : decode cX9_bring 112 = .ok (.getfield 230, 3) := by decide +kernel
theorem dX9_bring_115 : decode cX9_bring 115 = .ok (.iload 4, 2) := by decide +kernel
theorem dX9_bring_117 : decode cX9_bring 117 = .ok (.iconst 1, 1) := by decide +kernel
theorem dX9_bring_118 : decode cX9_bring 118 = .ok (.isub, 1) := by decide +kernel
theorem dX9_bring_119 : decode cX9_bring 119 = .ok (.iaload, 1) := by decide +kernel
theorem dX9_bring_120 : decode cX9_bring 120 = .ok (.goto 5, 3) := by decide +kernel
theorem dX9_bring_123 : decode cX9_bring 123 = .ok (.bipush (-4), 2) := by decide +kernel
theorem dX9_bring_125 : decode cX9_bring 125 = .ok (.ireturn, 1) := by decide +kernel
def s_Top_bring_b26  (g : z_G) : Option (Int32 × z_G) := (some ((-1), g))
def s_Top_bring_b98 (x5 : Int32) (g : z_G) : Option (Int32 × z_G) := (some (x5, g))
def s_Top_bring (x1 : Int32) (x2 : Int32) (x3 : Int32) (x4 : Int32) (g : z_G) : Option (Int32 × z_G) := (if (s_Top_isMan x1 g) = 0 then (s_Top_bring_b26 g) else (if (s_Top_isCell x2 x3) = 0 then (s_Top_bring_b26 g) else (if (s_Top_isWithin x4 0 3) = 0 then (s_Top_bring_b26 g) else (Option.bind (s_Col_pullOn 0 x1 g) fun r15q => (z_ck (z_inb x1 6) (z_ck (z_inb x1 6) (Option.bind (s_Guide_fewestOrders (z_rd (s_Guide_setOut (s_Ways_cellAt x2 x3) r15q (z_rd g 46 x1) g) 1 x1) ((s_Guide_setOut (s_Ways_cellAt x2 x3) r15q (z_rd g 46 x1) g) 0 3) (s_Guide_setOut (s_Ways_cellAt x2 x3) r15q (z_rd g 46 x1) g)) fun r18q => (if r18q.1 = (-4) then (s_Top_bring_b98 r18q.1 r18q.2) else (if x4 = 0 then (s_Top_bring_b98 r18q.1 r18q.2) else (if r18q.1 < x4 then (some ((-4), r18q.2)) else (z_ck (z_inb (x4 - 1) 3) (some ((z_rd r18q.2 66 (x4 - 1)), r18q.2)))))))))))))
set_option maxHeartbeats 1000000 in
set_option maxRecDepth 20000 in
theorem b_Top_bring_b26 {X : z_X} {E : z_ET} {o : z_G} (hE : z_EV X E cX9_bring 6 RX9 15 399 71) {r : Int32 × z_G} (hret : ∀ (pc : Nat) (lv : List (Nat × Value)), decode cX9_bring pc = .ok (.ireturn, 1) → z_V X E 6 r.2 o pc lv [.int r.1])  (g : z_G)  (h : s_Top_bring_b26 g = some r) : z_V X E 6 g o 26 [] [] := by
  unfold s_Top_bring_b26 at h
  refine z_iconst (v := (-1)) hE dX9_bring_26 rfl ?_
  obtain rfl := Option.some.inj h
  exact hret _ _ dX9_bring_27
set_option maxHeartbeats 1000000 in
set_option maxRecDepth 20000 in
theorem b_Top_bring_b98 {X : z_X} {E : z_ET} {o : z_G} (hE : z_EV X E cX9_bring 6 RX9 15 399 71) {r : Int32 × z_G} (hret : ∀ (pc : Nat) (lv : List (Nat × Value)), decode cX9_bring pc = .ok (.ireturn, 1) → z_V X E 6 r.2 o pc lv [.int r.1]) (x5 : Int32) (g : z_G)  (h : s_Top_bring_b98 x5 g = some r) : z_V X E 6 g o 98 [(5, .int x5)] [] := by
  unfold s_Top_bring_b98 at h
  refine z_iload hE 0 dX9_bring_98 rfl ?_
  obtain rfl := Option.some.inj h
  exact hret _ _ dX9_bring_100
set_option maxHeartbeats 1000000 in
set_option maxRecDepth 20000 in
theorem c_Top_bring {X : z_X} {l : Launch} {o : z_G} (x1 : Int32) (x2 : Int32) (x3 : Int32) (x4 : Int32) (g : z_G) (r : Int32 × z_G) (h : s_Top_bring x1 x2 x3 x4 g = some r) : z_MI X l 71 yX9_bring cX9_bring 6 (some .int) 15 399 [.ref (z_ad X 39), .int x1, .int x2, .int x3, .int x4] g o r.2 o r.1 := by
  unfold s_Top_bring at h
  refine z_meti (ty := .int) rfl rfl (by decide) (Nat.le_of_ble_eq_true rfl) (fun E hl hE hret => ?_)
  subst hl
  refine z_aload_n hE 0 dX9_bring_0 rfl ?_
  refine z_iload_n hE 1 dX9_bring_1 rfl ?_
  refine z_iV (rest := []) (av := [.int x1]) hE (c_Top_isMan x1 g) l_RX9_107 (by decide) (by decide) e_39 rfl ⟨by decide, by decide⟩ dX9_bring_2 rfl (Nat.le_of_ble_eq_true rfl) ?_
  refine z_if_eq hE 26 dX9_bring_5 rfl (fun c12q => ?_) (fun c12q => ?_)
  · replace h := z_t c12q h
    refine z_sub [] [] rfl ?_
    exact b_Top_bring_b26 hE hret g h
  · replace h := z_f c12q h
    refine z_iload_n hE 2 dX9_bring_8 rfl ?_
    refine z_iload_n hE 3 dX9_bring_9 rfl ?_
    refine z_iS (rest := []) (av := [.int x2, .int x3]) hE (c_Top_isCell x2 x3 g) l_RX9_161 (by decide) ⟨by decide, by decide⟩ dX9_bring_10 rfl (Nat.le_of_ble_eq_true rfl) ?_
    refine z_if_eq hE 26 dX9_bring_13 rfl (fun c13q => ?_) (fun c13q => ?_)
    · replace h := z_t c13q h
      refine z_sub [] [] rfl ?_
      exact b_Top_bring_b26 hE hret g h
    · replace h := z_f c13q h
      refine z_iload hE 4 dX9_bring_16 rfl ?_
      refine z_iconst (v := 0) hE dX9_bring_18 rfl ?_
      refine z_iconst (v := 3) hE dX9_bring_19 rfl ?_
      refine z_iS (rest := []) (av := [.int x4, .int 0, .int 3]) hE (c_Top_isWithin x4 0 3 g) l_RX9_92 (by decide) ⟨by decide, by decide⟩ dX9_bring_20 rfl (Nat.le_of_ble_eq_true rfl) ?_
      refine z_if_ne hE 28 dX9_bring_23 rfl (fun c14q => ?_) (fun c14q => ?_)
      · replace h := z_f c14q h
        refine z_aload_n hE 0 dX9_bring_28 rfl ?_
        refine z_get hE f_RX9_66 (by decide) e_39 rfl dX9_bring_29 ?_
        refine z_iload_n hE 2 dX9_bring_32 rfl ?_
        refine z_iload_n hE 3 dX9_bring_33 rfl ?_
        refine z_iS (rest := [.ref (z_ad X 65)]) (av := [.int x2, .int x3]) hE (c_Ways_cellAt x2 x3 g) l_RX9_165 (by decide) ⟨by decide, by decide⟩ dX9_bring_34 rfl (Nat.le_of_ble_eq_true rfl) ?_
        refine z_aload_n hE 0 dX9_bring_37 rfl ?_
        refine z_get hE f_RX9_30 (by decide) e_39 rfl dX9_bring_38 ?_
        refine z_iload_n hE 1 dX9_bring_41 rfl ?_
        refine z_aload_n hE 0 dX9_bring_42 rfl ?_
        refine z_get hE f_RX9_23 (by decide) e_39 rfl dX9_bring_43 ?_
        obtain ⟨r15q, hr15q, h⟩ := z_bind_some h
        refine z_iV (rest := [.int (s_Ways_cellAt x2 x3), .ref (z_ad X 65)]) (av := [.int x1, .ref (z_ad X 43)]) hE (c_Col_pullOn 0 x1 g (by decide) r15q hr15q) l_RX9_216 (by decide) (by decide) e_0 rfl ⟨by decide, by decide⟩ dX9_bring_46 rfl (Nat.le_of_ble_eq_true rfl) ?_
        refine z_aload_n hE 0 dX9_bring_49 rfl ?_
        refine z_get hE f_RX9_23 (by decide) e_39 rfl dX9_bring_50 ?_
        refine z_get hE f_RX9_127 (by decide) e_43 rfl dX9_bring_53 ?_
        refine z_iload_n hE 1 dX9_bring_56 rfl ?_
        obtain ⟨k16q, h⟩ := z_ck_some h
        refine z_iald hE (by decide) e_46 k16q dX9_bring_57 ?_
        refine z_vV (rest := []) (av := [.int (s_Ways_cellAt x2 x3), .int r15q, .int (z_rd g 46 x1)]) hE (c_Guide_setOut (s_Ways_cellAt x2 x3) r15q (z_rd g 46 x1) g) l_RX9_220 (by decide) (by decide) e_65 rfl ⟨by decide, by decide⟩ dX9_bring_58 rfl (Nat.le_of_ble_eq_true rfl) ?_
        refine z_aload_n hE 0 dX9_bring_61 rfl ?_
        refine z_get hE f_RX9_66 (by decide) e_39 rfl dX9_bring_62 ?_
        refine z_aload_n hE 0 dX9_bring_65 rfl ?_
        refine z_get hE f_RX9_30 (by decide) e_39 rfl dX9_bring_66 ?_
        refine z_get hE f_RX9_111 (by decide) e_0 rfl dX9_bring_69 ?_
        refine z_iload_n hE 1 dX9_bring_72 rfl ?_
        obtain ⟨k17q, h⟩ := z_ck_some h
        refine z_iald hE (by decide) e_1 k17q dX9_bring_73 ?_
        refine z_aload_n hE 0 dX9_bring_74 rfl ?_
        refine z_get hE f_RX9_30 (by decide) e_39 rfl dX9_bring_75 ?_
        refine z_get hE f_RX9_224 (by decide) e_0 rfl dX9_bring_78 ?_
        obtain ⟨r18q, hr18q, h⟩ := z_bind_some h
        refine z_iV (rest := []) (av := [.int (z_rd (s_Guide_setOut (s_Ways_cellAt x2 x3) r15q (z_rd g 46 x1) g) 1 x1), .int ((s_Guide_setOut (s_Ways_cellAt x2 x3) r15q (z_rd g 46 x1) g) 0 3)]) hE (c_Guide_fewestOrders (z_rd (s_Guide_setOut (s_Ways_cellAt x2 x3) r15q (z_rd g 46 x1) g) 1 x1) ((s_Guide_setOut (s_Ways_cellAt x2 x3) r15q (z_rd g 46 x1) g) 0 3) (s_Guide_setOut (s_Ways_cellAt x2 x3) r15q (z_rd g 46 x1) g) r18q hr18q) l_RX9_227 (by decide) (by decide) e_65 rfl ⟨by decide, by decide⟩ dX9_bring_81 rfl (Nat.le_of_ble_eq_true rfl) ?_
        refine z_istore hE [(5, .int r18q.1), (0, .ref (z_ad X 39)), (1, .int x1), (2, .int x2), (3, .int x3), (4, .int x4)] dX9_bring_84 (by decide) rfl ?_
        refine z_iload hE 0 dX9_bring_86 rfl ?_
        refine z_bipush (v := (-4)) hE dX9_bring_88 rfl ?_
        refine z_icmp_eq hE 98 dX9_bring_90 rfl (fun c19q => ?_) (fun c19q => ?_)
        · replace h := z_t c19q h
          refine z_sub [(5, .int r18q.1)] [0] rfl ?_
          exact b_Top_bring_b98 hE hret r18q.1 r18q.2 h
        · replace h := z_f c19q h
          refine z_iload hE 5 dX9_bring_93 rfl ?_
          refine z_if_ne hE 101 dX9_bring_95 rfl (fun c20q => ?_) (fun c20q => ?_)
          · replace h := z_f c20q h
            refine z_iload hE 5 dX9_bring_101 rfl ?_
            refine z_iload hE 0 dX9_bring_103 rfl ?_
            refine z_icmp_gt hE 123 dX9_bring_105 rfl (fun c21q => ?_) (fun c21q => ?_)
            · replace h := z_t c21q h
              refine z_bipush (v := (-4)) hE dX9_bring_123 rfl ?_
              obtain rfl := Option.some.inj h
              exact hret _ _ dX9_bring_125
            · replace h := z_f c21q h
              refine z_aload_n hE 1 dX9_bring_108 rfl ?_
              refine z_get hE f_RX9_66 (by decide) e_39 rfl dX9_bring_109 ?_
              refine z_get hE f_RX9_230 (by decide) e_65 rfl dX9_bring_112 ?_
              refine z_iload hE 5 dX9_bring_115 rfl ?_
              refine z_iconst (v := 1) hE dX9_bring_117 rfl ?_
              refine z_isub hE dX9_bring_118 ?_
              obtain ⟨k22q, h⟩ := z_ck_some h
              refine z_iald hE (by decide) e_66 k22q dX9_bring_119 ?_
              refine z_goto hE 125 dX9_bring_120 rfl ?_
              obtain rfl := Option.some.inj h
              exact hret _ _ dX9_bring_125
          · replace h := z_t c20q h
            refine z_sub [(5, .int r18q.1)] [0] rfl ?_
            exact b_Top_bring_b98 hE hret r18q.1 r18q.2 h
      · replace h := z_t c14q h
        refine z_sub [] [] rfl ?_
        exact b_Top_bring_b26 hE hret g h
theorem dX1_dealTo_0 : decode cX1_dealTo 0 = .ok (.iload_n 1, 1) := by decide +kernel
theorem dX1_dealTo_1 : decode cX1_dealTo 1 = .ok (.aload 4, 2) := by decide +kernel
theorem dX1_dealTo_3 : decode cX1_dealTo 3 = .ok (.getfield 26, 3) := by decide +kernel
theorem dX1_dealTo_6 : decode cX1_dealTo 6 = .ok (.if_icmp .ge 9, 3) := by decide +kernel
theorem dX1_dealTo_9 : decode cX1_dealTo 9 = .ok (.iload_n 1, 1) := by decide +kernel
theorem dX1_dealTo_10 : decode cX1_dealTo 10 = .ok (.bipush 6, 2) := by decide +kernel
theorem dX1_dealTo_12 : decode cX1_dealTo 12 = .ok (.if_icmp .lt 32, 3) := by decide +kernel
theorem dX1_dealTo_15 : decode cX1_dealTo 15 = .ok (.iload_n 3, 1) := by decide +kernel
theorem dX1_dealTo_16 : decode cX1_dealTo 16 = .ok (.aload_n 0, 1) := by decide +kernel
theorem dX1_dealTo_17 : decode cX1_dealTo 17 = .ok (.getfield 18, 3) := by decide +kernel
theorem dX1_dealTo_20 : decode cX1_dealTo 20 = .ok (.if_icmp .le 23, 3) := by decide +kernel
theorem dX1_dealTo_23 : decode cX1_dealTo 23 = .ok (.aload_n 0, 1) := by decide +kernel
theorem dX1_dealTo_24 : decode cX1_dealTo 24 = .ok (.iload_n 3, 1) := by decide +kernel
theorem dX1_dealTo_25 : decode cX1_dealTo 25 = .ok (.putfield 18, 3) := by decide +kernel
theorem dX1_dealTo_28 : decode cX1_dealTo 28 = .ok (.aload_n 0, 1) := by decide +kernel
theorem dX1_dealTo_29 : decode cX1_dealTo 29 = .ok (.getfield 15, 3) := by decide +kernel
theorem dX1_dealTo_32 : decode cX1_dealTo 32 = .ok (.iconst 0, 1) := by decide +kernel
theorem dX1_dealTo_33 : decode cX1_dealTo 33 = .ok (.aload_n 0, 1) := by decide +kernel
theorem dX1_dealTo_34 : decode cX1_dealTo 34 = .ok (.getfield 9, 3) := by decide +kernel
theorem dX1_dealTo_37 : decode cX1_dealTo 37 = .ok (.iconst 0, 1) := by decide +kernel
theorem dX1_dealTo_38 : decode cX1_dealTo 38 = .ok (.bipush 6, 2) := by decide +kernel
theorem dX1_dealTo_40 : decode cX1_dealTo 40 = .ok (.invokestatic 31, 3) := by decide +kernel
theorem dX1_dealTo_43 : decode cX1_dealTo 43 = .ok (.return_, 1) := by decide +kernel
theorem dX1_dealTo_44 : decode cX1_dealTo 44 = .ok (.iconst 0, 1) := by decide +kernel
theorem dX1_dealTo_45 : decode cX1_dealTo 45 = .ok (.istore 6, 2) := by decide +kernel
theorem dX1_dealTo_47 : decode cX1_dealTo 47 = .ok (.iload 6, 2) := by decide +kernel
theorem dX1_dealTo_49 : decode cX1_dealTo 49 = .ok (.aload 4, 2) := by decide +kernel
theorem dX1_dealTo_51 : decode cX1_dealTo 51 = .ok (.getfield 26, 3) := by decide +kernel
theorem dX1_dealTo_54 : decode cX1_dealTo 54 = .ok (.if_icmp .ge 75, 3) := by decide +kernel
theorem dX1_dealTo_57 : decode cX1_dealTo 57 = .ok (.iload_n 2, 1) := by decide +kernel
theorem dX1_dealTo_58 : decode cX1_dealTo 58 = .ok (.iload 6, 2) := by decide +kernel
theorem dX1_dealTo_60 : decode cX1_dealTo 60 = .ok (.ishr, 1) := by decide +kernel
theorem dX1_dealTo_61 : decode cX1_dealTo 61 = .ok (.iconst 1, 1) := by decide +kernel
theorem dX1_dealTo_62 : decode cX1_dealTo 62 = .ok (.iand, 1) := by decide +kernel
theorem dX1_dealTo_63 : decode cX1_dealTo 63 = .ok (.ifCond .ne 60, 3) := by decide +kernel
theorem dX1_dealTo_66 : decode cX1_dealTo 66 = .ok (.aload_n 0, 1) := by decide +kernel
theorem dX1_dealTo_67 : decode cX1_dealTo 67 = .ok (.getfield 15, 3) := by decide +kernel
theorem dX1_dealTo_70 : decode cX1_dealTo 70 = .ok (.iload_n 1, 1) := by decide +kernel
theorem dX1_dealTo_71 : decode cX1_dealTo 71 = .ok (.iload 6, 2) := by decide +kernel
theorem dX1_dealTo_73 : decode cX1_dealTo 73 = .ok (.iastore, 1) := by decide +kernel
theorem dX1_dealTo_74 : decode cX1_dealTo 74 = .ok (.aload 4, 2) := by decide +kernel
theorem dX1_dealTo_76 : decode cX1_dealTo 76 = .ok (.getfield 37, 3) := by decide +kernel
theorem dX1_dealTo_79 : decode cX1_dealTo 79 = .ok (.iload_n 1, 1) := by decide +kernel
theorem dX1_dealTo_80 : decode cX1_dealTo 80 = .ok (.iaload, 1) := by decide +kernel
theorem dX1_dealTo_81 : decode cX1_dealTo 81 = .ok (.aload 5, 2) := by decide +kernel
theorem dX1_dealTo_83 : decode cX1_dealTo 83 = .ok (.getfield 40, 3) := by decide +kernel
theorem dX1_dealTo_86 : decode cX1_dealTo 86 = .ok (.iload 6, 2) := by decide +kernel
theorem dX1_dealTo_88 : decode cX1_dealTo 88 = .ok (.iaload, 1) := by decide +kernel
theorem dX1_dealTo_89 : decode cX1_dealTo 89 = .ok (.if_icmp .eq 7, 3) := by decide +kernel
theorem dX1_dealTo_92 : decode cX1_dealTo 92 = .ok (.iconst 1, 1) := by decide +kernel
theorem dX1_dealTo_93 : decode cX1_dealTo 93 = .ok (.goto 4, 3) := by decide +kernel
theorem dX1_dealTo_96 : decode cX1_dealTo 96 = .ok (.iconst 0, 1) := by decide +kernel
theorem dX1_dealTo_97 : decode cX1_dealTo 97 = .ok (.invokestatic 45, 3) := by decide +kernel
theorem dX1_dealTo_100 : decode cX1_dealTo 100 = .ok (.istore 7, 2) := by decide +kernel
theorem dX1_dealTo_102 : decode cX1_dealTo 102 = .ok (.aload_n 0, 1) := by decide +kernel
theorem dX1_dealTo_103 : decode cX1_dealTo 103 = .ok (.iload_n 1, 1) := by decide +kernel
theorem dX1_dealTo_104 : decode cX1_dealTo 104 = .ok (.iconst 1, 1) := by decide +kernel
theorem dX1_dealTo_105 : decode cX1_dealTo 105 = .ok (.iadd, 1) := by decide +kernel
theorem dX1_dealTo_106 : decode cX1_dealTo 106 = .ok (.iload_n 2, 1) := by decide +kernel
theorem dX1_dealTo_107 : decode cX1_dealTo 107 = .ok (.iconst 1, 1) := by decide +kernel
theorem dX1_dealTo_108 : decode cX1_dealTo 108 = .ok (.iload 6, 2) := by decide +kernel
theorem dX1_dealTo_110 : decode cX1_dealTo 110 = .ok (.ishl, 1) := by decide +kernel
theorem dX1_dealTo_111 : decode cX1_dealTo 111 = .ok (.ior, 1) := by decide +kernel
theorem dX1_dealTo_112 : decode cX1_dealTo 112 = .ok (.iload_n 3, 1) := by decide +kernel
theorem dX1_dealTo_113 : decode cX1_dealTo 113 = .ok (.iload 7, 2) := by decide +kernel
theorem dX1_dealTo_115 : decode cX1_dealTo 115 = .ok (.iadd, 1) := by decide +kernel
theorem dX1_dealTo_116 : decode cX1_dealTo 116 = .ok (.aload 4, 2) := by decide +kernel
theorem dX1_dealTo_118 : decode cX1_dealTo 118 = .ok (.aload 5, 2) := by decide +kernel
theorem dX1_dealTo_120 : decode cX1_dealTo 120 = .ok (.invokevirtual 22, 3) := by decide +kernel
theorem dX1_dealTo_123 : decode cX1_dealTo 123 = .ok (.iinc 6 1, 3) := by decide +kernel
theorem dX1_dealTo_126 : decode cX1_dealTo 126 = .ok (.goto (-79), 3) := by decide +kernel
theorem dX1_dealTo_129 : decode cX1_dealTo 129 = .ok (.return_, 1) := by decide +kernel
def s_Deal_dealTo_b15 (c5 : Nat) (rec : Int32 → Int32 → Int32 → Nat → z_G → Option (z_G)) (x3 : Int32) (g : z_G) : Option (z_G) := (if x3 ≤ (g 67 1) then (some g) else (z_let (α := z_G) (z_up g 67 1 x3) fun g16q => (z_let (α := z_G) (z_cp g16q 69 68 0 0 6) fun g17q => (some g17q))))
def s_Deal_dealTo_b123 (c5 : Nat) (rec : Int32 → Int32 → Int32 → Nat → z_G → Option (z_G)) (k47 : Int32 → Int32 → Int32 → Nat → Int32 → z_G → Option (z_G)) (x1 : Int32) (x2 : Int32) (x3 : Int32) (q_x5 : Nat) (x6 : Int32) (g : z_G) : Option (z_G) := (k47 x1 x2 x3 q_x5 (x6 + 1) g)
def s_Deal_dealTo_b97 (c5 : Nat) (rec : Int32 → Int32 → Int32 → Nat → z_G → Option (z_G)) (k47 : Int32 → Int32 → Int32 → Nat → Int32 → z_G → Option (z_G)) (x1 : Int32) (x2 : Int32) (x3 : Int32) (q_x5 : Nat) (x6 : Int32) (s0 : Int32) (g : z_G) : Option (z_G) := (z_let (α := Int32) ((s_Top_asNumber s0)) fun v18q => (Option.bind (rec (x1 + 1) (x2 ||| (1 <<< (x6 &&& 31))) (x3 + v18q) q_x5 g) fun r19q => (s_Deal_dealTo_b123 c5 rec k47 x1 x2 x3 q_x5 x6 r19q)))
def s_Deal_dealTo_L47 (c5 : Nat) (rec : Int32 → Int32 → Int32 → Nat → z_G → Option (z_G)) : Nat → Int32 → Int32 → Int32 → Nat → Int32 → z_G → Option (z_G)
  | 0, _, _, _, _, _, _ => none
  | n + 1, x1, x2, x3, q_x5, x6, g => (if (g 43 1) ≤ x6 then (some g) else (if ((x2 >>> (x6 &&& 31)) &&& 1) = 0 then (z_ck (z_inb x1 6) (z_let (α := z_G) (z_wr g 69 x1 x6) fun g23q => (z_ck (z_inb x1 6) (z_ck (z_inb x6 6) (if (z_rd g23q 45 x1) = (z_rd g23q (3 * q_x5 + 2) x6) then (s_Deal_dealTo_b97 c5 rec (s_Deal_dealTo_L47 c5 rec n) x1 x2 x3 q_x5 x6 0 g23q) else (s_Deal_dealTo_b97 c5 rec (s_Deal_dealTo_L47 c5 rec n) x1 x2 x3 q_x5 x6 1 g23q)))))) else (s_Deal_dealTo_b123 c5 rec (s_Deal_dealTo_L47 c5 rec n) x1 x2 x3 q_x5 x6 g)))
def s_Deal_dealTo : Nat → Int32 → Int32 → Int32 → Nat → z_G → Option (z_G)
  | 0, _, _, _, _, _ => none
  | d + 1, x1, x2, x3, c5, g => (if (g 43 1) ≤ x1 then (s_Deal_dealTo_b15 c5 (s_Deal_dealTo d) x3 g) else (if x1 < 6 then (s_Deal_dealTo_L47 c5 (s_Deal_dealTo d) z_F x1 x2 x3 c5 0 g) else (s_Deal_dealTo_b15 c5 (s_Deal_dealTo d) x3 g)))
set_option maxHeartbeats 1000000 in
set_option maxRecDepth 20000 in
theorem b_Deal_dealTo_b15 {X : z_X} {E : z_ET} {o : z_G} {d : Nat} {c5 : Nat} (hc5 : c5 < 13) (hE : z_EV X E cX1_dealTo 8 RX1 (1 + (d + 1)) (60 + 27 * (d + 1)) 71) {r : z_G} (hret : ∀ (pc : Nat) (lv : List (Nat × Value)), decode cX1_dealTo pc = .ok (.return_, 1) → z_V X E 8 r o pc lv []) {rec : Int32 → Int32 → Int32 → Nat → z_G → Option (z_G)} (hrec : ∀ (x1 : Int32) (x2 : Int32) (x3 : Int32) (c5 : Nat) (g : z_G) (r : z_G), c5 < 13 → rec x1 x2 x3 c5 g = some r → z_MV X E.2.1 71 yX1_dealTo cX1_dealTo 8 none (1 + d) (60 + 27 * d) [.ref (z_ad X 67), .int x1, .int x2, .int x3, .ref (z_ad X 43), .ref (z_ad X (3 * c5))] g o r o) (x3 : Int32) (g : z_G)  (h : s_Deal_dealTo_b15 c5 rec x3 g = some r) : z_V X E 8 g o 15 [(0, .ref (z_ad X 67)), (3, .int x3)] [] := by
  unfold s_Deal_dealTo_b15 at h
  refine z_iload_n hE 1 dX1_dealTo_15 rfl ?_
  refine z_aload_n hE 0 dX1_dealTo_16 rfl ?_
  refine z_get hE f_RX1_18 (by decide) e_67 rfl dX1_dealTo_17 ?_
  refine z_icmp_le hE 43 dX1_dealTo_20 rfl (fun c15q => ?_) (fun c15q => ?_)
  · replace h := z_t c15q h
    obtain rfl := Option.some.inj h
    exact hret _ _ dX1_dealTo_43
  · replace h := z_f c15q h
    refine z_aload_n hE 0 dX1_dealTo_23 rfl ?_
    refine z_iload_n hE 1 dX1_dealTo_24 rfl ?_
    obtain ⟨g16q, eg16q, h⟩ := z_let_eq h
    refine z_put hE f_RX1_18 ft_1 (by decide) e_67 rfl (tyX1_ok 1 (by decide)) rfl rfl (Nat.le_of_ble_eq_true rfl) (u_67_1 eg16q) dX1_dealTo_25 ?_
    refine z_aload_n hE 0 dX1_dealTo_28 rfl ?_
    refine z_get hE f_RX1_15 (by decide) e_67 rfl dX1_dealTo_29 ?_
    refine z_iconst (v := 0) hE dX1_dealTo_32 rfl ?_
    refine z_aload_n hE 0 dX1_dealTo_33 rfl ?_
    refine z_get hE f_RX1_9 (by decide) e_67 rfl dX1_dealTo_34 ?_
    refine z_iconst (v := 0) hE dX1_dealTo_37 rfl ?_
    refine z_bipush (v := 6) hE dX1_dealTo_38 rfl ?_
    obtain ⟨g17q, eg17q, h⟩ := z_let_eq h
    refine z_copy hE l_RX1_31 (by decide) (by decide) e_69 e_68 (by decide) (by decide) (by decide) (by decide) (by decide) (by omega) (Nat.le_trans (Nat.le_of_ble_eq_true rfl : _ ≤ 60) (by omega)) (uc_68 eg17q) dX1_dealTo_40 ?_
    obtain rfl := Option.some.inj h
    exact hret _ _ dX1_dealTo_43
set_option maxHeartbeats 1000000 in
set_option maxRecDepth 20000 in
theorem b_Deal_dealTo_b123 {X : z_X} {E : z_ET} {o : z_G} {d : Nat} {c5 : Nat} (hc5 : c5 < 13) (hE : z_EV X E cX1_dealTo 8 RX1 (1 + (d + 1)) (60 + 27 * (d + 1)) 71) {r : z_G} (hret : ∀ (pc : Nat) (lv : List (Nat × Value)), decode cX1_dealTo pc = .ok (.return_, 1) → z_V X E 8 r o pc lv []) {rec : Int32 → Int32 → Int32 → Nat → z_G → Option (z_G)} (hrec : ∀ (x1 : Int32) (x2 : Int32) (x3 : Int32) (c5 : Nat) (g : z_G) (r : z_G), c5 < 13 → rec x1 x2 x3 c5 g = some r → z_MV X E.2.1 71 yX1_dealTo cX1_dealTo 8 none (1 + d) (60 + 27 * d) [.ref (z_ad X 67), .int x1, .int x2, .int x3, .ref (z_ad X 43), .ref (z_ad X (3 * c5))] g o r o) (k47 : Int32 → Int32 → Int32 → Nat → Int32 → z_G → Option (z_G)) (hk47 : ∀ (x1 : Int32) (x2 : Int32) (x3 : Int32) (q_x5 : Nat) (x6 : Int32) (g : z_G), q_x5 < 13 → k47 x1 x2 x3 q_x5 x6 g = some r → z_V X E 8 g o 47 [(0, .ref (z_ad X 67)), (1, .int x1), (2, .int x2), (3, .int x3), (4, .ref (z_ad X 43)), (5, .ref (z_ad X (3 * q_x5))), (6, .int x6)] []) (x1 : Int32) (x2 : Int32) (x3 : Int32) (q_x5 : Nat) (x6 : Int32) (g : z_G) (hq_x5 : q_x5 < 13) (h : s_Deal_dealTo_b123 c5 rec k47 x1 x2 x3 q_x5 x6 g = some r) : z_V X E 8 g o 123 [(0, .ref (z_ad X 67)), (1, .int x1), (2, .int x2), (3, .int x3), (4, .ref (z_ad X 43)), (5, .ref (z_ad X (3 * q_x5))), (6, .int x6)] [] := by
  unfold s_Deal_dealTo_b123 at h
  refine z_iinc (v := x6 + 1) hE 6 [(6, .int (x6 + 1)), (0, .ref (z_ad X 67)), (1, .int x1), (2, .int x2), (3, .int x3), (4, .ref (z_ad X 43)), (5, .ref (z_ad X (3 * q_x5)))] dX1_dealTo_123 rfl rfl (by decide) rfl ?_
  refine z_goto hE 47 dX1_dealTo_126 rfl ?_
  refine z_sub [(0, .ref (z_ad X 67)), (1, .int x1), (2, .int x2), (3, .int x3), (4, .ref (z_ad X 43)), (5, .ref (z_ad X (3 * q_x5))), (6, .int (x6 + 1))] [1, 2, 3, 4, 5, 6, 0] rfl ?_
  exact hk47 x1 x2 x3 q_x5 (x6 + 1) g hq_x5 h
set_option maxHeartbeats 1000000 in
set_option maxRecDepth 20000 in
theorem b_Deal_dealTo_b97 {X : z_X} {E : z_ET} {o : z_G} {d : Nat} {c5 : Nat} (hc5 : c5 < 13) (hE : z_EV X E cX1_dealTo 8 RX1 (1 + (d + 1)) (60 + 27 * (d + 1)) 71) {r : z_G} (hret : ∀ (pc : Nat) (lv : List (Nat × Value)), decode cX1_dealTo pc = .ok (.return_, 1) → z_V X E 8 r o pc lv []) {rec : Int32 → Int32 → Int32 → Nat → z_G → Option (z_G)} (hrec : ∀ (x1 : Int32) (x2 : Int32) (x3 : Int32) (c5 : Nat) (g : z_G) (r : z_G), c5 < 13 → rec x1 x2 x3 c5 g = some r → z_MV X E.2.1 71 yX1_dealTo cX1_dealTo 8 none (1 + d) (60 + 27 * d) [.ref (z_ad X 67), .int x1, .int x2, .int x3, .ref (z_ad X 43), .ref (z_ad X (3 * c5))] g o r o) (k47 : Int32 → Int32 → Int32 → Nat → Int32 → z_G → Option (z_G)) (hk47 : ∀ (x1 : Int32) (x2 : Int32) (x3 : Int32) (q_x5 : Nat) (x6 : Int32) (g : z_G), q_x5 < 13 → k47 x1 x2 x3 q_x5 x6 g = some r → z_V X E 8 g o 47 [(0, .ref (z_ad X 67)), (1, .int x1), (2, .int x2), (3, .int x3), (4, .ref (z_ad X 43)), (5, .ref (z_ad X (3 * q_x5))), (6, .int x6)] []) (x1 : Int32) (x2 : Int32) (x3 : Int32) (q_x5 : Nat) (x6 : Int32) (s0 : Int32) (g : z_G) (hq_x5 : q_x5 < 13) (h : s_Deal_dealTo_b97 c5 rec k47 x1 x2 x3 q_x5 x6 s0 g = some r) : z_V X E 8 g o 97 [(0, .ref (z_ad X 67)), (1, .int x1), (2, .int x2), (3, .int x3), (4, .ref (z_ad X 43)), (5, .ref (z_ad X (3 * q_x5))), (6, .int x6)] [.int s0] := by
  unfold s_Deal_dealTo_b97 at h
  refine z_iS (rest := []) (av := [.int s0]) hE (c_Top_asNumber s0 g) l_RX1_45 (by decide) ⟨by omega, by omega⟩ dX1_dealTo_97 rfl (Nat.le_of_ble_eq_true rfl) ?_
  obtain ⟨v18q, ev18q, h⟩ := z_let_eq h
  refine z_topi ev18q ?_
  refine z_istore hE [(7, .int v18q), (0, .ref (z_ad X 67)), (1, .int x1), (2, .int x2), (3, .int x3), (4, .ref (z_ad X 43)), (5, .ref (z_ad X (3 * q_x5))), (6, .int x6)] dX1_dealTo_100 (by decide) rfl ?_
  refine z_aload_n hE 1 dX1_dealTo_102 rfl ?_
  refine z_iload_n hE 2 dX1_dealTo_103 rfl ?_
  refine z_iconst (v := 1) hE dX1_dealTo_104 rfl ?_
  refine z_iadd hE dX1_dealTo_105 ?_
  refine z_iload_n hE 3 dX1_dealTo_106 rfl ?_
  refine z_iconst (v := 1) hE dX1_dealTo_107 rfl ?_
  refine z_iload hE 7 dX1_dealTo_108 rfl ?_
  refine z_ishl hE dX1_dealTo_110 ?_
  refine z_ior hE dX1_dealTo_111 ?_
  refine z_iload_n hE 4 dX1_dealTo_112 rfl ?_
  refine z_iload hE 0 dX1_dealTo_113 rfl ?_
  refine z_iadd hE dX1_dealTo_115 ?_
  refine z_aload hE 5 dX1_dealTo_116 rfl ?_
  refine z_aload hE 6 dX1_dealTo_118 rfl ?_
  obtain ⟨r19q, hr19q, h⟩ := z_bind_some h
  refine z_vV (rest := []) (av := [.int (x1 + 1), .int (x2 ||| (1 <<< (x6 &&& 31))), .int (x3 + v18q), .ref (z_ad X 43), .ref (z_ad X (3 * q_x5))]) hE (hrec (x1 + 1) (x2 ||| (1 <<< (x6 &&& 31))) (x3 + v18q) q_x5 g r19q hq_x5 hr19q) l_RX1_22 (by decide) (by decide) e_67 rfl ⟨by omega, by omega⟩ dX1_dealTo_120 rfl (Nat.le_of_ble_eq_true rfl) ?_
  refine z_sub [(0, .ref (z_ad X 67)), (1, .int x1), (2, .int x2), (3, .int x3), (4, .ref (z_ad X 43)), (5, .ref (z_ad X (3 * q_x5))), (6, .int x6)] [1, 2, 3, 4, 5, 6, 7] rfl ?_
  exact b_Deal_dealTo_b123 hc5 hE hret hrec k47 hk47 x1 x2 x3 q_x5 x6 r19q hq_x5 h
set_option maxHeartbeats 1000000 in
set_option maxRecDepth 20000 in
theorem b_Deal_dealTo_L47 {X : z_X} {E : z_ET} {o : z_G} {d : Nat} {c5 : Nat} (hc5 : c5 < 13) (hE : z_EV X E cX1_dealTo 8 RX1 (1 + (d + 1)) (60 + 27 * (d + 1)) 71) {r : z_G} (hret : ∀ (pc : Nat) (lv : List (Nat × Value)), decode cX1_dealTo pc = .ok (.return_, 1) → z_V X E 8 r o pc lv []) {rec : Int32 → Int32 → Int32 → Nat → z_G → Option (z_G)} (hrec : ∀ (x1 : Int32) (x2 : Int32) (x3 : Int32) (c5 : Nat) (g : z_G) (r : z_G), c5 < 13 → rec x1 x2 x3 c5 g = some r → z_MV X E.2.1 71 yX1_dealTo cX1_dealTo 8 none (1 + d) (60 + 27 * d) [.ref (z_ad X 67), .int x1, .int x2, .int x3, .ref (z_ad X 43), .ref (z_ad X (3 * c5))] g o r o) : ∀ (n : Nat) (x1 : Int32) (x2 : Int32) (x3 : Int32) (q_x5 : Nat) (x6 : Int32) (g : z_G), q_x5 < 13 → s_Deal_dealTo_L47 c5 rec n x1 x2 x3 q_x5 x6 g = some r → z_V X E 8 g o 47 [(0, .ref (z_ad X 67)), (1, .int x1), (2, .int x2), (3, .int x3), (4, .ref (z_ad X 43)), (5, .ref (z_ad X (3 * q_x5))), (6, .int x6)] [] := by
  intro n
  induction n with
  | zero => intro x1 x2 x3 q_x5 x6 g hq_x5 h; exact z_none h
  | succ n ih =>
    intro x1 x2 x3 q_x5 x6 g hq_x5 h
    rw [s_Deal_dealTo_L47] at h
    refine z_iload hE 6 dX1_dealTo_47 rfl ?_
    refine z_aload hE 4 dX1_dealTo_49 rfl ?_
    refine z_get hE f_RX1_26 (by decide) e_43 rfl dX1_dealTo_51 ?_
    refine z_icmp_ge hE 129 dX1_dealTo_54 rfl (fun c20q => ?_) (fun c20q => ?_)
    · replace h := z_t c20q h
      obtain rfl := Option.some.inj h
      exact hret _ _ dX1_dealTo_129
    · replace h := z_f c20q h
      refine z_iload_n hE 2 dX1_dealTo_57 rfl ?_
      refine z_iload hE 6 dX1_dealTo_58 rfl ?_
      refine z_ishr hE dX1_dealTo_60 ?_
      refine z_iconst (v := 1) hE dX1_dealTo_61 rfl ?_
      refine z_iand hE dX1_dealTo_62 ?_
      refine z_if_ne hE 123 dX1_dealTo_63 rfl (fun c21q => ?_) (fun c21q => ?_)
      · replace h := z_f c21q h
        exact b_Deal_dealTo_b123 hc5 hE hret hrec (s_Deal_dealTo_L47 c5 rec n) ih x1 x2 x3 q_x5 x6 g hq_x5 h
      · replace h := z_t c21q h
        refine z_aload_n hE 0 dX1_dealTo_66 rfl ?_
        refine z_get hE f_RX1_15 (by decide) e_67 rfl dX1_dealTo_67 ?_
        refine z_iload_n hE 1 dX1_dealTo_70 rfl ?_
        refine z_iload hE 6 dX1_dealTo_71 rfl ?_
        obtain ⟨k22q, h⟩ := z_ck_some h
        obtain ⟨g23q, eg23q, h⟩ := z_let_eq h
        refine z_iast hE (by decide) e_69 k22q (ua_69 eg23q) dX1_dealTo_73 ?_
        refine z_aload hE 4 dX1_dealTo_74 rfl ?_
        refine z_get hE f_RX1_37 (by decide) e_43 rfl dX1_dealTo_76 ?_
        refine z_iload_n hE 1 dX1_dealTo_79 rfl ?_
        obtain ⟨k24q, h⟩ := z_ck_some h
        refine z_iald hE (by decide) e_45 k24q dX1_dealTo_80 ?_
        refine z_aload hE 5 dX1_dealTo_81 rfl ?_
        refine z_get hE f_RX1_40 (by omega) (e_col hq_x5) rfl dX1_dealTo_83 ?_
        refine z_iload hE 6 dX1_dealTo_86 rfl ?_
        obtain ⟨k25q, h⟩ := z_ck_some h
        refine z_iald hE (by omega) (e_right hq_x5) k25q dX1_dealTo_88 ?_
        refine z_icmp_eq hE 96 dX1_dealTo_89 rfl (fun c26q => ?_) (fun c26q => ?_)
        · replace h := z_t c26q h
          refine z_iconst (v := 0) hE dX1_dealTo_96 rfl ?_
          exact b_Deal_dealTo_b97 hc5 hE hret hrec (s_Deal_dealTo_L47 c5 rec n) ih x1 x2 x3 q_x5 x6 0 g23q hq_x5 h
        · replace h := z_f c26q h
          refine z_iconst (v := 1) hE dX1_dealTo_92 rfl ?_
          refine z_goto hE 97 dX1_dealTo_93 rfl ?_
          exact b_Deal_dealTo_b97 hc5 hE hret hrec (s_Deal_dealTo_L47 c5 rec n) ih x1 x2 x3 q_x5 x6 1 g23q hq_x5 h
set_option maxHeartbeats 1000000 in
set_option maxRecDepth 20000 in
theorem c_Deal_dealTo {X : z_X} {l : Launch} {o : z_G} : ∀ (d : Nat) (x1 : Int32) (x2 : Int32) (x3 : Int32) (c5 : Nat) (g : z_G) (r : z_G), c5 < 13 → s_Deal_dealTo d x1 x2 x3 c5 g = some r → z_MV X l 71 yX1_dealTo cX1_dealTo 8 none (1 + d) (60 + 27 * d) [.ref (z_ad X 67), .int x1, .int x2, .int x3, .ref (z_ad X 43), .ref (z_ad X (3 * c5))] g o r o := by
  intro d
  induction d with
  | zero => intro x1 x2 x3 c5 g r hc5 h; exact z_none h
  | succ d hrec =>
    intro x1 x2 x3 c5 g r hc5 h
    rw [s_Deal_dealTo] at h
    refine z_metv (by decide) (Nat.le_of_ble_eq_true rfl) (fun E hl hE hret => ?_)
    subst hl
    refine z_iload_n hE 1 dX1_dealTo_0 rfl ?_
    refine z_aload hE 4 dX1_dealTo_1 rfl ?_
    refine z_get hE f_RX1_26 (by decide) e_43 rfl dX1_dealTo_3 ?_
    refine z_icmp_ge hE 15 dX1_dealTo_6 rfl (fun c27q => ?_) (fun c27q => ?_)
    · replace h := z_t c27q h
      refine z_sub [(0, .ref (z_ad X 67)), (3, .int x3)] [0, 3] rfl ?_
      exact b_Deal_dealTo_b15 hc5 hE hret hrec x3 g h
    · replace h := z_f c27q h
      refine z_iload_n hE 1 dX1_dealTo_9 rfl ?_
      refine z_bipush (v := 6) hE dX1_dealTo_10 rfl ?_
      refine z_icmp_lt hE 44 dX1_dealTo_12 rfl (fun c28q => ?_) (fun c28q => ?_)
      · replace h := z_t c28q h
        refine z_iconst (v := 0) hE dX1_dealTo_44 rfl ?_
        refine z_istore hE [(6, .int 0), (0, .ref (z_ad X 67)), (1, .int x1), (2, .int x2), (3, .int x3), (4, .ref (z_ad X 43)), (5, .ref (z_ad X (3 * c5)))] dX1_dealTo_45 (by decide) rfl ?_
        refine z_sub [(0, .ref (z_ad X 67)), (1, .int x1), (2, .int x2), (3, .int x3), (4, .ref (z_ad X 43)), (5, .ref (z_ad X (3 * c5))), (6, .int 0)] [1, 2, 3, 4, 5, 6, 0] rfl ?_
        exact b_Deal_dealTo_L47 hc5 hE hret hrec z_F x1 x2 x3 c5 0 g hc5 h
      · replace h := z_f c28q h
        refine z_sub [(0, .ref (z_ad X 67)), (3, .int x3)] [0, 3] rfl ?_
        exact b_Deal_dealTo_b15 hc5 hE hret hrec x3 g h
