theorem dX10_told_0 : decode cX10_told 0 = .ok (.iload_n 1, 1) := by decide +kernel
theorem dX10_told_1 : decode cX10_told 1 = .ok (.ifCond .ge 7, 3) := by decide +kernel
theorem dX10_told_4 : decode cX10_told 4 = .ok (.iconst (-1), 1) := by decide +kernel
theorem dX10_told_5 : decode cX10_told 5 = .ok (.goto 41, 3) := by decide +kernel
theorem dX10_told_8 : decode cX10_told 8 = .ok (.iload_n 1, 1) := by decide +kernel
theorem dX10_told_9 : decode cX10_told 9 = .ok (.aload_n 0, 1) := by decide +kernel
theorem dX10_told_10 : decode cX10_told 10 = .ok (.getfield 7, 3) := by decide +kernel
theorem dX10_told_13 : decode cX10_told 13 = .ok (.bipush 47, 2) := by decide +kernel
theorem dX10_told_15 : decode cX10_told 15 = .ok (.iaload, 1) := by decide +kernel
theorem dX10_told_16 : decode cX10_told 16 = .ok (.if_icmp .lt 8, 3) := by decide +kernel
theorem dX10_told_19 : decode cX10_told 19 = .ok (.bipush (-4), 2) := by decide +kernel
theorem dX10_told_21 : decode cX10_told 21 = .ok (.goto 25, 3) := by decide +kernel
theorem dX10_told_24 : decode cX10_told 24 = .ok (.bipush 10, 2) := by decide +kernel
theorem dX10_told_26 : decode cX10_told 26 = .ok (.aload_n 0, 1) := by decide +kernel
theorem dX10_told_27 : decode cX10_told 27 = .ok (.getfield 7, 3) := by decide +kernel
theorem dX10_told_30 : decode cX10_told 30 = .ok (.bipush 48, 2) := by decide +kernel
theorem dX10_told_32 : decode cX10_told 32 = .ok (.iload_n 1, 1) := by decide +kernel
theorem dX10_told_33 : decode cX10_told 33 = .ok (.iadd, 1) := by decide +kernel
theorem dX10_told_34 : decode cX10_told 34 = .ok (.iaload, 1) := by decide +kernel
theorem dX10_told_35 : decode cX10_told 35 = .ok (.imul, 1) := by decide +kernel
theorem dX10_told_36 : decode cX10_told 36 = .ok (.aload_n 0, 1) := by decide +kernel
theorem dX10_told_37 : decode cX10_told 37 = .ok (.getfield 7, 3) := by decide +kernel
theorem dX10_told_40 : decode cX10_told 40 = .ok (.bipush 54, 2) := by decide +kernel
theorem dX10_told_42 : decode cX10_told 42 = .ok (.iload_n 1, 1) := by decide +kernel
theorem dX10_told_43 : decode cX10_told 43 = .ok (.iadd, 1) := by decide +kernel
theorem dX10_told_44 : decode cX10_told 44 = .ok (.iaload, 1) := by decide +kernel
theorem dX10_told_45 : decode cX10_told 45 = .ok (.iadd, 1) := by decide +kernel
theorem dX10_told_46 : decode cX10_told 46 = .ok (.ireturn, 1) := by decide +kernel
def s_Mod_told (x1 : Int32) (g : z_G) : Option (Int32) := (if (0 : Int32) ≤ x1 then (if x1 < (z_rd g 1 47) then (z_ck (z_inb (48 + x1) 120) (z_ck (z_inb (54 + x1) 120) (some ((10 * (z_rd g 1 (48 + x1))) + (z_rd g 1 (54 + x1)))))) else (some (-4))) else (some (-1)))
set_option maxHeartbeats 1000000 in
set_option maxRecDepth 20000 in
theorem c_Mod_told {X : z_X} {l : Launch} {o : z_G} (x1 : Int32) (g : z_G) (r : Int32) (h : s_Mod_told x1 g = some r) : z_MI X l 80 yX10_told cX10_told 2 (some .int) 0 0 [.ref (z_ad X 71), .int x1] o g o g r := by
  unfold s_Mod_told at h
  refine z_meti (ty := .int) rfl rfl (by decide) (Nat.le_of_ble_eq_true rfl) (fun E hl hE hret => ?_)
  subst hl
  refine z_iload_n hE 1 dX10_told_0 rfl ?_
  refine z_if_ge hE 8 dX10_told_1 rfl (fun c5q => ?_) (fun c5q => ?_)
  · replace h := z_t c5q h
    refine z_iload_n hE 1 dX10_told_8 rfl ?_
    refine z_aload_n hE 0 dX10_told_9 rfl ?_
    refine z_get hE f_RX10_7 (by decide) e_71 rfl dX10_told_10 ?_
    refine z_bipush (v := 47) hE dX10_told_13 rfl ?_
    refine z_iald hE (by decide) e_72 (by decide) dX10_told_15 ?_
    refine z_icmp_lt hE 24 dX10_told_16 rfl (fun c6q => ?_) (fun c6q => ?_)
    · replace h := z_t c6q h
      refine z_bipush (v := 10) hE dX10_told_24 rfl ?_
      refine z_aload_n hE 0 dX10_told_26 rfl ?_
      refine z_get hE f_RX10_7 (by decide) e_71 rfl dX10_told_27 ?_
      refine z_bipush (v := 48) hE dX10_told_30 rfl ?_
      refine z_iload_n hE 1 dX10_told_32 rfl ?_
      refine z_iadd hE dX10_told_33 ?_
      obtain ⟨k7q, h⟩ := z_ck_some h
      refine z_iald hE (by decide) e_72 k7q dX10_told_34 ?_
      refine z_imul hE dX10_told_35 ?_
      refine z_aload_n hE 0 dX10_told_36 rfl ?_
      refine z_get hE f_RX10_7 (by decide) e_71 rfl dX10_told_37 ?_
      refine z_bipush (v := 54) hE dX10_told_40 rfl ?_
      refine z_iload_n hE 1 dX10_told_42 rfl ?_
      refine z_iadd hE dX10_told_43 ?_
      obtain ⟨k8q, h⟩ := z_ck_some h
      refine z_iald hE (by decide) e_72 k8q dX10_told_44 ?_
      refine z_iadd hE dX10_told_45 ?_
      obtain rfl := Option.some.inj h
      exact hret _ _ dX10_told_46
    · replace h := z_f c6q h
      refine z_bipush (v := (-4)) hE dX10_told_19 rfl ?_
      refine z_goto hE 46 dX10_told_21 rfl ?_
      obtain rfl := Option.some.inj h
      exact hret _ _ dX10_told_46
  · replace h := z_f c5q h
    refine z_iconst (v := (-1)) hE dX10_told_4 rfl ?_
    refine z_goto hE 46 dX10_told_5 rfl ?_
    obtain rfl := Option.some.inj h
    exact hret _ _ dX10_told_46
theorem dX10_way_0 : decode cX10_way 0 = .ok (.iload_n 0, 1) := by decide +kernel
theorem dX10_way_1 : decode cX10_way 1 = .ok (.iload_n 2, 1) := by decide +kernel
theorem dX10_way_2 : decode cX10_way 2 = .ok (.invokestatic 103, 3) := by decide +kernel
theorem dX10_way_5 : decode cX10_way 5 = .ok (.istore 4, 2) := by decide +kernel
theorem dX10_way_7 : decode cX10_way 7 = .ok (.iload_n 1, 1) := by decide +kernel
theorem dX10_way_8 : decode cX10_way 8 = .ok (.iload_n 3, 1) := by decide +kernel
theorem dX10_way_9 : decode cX10_way 9 = .ok (.invokestatic 103, 3) := by decide +kernel
theorem dX10_way_12 : decode cX10_way 12 = .ok (.istore 5, 2) := by decide +kernel
theorem dX10_way_14 : decode cX10_way 14 = .ok (.iload 4, 2) := by decide +kernel
theorem dX10_way_16 : decode cX10_way 16 = .ok (.ifCond .ne 10, 3) := by decide +kernel
theorem dX10_way_19 : decode cX10_way 19 = .ok (.iload 5, 2) := by decide +kernel
theorem dX10_way_21 : decode cX10_way 21 = .ok (.ifCond .ne 5, 3) := by decide +kernel
theorem dX10_way_24 : decode cX10_way 24 = .ok (.iconst (-1), 1) := by decide +kernel
theorem dX10_way_25 : decode cX10_way 25 = .ok (.ireturn, 1) := by decide +kernel
theorem dX10_way_26 : decode cX10_way 26 = .ok (.iconst 2, 1) := by decide +kernel
theorem dX10_way_27 : decode cX10_way 27 = .ok (.iload 5, 2) := by decide +kernel
theorem dX10_way_29 : decode cX10_way 29 = .ok (.imul, 1) := by decide +kernel
theorem dX10_way_30 : decode cX10_way 30 = .ok (.iload 4, 2) := by decide +kernel
theorem dX10_way_32 : decode cX10_way 32 = .ok (.if_icmp .ge 15, 3) := by decide +kernel
theorem dX10_way_35 : decode cX10_way 35 = .ok (.iload_n 2, 1) := by decide +kernel
theorem dX10_way_36 : decode cX10_way 36 = .ok (.iload_n 0, 1) := by decide +kernel
theorem dX10_way_37 : decode cX10_way 37 = .ok (.if_icmp .le 7, 3) := by decide +kernel
theorem dX10_way_40 : decode cX10_way 40 = .ok (.iconst 2, 1) := by decide +kernel
theorem dX10_way_41 : decode cX10_way 41 = .ok (.goto 5, 3) := by decide +kernel
theorem dX10_way_44 : decode cX10_way 44 = .ok (.bipush 6, 2) := by decide +kernel
theorem dX10_way_46 : decode cX10_way 46 = .ok (.ireturn, 1) := by decide +kernel
theorem dX10_way_47 : decode cX10_way 47 = .ok (.iconst 2, 1) := by decide +kernel
theorem dX10_way_48 : decode cX10_way 48 = .ok (.iload 4, 2) := by decide +kernel
theorem dX10_way_50 : decode cX10_way 50 = .ok (.imul, 1) := by decide +kernel
theorem dX10_way_51 : decode cX10_way 51 = .ok (.iload 5, 2) := by decide +kernel
theorem dX10_way_53 : decode cX10_way 53 = .ok (.if_icmp .ge 14, 3) := by decide +kernel
theorem dX10_way_56 : decode cX10_way 56 = .ok (.iload_n 3, 1) := by decide +kernel
theorem dX10_way_57 : decode cX10_way 57 = .ok (.iload_n 1, 1) := by decide +kernel
theorem dX10_way_58 : decode cX10_way 58 = .ok (.if_icmp .le 7, 3) := by decide +kernel
theorem dX10_way_61 : decode cX10_way 61 = .ok (.iconst 4, 1) := by decide +kernel
theorem dX10_way_62 : decode cX10_way 62 = .ok (.goto 4, 3) := by decide +kernel
theorem dX10_way_65 : decode cX10_way 65 = .ok (.iconst 0, 1) := by decide +kernel
theorem dX10_way_66 : decode cX10_way 66 = .ok (.ireturn, 1) := by decide +kernel
theorem dX10_way_67 : decode cX10_way 67 = .ok (.iload_n 2, 1) := by decide +kernel
theorem dX10_way_68 : decode cX10_way 68 = .ok (.iload_n 0, 1) := by decide +kernel
theorem dX10_way_69 : decode cX10_way 69 = .ok (.if_icmp .le 16, 3) := by decide +kernel
theorem dX10_way_72 : decode cX10_way 72 = .ok (.iload_n 3, 1) := by decide +kernel
theorem dX10_way_73 : decode cX10_way 73 = .ok (.iload_n 1, 1) := by decide +kernel
theorem dX10_way_74 : decode cX10_way 74 = .ok (.if_icmp .le 7, 3) := by decide +kernel
theorem dX10_way_77 : decode cX10_way 77 = .ok (.iconst 3, 1) := by decide +kernel
theorem dX10_way_78 : decode cX10_way 78 = .ok (.goto 18, 3) := by decide +kernel
theorem dX10_way_81 : decode cX10_way 81 = .ok (.iconst 1, 1) := by decide +kernel
theorem dX10_way_82 : decode cX10_way 82 = .ok (.goto 14, 3) := by decide +kernel
theorem dX10_way_85 : decode cX10_way 85 = .ok (.iload_n 3, 1) := by decide +kernel
theorem dX10_way_86 : decode cX10_way 86 = .ok (.iload_n 1, 1) := by decide +kernel
theorem dX10_way_87 : decode cX10_way 87 = .ok (.if_icmp .le 7, 3) := by decide +kernel
theorem dX10_way_90 : decode cX10_way 90 = .ok (.iconst 5, 1) := by decide +kernel
theorem dX10_way_91 : decode cX10_way 91 = .ok (.goto 5, 3) := by decide +kernel
theorem dX10_way_94 : decode cX10_way 94 = .ok (.bipush 7, 2) := by decide +kernel
theorem dX10_way_96 : decode cX10_way 96 = .ok (.ireturn, 1) := by decide +kernel
def s_Mod_way_b26 (x0 : Int32) (x1 : Int32) (x2 : Int32) (x3 : Int32) (x4 : Int32) (x5 : Int32) : Int32 := (if x4 ≤ (2 * x5) then (if x5 ≤ (2 * x4) then (if x2 ≤ x0 then (if x3 ≤ x1 then 7 else 5) else (if x3 ≤ x1 then 1 else 3)) else (if x3 ≤ x1 then 0 else 4)) else (if x2 ≤ x0 then 6 else 2))
def s_Mod_way (x0 : Int32) (x1 : Int32) (x2 : Int32) (x3 : Int32) : Int32 := (z_let (α := Int32) ((s_Mod_apart x0 x2)) fun v19q => (z_let (α := Int32) ((s_Mod_apart x1 x3)) fun v20q => (if v19q = 0 then (if v20q = 0 then (-1) else (s_Mod_way_b26 x0 x1 x2 x3 v19q v20q)) else (s_Mod_way_b26 x0 x1 x2 x3 v19q v20q))))
set_option maxHeartbeats 1000000 in
set_option maxRecDepth 20000 in
theorem b_Mod_way_b26 {X : z_X} {E : z_ET} {o : z_G} {g : z_G} (hE : z_EV X E cX10_way 6 RX10 1 21 80) {r : Int32} (hret : ∀ (pc : Nat) (lv : List (Nat × Value)), decode cX10_way pc = .ok (.ireturn, 1) → z_V X E 6 o g pc lv [.int r]) (x0 : Int32) (x1 : Int32) (x2 : Int32) (x3 : Int32) (x4 : Int32) (x5 : Int32)  (h : s_Mod_way_b26 x0 x1 x2 x3 x4 x5 = r) : z_V X E 6 o g 26 [(0, .int x0), (1, .int x1), (2, .int x2), (3, .int x3), (4, .int x4), (5, .int x5)] [] := by
  unfold s_Mod_way_b26 at h
  refine z_iconst (v := 2) hE dX10_way_26 rfl ?_
  refine z_iload hE 5 dX10_way_27 rfl ?_
  refine z_imul hE dX10_way_29 ?_
  refine z_iload hE 4 dX10_way_30 rfl ?_
  refine z_icmp_ge hE 47 dX10_way_32 rfl (fun c12q => ?_) (fun c12q => ?_)
  · replace h := z_t c12q h
    refine z_iconst (v := 2) hE dX10_way_47 rfl ?_
    refine z_iload hE 4 dX10_way_48 rfl ?_
    refine z_imul hE dX10_way_50 ?_
    refine z_iload hE 5 dX10_way_51 rfl ?_
    refine z_icmp_ge hE 67 dX10_way_53 rfl (fun c13q => ?_) (fun c13q => ?_)
    · replace h := z_t c13q h
      refine z_iload_n hE 2 dX10_way_67 rfl ?_
      refine z_iload_n hE 0 dX10_way_68 rfl ?_
      refine z_icmp_le hE 85 dX10_way_69 rfl (fun c14q => ?_) (fun c14q => ?_)
      · replace h := z_t c14q h
        refine z_iload_n hE 3 dX10_way_85 rfl ?_
        refine z_iload_n hE 1 dX10_way_86 rfl ?_
        refine z_icmp_le hE 94 dX10_way_87 rfl (fun c15q => ?_) (fun c15q => ?_)
        · replace h := z_t c15q h
          refine z_bipush (v := 7) hE dX10_way_94 rfl ?_
          subst h
          exact hret _ _ dX10_way_96
        · replace h := z_f c15q h
          refine z_iconst (v := 5) hE dX10_way_90 rfl ?_
          refine z_goto hE 96 dX10_way_91 rfl ?_
          subst h
          exact hret _ _ dX10_way_96
      · replace h := z_f c14q h
        refine z_iload_n hE 3 dX10_way_72 rfl ?_
        refine z_iload_n hE 1 dX10_way_73 rfl ?_
        refine z_icmp_le hE 81 dX10_way_74 rfl (fun c16q => ?_) (fun c16q => ?_)
        · replace h := z_t c16q h
          refine z_iconst (v := 1) hE dX10_way_81 rfl ?_
          refine z_goto hE 96 dX10_way_82 rfl ?_
          subst h
          exact hret _ _ dX10_way_96
        · replace h := z_f c16q h
          refine z_iconst (v := 3) hE dX10_way_77 rfl ?_
          refine z_goto hE 96 dX10_way_78 rfl ?_
          subst h
          exact hret _ _ dX10_way_96
    · replace h := z_f c13q h
      refine z_iload_n hE 3 dX10_way_56 rfl ?_
      refine z_iload_n hE 1 dX10_way_57 rfl ?_
      refine z_icmp_le hE 65 dX10_way_58 rfl (fun c17q => ?_) (fun c17q => ?_)
      · replace h := z_t c17q h
        refine z_iconst (v := 0) hE dX10_way_65 rfl ?_
        subst h
        exact hret _ _ dX10_way_66
      · replace h := z_f c17q h
        refine z_iconst (v := 4) hE dX10_way_61 rfl ?_
        refine z_goto hE 66 dX10_way_62 rfl ?_
        subst h
        exact hret _ _ dX10_way_66
  · replace h := z_f c12q h
    refine z_iload_n hE 2 dX10_way_35 rfl ?_
    refine z_iload_n hE 0 dX10_way_36 rfl ?_
    refine z_icmp_le hE 44 dX10_way_37 rfl (fun c18q => ?_) (fun c18q => ?_)
    · replace h := z_t c18q h
      refine z_bipush (v := 6) hE dX10_way_44 rfl ?_
      subst h
      exact hret _ _ dX10_way_46
    · replace h := z_f c18q h
      refine z_iconst (v := 2) hE dX10_way_40 rfl ?_
      refine z_goto hE 46 dX10_way_41 rfl ?_
      subst h
      exact hret _ _ dX10_way_46
set_option maxHeartbeats 1000000 in
set_option maxRecDepth 20000 in
theorem c_Mod_way {X : z_X} {l : Launch} {o : z_G} (x0 : Int32) (x1 : Int32) (x2 : Int32) (x3 : Int32) (g : z_G) : z_MI X l 80 yX10_way cX10_way 6 (some .int) 1 21 [.int x0, .int x1, .int x2, .int x3] o g o g (s_Mod_way x0 x1 x2 x3) := by
  obtain ⟨r, h⟩ : ∃ r, s_Mod_way x0 x1 x2 x3 = r := ⟨_, rfl⟩
  rw [h]
  unfold s_Mod_way at h
  refine z_meti (ty := .int) rfl rfl (by decide) (Nat.le_of_ble_eq_true rfl) (fun E hl hE hret => ?_)
  subst hl
  refine z_iload_n hE 0 dX10_way_0 rfl ?_
  refine z_iload_n hE 2 dX10_way_1 rfl ?_
  refine z_iS (rest := []) (av := [.int x0, .int x2]) hE (c_Mod_apart x0 x2 g) l_RX10_103 (by decide) ⟨by decide, by decide⟩ dX10_way_2 rfl (Nat.le_of_ble_eq_true rfl) ?_
  obtain ⟨v19q, ev19q, h⟩ := z_let_eq h
  refine z_topi ev19q ?_
  refine z_istore hE [(4, .int v19q), (0, .int x0), (1, .int x1), (2, .int x2), (3, .int x3)] dX10_way_5 (by decide) rfl ?_
  refine z_iload_n hE 2 dX10_way_7 rfl ?_
  refine z_iload_n hE 4 dX10_way_8 rfl ?_
  refine z_iS (rest := []) (av := [.int x1, .int x3]) hE (c_Mod_apart x1 x3 g) l_RX10_103 (by decide) ⟨by decide, by decide⟩ dX10_way_9 rfl (Nat.le_of_ble_eq_true rfl) ?_
  obtain ⟨v20q, ev20q, h⟩ := z_let_eq h
  refine z_topi ev20q ?_
  refine z_istore hE [(5, .int v20q), (4, .int v19q), (0, .int x0), (1, .int x1), (2, .int x2), (3, .int x3)] dX10_way_12 (by decide) rfl ?_
  refine z_iload hE 1 dX10_way_14 rfl ?_
  refine z_if_ne hE 26 dX10_way_16 rfl (fun c21q => ?_) (fun c21q => ?_)
  · replace h := z_f c21q h
    refine z_sub [(0, .int x0), (1, .int x1), (2, .int x2), (3, .int x3), (4, .int v19q), (5, .int v20q)] [2, 3, 4, 5, 1, 0] rfl ?_
    exact b_Mod_way_b26 hE hret x0 x1 x2 x3 v19q v20q h
  · replace h := z_t c21q h
    refine z_iload hE 0 dX10_way_19 rfl ?_
    refine z_if_ne hE 26 dX10_way_21 rfl (fun c22q => ?_) (fun c22q => ?_)
    · replace h := z_f c22q h
      refine z_sub [(0, .int x0), (1, .int x1), (2, .int x2), (3, .int x3), (4, .int v19q), (5, .int v20q)] [2, 3, 4, 5, 1, 0] rfl ?_
      exact b_Mod_way_b26 hE hret x0 x1 x2 x3 v19q v20q h
    · replace h := z_t c22q h
      refine z_iconst (v := (-1)) hE dX10_way_24 rfl ?_
      subst h
      exact hret _ _ dX10_way_25
theorem dX10_toward_0 : decode cX10_toward 0 = .ok (.iload_n 1, 1) := by decide +kernel
theorem dX10_toward_1 : decode cX10_toward 1 = .ok (.i2l, 1) := by decide +kernel
theorem dX10_toward_2 : decode cX10_toward 2 = .ok (.lconst 0, 1) := by decide +kernel
theorem dX10_toward_3 : decode cX10_toward 3 = .ok (.ldc2_w 122, 3) := by decide +kernel
theorem dX10_toward_6 : decode cX10_toward 6 = .ok (.invokestatic 60, 3) := by decide +kernel
theorem dX10_toward_9 : decode cX10_toward 9 = .ok (.ifCond .eq 40, 3) := by decide +kernel
theorem dX10_toward_12 : decode cX10_toward 12 = .ok (.iload_n 2, 1) := by decide +kernel
theorem dX10_toward_13 : decode cX10_toward 13 = .ok (.i2l, 1) := by decide +kernel
theorem dX10_toward_14 : decode cX10_toward 14 = .ok (.lconst 0, 1) := by decide +kernel
theorem dX10_toward_15 : decode cX10_toward 15 = .ok (.ldc2_w 122, 3) := by decide +kernel
theorem dX10_toward_18 : decode cX10_toward 18 = .ok (.invokestatic 60, 3) := by decide +kernel
theorem dX10_toward_21 : decode cX10_toward 21 = .ok (.ifCond .eq 28, 3) := by decide +kernel
theorem dX10_toward_24 : decode cX10_toward 24 = .ok (.iload_n 3, 1) := by decide +kernel
theorem dX10_toward_25 : decode cX10_toward 25 = .ok (.i2l, 1) := by decide +kernel
theorem dX10_toward_26 : decode cX10_toward 26 = .ok (.lconst 0, 1) := by decide +kernel
theorem dX10_toward_27 : decode cX10_toward 27 = .ok (.ldc2_w 122, 3) := by decide +kernel
theorem dX10_toward_30 : decode cX10_toward 30 = .ok (.invokestatic 60, 3) := by decide +kernel
theorem dX10_toward_33 : decode cX10_toward 33 = .ok (.ifCond .eq 16, 3) := by decide +kernel
theorem dX10_toward_36 : decode cX10_toward 36 = .ok (.iload 4, 2) := by decide +kernel
theorem dX10_toward_38 : decode cX10_toward 38 = .ok (.i2l, 1) := by decide +kernel
theorem dX10_toward_39 : decode cX10_toward 39 = .ok (.lconst 0, 1) := by decide +kernel
theorem dX10_toward_40 : decode cX10_toward 40 = .ok (.ldc2_w 122, 3) := by decide +kernel
theorem dX10_toward_43 : decode cX10_toward 43 = .ok (.invokestatic 60, 3) := by decide +kernel
theorem dX10_toward_46 : decode cX10_toward 46 = .ok (.ifCond .ne 5, 3) := by decide +kernel
theorem dX10_toward_49 : decode cX10_toward 49 = .ok (.iconst (-1), 1) := by decide +kernel
theorem dX10_toward_50 : decode cX10_toward 50 = .ok (.ireturn, 1) := by decide +kernel
theorem dX10_toward_51 : decode cX10_toward 51 = .ok (.iload_n 1, 1) := by decide +kernel
theorem dX10_toward_52 : decode cX10_toward 52 = .ok (.iload_n 2, 1) := by decide +kernel
theorem dX10_toward_53 : decode cX10_toward 53 = .ok (.iload_n 3, 1) := by decide +kernel
theorem dX10_toward_54 : decode cX10_toward 54 = .ok (.iload 4, 2) := by decide +kernel
theorem dX10_toward_56 : decode cX10_toward 56 = .ok (.invokestatic 124, 3) := by decide +kernel
theorem dX10_toward_59 : decode cX10_toward 59 = .ok (.istore 5, 2) := by decide +kernel
theorem dX10_toward_61 : decode cX10_toward 61 = .ok (.iload 5, 2) := by decide +kernel
theorem dX10_toward_63 : decode cX10_toward 63 = .ok (.ifCond .ge 8, 3) := by decide +kernel
theorem dX10_toward_66 : decode cX10_toward 66 = .ok (.bipush (-4), 2) := by decide +kernel
theorem dX10_toward_68 : decode cX10_toward 68 = .ok (.goto 5, 3) := by decide +kernel
theorem dX10_toward_71 : decode cX10_toward 71 = .ok (.iload 5, 2) := by decide +kernel
theorem dX10_toward_73 : decode cX10_toward 73 = .ok (.ireturn, 1) := by decide +kernel
def s_Mod_toward_b49 : Int32 := (-1)
def s_Mod_toward (x1 : Int32) (x2 : Int32) (x3 : Int32) (x4 : Int32) : Int32 := (if (s_Mod_in (Int32.toInt64 x1) 0 15) = 0 then (s_Mod_toward_b49) else (if (s_Mod_in (Int32.toInt64 x2) 0 15) = 0 then (s_Mod_toward_b49) else (if (s_Mod_in (Int32.toInt64 x3) 0 15) = 0 then (s_Mod_toward_b49) else (if (s_Mod_in (Int32.toInt64 x4) 0 15) = 0 then (s_Mod_toward_b49) else (z_let (α := Int32) ((s_Mod_way x1 x2 x3 x4)) fun v11q => (if (0 : Int32) ≤ v11q then v11q else (-4)))))))
set_option maxHeartbeats 1000000 in
set_option maxRecDepth 20000 in
theorem b_Mod_toward_b49 {X : z_X} {E : z_ET} {o : z_G} {g : z_G} (hE : z_EV X E cX10_toward 6 RX10 2 46 80) {r : Int32} (hret : ∀ (pc : Nat) (lv : List (Nat × Value)), decode cX10_toward pc = .ok (.ireturn, 1) → z_V X E 6 o g pc lv [.int r])   (h : s_Mod_toward_b49 = r) : z_V X E 6 o g 49 [] [] := by
  unfold s_Mod_toward_b49 at h
  refine z_iconst (v := (-1)) hE dX10_toward_49 rfl ?_
  subst h
  exact hret _ _ dX10_toward_50
set_option maxHeartbeats 1000000 in
set_option maxRecDepth 20000 in
theorem c_Mod_toward {X : z_X} {l : Launch} {o : z_G} (x1 : Int32) (x2 : Int32) (x3 : Int32) (x4 : Int32) (g : z_G) : z_MI X l 80 yX10_toward cX10_toward 6 (some .int) 2 46 [.ref (z_ad X 71), .int x1, .int x2, .int x3, .int x4] o g o g (s_Mod_toward x1 x2 x3 x4) := by
  obtain ⟨r, h⟩ : ∃ r, s_Mod_toward x1 x2 x3 x4 = r := ⟨_, rfl⟩
  rw [h]
  unfold s_Mod_toward at h
  refine z_meti (ty := .int) rfl rfl (by decide) (Nat.le_of_ble_eq_true rfl) (fun E hl hE hret => ?_)
  subst hl
  refine z_iload_n hE 1 dX10_toward_0 rfl ?_
  refine z_i2l hE dX10_toward_1 ?_
  refine z_lconst (v := 0) hE dX10_toward_2 rfl ?_
  refine z_ldc2 hE dX10_toward_3 w_470 ?_
  refine z_iS (rest := []) (av := [.long (Int32.toInt64 x1), .long 0, .long 15]) hE (c_Mod_in (Int32.toInt64 x1) 0 15 g) l_RX10_60 (by decide) ⟨by decide, by decide⟩ dX10_toward_6 rfl (Nat.le_of_ble_eq_true rfl) ?_
  refine z_if_eq hE 49 dX10_toward_9 rfl (fun c7q => ?_) (fun c7q => ?_)
  · replace h := z_t c7q h
    refine z_sub [] [] rfl ?_
    exact b_Mod_toward_b49 hE hret h
  · replace h := z_f c7q h
    refine z_iload_n hE 2 dX10_toward_12 rfl ?_
    refine z_i2l hE dX10_toward_13 ?_
    refine z_lconst (v := 0) hE dX10_toward_14 rfl ?_
    refine z_ldc2 hE dX10_toward_15 w_470 ?_
    refine z_iS (rest := []) (av := [.long (Int32.toInt64 x2), .long 0, .long 15]) hE (c_Mod_in (Int32.toInt64 x2) 0 15 g) l_RX10_60 (by decide) ⟨by decide, by decide⟩ dX10_toward_18 rfl (Nat.le_of_ble_eq_true rfl) ?_
    refine z_if_eq hE 49 dX10_toward_21 rfl (fun c8q => ?_) (fun c8q => ?_)
    · replace h := z_t c8q h
      refine z_sub [] [] rfl ?_
      exact b_Mod_toward_b49 hE hret h
    · replace h := z_f c8q h
      refine z_iload_n hE 3 dX10_toward_24 rfl ?_
      refine z_i2l hE dX10_toward_25 ?_
      refine z_lconst (v := 0) hE dX10_toward_26 rfl ?_
      refine z_ldc2 hE dX10_toward_27 w_470 ?_
      refine z_iS (rest := []) (av := [.long (Int32.toInt64 x3), .long 0, .long 15]) hE (c_Mod_in (Int32.toInt64 x3) 0 15 g) l_RX10_60 (by decide) ⟨by decide, by decide⟩ dX10_toward_30 rfl (Nat.le_of_ble_eq_true rfl) ?_
      refine z_if_eq hE 49 dX10_toward_33 rfl (fun c9q => ?_) (fun c9q => ?_)
      · replace h := z_t c9q h
        refine z_sub [] [] rfl ?_
        exact b_Mod_toward_b49 hE hret h
      · replace h := z_f c9q h
        refine z_iload hE 4 dX10_toward_36 rfl ?_
        refine z_i2l hE dX10_toward_38 ?_
        refine z_lconst (v := 0) hE dX10_toward_39 rfl ?_
        refine z_ldc2 hE dX10_toward_40 w_470 ?_
        refine z_iS (rest := []) (av := [.long (Int32.toInt64 x4), .long 0, .long 15]) hE (c_Mod_in (Int32.toInt64 x4) 0 15 g) l_RX10_60 (by decide) ⟨by decide, by decide⟩ dX10_toward_43 rfl (Nat.le_of_ble_eq_true rfl) ?_
        refine z_if_ne hE 51 dX10_toward_46 rfl (fun c10q => ?_) (fun c10q => ?_)
        · replace h := z_f c10q h
          refine z_iload_n hE 1 dX10_toward_51 rfl ?_
          refine z_iload_n hE 2 dX10_toward_52 rfl ?_
          refine z_iload_n hE 3 dX10_toward_53 rfl ?_
          refine z_iload hE 4 dX10_toward_54 rfl ?_
          refine z_iS (rest := []) (av := [.int x1, .int x2, .int x3, .int x4]) hE (c_Mod_way x1 x2 x3 x4 g) l_RX10_124 (by decide) ⟨by decide, by decide⟩ dX10_toward_56 rfl (Nat.le_of_ble_eq_true rfl) ?_
          obtain ⟨v11q, ev11q, h⟩ := z_let_eq h
          refine z_topi ev11q ?_
          refine z_istore hE [(5, .int v11q), (0, .ref (z_ad X 71)), (1, .int x1), (2, .int x2), (3, .int x3), (4, .int x4)] dX10_toward_59 (by decide) rfl ?_
          refine z_iload hE 0 dX10_toward_61 rfl ?_
          refine z_if_ge hE 71 dX10_toward_63 rfl (fun c12q => ?_) (fun c12q => ?_)
          · replace h := z_t c12q h
            refine z_iload hE 0 dX10_toward_71 rfl ?_
            subst h
            exact hret _ _ dX10_toward_73
          · replace h := z_f c12q h
            refine z_bipush (v := (-4)) hE dX10_toward_66 rfl ?_
            refine z_goto hE 73 dX10_toward_68 rfl ?_
            subst h
            exact hret _ _ dX10_toward_73
        · replace h := z_t c10q h
          refine z_sub [] [] rfl ?_
          exact b_Mod_toward_b49 hE hret h
theorem dX10_isOrder_0 : decode cX10_isOrder 0 = .ok (.iload_n 0, 1) := by decide +kernel
theorem dX10_isOrder_1 : decode cX10_isOrder 1 = .ok (.i2l, 1) := by decide +kernel
theorem dX10_isOrder_2 : decode cX10_isOrder 2 = .ok (.lconst 0, 1) := by decide +kernel
theorem dX10_isOrder_3 : decode cX10_isOrder 3 = .ok (.ldc2_w 164, 3) := by decide +kernel
theorem dX10_isOrder_6 : decode cX10_isOrder 6 = .ok (.invokestatic 60, 3) := by decide +kernel
theorem dX10_isOrder_9 : decode cX10_isOrder 9 = .ok (.ifCond .eq 19, 3) := by decide +kernel
theorem dX10_isOrder_12 : decode cX10_isOrder 12 = .ok (.iload_n 1, 1) := by decide +kernel
theorem dX10_isOrder_13 : decode cX10_isOrder 13 = .ok (.i2l, 1) := by decide +kernel
theorem dX10_isOrder_14 : decode cX10_isOrder 14 = .ok (.lconst 0, 1) := by decide +kernel
theorem dX10_isOrder_15 : decode cX10_isOrder 15 = .ok (.ldc2_w 166, 3) := by decide +kernel
theorem dX10_isOrder_18 : decode cX10_isOrder 18 = .ok (.invokestatic 60, 3) := by decide +kernel
theorem dX10_isOrder_21 : decode cX10_isOrder 21 = .ok (.ifCond .eq 7, 3) := by decide +kernel
theorem dX10_isOrder_24 : decode cX10_isOrder 24 = .ok (.iconst 1, 1) := by decide +kernel
theorem dX10_isOrder_25 : decode cX10_isOrder 25 = .ok (.goto 4, 3) := by decide +kernel
theorem dX10_isOrder_28 : decode cX10_isOrder 28 = .ok (.iconst 0, 1) := by decide +kernel
theorem dX10_isOrder_29 : decode cX10_isOrder 29 = .ok (.ireturn, 1) := by decide +kernel
def s_Mod_isOrder_b28 : Int32 := 0
def s_Mod_isOrder (x0 : Int32) (x1 : Int32) : Int32 := (if (s_Mod_in (Int32.toInt64 x0) 0 7) = 0 then (s_Mod_isOrder_b28) else (if (s_Mod_in (Int32.toInt64 x1) 0 9) = 0 then (s_Mod_isOrder_b28) else 1))
set_option maxHeartbeats 1000000 in
set_option maxRecDepth 20000 in
theorem b_Mod_isOrder_b28 {X : z_X} {E : z_ET} {o : z_G} {g : z_G} (hE : z_EV X E cX10_isOrder 2 RX10 1 25 80) {r : Int32} (hret : ∀ (pc : Nat) (lv : List (Nat × Value)), z_bit r = true → decode cX10_isOrder pc = .ok (.ireturn, 1) → z_V X E 2 o g pc lv [.int r])   (h : s_Mod_isOrder_b28 = r) : z_V X E 2 o g 28 [] [] := by
  unfold s_Mod_isOrder_b28 at h
  refine z_iconst (v := 0) hE dX10_isOrder_28 rfl ?_
  subst h
  exact hret _ _ z_b0 dX10_isOrder_29
set_option maxHeartbeats 1000000 in
set_option maxRecDepth 20000 in
theorem t_Mod_isOrder (x0 : Int32) (x1 : Int32) : z_bit (s_Mod_isOrder x0 x1) = true := by
  unfold s_Mod_isOrder s_Mod_isOrder_b28
  repeat' split
  all_goals (first | rfl | decide | rfl)
set_option maxHeartbeats 1000000 in
set_option maxRecDepth 20000 in
theorem c_Mod_isOrder {X : z_X} {l : Launch} {o : z_G} (x0 : Int32) (x1 : Int32) (g : z_G) : z_MI X l 80 yX10_isOrder cX10_isOrder 2 (some .boolean) 1 25 [.int x0, .int x1] o g o g (s_Mod_isOrder x0 x1) := by
  obtain ⟨r, h⟩ : ∃ r, s_Mod_isOrder x0 x1 = r := ⟨_, rfl⟩
  rw [h]
  unfold s_Mod_isOrder at h
  refine z_metz (by decide) (Nat.le_of_ble_eq_true rfl) (fun E hl hE hret => ?_)
  subst hl
  refine z_iload_n hE 0 dX10_isOrder_0 rfl ?_
  refine z_i2l hE dX10_isOrder_1 ?_
  refine z_lconst (v := 0) hE dX10_isOrder_2 rfl ?_
  refine z_ldc2 hE dX10_isOrder_3 w_474 ?_
  refine z_iS (rest := []) (av := [.long (Int32.toInt64 x0), .long 0, .long 7]) hE (c_Mod_in (Int32.toInt64 x0) 0 7 g) l_RX10_60 (by decide) ⟨by decide, by decide⟩ dX10_isOrder_6 rfl (Nat.le_of_ble_eq_true rfl) ?_
  refine z_if_eq hE 28 dX10_isOrder_9 rfl (fun c3q => ?_) (fun c3q => ?_)
  · replace h := z_t c3q h
    refine z_sub [] [] rfl ?_
    exact b_Mod_isOrder_b28 hE hret h
  · replace h := z_f c3q h
    refine z_iload_n hE 1 dX10_isOrder_12 rfl ?_
    refine z_i2l hE dX10_isOrder_13 ?_
    refine z_lconst (v := 0) hE dX10_isOrder_14 rfl ?_
    refine z_ldc2 hE dX10_isOrder_15 w_475 ?_
    refine z_iS (rest := []) (av := [.long (Int32.toInt64 x1), .long 0, .long 9]) hE (c_Mod_in (Int32.toInt64 x1) 0 9 g) l_RX10_60 (by decide) ⟨by decide, by decide⟩ dX10_isOrder_18 rfl (Nat.le_of_ble_eq_true rfl) ?_
    refine z_if_eq hE 28 dX10_isOrder_21 rfl (fun c4q => ?_) (fun c4q => ?_)
    · replace h := z_t c4q h
      refine z_sub [] [] rfl ?_
      exact b_Mod_isOrder_b28 hE hret h
    · replace h := z_f c4q h
      refine z_iconst (v := 1) hE dX10_isOrder_24 rfl ?_
      refine z_goto hE 29 dX10_isOrder_25 rfl ?_
      subst h
      exact hret _ _ z_b1 dX10_isOrder_29
theorem dX10_copies_0 : decode cX10_copies 0 = .ok (.iconst 0, 1) := by decide +kernel
theorem dX10_copies_1 : decode cX10_copies 1 = .ok (.istore_n 3, 1) := by decide +kernel
theorem dX10_copies_2 : decode cX10_copies 2 = .ok (.iload_n 3, 1) := by decide +kernel
theorem dX10_copies_3 : decode cX10_copies 3 = .ok (.bipush 26, 2) := by decide +kernel
theorem dX10_copies_5 : decode cX10_copies 5 = .ok (.if_icmp .ge 25, 3) := by decide +kernel
theorem dX10_copies_8 : decode cX10_copies 8 = .ok (.aload_n 0, 1) := by decide +kernel
theorem dX10_copies_9 : decode cX10_copies 9 = .ok (.getfield 13, 3) := by decide +kernel
theorem dX10_copies_12 : decode cX10_copies 12 = .ok (.iload_n 2, 1) := by decide +kernel
theorem dX10_copies_13 : decode cX10_copies 13 = .ok (.iload_n 3, 1) := by decide +kernel
theorem dX10_copies_14 : decode cX10_copies 14 = .ok (.iadd, 1) := by decide +kernel
theorem dX10_copies_15 : decode cX10_copies 15 = .ok (.aload_n 0, 1) := by decide +kernel
theorem dX10_copies_16 : decode cX10_copies 16 = .ok (.getfield 13, 3) := by decide +kernel
theorem dX10_copies_19 : decode cX10_copies 19 = .ok (.iload_n 1, 1) := by decide +kernel
theorem dX10_copies_20 : decode cX10_copies 20 = .ok (.iload_n 3, 1) := by decide +kernel
theorem dX10_copies_21 : decode cX10_copies 21 = .ok (.iadd, 1) := by decide +kernel
theorem dX10_copies_22 : decode cX10_copies 22 = .ok (.iaload, 1) := by decide +kernel
theorem dX10_copies_23 : decode cX10_copies 23 = .ok (.iastore, 1) := by decide +kernel
theorem dX10_copies_24 : decode cX10_copies 24 = .ok (.iinc 3 1, 3) := by decide +kernel
theorem dX10_copies_27 : decode cX10_copies 27 = .ok (.goto (-25), 3) := by decide +kernel
theorem dX10_copies_30 : decode cX10_copies 30 = .ok (.return_, 1) := by decide +kernel
def s_Mod_copies_L2 : Nat → Int32 → Int32 → Int32 → z_G → Option (z_G)
  | 0, _, _, _, _ => none
  | n + 1, x1, x2, x3, g => (if 26 ≤ x3 then (some g) else (z_ck (z_inb (x1 + x3) 312) (z_ck (z_inb (x2 + x3) 312) (z_let (α := z_G) (z_wr g 2 (x2 + x3) (z_rd g 2 (x1 + x3))) fun g8q => ((s_Mod_copies_L2 n) x1 x2 (x3 + 1) g8q)))))
def s_Mod_copies (x1 : Int32) (x2 : Int32) (g : z_G) : Option (z_G) := (s_Mod_copies_L2 z_F x1 x2 0 g)
set_option maxHeartbeats 1000000 in
set_option maxRecDepth 20000 in
theorem b_Mod_copies_L2 {X : z_X} {E : z_ET} {o : z_G} (hE : z_EV X E cX10_copies 4 RX10 0 0 80) {r : z_G} (hret : ∀ (pc : Nat) (lv : List (Nat × Value)), decode cX10_copies pc = .ok (.return_, 1) → z_V X E 4 o r pc lv []) : ∀ (n : Nat) (x1 : Int32) (x2 : Int32) (x3 : Int32) (g : z_G), s_Mod_copies_L2 n x1 x2 x3 g = some r → z_V X E 4 o g 2 [(0, .ref (z_ad X 71)), (1, .int x1), (2, .int x2), (3, .int x3)] [] := by
  intro n
  induction n with
  | zero => intro x1 x2 x3 g h; exact z_none h
  | succ n ih =>
    intro x1 x2 x3 g h
    rw [s_Mod_copies_L2] at h
    refine z_iload_n hE 3 dX10_copies_2 rfl ?_
    refine z_bipush (v := 26) hE dX10_copies_3 rfl ?_
    refine z_icmp_ge hE 30 dX10_copies_5 rfl (fun c5q => ?_) (fun c5q => ?_)
    · replace h := z_t c5q h
      obtain rfl := Option.some.inj h
      exact hret _ _ dX10_copies_30
    · replace h := z_f c5q h
      refine z_aload_n hE 0 dX10_copies_8 rfl ?_
      refine z_get hE f_RX10_13 (by decide) e_71 rfl dX10_copies_9 ?_
      refine z_iload_n hE 2 dX10_copies_12 rfl ?_
      refine z_iload_n hE 3 dX10_copies_13 rfl ?_
      refine z_iadd hE dX10_copies_14 ?_
      refine z_aload_n hE 0 dX10_copies_15 rfl ?_
      refine z_get hE f_RX10_13 (by decide) e_71 rfl dX10_copies_16 ?_
      refine z_iload_n hE 1 dX10_copies_19 rfl ?_
      refine z_iload_n hE 3 dX10_copies_20 rfl ?_
      refine z_iadd hE dX10_copies_21 ?_
      obtain ⟨k6q, h⟩ := z_ck_some h
      refine z_iald hE (by decide) e_73 k6q dX10_copies_22 ?_
      obtain ⟨k7q, h⟩ := z_ck_some h
      obtain ⟨g8q, eg8q, h⟩ := z_let_eq h
      refine z_iast hE (by decide) e_73 k7q (ua_73 eg8q) dX10_copies_23 ?_
      refine z_iinc (v := x3 + 1) hE 3 [(3, .int (x3 + 1)), (0, .ref (z_ad X 71)), (1, .int x1), (2, .int x2)] dX10_copies_24 rfl rfl (by decide) rfl ?_
      refine z_goto hE 2 dX10_copies_27 rfl ?_
      refine z_sub [(0, .ref (z_ad X 71)), (1, .int x1), (2, .int x2), (3, .int (x3 + 1))] [1, 2, 3, 0] rfl ?_
      exact ih x1 x2 (x3 + 1) g8q h
set_option maxHeartbeats 1000000 in
set_option maxRecDepth 20000 in
theorem c_Mod_copies {X : z_X} {l : Launch} {o : z_G} (x1 : Int32) (x2 : Int32) (g : z_G) (r : z_G) (h : s_Mod_copies x1 x2 g = some r) : z_MV X l 80 yX10_copies cX10_copies 4 none 0 0 [.ref (z_ad X 71), .int x1, .int x2] o g o r := by
  unfold s_Mod_copies at h
  refine z_metv (by decide) (Nat.le_of_ble_eq_true rfl) (fun E hl hE hret => ?_)
  subst hl
  refine z_iconst (v := 0) hE dX10_copies_0 rfl ?_
  refine z_istore_n hE [(3, .int 0), (0, .ref (z_ad X 71)), (1, .int x1), (2, .int x2)] dX10_copies_1 rfl (by decide) rfl ?_
  refine z_sub [(0, .ref (z_ad X 71)), (1, .int x1), (2, .int x2), (3, .int 0)] [1, 2, 3, 0] rfl ?_
  exact b_Mod_copies_L2 hE hret z_F x1 x2 0 g h
theorem dX10_known_0 : decode cX10_known 0 = .ok (.aload_n 0, 1) := by decide +kernel
theorem dX10_known_1 : decode cX10_known 1 = .ok (.getfield 46, 3) := by decide +kernel
theorem dX10_known_4 : decode cX10_known 4 = .ok (.bipush 8, 2) := by decide +kernel
theorem dX10_known_6 : decode cX10_known 6 = .ok (.if_icmp .ne 40, 3) := by decide +kernel
theorem dX10_known_9 : decode cX10_known 9 = .ok (.bipush 26, 2) := by decide +kernel
theorem dX10_known_11 : decode cX10_known 11 = .ok (.istore_n 1, 1) := by decide +kernel
theorem dX10_known_12 : decode cX10_known 12 = .ok (.iload_n 1, 1) := by decide +kernel
theorem dX10_known_13 : decode cX10_known 13 = .ok (.sipush 208, 3) := by decide +kernel
theorem dX10_known_16 : decode cX10_known 16 = .ok (.if_icmp .ge 24, 3) := by decide +kernel
theorem dX10_known_19 : decode cX10_known 19 = .ok (.aload_n 0, 1) := by decide +kernel
theorem dX10_known_20 : decode cX10_known 20 = .ok (.getfield 13, 3) := by decide +kernel
theorem dX10_known_23 : decode cX10_known 23 = .ok (.iload_n 1, 1) := by decide +kernel
theorem dX10_known_24 : decode cX10_known 24 = .ok (.aload_n 0, 1) := by decide +kernel
theorem dX10_known_25 : decode cX10_known 25 = .ok (.getfield 13, 3) := by decide +kernel
theorem dX10_known_28 : decode cX10_known 28 = .ok (.iload_n 1, 1) := by decide +kernel
theorem dX10_known_29 : decode cX10_known 29 = .ok (.bipush 26, 2) := by decide +kernel
theorem dX10_known_31 : decode cX10_known 31 = .ok (.iadd, 1) := by decide +kernel
theorem dX10_known_32 : decode cX10_known 32 = .ok (.iaload, 1) := by decide +kernel
theorem dX10_known_33 : decode cX10_known 33 = .ok (.iastore, 1) := by decide +kernel
theorem dX10_known_34 : decode cX10_known 34 = .ok (.iinc 1 1, 3) := by decide +kernel
theorem dX10_known_37 : decode cX10_known 37 = .ok (.goto (-25), 3) := by decide +kernel
theorem dX10_known_40 : decode cX10_known 40 = .ok (.aload_n 0, 1) := by decide +kernel
theorem dX10_known_41 : decode cX10_known 41 = .ok (.bipush 7, 2) := by decide +kernel
theorem dX10_known_43 : decode cX10_known 43 = .ok (.putfield 46, 3) := by decide +kernel
theorem dX10_known_46 : decode cX10_known 46 = .ok (.aload_n 0, 1) := by decide +kernel
theorem dX10_known_47 : decode cX10_known 47 = .ok (.dup, 1) := by decide +kernel
theorem dX10_known_48 : decode cX10_known 48 = .ok (.getfield 46, 3) := by decide +kernel
theorem dX10_known_51 : decode cX10_known 51 = .ok (.iconst 1, 1) := by decide +kernel
theorem dX10_known_52 : decode cX10_known 52 = .ok (.iadd, 1) := by decide +kernel
theorem dX10_known_53 : decode cX10_known 53 = .ok (.putfield 46, 3) := by decide +kernel
theorem dX10_known_56 : decode cX10_known 56 = .ok (.aload_n 0, 1) := by decide +kernel
theorem dX10_known_57 : decode cX10_known 57 = .ok (.iconst 0, 1) := by decide +kernel
theorem dX10_known_58 : decode cX10_known 58 = .ok (.aload_n 0, 1) := by decide +kernel
theorem dX10_known_59 : decode cX10_known 59 = .ok (.getfield 46, 3) := by decide +kernel
theorem dX10_known_62 : decode cX10_known 62 = .ok (.bipush 26, 2) := by decide +kernel
theorem dX10_known_64 : decode cX10_known 64 = .ok (.imul, 1) := by decide +kernel
theorem dX10_known_65 : decode cX10_known 65 = .ok (.invokevirtual 161, 3) := by decide +kernel
theorem dX10_known_68 : decode cX10_known 68 = .ok (.return_, 1) := by decide +kernel
def s_Mod_known_b46  (g : z_G) : Option (z_G) := (z_let (α := z_G) (z_up g 0 2 ((g 0 2) + 1)) fun g9q => (Option.bind (s_Mod_copies 0 ((g9q 0 2) * 26) g9q) fun r10q => (some r10q)))
def s_Mod_known_L12 : Nat → Int32 → z_G → Option (z_G)
  | 0, _, _ => none
  | n + 1, x1, g => (if 208 ≤ x1 then (z_let (α := z_G) (z_up g 0 2 7) fun g12q => (s_Mod_known_b46 g12q)) else (z_ck (z_inb (x1 + 26) 312) (z_ck (z_inb x1 312) (z_let (α := z_G) (z_wr g 2 x1 (z_rd g 2 (x1 + 26))) fun g15q => ((s_Mod_known_L12 n) (x1 + 1) g15q)))))
def s_Mod_known (g : z_G) : Option (z_G) := (if (g 0 2) = 8 then (s_Mod_known_L12 z_F 26 g) else (s_Mod_known_b46 g))
set_option maxHeartbeats 1000000 in
set_option maxRecDepth 20000 in
theorem b_Mod_known_b46 {X : z_X} {E : z_ET} {o : z_G} (hE : z_EV X E cX10_known 2 RX10 1 23 80) {r : z_G} (hret : ∀ (pc : Nat) (lv : List (Nat × Value)), decode cX10_known pc = .ok (.return_, 1) → z_V X E 2 o r pc lv [])  (g : z_G)  (h : s_Mod_known_b46 g = some r) : z_V X E 2 o g 46 [(0, .ref (z_ad X 71))] [] := by
  unfold s_Mod_known_b46 at h
  refine z_aload_n hE 0 dX10_known_46 rfl ?_
  refine z_dup hE dX10_known_47 rfl ?_
  refine z_get hE f_RX10_46 (by decide) e_71 rfl dX10_known_48 ?_
  refine z_iconst (v := 1) hE dX10_known_51 rfl ?_
  refine z_iadd hE dX10_known_52 ?_
  obtain ⟨g9q, eg9q, h⟩ := z_let_eq h
  refine z_put hE f_RX10_46 ft_10 (by decide) e_71 rfl (tyX10_ok 2 (by decide)) rfl rfl (Nat.le_of_ble_eq_true rfl) (u_71_2 eg9q) dX10_known_53 ?_
  refine z_aload_n hE 0 dX10_known_56 rfl ?_
  refine z_iconst (v := 0) hE dX10_known_57 rfl ?_
  refine z_aload_n hE 0 dX10_known_58 rfl ?_
  refine z_get hE f_RX10_46 (by decide) e_71 rfl dX10_known_59 ?_
  refine z_bipush (v := 26) hE dX10_known_62 rfl ?_
  refine z_imul hE dX10_known_64 ?_
  obtain ⟨r10q, hr10q, h⟩ := z_bind_some h
  refine z_vV (rest := []) (av := [.int 0, .int ((g9q 0 2) * 26)]) hE (c_Mod_copies 0 ((g9q 0 2) * 26) g9q r10q hr10q) l_RX10_161 (by decide) (by decide) e_71 rfl ⟨by decide, by decide⟩ dX10_known_65 rfl (Nat.le_of_ble_eq_true rfl) ?_
  obtain rfl := Option.some.inj h
  exact hret _ _ dX10_known_68
set_option maxHeartbeats 1000000 in
set_option maxRecDepth 20000 in
theorem b_Mod_known_L12 {X : z_X} {E : z_ET} {o : z_G} (hE : z_EV X E cX10_known 2 RX10 1 23 80) {r : z_G} (hret : ∀ (pc : Nat) (lv : List (Nat × Value)), decode cX10_known pc = .ok (.return_, 1) → z_V X E 2 o r pc lv []) : ∀ (n : Nat) (x1 : Int32) (g : z_G), s_Mod_known_L12 n x1 g = some r → z_V X E 2 o g 12 [(0, .ref (z_ad X 71)), (1, .int x1)] [] := by
  intro n
  induction n with
  | zero => intro x1 g h; exact z_none h
  | succ n ih =>
    intro x1 g h
    rw [s_Mod_known_L12] at h
    refine z_iload_n hE 1 dX10_known_12 rfl ?_
    refine z_sipush (v := 208) hE dX10_known_13 rfl ?_
    refine z_icmp_ge hE 40 dX10_known_16 rfl (fun c11q => ?_) (fun c11q => ?_)
    · replace h := z_t c11q h
      refine z_aload_n hE 0 dX10_known_40 rfl ?_
      refine z_bipush (v := 7) hE dX10_known_41 rfl ?_
      obtain ⟨g12q, eg12q, h⟩ := z_let_eq h
      refine z_put hE f_RX10_46 ft_10 (by decide) e_71 rfl (tyX10_ok 2 (by decide)) rfl rfl (Nat.le_of_ble_eq_true rfl) (u_71_2 eg12q) dX10_known_43 ?_
      refine z_sub [(0, .ref (z_ad X 71))] [0] rfl ?_
      exact b_Mod_known_b46 hE hret g12q h
    · replace h := z_f c11q h
      refine z_aload_n hE 0 dX10_known_19 rfl ?_
      refine z_get hE f_RX10_13 (by decide) e_71 rfl dX10_known_20 ?_
      refine z_iload_n hE 1 dX10_known_23 rfl ?_
      refine z_aload_n hE 0 dX10_known_24 rfl ?_
      refine z_get hE f_RX10_13 (by decide) e_71 rfl dX10_known_25 ?_
      refine z_iload_n hE 1 dX10_known_28 rfl ?_
      refine z_bipush (v := 26) hE dX10_known_29 rfl ?_
      refine z_iadd hE dX10_known_31 ?_
      obtain ⟨k13q, h⟩ := z_ck_some h
      refine z_iald hE (by decide) e_73 k13q dX10_known_32 ?_
      obtain ⟨k14q, h⟩ := z_ck_some h
      obtain ⟨g15q, eg15q, h⟩ := z_let_eq h
      refine z_iast hE (by decide) e_73 k14q (ua_73 eg15q) dX10_known_33 ?_
      refine z_iinc (v := x1 + 1) hE 1 [(1, .int (x1 + 1)), (0, .ref (z_ad X 71))] dX10_known_34 rfl rfl (by decide) rfl ?_
      refine z_goto hE 12 dX10_known_37 rfl ?_
      refine z_sub [(0, .ref (z_ad X 71)), (1, .int (x1 + 1))] [1, 0] rfl ?_
      exact ih (x1 + 1) g15q h
set_option maxHeartbeats 1000000 in
set_option maxRecDepth 20000 in
theorem c_Mod_known {X : z_X} {l : Launch} {o : z_G} (g : z_G) (r : z_G) (h : s_Mod_known g = some r) : z_MV X l 80 yX10_known cX10_known 2 none 1 23 [.ref (z_ad X 71)] o g o r := by
  unfold s_Mod_known at h
  refine z_metv (by decide) (Nat.le_of_ble_eq_true rfl) (fun E hl hE hret => ?_)
  subst hl
  refine z_aload_n hE 0 dX10_known_0 rfl ?_
  refine z_get hE f_RX10_46 (by decide) e_71 rfl dX10_known_1 ?_
  refine z_bipush (v := 8) hE dX10_known_4 rfl ?_
  refine z_icmp_ne hE 46 dX10_known_6 rfl (fun c16q => ?_) (fun c16q => ?_)
  · replace h := z_f c16q h
    exact b_Mod_known_b46 hE hret g h
  · replace h := z_t c16q h
    refine z_bipush (v := 26) hE dX10_known_9 rfl ?_
    refine z_istore_n hE [(1, .int 26), (0, .ref (z_ad X 71))] dX10_known_11 rfl (by decide) rfl ?_
    refine z_sub [(0, .ref (z_ad X 71)), (1, .int 26)] [1, 0] rfl ?_
    exact b_Mod_known_L12 hE hret z_F 26 g h
theorem dX10_picks_0 : decode cX10_picks 0 = .ok (.aload_n 0, 1) := by decide +kernel
theorem dX10_picks_1 : decode cX10_picks 1 = .ok (.aload_n 0, 1) := by decide +kernel
theorem dX10_picks_2 : decode cX10_picks 2 = .ok (.getfield 13, 3) := by decide +kernel
theorem dX10_picks_5 : decode cX10_picks 5 = .ok (.iload_n 1, 1) := by decide +kernel
theorem dX10_picks_6 : decode cX10_picks 6 = .ok (.iload_n 2, 1) := by decide +kernel
theorem dX10_picks_7 : decode cX10_picks 7 = .ok (.iadd, 1) := by decide +kernel
theorem dX10_picks_8 : decode cX10_picks 8 = .ok (.iaload, 1) := by decide +kernel
theorem dX10_picks_9 : decode cX10_picks 9 = .ok (.putfield 135, 3) := by decide +kernel
theorem dX10_picks_12 : decode cX10_picks 12 = .ok (.aload_n 0, 1) := by decide +kernel
theorem dX10_picks_13 : decode cX10_picks 13 = .ok (.aload_n 0, 1) := by decide +kernel
theorem dX10_picks_14 : decode cX10_picks 14 = .ok (.getfield 13, 3) := by decide +kernel
theorem dX10_picks_17 : decode cX10_picks 17 = .ok (.iload_n 1, 1) := by decide +kernel
theorem dX10_picks_18 : decode cX10_picks 18 = .ok (.bipush 6, 2) := by decide +kernel
theorem dX10_picks_20 : decode cX10_picks 20 = .ok (.iadd, 1) := by decide +kernel
theorem dX10_picks_21 : decode cX10_picks 21 = .ok (.iload_n 2, 1) := by decide +kernel
theorem dX10_picks_22 : decode cX10_picks 22 = .ok (.iadd, 1) := by decide +kernel
theorem dX10_picks_23 : decode cX10_picks 23 = .ok (.iaload, 1) := by decide +kernel
theorem dX10_picks_24 : decode cX10_picks 24 = .ok (.putfield 138, 3) := by decide +kernel
theorem dX10_picks_27 : decode cX10_picks 27 = .ok (.aload_n 0, 1) := by decide +kernel
theorem dX10_picks_28 : decode cX10_picks 28 = .ok (.aload_n 0, 1) := by decide +kernel
theorem dX10_picks_29 : decode cX10_picks 29 = .ok (.getfield 13, 3) := by decide +kernel
theorem dX10_picks_32 : decode cX10_picks 32 = .ok (.iload_n 1, 1) := by decide +kernel
theorem dX10_picks_33 : decode cX10_picks 33 = .ok (.bipush 12, 2) := by decide +kernel
theorem dX10_picks_35 : decode cX10_picks 35 = .ok (.iadd, 1) := by decide +kernel
theorem dX10_picks_36 : decode cX10_picks 36 = .ok (.iload_n 2, 1) := by decide +kernel
theorem dX10_picks_37 : decode cX10_picks 37 = .ok (.iadd, 1) := by decide +kernel
theorem dX10_picks_38 : decode cX10_picks 38 = .ok (.iaload, 1) := by decide +kernel
theorem dX10_picks_39 : decode cX10_picks 39 = .ok (.putfield 128, 3) := by decide +kernel
theorem dX10_picks_42 : decode cX10_picks 42 = .ok (.aload_n 0, 1) := by decide +kernel
theorem dX10_picks_43 : decode cX10_picks 43 = .ok (.aload_n 0, 1) := by decide +kernel
theorem dX10_picks_44 : decode cX10_picks 44 = .ok (.getfield 13, 3) := by decide +kernel
theorem dX10_picks_47 : decode cX10_picks 47 = .ok (.iload_n 1, 1) := by decide +kernel
theorem dX10_picks_48 : decode cX10_picks 48 = .ok (.bipush 25, 2) := by decide +kernel
theorem dX10_picks_50 : decode cX10_picks 50 = .ok (.iadd, 1) := by decide +kernel
theorem dX10_picks_51 : decode cX10_picks 51 = .ok (.iaload, 1) := by decide +kernel
theorem dX10_picks_52 : decode cX10_picks 52 = .ok (.putfield 141, 3) := by decide +kernel
theorem dX10_picks_55 : decode cX10_picks 55 = .ok (.return_, 1) := by decide +kernel
def s_Mod_picks (x1 : Int32) (x2 : Int32) (g : z_G) : Option (z_G) := (z_ck (z_inb (x1 + x2) 312) (z_let (α := z_G) (z_up g 0 13 (z_rd g 2 (x1 + x2))) fun g10q => (z_ck (z_inb ((x1 + 6) + x2) 312) (z_let (α := z_G) (z_up g10q 0 14 (z_rd g10q 2 ((x1 + 6) + x2))) fun g12q => (z_ck (z_inb ((x1 + 12) + x2) 312) (z_let (α := z_G) (z_up g12q 0 15 (z_rd g12q 2 ((x1 + 12) + x2))) fun g14q => (z_ck (z_inb (x1 + 25) 312) (z_let (α := z_G) (z_up g14q 0 16 (z_rd g14q 2 (x1 + 25))) fun g16q => (some g16q)))))))))
set_option maxHeartbeats 1000000 in
set_option maxRecDepth 20000 in
theorem c_Mod_picks {X : z_X} {l : Launch} {o : z_G} (x1 : Int32) (x2 : Int32) (g : z_G) (r : z_G) (h : s_Mod_picks x1 x2 g = some r) : z_MV X l 80 yX10_picks cX10_picks 3 none 0 0 [.ref (z_ad X 71), .int x1, .int x2] o g o r := by
  unfold s_Mod_picks at h
  refine z_metv (by decide) (Nat.le_of_ble_eq_true rfl) (fun E hl hE hret => ?_)
  subst hl
  refine z_aload_n hE 0 dX10_picks_0 rfl ?_
  refine z_aload_n hE 0 dX10_picks_1 rfl ?_
  refine z_get hE f_RX10_13 (by decide) e_71 rfl dX10_picks_2 ?_
  refine z_iload_n hE 1 dX10_picks_5 rfl ?_
  refine z_iload_n hE 2 dX10_picks_6 rfl ?_
  refine z_iadd hE dX10_picks_7 ?_
  obtain ⟨k9q, h⟩ := z_ck_some h
  refine z_iald hE (by decide) e_73 k9q dX10_picks_8 ?_
  obtain ⟨g10q, eg10q, h⟩ := z_let_eq h
  refine z_put hE f_RX10_135 ft_10 (by decide) e_71 rfl (tyX10_ok 13 (by decide)) rfl rfl (Nat.le_of_ble_eq_true rfl) (u_71_13 eg10q) dX10_picks_9 ?_
  refine z_aload_n hE 0 dX10_picks_12 rfl ?_
  refine z_aload_n hE 0 dX10_picks_13 rfl ?_
  refine z_get hE f_RX10_13 (by decide) e_71 rfl dX10_picks_14 ?_
  refine z_iload_n hE 1 dX10_picks_17 rfl ?_
  refine z_bipush (v := 6) hE dX10_picks_18 rfl ?_
  refine z_iadd hE dX10_picks_20 ?_
  refine z_iload_n hE 2 dX10_picks_21 rfl ?_
  refine z_iadd hE dX10_picks_22 ?_
  obtain ⟨k11q, h⟩ := z_ck_some h
  refine z_iald hE (by decide) e_73 k11q dX10_picks_23 ?_
  obtain ⟨g12q, eg12q, h⟩ := z_let_eq h
  refine z_put hE f_RX10_138 ft_10 (by decide) e_71 rfl (tyX10_ok 14 (by decide)) rfl rfl (Nat.le_of_ble_eq_true rfl) (u_71_14 eg12q) dX10_picks_24 ?_
  refine z_aload_n hE 0 dX10_picks_27 rfl ?_
  refine z_aload_n hE 0 dX10_picks_28 rfl ?_
  refine z_get hE f_RX10_13 (by decide) e_71 rfl dX10_picks_29 ?_
  refine z_iload_n hE 1 dX10_picks_32 rfl ?_
  refine z_bipush (v := 12) hE dX10_picks_33 rfl ?_
  refine z_iadd hE dX10_picks_35 ?_
  refine z_iload_n hE 2 dX10_picks_36 rfl ?_
  refine z_iadd hE dX10_picks_37 ?_
  obtain ⟨k13q, h⟩ := z_ck_some h
  refine z_iald hE (by decide) e_73 k13q dX10_picks_38 ?_
  obtain ⟨g14q, eg14q, h⟩ := z_let_eq h
  refine z_put hE f_RX10_128 ft_10 (by decide) e_71 rfl (tyX10_ok 15 (by decide)) rfl rfl (Nat.le_of_ble_eq_true rfl) (u_71_15 eg14q) dX10_picks_39 ?_
  refine z_aload_n hE 0 dX10_picks_42 rfl ?_
  refine z_aload_n hE 0 dX10_picks_43 rfl ?_
  refine z_get hE f_RX10_13 (by decide) e_71 rfl dX10_picks_44 ?_
  refine z_iload_n hE 1 dX10_picks_47 rfl ?_
  refine z_bipush (v := 25) hE dX10_picks_48 rfl ?_
  refine z_iadd hE dX10_picks_50 ?_
  obtain ⟨k15q, h⟩ := z_ck_some h
  refine z_iald hE (by decide) e_73 k15q dX10_picks_51 ?_
  obtain ⟨g16q, eg16q, h⟩ := z_let_eq h
  refine z_put hE f_RX10_141 ft_10 (by decide) e_71 rfl (tyX10_ok 16 (by decide)) rfl rfl (Nat.le_of_ble_eq_true rfl) (u_71_16 eg16q) dX10_picks_52 ?_
  obtain rfl := Option.some.inj h
  exact hret _ _ dX10_picks_55
theorem dX10_marches_0 : decode cX10_marches 0 = .ok (.aload_n 0, 1) := by decide +kernel
theorem dX10_marches_1 : decode cX10_marches 1 = .ok (.aload_n 0, 1) := by decide +kernel
theorem dX10_marches_2 : decode cX10_marches 2 = .ok (.getfield 128, 3) := by decide +kernel
theorem dX10_marches_5 : decode cX10_marches 5 = .ok (.iload_n 1, 1) := by decide +kernel
theorem dX10_marches_6 : decode cX10_marches 6 = .ok (.iadd, 1) := by decide +kernel
theorem dX10_marches_7 : decode cX10_marches 7 = .ok (.bipush 7, 2) := by decide +kernel
theorem dX10_marches_9 : decode cX10_marches 9 = .ok (.iand, 1) := by decide +kernel
theorem dX10_marches_10 : decode cX10_marches 10 = .ok (.putfield 128, 3) := by decide +kernel
theorem dX10_marches_13 : decode cX10_marches 13 = .ok (.aload_n 0, 1) := by decide +kernel
theorem dX10_marches_14 : decode cX10_marches 14 = .ok (.getfield 128, 3) := by decide +kernel
theorem dX10_marches_17 : decode cX10_marches 17 = .ok (.ifCond .eq 11, 3) := by decide +kernel
theorem dX10_marches_20 : decode cX10_marches 20 = .ok (.aload_n 0, 1) := by decide +kernel
theorem dX10_marches_21 : decode cX10_marches 21 = .ok (.getfield 128, 3) := by decide +kernel
theorem dX10_marches_24 : decode cX10_marches 24 = .ok (.iconst 4, 1) := by decide +kernel
theorem dX10_marches_25 : decode cX10_marches 25 = .ok (.if_icmp .ne 7, 3) := by decide +kernel
theorem dX10_marches_28 : decode cX10_marches 28 = .ok (.iconst 0, 1) := by decide +kernel
theorem dX10_marches_29 : decode cX10_marches 29 = .ok (.goto 16, 3) := by decide +kernel
theorem dX10_marches_32 : decode cX10_marches 32 = .ok (.aload_n 0, 1) := by decide +kernel
theorem dX10_marches_33 : decode cX10_marches 33 = .ok (.getfield 128, 3) := by decide +kernel
theorem dX10_marches_36 : decode cX10_marches 36 = .ok (.iconst 4, 1) := by decide +kernel
theorem dX10_marches_37 : decode cX10_marches 37 = .ok (.if_icmp .ge 7, 3) := by decide +kernel
theorem dX10_marches_40 : decode cX10_marches 40 = .ok (.iconst 1, 1) := by decide +kernel
theorem dX10_marches_41 : decode cX10_marches 41 = .ok (.goto 4, 3) := by decide +kernel
theorem dX10_marches_44 : decode cX10_marches 44 = .ok (.iconst (-1), 1) := by decide +kernel
theorem dX10_marches_45 : decode cX10_marches 45 = .ok (.istore_n 3, 1) := by decide +kernel
theorem dX10_marches_46 : decode cX10_marches 46 = .ok (.aload_n 0, 1) := by decide +kernel
theorem dX10_marches_47 : decode cX10_marches 47 = .ok (.getfield 128, 3) := by decide +kernel
theorem dX10_marches_50 : decode cX10_marches 50 = .ok (.iconst 2, 1) := by decide +kernel
theorem dX10_marches_51 : decode cX10_marches 51 = .ok (.if_icmp .eq 12, 3) := by decide +kernel
theorem dX10_marches_54 : decode cX10_marches 54 = .ok (.aload_n 0, 1) := by decide +kernel
theorem dX10_marches_55 : decode cX10_marches 55 = .ok (.getfield 128, 3) := by decide +kernel
theorem dX10_marches_58 : decode cX10_marches 58 = .ok (.bipush 6, 2) := by decide +kernel
theorem dX10_marches_60 : decode cX10_marches 60 = .ok (.if_icmp .ne 7, 3) := by decide +kernel
theorem dX10_marches_63 : decode cX10_marches 63 = .ok (.iconst 0, 1) := by decide +kernel
theorem dX10_marches_64 : decode cX10_marches 64 = .ok (.goto 25, 3) := by decide +kernel
theorem dX10_marches_67 : decode cX10_marches 67 = .ok (.aload_n 0, 1) := by decide +kernel
theorem dX10_marches_68 : decode cX10_marches 68 = .ok (.getfield 128, 3) := by decide +kernel
theorem dX10_marches_71 : decode cX10_marches 71 = .ok (.i2l, 1) := by decide +kernel
theorem dX10_marches_72 : decode cX10_marches 72 = .ok (.ldc2_w 131, 3) := by decide +kernel
theorem dX10_marches_75 : decode cX10_marches 75 = .ok (.ldc2_w 133, 3) := by decide +kernel
theorem dX10_marches_78 : decode cX10_marches 78 = .ok (.invokestatic 60, 3) := by decide +kernel
theorem dX10_marches_81 : decode cX10_marches 81 = .ok (.ifCond .eq 7, 3) := by decide +kernel
theorem dX10_marches_84 : decode cX10_marches 84 = .ok (.iconst 1, 1) := by decide +kernel
theorem dX10_marches_85 : decode cX10_marches 85 = .ok (.goto 4, 3) := by decide +kernel
theorem dX10_marches_88 : decode cX10_marches 88 = .ok (.iconst (-1), 1) := by decide +kernel
theorem dX10_marches_89 : decode cX10_marches 89 = .ok (.istore 4, 2) := by decide +kernel
theorem dX10_marches_91 : decode cX10_marches 91 = .ok (.iconst 0, 1) := by decide +kernel
theorem dX10_marches_92 : decode cX10_marches 92 = .ok (.istore 5, 2) := by decide +kernel
theorem dX10_marches_94 : decode cX10_marches 94 = .ok (.iload 5, 2) := by decide +kernel
theorem dX10_marches_96 : decode cX10_marches 96 = .ok (.iload_n 2, 1) := by decide +kernel
theorem dX10_marches_97 : decode cX10_marches 97 = .ok (.if_icmp .ge 65, 3) := by decide +kernel
theorem dX10_marches_100 : decode cX10_marches 100 = .ok (.aload_n 0, 1) := by decide +kernel
theorem dX10_marches_101 : decode cX10_marches 101 = .ok (.getfield 135, 3) := by decide +kernel
theorem dX10_marches_104 : decode cX10_marches 104 = .ok (.iload_n 3, 1) := by decide +kernel
theorem dX10_marches_105 : decode cX10_marches 105 = .ok (.iadd, 1) := by decide +kernel
theorem dX10_marches_106 : decode cX10_marches 106 = .ok (.i2l, 1) := by decide +kernel
theorem dX10_marches_107 : decode cX10_marches 107 = .ok (.lconst 0, 1) := by decide +kernel
theorem dX10_marches_108 : decode cX10_marches 108 = .ok (.ldc2_w 122, 3) := by decide +kernel
theorem dX10_marches_111 : decode cX10_marches 111 = .ok (.invokestatic 60, 3) := by decide +kernel
theorem dX10_marches_114 : decode cX10_marches 114 = .ok (.ifCond .eq 42, 3) := by decide +kernel
theorem dX10_marches_117 : decode cX10_marches 117 = .ok (.aload_n 0, 1) := by decide +kernel
theorem dX10_marches_118 : decode cX10_marches 118 = .ok (.getfield 138, 3) := by decide +kernel
theorem dX10_marches_121 : decode cX10_marches 121 = .ok (.iload 4, 2) := by decide +kernel
theorem dX10_marches_123 : decode cX10_marches 123 = .ok (.iadd, 1) := by decide +kernel
theorem dX10_marches_124 : decode cX10_marches 124 = .ok (.i2l, 1) := by decide +kernel
theorem dX10_marches_125 : decode cX10_marches 125 = .ok (.lconst 0, 1) := by decide +kernel
theorem dX10_marches_126 : decode cX10_marches 126 = .ok (.ldc2_w 122, 3) := by decide +kernel
theorem dX10_marches_129 : decode cX10_marches 129 = .ok (.invokestatic 60, 3) := by decide +kernel
theorem dX10_marches_132 : decode cX10_marches 132 = .ok (.ifCond .eq 24, 3) := by decide +kernel
theorem dX10_marches_135 : decode cX10_marches 135 = .ok (.aload_n 0, 1) := by decide +kernel
theorem dX10_marches_136 : decode cX10_marches 136 = .ok (.dup, 1) := by decide +kernel
theorem dX10_marches_137 : decode cX10_marches 137 = .ok (.getfield 135, 3) := by decide +kernel
theorem dX10_marches_140 : decode cX10_marches 140 = .ok (.iload_n 3, 1) := by decide +kernel
theorem dX10_marches_141 : decode cX10_marches 141 = .ok (.iadd, 1) := by decide +kernel
theorem dX10_marches_142 : decode cX10_marches 142 = .ok (.putfield 135, 3) := by decide +kernel
theorem dX10_marches_145 : decode cX10_marches 145 = .ok (.aload_n 0, 1) := by decide +kernel
theorem dX10_marches_146 : decode cX10_marches 146 = .ok (.dup, 1) := by decide +kernel
theorem dX10_marches_147 : decode cX10_marches 147 = .ok (.getfield 138, 3) := by decide +kernel
theorem dX10_marches_150 : decode cX10_marches 150 = .ok (.iload 4, 2) := by decide +kernel
theorem dX10_marches_152 : decode cX10_marches 152 = .ok (.iadd, 1) := by decide +kernel
theorem dX10_marches_153 : decode cX10_marches 153 = .ok (.putfield 138, 3) := by decide +kernel
theorem dX10_marches_156 : decode cX10_marches 156 = .ok (.iinc 5 1, 3) := by decide +kernel
theorem dX10_marches_159 : decode cX10_marches 159 = .ok (.goto (-65), 3) := by decide +kernel
theorem dX10_marches_162 : decode cX10_marches 162 = .ok (.return_, 1) := by decide +kernel
def s_Mod_marches_b156 (k94 : Int32 → Int32 → Int32 → Int32 → z_G → Option (z_G)) (x2 : Int32) (x3 : Int32) (x4 : Int32) (x5 : Int32) (g : z_G) : Option (z_G) := (k94 x2 x3 x4 (x5 + 1) g)
def s_Mod_marches_L94 : Nat → Int32 → Int32 → Int32 → Int32 → z_G → Option (z_G)
  | 0, _, _, _, _, _ => none
  | n + 1, x2, x3, x4, x5, g => (if x2 ≤ x5 then (some g) else (if (s_Mod_in (Int32.toInt64 ((g 0 13) + x3)) 0 15) = 0 then (s_Mod_marches_b156 (s_Mod_marches_L94 n) x2 x3 x4 x5 g) else (if (s_Mod_in (Int32.toInt64 ((g 0 14) + x4)) 0 15) = 0 then (s_Mod_marches_b156 (s_Mod_marches_L94 n) x2 x3 x4 x5 g) else (z_let (α := z_G) (z_up g 0 13 ((g 0 13) + x3)) fun g16q => (z_let (α := z_G) (z_up g16q 0 14 ((g16q 0 14) + x4)) fun g17q => (s_Mod_marches_b156 (s_Mod_marches_L94 n) x2 x3 x4 x5 g17q))))))
def s_Mod_marches_b89 (x2 : Int32) (x3 : Int32) (s0 : Int32) (g : z_G) : Option (z_G) := (s_Mod_marches_L94 z_F x2 x3 s0 0 g)
def s_Mod_marches_b63 (x2 : Int32) (x3 : Int32) (g : z_G) : Option (z_G) := (s_Mod_marches_b89 x2 x3 0 g)
def s_Mod_marches_b45 (x2 : Int32) (s0 : Int32) (g : z_G) : Option (z_G) := (if (g 0 15) = 2 then (s_Mod_marches_b63 x2 s0 g) else (if (g 0 15) = 6 then (s_Mod_marches_b63 x2 s0 g) else (if (s_Mod_in (Int32.toInt64 (g 0 15)) 3 5) = 0 then (s_Mod_marches_b89 x2 s0 (-1) g) else (s_Mod_marches_b89 x2 s0 1 g))))
def s_Mod_marches_b28 (x2 : Int32) (g : z_G) : Option (z_G) := (s_Mod_marches_b45 x2 0 g)
def s_Mod_marches (x1 : Int32) (x2 : Int32) (g : z_G) : Option (z_G) := (z_let (α := z_G) (z_up g 0 15 (((g 0 15) + x1) &&& 7)) fun g21q => (if (g21q 0 15) = 0 then (s_Mod_marches_b28 x2 g21q) else (if (g21q 0 15) = 4 then (s_Mod_marches_b28 x2 g21q) else (if 4 ≤ (g21q 0 15) then (s_Mod_marches_b45 x2 (-1) g21q) else (s_Mod_marches_b45 x2 1 g21q)))))
set_option maxHeartbeats 1000000 in
set_option maxRecDepth 20000 in
theorem b_Mod_marches_b156 {X : z_X} {E : z_ET} {o : z_G} (hE : z_EV X E cX10_marches 6 RX10 1 25 80) {r : z_G} (hret : ∀ (pc : Nat) (lv : List (Nat × Value)), decode cX10_marches pc = .ok (.return_, 1) → z_V X E 6 o r pc lv []) (k94 : Int32 → Int32 → Int32 → Int32 → z_G → Option (z_G)) (hk94 : ∀ (x2 : Int32) (x3 : Int32) (x4 : Int32) (x5 : Int32) (g : z_G), k94 x2 x3 x4 x5 g = some r → z_V X E 6 o g 94 [(0, .ref (z_ad X 71)), (2, .int x2), (3, .int x3), (4, .int x4), (5, .int x5)] []) (x2 : Int32) (x3 : Int32) (x4 : Int32) (x5 : Int32) (g : z_G)  (h : s_Mod_marches_b156 k94 x2 x3 x4 x5 g = some r) : z_V X E 6 o g 156 [(0, .ref (z_ad X 71)), (2, .int x2), (3, .int x3), (4, .int x4), (5, .int x5)] [] := by
  unfold s_Mod_marches_b156 at h
  refine z_iinc (v := x5 + 1) hE 4 [(5, .int (x5 + 1)), (0, .ref (z_ad X 71)), (2, .int x2), (3, .int x3), (4, .int x4)] dX10_marches_156 rfl rfl (by decide) rfl ?_
  refine z_goto hE 94 dX10_marches_159 rfl ?_
  refine z_sub [(0, .ref (z_ad X 71)), (2, .int x2), (3, .int x3), (4, .int x4), (5, .int (x5 + 1))] [1, 2, 3, 4, 0] rfl ?_
  exact hk94 x2 x3 x4 (x5 + 1) g h
set_option maxHeartbeats 1000000 in
set_option maxRecDepth 20000 in
theorem b_Mod_marches_L94 {X : z_X} {E : z_ET} {o : z_G} (hE : z_EV X E cX10_marches 6 RX10 1 25 80) {r : z_G} (hret : ∀ (pc : Nat) (lv : List (Nat × Value)), decode cX10_marches pc = .ok (.return_, 1) → z_V X E 6 o r pc lv []) : ∀ (n : Nat) (x2 : Int32) (x3 : Int32) (x4 : Int32) (x5 : Int32) (g : z_G), s_Mod_marches_L94 n x2 x3 x4 x5 g = some r → z_V X E 6 o g 94 [(0, .ref (z_ad X 71)), (2, .int x2), (3, .int x3), (4, .int x4), (5, .int x5)] [] := by
  intro n
  induction n with
  | zero => intro x2 x3 x4 x5 g h; exact z_none h
  | succ n ih =>
    intro x2 x3 x4 x5 g h
    rw [s_Mod_marches_L94] at h
    refine z_iload hE 4 dX10_marches_94 rfl ?_
    refine z_iload_n hE 1 dX10_marches_96 rfl ?_
    refine z_icmp_ge hE 162 dX10_marches_97 rfl (fun c13q => ?_) (fun c13q => ?_)
    · replace h := z_t c13q h
      obtain rfl := Option.some.inj h
      exact hret _ _ dX10_marches_162
    · replace h := z_f c13q h
      refine z_aload_n hE 0 dX10_marches_100 rfl ?_
      refine z_get hE f_RX10_135 (by decide) e_71 rfl dX10_marches_101 ?_
      refine z_iload_n hE 2 dX10_marches_104 rfl ?_
      refine z_iadd hE dX10_marches_105 ?_
      refine z_i2l hE dX10_marches_106 ?_
      refine z_lconst (v := 0) hE dX10_marches_107 rfl ?_
      refine z_ldc2 hE dX10_marches_108 w_470 ?_
      refine z_iS (rest := []) (av := [.long (Int32.toInt64 ((g 0 13) + x3)), .long 0, .long 15]) hE (c_Mod_in (Int32.toInt64 ((g 0 13) + x3)) 0 15 g) l_RX10_60 (by decide) ⟨by decide, by decide⟩ dX10_marches_111 rfl (Nat.le_of_ble_eq_true rfl) ?_
      refine z_if_eq hE 156 dX10_marches_114 rfl (fun c14q => ?_) (fun c14q => ?_)
      · replace h := z_t c14q h
        exact b_Mod_marches_b156 hE hret (s_Mod_marches_L94 n) ih x2 x3 x4 x5 g h
      · replace h := z_f c14q h
        refine z_aload_n hE 0 dX10_marches_117 rfl ?_
        refine z_get hE f_RX10_138 (by decide) e_71 rfl dX10_marches_118 ?_
        refine z_iload hE 3 dX10_marches_121 rfl ?_
        refine z_iadd hE dX10_marches_123 ?_
        refine z_i2l hE dX10_marches_124 ?_
        refine z_lconst (v := 0) hE dX10_marches_125 rfl ?_
        refine z_ldc2 hE dX10_marches_126 w_470 ?_
        refine z_iS (rest := []) (av := [.long (Int32.toInt64 ((g 0 14) + x4)), .long 0, .long 15]) hE (c_Mod_in (Int32.toInt64 ((g 0 14) + x4)) 0 15 g) l_RX10_60 (by decide) ⟨by decide, by decide⟩ dX10_marches_129 rfl (Nat.le_of_ble_eq_true rfl) ?_
        refine z_if_eq hE 156 dX10_marches_132 rfl (fun c15q => ?_) (fun c15q => ?_)
        · replace h := z_t c15q h
          exact b_Mod_marches_b156 hE hret (s_Mod_marches_L94 n) ih x2 x3 x4 x5 g h
        · replace h := z_f c15q h
          refine z_aload_n hE 0 dX10_marches_135 rfl ?_
          refine z_dup hE dX10_marches_136 rfl ?_
          refine z_get hE f_RX10_135 (by decide) e_71 rfl dX10_marches_137 ?_
          refine z_iload_n hE 2 dX10_marches_140 rfl ?_
          refine z_iadd hE dX10_marches_141 ?_
          obtain ⟨g16q, eg16q, h⟩ := z_let_eq h
          refine z_put hE f_RX10_135 ft_10 (by decide) e_71 rfl (tyX10_ok 13 (by decide)) rfl rfl (Nat.le_of_ble_eq_true rfl) (u_71_13 eg16q) dX10_marches_142 ?_
          refine z_aload_n hE 0 dX10_marches_145 rfl ?_
          refine z_dup hE dX10_marches_146 rfl ?_
          refine z_get hE f_RX10_138 (by decide) e_71 rfl dX10_marches_147 ?_
          refine z_iload hE 3 dX10_marches_150 rfl ?_
          refine z_iadd hE dX10_marches_152 ?_
          obtain ⟨g17q, eg17q, h⟩ := z_let_eq h
          refine z_put hE f_RX10_138 ft_10 (by decide) e_71 rfl (tyX10_ok 14 (by decide)) rfl rfl (Nat.le_of_ble_eq_true rfl) (u_71_14 eg17q) dX10_marches_153 ?_
          exact b_Mod_marches_b156 hE hret (s_Mod_marches_L94 n) ih x2 x3 x4 x5 g17q h
set_option maxHeartbeats 1000000 in
set_option maxRecDepth 20000 in
theorem b_Mod_marches_b89 {X : z_X} {E : z_ET} {o : z_G} (hE : z_EV X E cX10_marches 6 RX10 1 25 80) {r : z_G} (hret : ∀ (pc : Nat) (lv : List (Nat × Value)), decode cX10_marches pc = .ok (.return_, 1) → z_V X E 6 o r pc lv []) (x2 : Int32) (x3 : Int32) (s0 : Int32) (g : z_G)  (h : s_Mod_marches_b89 x2 x3 s0 g = some r) : z_V X E 6 o g 89 [(0, .ref (z_ad X 71)), (2, .int x2), (3, .int x3)] [.int s0] := by
  unfold s_Mod_marches_b89 at h
  refine z_istore hE [(4, .int s0), (0, .ref (z_ad X 71)), (2, .int x2), (3, .int x3)] dX10_marches_89 (by decide) rfl ?_
  refine z_iconst (v := 0) hE dX10_marches_91 rfl ?_
  refine z_istore hE [(5, .int 0), (4, .int s0), (0, .ref (z_ad X 71)), (2, .int x2), (3, .int x3)] dX10_marches_92 (by decide) rfl ?_
  refine z_sub [(0, .ref (z_ad X 71)), (2, .int x2), (3, .int x3), (4, .int s0), (5, .int 0)] [2, 3, 4, 1, 0] rfl ?_
  exact b_Mod_marches_L94 hE hret z_F x2 x3 s0 0 g h
set_option maxHeartbeats 1000000 in
set_option maxRecDepth 20000 in
theorem b_Mod_marches_b63 {X : z_X} {E : z_ET} {o : z_G} (hE : z_EV X E cX10_marches 6 RX10 1 25 80) {r : z_G} (hret : ∀ (pc : Nat) (lv : List (Nat × Value)), decode cX10_marches pc = .ok (.return_, 1) → z_V X E 6 o r pc lv []) (x2 : Int32) (x3 : Int32) (g : z_G)  (h : s_Mod_marches_b63 x2 x3 g = some r) : z_V X E 6 o g 63 [(0, .ref (z_ad X 71)), (2, .int x2), (3, .int x3)] [] := by
  unfold s_Mod_marches_b63 at h
  refine z_iconst (v := 0) hE dX10_marches_63 rfl ?_
  refine z_goto hE 89 dX10_marches_64 rfl ?_
  exact b_Mod_marches_b89 hE hret x2 x3 0 g h
set_option maxHeartbeats 1000000 in
set_option maxRecDepth 20000 in
theorem b_Mod_marches_b45 {X : z_X} {E : z_ET} {o : z_G} (hE : z_EV X E cX10_marches 6 RX10 1 25 80) {r : z_G} (hret : ∀ (pc : Nat) (lv : List (Nat × Value)), decode cX10_marches pc = .ok (.return_, 1) → z_V X E 6 o r pc lv []) (x2 : Int32) (s0 : Int32) (g : z_G)  (h : s_Mod_marches_b45 x2 s0 g = some r) : z_V X E 6 o g 45 [(0, .ref (z_ad X 71)), (2, .int x2)] [.int s0] := by
  unfold s_Mod_marches_b45 at h
  refine z_istore_n hE [(3, .int s0), (0, .ref (z_ad X 71)), (2, .int x2)] dX10_marches_45 rfl (by decide) rfl ?_
  refine z_aload_n hE 1 dX10_marches_46 rfl ?_
  refine z_get hE f_RX10_128 (by decide) e_71 rfl dX10_marches_47 ?_
  refine z_iconst (v := 2) hE dX10_marches_50 rfl ?_
  refine z_icmp_eq hE 63 dX10_marches_51 rfl (fun c18q => ?_) (fun c18q => ?_)
  · replace h := z_t c18q h
    refine z_sub [(0, .ref (z_ad X 71)), (2, .int x2), (3, .int s0)] [1, 2, 0] rfl ?_
    exact b_Mod_marches_b63 hE hret x2 s0 g h
  · replace h := z_f c18q h
    refine z_aload_n hE 1 dX10_marches_54 rfl ?_
    refine z_get hE f_RX10_128 (by decide) e_71 rfl dX10_marches_55 ?_
    refine z_bipush (v := 6) hE dX10_marches_58 rfl ?_
    refine z_icmp_ne hE 67 dX10_marches_60 rfl (fun c19q => ?_) (fun c19q => ?_)
    · replace h := z_f c19q h
      refine z_aload_n hE 1 dX10_marches_67 rfl ?_
      refine z_get hE f_RX10_128 (by decide) e_71 rfl dX10_marches_68 ?_
      refine z_i2l hE dX10_marches_71 ?_
      refine z_ldc2 hE dX10_marches_72 w_495 ?_
      refine z_ldc2 hE dX10_marches_75 w_496 ?_
      refine z_iS (rest := []) (av := [.long (Int32.toInt64 (g 0 15)), .long 3, .long 5]) hE (c_Mod_in (Int32.toInt64 (g 0 15)) 3 5 g) l_RX10_60 (by decide) ⟨by decide, by decide⟩ dX10_marches_78 rfl (Nat.le_of_ble_eq_true rfl) ?_
      refine z_if_eq hE 88 dX10_marches_81 rfl (fun c20q => ?_) (fun c20q => ?_)
      · replace h := z_t c20q h
        refine z_iconst (v := (-1)) hE dX10_marches_88 rfl ?_
        refine z_sub [(0, .ref (z_ad X 71)), (2, .int x2), (3, .int s0)] [1, 2, 0] rfl ?_
        exact b_Mod_marches_b89 hE hret x2 s0 (-1) g h
      · replace h := z_f c20q h
        refine z_iconst (v := 1) hE dX10_marches_84 rfl ?_
        refine z_goto hE 89 dX10_marches_85 rfl ?_
        refine z_sub [(0, .ref (z_ad X 71)), (2, .int x2), (3, .int s0)] [1, 2, 0] rfl ?_
        exact b_Mod_marches_b89 hE hret x2 s0 1 g h
    · replace h := z_t c19q h
      refine z_sub [(0, .ref (z_ad X 71)), (2, .int x2), (3, .int s0)] [1, 2, 0] rfl ?_
      exact b_Mod_marches_b63 hE hret x2 s0 g h
set_option maxHeartbeats 1000000 in
set_option maxRecDepth 20000 in
theorem b_Mod_marches_b28 {X : z_X} {E : z_ET} {o : z_G} (hE : z_EV X E cX10_marches 6 RX10 1 25 80) {r : z_G} (hret : ∀ (pc : Nat) (lv : List (Nat × Value)), decode cX10_marches pc = .ok (.return_, 1) → z_V X E 6 o r pc lv []) (x2 : Int32) (g : z_G)  (h : s_Mod_marches_b28 x2 g = some r) : z_V X E 6 o g 28 [(0, .ref (z_ad X 71)), (2, .int x2)] [] := by
  unfold s_Mod_marches_b28 at h
  refine z_iconst (v := 0) hE dX10_marches_28 rfl ?_
  refine z_goto hE 45 dX10_marches_29 rfl ?_
  exact b_Mod_marches_b45 hE hret x2 0 g h
set_option maxHeartbeats 1000000 in
set_option maxRecDepth 20000 in
theorem c_Mod_marches {X : z_X} {l : Launch} {o : z_G} (x1 : Int32) (x2 : Int32) (g : z_G) (r : z_G) (h : s_Mod_marches x1 x2 g = some r) : z_MV X l 80 yX10_marches cX10_marches 6 none 1 25 [.ref (z_ad X 71), .int x1, .int x2] o g o r := by
  unfold s_Mod_marches at h
  refine z_metv (by decide) (Nat.le_of_ble_eq_true rfl) (fun E hl hE hret => ?_)
  subst hl
  refine z_aload_n hE 0 dX10_marches_0 rfl ?_
  refine z_aload_n hE 0 dX10_marches_1 rfl ?_
  refine z_get hE f_RX10_128 (by decide) e_71 rfl dX10_marches_2 ?_
  refine z_iload_n hE 1 dX10_marches_5 rfl ?_
  refine z_iadd hE dX10_marches_6 ?_
  refine z_bipush (v := 7) hE dX10_marches_7 rfl ?_
  refine z_iand hE dX10_marches_9 ?_
  obtain ⟨g21q, eg21q, h⟩ := z_let_eq h
  refine z_put hE f_RX10_128 ft_10 (by decide) e_71 rfl (tyX10_ok 15 (by decide)) rfl rfl (Nat.le_of_ble_eq_true rfl) (u_71_15 eg21q) dX10_marches_10 ?_
  refine z_aload_n hE 0 dX10_marches_13 rfl ?_
  refine z_get hE f_RX10_128 (by decide) e_71 rfl dX10_marches_14 ?_
  refine z_if_eq hE 28 dX10_marches_17 rfl (fun c22q => ?_) (fun c22q => ?_)
  · replace h := z_t c22q h
    refine z_sub [(0, .ref (z_ad X 71)), (2, .int x2)] [0, 2] rfl ?_
    exact b_Mod_marches_b28 hE hret x2 g21q h
  · replace h := z_f c22q h
    refine z_aload_n hE 0 dX10_marches_20 rfl ?_
    refine z_get hE f_RX10_128 (by decide) e_71 rfl dX10_marches_21 ?_
    refine z_iconst (v := 4) hE dX10_marches_24 rfl ?_
    refine z_icmp_ne hE 32 dX10_marches_25 rfl (fun c23q => ?_) (fun c23q => ?_)
    · replace h := z_f c23q h
      refine z_aload_n hE 0 dX10_marches_32 rfl ?_
      refine z_get hE f_RX10_128 (by decide) e_71 rfl dX10_marches_33 ?_
      refine z_iconst (v := 4) hE dX10_marches_36 rfl ?_
      refine z_icmp_ge hE 44 dX10_marches_37 rfl (fun c24q => ?_) (fun c24q => ?_)
      · replace h := z_t c24q h
        refine z_iconst (v := (-1)) hE dX10_marches_44 rfl ?_
        refine z_sub [(0, .ref (z_ad X 71)), (2, .int x2)] [0, 2] rfl ?_
        exact b_Mod_marches_b45 hE hret x2 (-1) g21q h
      · replace h := z_f c24q h
        refine z_iconst (v := 1) hE dX10_marches_40 rfl ?_
        refine z_goto hE 45 dX10_marches_41 rfl ?_
        refine z_sub [(0, .ref (z_ad X 71)), (2, .int x2)] [0, 2] rfl ?_
        exact b_Mod_marches_b45 hE hret x2 1 g21q h
    · replace h := z_t c23q h
      refine z_sub [(0, .ref (z_ad X 71)), (2, .int x2)] [0, 2] rfl ?_
      exact b_Mod_marches_b28 hE hret x2 g21q h
theorem dX10_has_0 : decode cX10_has 0 = .ok (.iload_n 0, 1) := by decide +kernel
theorem dX10_has_1 : decode cX10_has 1 = .ok (.iload_n 1, 1) := by decide +kernel
theorem dX10_has_2 : decode cX10_has 2 = .ok (.ishr, 1) := by decide +kernel
theorem dX10_has_3 : decode cX10_has 3 = .ok (.iconst 1, 1) := by decide +kernel
theorem dX10_has_4 : decode cX10_has 4 = .ok (.iand, 1) := by decide +kernel
theorem dX10_has_5 : decode cX10_has 5 = .ok (.iconst 1, 1) := by decide +kernel
theorem dX10_has_6 : decode cX10_has 6 = .ok (.if_icmp .ne 7, 3) := by decide +kernel
theorem dX10_has_9 : decode cX10_has 9 = .ok (.iconst 1, 1) := by decide +kernel
theorem dX10_has_10 : decode cX10_has 10 = .ok (.goto 4, 3) := by decide +kernel
theorem dX10_has_13 : decode cX10_has 13 = .ok (.iconst 0, 1) := by decide +kernel
theorem dX10_has_14 : decode cX10_has 14 = .ok (.ireturn, 1) := by decide +kernel
def s_Mod_has (x0 : Int32) (x1 : Int32) : Int32 := (if ((x0 >>> (x1 &&& 31)) &&& 1) = 1 then 1 else 0)
set_option maxHeartbeats 1000000 in
set_option maxRecDepth 20000 in
theorem t_Mod_has (x0 : Int32) (x1 : Int32) : z_bit (s_Mod_has x0 x1) = true := by
  unfold s_Mod_has
  repeat' split
  all_goals (first | rfl | decide | rfl)
set_option maxHeartbeats 1000000 in
set_option maxRecDepth 20000 in
theorem c_Mod_has {X : z_X} {l : Launch} {o : z_G} (x0 : Int32) (x1 : Int32) (g : z_G) : z_MI X l 80 yX10_has cX10_has 2 (some .boolean) 0 0 [.int x0, .int x1] o g o g (s_Mod_has x0 x1) := by
  obtain ⟨r, h⟩ : ∃ r, s_Mod_has x0 x1 = r := ⟨_, rfl⟩
  rw [h]
  unfold s_Mod_has at h
  refine z_metz (by decide) (Nat.le_of_ble_eq_true rfl) (fun E hl hE hret => ?_)
  subst hl
  refine z_iload_n hE 0 dX10_has_0 rfl ?_
  refine z_iload_n hE 1 dX10_has_1 rfl ?_
  refine z_ishr hE dX10_has_2 ?_
  refine z_iconst (v := 1) hE dX10_has_3 rfl ?_
  refine z_iand hE dX10_has_4 ?_
  refine z_iconst (v := 1) hE dX10_has_5 rfl ?_
  refine z_icmp_ne hE 13 dX10_has_6 rfl (fun c2q => ?_) (fun c2q => ?_)
  · replace h := z_f c2q h
    refine z_iconst (v := 0) hE dX10_has_13 rfl ?_
    subst h
    exact hret _ _ z_b0 dX10_has_14
  · replace h := z_t c2q h
    refine z_iconst (v := 1) hE dX10_has_9 rfl ?_
    refine z_goto hE 14 dX10_has_10 rfl ?_
    subst h
    exact hret _ _ z_b1 dX10_has_14
theorem dX10_halts_0 : decode cX10_halts 0 = .ok (.aload_n 0, 1) := by decide +kernel
theorem dX10_halts_1 : decode cX10_halts 1 = .ok (.getfield 135, 3) := by decide +kernel
theorem dX10_halts_4 : decode cX10_halts 4 = .ok (.aload_n 0, 1) := by decide +kernel
theorem dX10_halts_5 : decode cX10_halts 5 = .ok (.getfield 138, 3) := by decide +kernel
theorem dX10_halts_8 : decode cX10_halts 8 = .ok (.iload_n 3, 1) := by decide +kernel
theorem dX10_halts_9 : decode cX10_halts 9 = .ok (.iload 4, 2) := by decide +kernel
theorem dX10_halts_11 : decode cX10_halts 11 = .ok (.invokestatic 124, 3) := by decide +kernel
theorem dX10_halts_14 : decode cX10_halts 14 = .ok (.istore 5, 2) := by decide +kernel
theorem dX10_halts_16 : decode cX10_halts 16 = .ok (.iload 5, 2) := by decide +kernel
theorem dX10_halts_18 : decode cX10_halts 18 = .ok (.aload_n 0, 1) := by decide +kernel
theorem dX10_halts_19 : decode cX10_halts 19 = .ok (.getfield 128, 3) := by decide +kernel
theorem dX10_halts_22 : decode cX10_halts 22 = .ok (.isub, 1) := by decide +kernel
theorem dX10_halts_23 : decode cX10_halts 23 = .ok (.bipush 7, 2) := by decide +kernel
theorem dX10_halts_25 : decode cX10_halts 25 = .ok (.iand, 1) := by decide +kernel
theorem dX10_halts_26 : decode cX10_halts 26 = .ok (.istore 6, 2) := by decide +kernel
theorem dX10_halts_28 : decode cX10_halts 28 = .ok (.iload 5, 2) := by decide +kernel
theorem dX10_halts_30 : decode cX10_halts 30 = .ok (.ifCond .lt 8, 3) := by decide +kernel
theorem dX10_halts_33 : decode cX10_halts 33 = .ok (.iload_n 2, 1) := by decide +kernel
theorem dX10_halts_34 : decode cX10_halts 34 = .ok (.iconst 3, 1) := by decide +kernel
theorem dX10_halts_35 : decode cX10_halts 35 = .ok (.if_icmp .ne 4, 3) := by decide +kernel
theorem dX10_halts_38 : decode cX10_halts 38 = .ok (.return_, 1) := by decide +kernel
theorem dX10_halts_39 : decode cX10_halts 39 = .ok (.iload_n 2, 1) := by decide +kernel
theorem dX10_halts_40 : decode cX10_halts 40 = .ok (.iconst 4, 1) := by decide +kernel
theorem dX10_halts_41 : decode cX10_halts 41 = .ok (.if_icmp .ne 41, 3) := by decide +kernel
theorem dX10_halts_44 : decode cX10_halts 44 = .ok (.aload_n 0, 1) := by decide +kernel
theorem dX10_halts_45 : decode cX10_halts 45 = .ok (.iload 6, 2) := by decide +kernel
theorem dX10_halts_47 : decode cX10_halts 47 = .ok (.iconst 4, 1) := by decide +kernel
theorem dX10_halts_48 : decode cX10_halts 48 = .ok (.if_icmp .ne 10, 3) := by decide +kernel
theorem dX10_halts_51 : decode cX10_halts 51 = .ok (.aload_n 0, 1) := by decide +kernel
theorem dX10_halts_52 : decode cX10_halts 52 = .ok (.getfield 128, 3) := by decide +kernel
theorem dX10_halts_55 : decode cX10_halts 55 = .ok (.goto 23, 3) := by decide +kernel
theorem dX10_halts_58 : decode cX10_halts 58 = .ok (.aload_n 0, 1) := by decide +kernel
theorem dX10_halts_59 : decode cX10_halts 59 = .ok (.getfield 128, 3) := by decide +kernel
theorem dX10_halts_62 : decode cX10_halts 62 = .ok (.iload 6, 2) := by decide +kernel
theorem dX10_halts_64 : decode cX10_halts 64 = .ok (.iconst 4, 1) := by decide +kernel
theorem dX10_halts_65 : decode cX10_halts 65 = .ok (.if_icmp .le 7, 3) := by decide +kernel
theorem dX10_halts_68 : decode cX10_halts 68 = .ok (.iconst 1, 1) := by decide +kernel
theorem dX10_halts_69 : decode cX10_halts 69 = .ok (.goto 5, 3) := by decide +kernel
theorem dX10_halts_72 : decode cX10_halts 72 = .ok (.bipush 7, 2) := by decide +kernel
theorem dX10_halts_74 : decode cX10_halts 74 = .ok (.iadd, 1) := by decide +kernel
theorem dX10_halts_75 : decode cX10_halts 75 = .ok (.bipush 7, 2) := by decide +kernel
theorem dX10_halts_77 : decode cX10_halts 77 = .ok (.iand, 1) := by decide +kernel
theorem dX10_halts_78 : decode cX10_halts 78 = .ok (.putfield 128, 3) := by decide +kernel
theorem dX10_halts_81 : decode cX10_halts 81 = .ok (.return_, 1) := by decide +kernel
theorem dX10_halts_82 : decode cX10_halts 82 = .ok (.iload_n 2, 1) := by decide +kernel
theorem dX10_halts_83 : decode cX10_halts 83 = .ok (.iconst 1, 1) := by decide +kernel
theorem dX10_halts_84 : decode cX10_halts 84 = .ok (.if_icmp .ne 7, 3) := by decide +kernel
theorem dX10_halts_87 : decode cX10_halts 87 = .ok (.iconst 2, 1) := by decide +kernel
theorem dX10_halts_88 : decode cX10_halts 88 = .ok (.goto 18, 3) := by decide +kernel
theorem dX10_halts_91 : decode cX10_halts 91 = .ok (.iload_n 2, 1) := by decide +kernel
theorem dX10_halts_92 : decode cX10_halts 92 = .ok (.ifCond .eq 9, 3) := by decide +kernel
theorem dX10_halts_95 : decode cX10_halts 95 = .ok (.iload_n 1, 1) := by decide +kernel
theorem dX10_halts_96 : decode cX10_halts 96 = .ok (.iconst 2, 1) := by decide +kernel
theorem dX10_halts_97 : decode cX10_halts 97 = .ok (.irem, 1) := by decide +kernel
theorem dX10_halts_98 : decode cX10_halts 98 = .ok (.ifCond .ne 7, 3) := by decide +kernel
theorem dX10_halts_101 : decode cX10_halts 101 = .ok (.iconst 1, 1) := by decide +kernel
theorem dX10_halts_102 : decode cX10_halts 102 = .ok (.goto 4, 3) := by decide +kernel
theorem dX10_halts_105 : decode cX10_halts 105 = .ok (.iconst 0, 1) := by decide +kernel
theorem dX10_halts_106 : decode cX10_halts 106 = .ok (.istore 7, 2) := by decide +kernel
theorem dX10_halts_108 : decode cX10_halts 108 = .ok (.iload 6, 2) := by decide +kernel
theorem dX10_halts_110 : decode cX10_halts 110 = .ok (.iconst 4, 1) := by decide +kernel
theorem dX10_halts_111 : decode cX10_halts 111 = .ok (.if_icmp .le 11, 3) := by decide +kernel
theorem dX10_halts_114 : decode cX10_halts 114 = .ok (.bipush 8, 2) := by decide +kernel
theorem dX10_halts_116 : decode cX10_halts 116 = .ok (.iload 6, 2) := by decide +kernel
theorem dX10_halts_118 : decode cX10_halts 118 = .ok (.isub, 1) := by decide +kernel
theorem dX10_halts_119 : decode cX10_halts 119 = .ok (.goto 5, 3) := by decide +kernel
theorem dX10_halts_122 : decode cX10_halts 122 = .ok (.iload 6, 2) := by decide +kernel
theorem dX10_halts_124 : decode cX10_halts 124 = .ok (.istore 8, 2) := by decide +kernel
theorem dX10_halts_126 : decode cX10_halts 126 = .ok (.iload 7, 2) := by decide +kernel
theorem dX10_halts_128 : decode cX10_halts 128 = .ok (.iload 8, 2) := by decide +kernel
theorem dX10_halts_130 : decode cX10_halts 130 = .ok (.if_icmp .le 8, 3) := by decide +kernel
theorem dX10_halts_133 : decode cX10_halts 133 = .ok (.iload 8, 2) := by decide +kernel
theorem dX10_halts_135 : decode cX10_halts 135 = .ok (.goto 5, 3) := by decide +kernel
theorem dX10_halts_138 : decode cX10_halts 138 = .ok (.iload 7, 2) := by decide +kernel
theorem dX10_halts_140 : decode cX10_halts 140 = .ok (.istore 7, 2) := by decide +kernel
theorem dX10_halts_142 : decode cX10_halts 142 = .ok (.aload_n 0, 1) := by decide +kernel
theorem dX10_halts_143 : decode cX10_halts 143 = .ok (.aload_n 0, 1) := by decide +kernel
theorem dX10_halts_144 : decode cX10_halts 144 = .ok (.getfield 128, 3) := by decide +kernel
theorem dX10_halts_147 : decode cX10_halts 147 = .ok (.iload 6, 2) := by decide +kernel
theorem dX10_halts_149 : decode cX10_halts 149 = .ok (.iconst 4, 1) := by decide +kernel
theorem dX10_halts_150 : decode cX10_halts 150 = .ok (.if_icmp .le 11, 3) := by decide +kernel
theorem dX10_halts_153 : decode cX10_halts 153 = .ok (.bipush 8, 2) := by decide +kernel
theorem dX10_halts_155 : decode cX10_halts 155 = .ok (.iload 7, 2) := by decide +kernel
theorem dX10_halts_157 : decode cX10_halts 157 = .ok (.isub, 1) := by decide +kernel
theorem dX10_halts_158 : decode cX10_halts 158 = .ok (.goto 5, 3) := by decide +kernel
theorem dX10_halts_161 : decode cX10_halts 161 = .ok (.iload 7, 2) := by decide +kernel
theorem dX10_halts_163 : decode cX10_halts 163 = .ok (.iadd, 1) := by decide +kernel
theorem dX10_halts_164 : decode cX10_halts 164 = .ok (.bipush 7, 2) := by decide +kernel
theorem dX10_halts_166 : decode cX10_halts 166 = .ok (.iand, 1) := by decide +kernel
theorem dX10_halts_167 : decode cX10_halts 167 = .ok (.putfield 128, 3) := by decide +kernel
theorem dX10_halts_170 : decode cX10_halts 170 = .ok (.return_, 1) := by decide +kernel
def s_Mod_halts_b163 (s2 : Int32) (s1 : Int32) (g : z_G) : z_G := (z_let (α := z_G) (z_up g 0 15 ((s1 + s2) &&& 7)) fun g16q => g16q)
def s_Mod_halts_b140 (x6 : Int32) (s0 : Int32) (g : z_G) : z_G := (if x6 ≤ 4 then (s_Mod_halts_b163 s0 (g 0 15) g) else (s_Mod_halts_b163 (8 - s0) (g 0 15) g))
def s_Mod_halts_b124 (x6 : Int32) (x7 : Int32) (s0 : Int32) (g : z_G) : z_G := (if x7 ≤ s0 then (s_Mod_halts_b140 x6 x7 g) else (s_Mod_halts_b140 x6 s0 g))
def s_Mod_halts_b106 (x6 : Int32) (s0 : Int32) (g : z_G) : z_G := (if x6 ≤ 4 then (s_Mod_halts_b124 x6 s0 x6 g) else (s_Mod_halts_b124 x6 s0 (8 - x6) g))
def s_Mod_halts_b101 (x6 : Int32) (g : z_G) : z_G := (s_Mod_halts_b106 x6 1 g)
def s_Mod_halts_b78 (s1 : Int32) (g : z_G) : z_G := (z_let (α := z_G) (z_up g 0 15 s1) fun g20q => g20q)
def s_Mod_halts_b74 (s2 : Int32) (s1 : Int32) (g : z_G) : z_G := (s_Mod_halts_b78 ((s1 + s2) &&& 7) g)
def s_Mod_halts (x1 : Int32) (x2 : Int32) (x3 : Int32) (x4 : Int32) (g : z_G) : z_G := (z_let (α := Int32) ((s_Mod_way (g 0 13) (g 0 14) x3 x4)) fun v21q => (z_let (α := Int32) (((v21q - (g 0 15)) &&& 7)) fun v22q => (if v21q < 0 then g else (if x2 = 3 then g else (if x2 = 4 then (if v22q = 4 then (s_Mod_halts_b78 (g 0 15) g) else (if v22q ≤ 4 then (s_Mod_halts_b74 7 (g 0 15) g) else (s_Mod_halts_b74 1 (g 0 15) g))) else (if x2 = 1 then (s_Mod_halts_b106 v22q 2 g) else (if x2 = 0 then (s_Mod_halts_b101 v22q g) else (if (z_rem x1 2) = 0 then (s_Mod_halts_b101 v22q g) else (s_Mod_halts_b106 v22q 0 g)))))))))
set_option maxHeartbeats 1000000 in
set_option maxRecDepth 20000 in
theorem b_Mod_halts_b163 {X : z_X} {E : z_ET} {o : z_G} (hE : z_EV X E cX10_halts 9 RX10 2 46 80) {r : z_G} (hret : ∀ (pc : Nat) (lv : List (Nat × Value)), decode cX10_halts pc = .ok (.return_, 1) → z_V X E 9 o r pc lv []) (s2 : Int32) (s1 : Int32) (g : z_G)  (h : s_Mod_halts_b163 s2 s1 g = r) : z_V X E 9 o g 163 [] [.int s2, .int s1, .ref (z_ad X 71)] := by
  unfold s_Mod_halts_b163 at h
  refine z_iadd hE dX10_halts_163 ?_
  refine z_bipush (v := 7) hE dX10_halts_164 rfl ?_
  refine z_iand hE dX10_halts_166 ?_
  obtain ⟨g16q, eg16q, h⟩ := z_let_eq h
  refine z_put hE f_RX10_128 ft_10 (by decide) e_71 rfl (tyX10_ok 15 (by decide)) rfl rfl (Nat.le_of_ble_eq_true rfl) (u_71_15 eg16q) dX10_halts_167 ?_
  subst h
  exact hret _ _ dX10_halts_170
set_option maxHeartbeats 1000000 in
set_option maxRecDepth 20000 in
theorem b_Mod_halts_b140 {X : z_X} {E : z_ET} {o : z_G} (hE : z_EV X E cX10_halts 9 RX10 2 46 80) {r : z_G} (hret : ∀ (pc : Nat) (lv : List (Nat × Value)), decode cX10_halts pc = .ok (.return_, 1) → z_V X E 9 o r pc lv []) (x6 : Int32) (s0 : Int32) (g : z_G)  (h : s_Mod_halts_b140 x6 s0 g = r) : z_V X E 9 o g 140 [(0, .ref (z_ad X 71)), (6, .int x6)] [.int s0] := by
  unfold s_Mod_halts_b140 at h
  refine z_istore hE [(7, .int s0), (0, .ref (z_ad X 71)), (6, .int x6)] dX10_halts_140 (by decide) rfl ?_
  refine z_aload_n hE 1 dX10_halts_142 rfl ?_
  refine z_aload_n hE 1 dX10_halts_143 rfl ?_
  refine z_get hE f_RX10_128 (by decide) e_71 rfl dX10_halts_144 ?_
  refine z_iload hE 2 dX10_halts_147 rfl ?_
  refine z_iconst (v := 4) hE dX10_halts_149 rfl ?_
  refine z_icmp_le hE 161 dX10_halts_150 rfl (fun c17q => ?_) (fun c17q => ?_)
  · replace h := z_t c17q h
    refine z_iload hE 0 dX10_halts_161 rfl ?_
    refine z_sub [] [] rfl ?_
    exact b_Mod_halts_b163 hE hret s0 (g 0 15) g h
  · replace h := z_f c17q h
    refine z_bipush (v := 8) hE dX10_halts_153 rfl ?_
    refine z_iload hE 0 dX10_halts_155 rfl ?_
    refine z_isub hE dX10_halts_157 ?_
    refine z_goto hE 163 dX10_halts_158 rfl ?_
    refine z_sub [] [] rfl ?_
    exact b_Mod_halts_b163 hE hret (8 - s0) (g 0 15) g h
set_option maxHeartbeats 1000000 in
set_option maxRecDepth 20000 in
theorem b_Mod_halts_b124 {X : z_X} {E : z_ET} {o : z_G} (hE : z_EV X E cX10_halts 9 RX10 2 46 80) {r : z_G} (hret : ∀ (pc : Nat) (lv : List (Nat × Value)), decode cX10_halts pc = .ok (.return_, 1) → z_V X E 9 o r pc lv []) (x6 : Int32) (x7 : Int32) (s0 : Int32) (g : z_G)  (h : s_Mod_halts_b124 x6 x7 s0 g = r) : z_V X E 9 o g 124 [(0, .ref (z_ad X 71)), (6, .int x6), (7, .int x7)] [.int s0] := by
  unfold s_Mod_halts_b124 at h
  refine z_istore hE [(8, .int s0), (0, .ref (z_ad X 71)), (6, .int x6), (7, .int x7)] dX10_halts_124 (by decide) rfl ?_
  refine z_iload hE 3 dX10_halts_126 rfl ?_
  refine z_iload hE 0 dX10_halts_128 rfl ?_
  refine z_icmp_le hE 138 dX10_halts_130 rfl (fun c18q => ?_) (fun c18q => ?_)
  · replace h := z_t c18q h
    refine z_iload hE 3 dX10_halts_138 rfl ?_
    refine z_sub [(0, .ref (z_ad X 71)), (6, .int x6)] [1, 2] rfl ?_
    exact b_Mod_halts_b140 hE hret x6 x7 g h
  · replace h := z_f c18q h
    refine z_iload hE 0 dX10_halts_133 rfl ?_
    refine z_goto hE 140 dX10_halts_135 rfl ?_
    refine z_sub [(0, .ref (z_ad X 71)), (6, .int x6)] [1, 2] rfl ?_
    exact b_Mod_halts_b140 hE hret x6 s0 g h
set_option maxHeartbeats 1000000 in
set_option maxRecDepth 20000 in
theorem b_Mod_halts_b106 {X : z_X} {E : z_ET} {o : z_G} (hE : z_EV X E cX10_halts 9 RX10 2 46 80) {r : z_G} (hret : ∀ (pc : Nat) (lv : List (Nat × Value)), decode cX10_halts pc = .ok (.return_, 1) → z_V X E 9 o r pc lv []) (x6 : Int32) (s0 : Int32) (g : z_G)  (h : s_Mod_halts_b106 x6 s0 g = r) : z_V X E 9 o g 106 [(0, .ref (z_ad X 71)), (6, .int x6)] [.int s0] := by
  unfold s_Mod_halts_b106 at h
  refine z_istore hE [(7, .int s0), (0, .ref (z_ad X 71)), (6, .int x6)] dX10_halts_106 (by decide) rfl ?_
  refine z_iload hE 2 dX10_halts_108 rfl ?_
  refine z_iconst (v := 4) hE dX10_halts_110 rfl ?_
  refine z_icmp_le hE 122 dX10_halts_111 rfl (fun c19q => ?_) (fun c19q => ?_)
  · replace h := z_t c19q h
    refine z_iload hE 2 dX10_halts_122 rfl ?_
    refine z_sub [(0, .ref (z_ad X 71)), (6, .int x6), (7, .int s0)] [1, 2, 0] rfl ?_
    exact b_Mod_halts_b124 hE hret x6 s0 x6 g h
  · replace h := z_f c19q h
    refine z_bipush (v := 8) hE dX10_halts_114 rfl ?_
    refine z_iload hE 2 dX10_halts_116 rfl ?_
    refine z_isub hE dX10_halts_118 ?_
    refine z_goto hE 124 dX10_halts_119 rfl ?_
    refine z_sub [(0, .ref (z_ad X 71)), (6, .int x6), (7, .int s0)] [1, 2, 0] rfl ?_
    exact b_Mod_halts_b124 hE hret x6 s0 (8 - x6) g h
set_option maxHeartbeats 1000000 in
set_option maxRecDepth 20000 in
theorem b_Mod_halts_b101 {X : z_X} {E : z_ET} {o : z_G} (hE : z_EV X E cX10_halts 9 RX10 2 46 80) {r : z_G} (hret : ∀ (pc : Nat) (lv : List (Nat × Value)), decode cX10_halts pc = .ok (.return_, 1) → z_V X E 9 o r pc lv []) (x6 : Int32) (g : z_G)  (h : s_Mod_halts_b101 x6 g = r) : z_V X E 9 o g 101 [(0, .ref (z_ad X 71)), (6, .int x6)] [] := by
  unfold s_Mod_halts_b101 at h
  refine z_iconst (v := 1) hE dX10_halts_101 rfl ?_
  refine z_goto hE 106 dX10_halts_102 rfl ?_
  exact b_Mod_halts_b106 hE hret x6 1 g h
set_option maxHeartbeats 1000000 in
set_option maxRecDepth 20000 in
theorem b_Mod_halts_b78 {X : z_X} {E : z_ET} {o : z_G} (hE : z_EV X E cX10_halts 9 RX10 2 46 80) {r : z_G} (hret : ∀ (pc : Nat) (lv : List (Nat × Value)), decode cX10_halts pc = .ok (.return_, 1) → z_V X E 9 o r pc lv []) (s1 : Int32) (g : z_G)  (h : s_Mod_halts_b78 s1 g = r) : z_V X E 9 o g 78 [] [.int s1, .ref (z_ad X 71)] := by
  unfold s_Mod_halts_b78 at h
  obtain ⟨g20q, eg20q, h⟩ := z_let_eq h
  refine z_put hE f_RX10_128 ft_10 (by decide) e_71 rfl (tyX10_ok 15 (by decide)) rfl rfl (Nat.le_of_ble_eq_true rfl) (u_71_15 eg20q) dX10_halts_78 ?_
  subst h
  exact hret _ _ dX10_halts_81
set_option maxHeartbeats 1000000 in
set_option maxRecDepth 20000 in
theorem b_Mod_halts_b74 {X : z_X} {E : z_ET} {o : z_G} (hE : z_EV X E cX10_halts 9 RX10 2 46 80) {r : z_G} (hret : ∀ (pc : Nat) (lv : List (Nat × Value)), decode cX10_halts pc = .ok (.return_, 1) → z_V X E 9 o r pc lv []) (s2 : Int32) (s1 : Int32) (g : z_G)  (h : s_Mod_halts_b74 s2 s1 g = r) : z_V X E 9 o g 74 [] [.int s2, .int s1, .ref (z_ad X 71)] := by
  unfold s_Mod_halts_b74 at h
  refine z_iadd hE dX10_halts_74 ?_
  refine z_bipush (v := 7) hE dX10_halts_75 rfl ?_
  refine z_iand hE dX10_halts_77 ?_
  exact b_Mod_halts_b78 hE hret ((s1 + s2) &&& 7) g h
set_option maxHeartbeats 1000000 in
set_option maxRecDepth 20000 in
theorem c_Mod_halts {X : z_X} {l : Launch} {o : z_G} (x1 : Int32) (x2 : Int32) (x3 : Int32) (x4 : Int32) (g : z_G) : z_MV X l 80 yX10_halts cX10_halts 9 none 2 46 [.ref (z_ad X 71), .int x1, .int x2, .int x3, .int x4] o g o (s_Mod_halts x1 x2 x3 x4 g) := by
  obtain ⟨r, h⟩ : ∃ r, s_Mod_halts x1 x2 x3 x4 g = r := ⟨_, rfl⟩
  rw [h]
  unfold s_Mod_halts at h
  refine z_metv (by decide) (Nat.le_of_ble_eq_true rfl) (fun E hl hE hret => ?_)
  subst hl
  refine z_aload_n hE 0 dX10_halts_0 rfl ?_
  refine z_get hE f_RX10_135 (by decide) e_71 rfl dX10_halts_1 ?_
  refine z_aload_n hE 0 dX10_halts_4 rfl ?_
  refine z_get hE f_RX10_138 (by decide) e_71 rfl dX10_halts_5 ?_
  refine z_iload_n hE 3 dX10_halts_8 rfl ?_
  refine z_iload hE 4 dX10_halts_9 rfl ?_
  refine z_iS (rest := []) (av := [.int (g 0 13), .int (g 0 14), .int x3, .int x4]) hE (c_Mod_way (g 0 13) (g 0 14) x3 x4 g) l_RX10_124 (by decide) ⟨by decide, by decide⟩ dX10_halts_11 rfl (Nat.le_of_ble_eq_true rfl) ?_
  obtain ⟨v21q, ev21q, h⟩ := z_let_eq h
  refine z_topi ev21q ?_
  refine z_istore hE [(5, .int v21q), (0, .ref (z_ad X 71)), (1, .int x1), (2, .int x2), (3, .int x3), (4, .int x4)] dX10_halts_14 (by decide) rfl ?_
  refine z_iload hE 0 dX10_halts_16 rfl ?_
  refine z_aload_n hE 1 dX10_halts_18 rfl ?_
  refine z_get hE f_RX10_128 (by decide) e_71 rfl dX10_halts_19 ?_
  refine z_isub hE dX10_halts_22 ?_
  refine z_bipush (v := 7) hE dX10_halts_23 rfl ?_
  refine z_iand hE dX10_halts_25 ?_
  obtain ⟨v22q, ev22q, h⟩ := z_let_eq h
  refine z_topi ev22q ?_
  refine z_istore hE [(6, .int v22q), (5, .int v21q), (0, .ref (z_ad X 71)), (1, .int x1), (2, .int x2), (3, .int x3), (4, .int x4)] dX10_halts_26 (by decide) rfl ?_
  refine z_iload hE 1 dX10_halts_28 rfl ?_
  refine z_if_lt hE 38 dX10_halts_30 rfl (fun c23q => ?_) (fun c23q => ?_)
  · replace h := z_t c23q h
    subst h
    exact hret _ _ dX10_halts_38
  · replace h := z_f c23q h
    refine z_iload_n hE 4 dX10_halts_33 rfl ?_
    refine z_iconst (v := 3) hE dX10_halts_34 rfl ?_
    refine z_icmp_ne hE 39 dX10_halts_35 rfl (fun c24q => ?_) (fun c24q => ?_)
    · replace h := z_f c24q h
      refine z_iload_n hE 4 dX10_halts_39 rfl ?_
      refine z_iconst (v := 4) hE dX10_halts_40 rfl ?_
      refine z_icmp_ne hE 82 dX10_halts_41 rfl (fun c25q => ?_) (fun c25q => ?_)
      · replace h := z_f c25q h
        refine z_iload_n hE 4 dX10_halts_82 rfl ?_
        refine z_iconst (v := 1) hE dX10_halts_83 rfl ?_
        refine z_icmp_ne hE 91 dX10_halts_84 rfl (fun c26q => ?_) (fun c26q => ?_)
        · replace h := z_f c26q h
          refine z_iload_n hE 4 dX10_halts_91 rfl ?_
          refine z_if_eq hE 101 dX10_halts_92 rfl (fun c27q => ?_) (fun c27q => ?_)
          · replace h := z_t c27q h
            refine z_sub [(0, .ref (z_ad X 71)), (6, .int v22q)] [2, 0] rfl ?_
            exact b_Mod_halts_b101 hE hret v22q g h
          · replace h := z_f c27q h
            refine z_iload_n hE 3 dX10_halts_95 rfl ?_
            refine z_iconst (v := 2) hE dX10_halts_96 rfl ?_
            refine z_irem hE dX10_halts_97 (by decide) ?_
            refine z_if_ne hE 105 dX10_halts_98 rfl (fun c28q => ?_) (fun c28q => ?_)
            · replace h := z_f c28q h
              refine z_iconst (v := 0) hE dX10_halts_105 rfl ?_
              refine z_sub [(0, .ref (z_ad X 71)), (6, .int v22q)] [2, 0] rfl ?_
              exact b_Mod_halts_b106 hE hret v22q 0 g h
            · replace h := z_t c28q h
              refine z_sub [(0, .ref (z_ad X 71)), (6, .int v22q)] [2, 0] rfl ?_
              exact b_Mod_halts_b101 hE hret v22q g h
        · replace h := z_t c26q h
          refine z_iconst (v := 2) hE dX10_halts_87 rfl ?_
          refine z_goto hE 106 dX10_halts_88 rfl ?_
          refine z_sub [(0, .ref (z_ad X 71)), (6, .int v22q)] [2, 0] rfl ?_
          exact b_Mod_halts_b106 hE hret v22q 2 g h
      · replace h := z_t c25q h
        refine z_aload_n hE 2 dX10_halts_44 rfl ?_
        refine z_iload hE 0 dX10_halts_45 rfl ?_
        refine z_iconst (v := 4) hE dX10_halts_47 rfl ?_
        refine z_icmp_ne hE 58 dX10_halts_48 rfl (fun c29q => ?_) (fun c29q => ?_)
        · replace h := z_f c29q h
          refine z_aload_n hE 2 dX10_halts_58 rfl ?_
          refine z_get hE f_RX10_128 (by decide) e_71 rfl dX10_halts_59 ?_
          refine z_iload hE 0 dX10_halts_62 rfl ?_
          refine z_iconst (v := 4) hE dX10_halts_64 rfl ?_
          refine z_icmp_le hE 72 dX10_halts_65 rfl (fun c30q => ?_) (fun c30q => ?_)
          · replace h := z_t c30q h
            refine z_bipush (v := 7) hE dX10_halts_72 rfl ?_
            refine z_sub [] [] rfl ?_
            exact b_Mod_halts_b74 hE hret 7 (g 0 15) g h
          · replace h := z_f c30q h
            refine z_iconst (v := 1) hE dX10_halts_68 rfl ?_
            refine z_goto hE 74 dX10_halts_69 rfl ?_
            refine z_sub [] [] rfl ?_
            exact b_Mod_halts_b74 hE hret 1 (g 0 15) g h
        · replace h := z_t c29q h
          refine z_aload_n hE 2 dX10_halts_51 rfl ?_
          refine z_get hE f_RX10_128 (by decide) e_71 rfl dX10_halts_52 ?_
          refine z_goto hE 78 dX10_halts_55 rfl ?_
          refine z_sub [] [] rfl ?_
          exact b_Mod_halts_b78 hE hret (g 0 15) g h
    · replace h := z_t c24q h
      subst h
      exact hret _ _ dX10_halts_38
