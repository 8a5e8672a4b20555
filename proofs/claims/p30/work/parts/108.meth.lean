theorem dX10_more_0 : decode cX10_more 0 = .ok (.aload_n 0, 1) := by decide +kernel
theorem dX10_more_1 : decode cX10_more 1 = .ok (.aload_n 0, 1) := by decide +kernel
theorem dX10_more_2 : decode cX10_more 2 = .ok (.getfield 81, 3) := by decide +kernel
theorem dX10_more_5 : decode cX10_more 5 = .ok (.ifCond .ne 12, 3) := by decide +kernel
theorem dX10_more_8 : decode cX10_more 8 = .ok (.aload_n 0, 1) := by decide +kernel
theorem dX10_more_9 : decode cX10_more 9 = .ok (.invokevirtual 74, 3) := by decide +kernel
theorem dX10_more_12 : decode cX10_more 12 = .ok (.bipush 44, 2) := by decide +kernel
theorem dX10_more_14 : decode cX10_more 14 = .ok (.if_icmp .eq 7, 3) := by decide +kernel
theorem dX10_more_17 : decode cX10_more 17 = .ok (.iconst 1, 1) := by decide +kernel
theorem dX10_more_18 : decode cX10_more 18 = .ok (.goto 4, 3) := by decide +kernel
theorem dX10_more_21 : decode cX10_more 21 = .ok (.iconst 0, 1) := by decide +kernel
theorem dX10_more_22 : decode cX10_more 22 = .ok (.putfield 81, 3) := by decide +kernel
theorem dX10_more_25 : decode cX10_more 25 = .ok (.aload_n 0, 1) := by decide +kernel
theorem dX10_more_26 : decode cX10_more 26 = .ok (.dup, 1) := by decide +kernel
theorem dX10_more_27 : decode cX10_more 27 = .ok (.getfield 71, 3) := by decide +kernel
theorem dX10_more_30 : decode cX10_more 30 = .ok (.iconst 1, 1) := by decide +kernel
theorem dX10_more_31 : decode cX10_more 31 = .ok (.iadd, 1) := by decide +kernel
theorem dX10_more_32 : decode cX10_more 32 = .ok (.putfield 71, 3) := by decide +kernel
theorem dX10_more_35 : decode cX10_more 35 = .ok (.aload_n 0, 1) := by decide +kernel
theorem dX10_more_36 : decode cX10_more 36 = .ok (.getfield 81, 3) := by decide +kernel
theorem dX10_more_39 : decode cX10_more 39 = .ok (.ifCond .eq 7, 3) := by decide +kernel
theorem dX10_more_42 : decode cX10_more 42 = .ok (.iconst 0, 1) := by decide +kernel
theorem dX10_more_43 : decode cX10_more 43 = .ok (.goto 9, 3) := by decide +kernel
theorem dX10_more_46 : decode cX10_more 46 = .ok (.aload_n 0, 1) := by decide +kernel
theorem dX10_more_47 : decode cX10_more 47 = .ok (.iload_n 1, 1) := by decide +kernel
theorem dX10_more_48 : decode cX10_more 48 = .ok (.iload_n 2, 1) := by decide +kernel
theorem dX10_more_49 : decode cX10_more 49 = .ok (.invokevirtual 85, 3) := by decide +kernel
theorem dX10_more_52 : decode cX10_more 52 = .ok (.ireturn, 1) := by decide +kernel
def s_Mod_more_b22 (x1 : Int32) (x2 : Int32) (s1 : Int32) (g : z_G) : Option (Int32 × z_G) := (z_ck (z_bit s1) (z_let (α := z_G) (z_up g 0 8 s1) fun g10q => (z_let (α := z_G) (z_up g10q 0 6 ((g10q 0 6) + 1)) fun g11q => (if (g11q 0 8) = 0 then (Option.bind (s_Mod_number x1 x2 g11q) fun r13q => (some (r13q.1, r13q.2))) else (some (0, g11q))))))
def s_Mod_more_b17 (x1 : Int32) (x2 : Int32) (g : z_G) : Option (Int32 × z_G) := (s_Mod_more_b22 x1 x2 1 g)
def s_Mod_more (x1 : Int32) (x2 : Int32) (g : z_G) : Option (Int32 × z_G) := (if (g 0 8) = 0 then (Option.bind (s_Mod_next g) fun r15q => (if r15q = 44 then (s_Mod_more_b22 x1 x2 0 g) else (s_Mod_more_b17 x1 x2 g))) else (s_Mod_more_b17 x1 x2 g))
set_option maxHeartbeats 1000000 in
set_option maxRecDepth 20000 in
theorem b_Mod_more_b22 {X : z_X} {E : z_ET} {o : z_G} (hE : z_EV X E cX10_more 3 RX10 2 49 80) {r : Int32 × z_G} (hret : ∀ (pc : Nat) (lv : List (Nat × Value)), decode cX10_more pc = .ok (.ireturn, 1) → z_V X E 3 o r.2 pc lv [.int r.1]) (x1 : Int32) (x2 : Int32) (s1 : Int32) (g : z_G)  (h : s_Mod_more_b22 x1 x2 s1 g = some r) : z_V X E 3 o g 22 [(0, .ref (z_ad X 71)), (1, .int x1), (2, .int x2)] [.int s1, .ref (z_ad X 71)] := by
  unfold s_Mod_more_b22 at h
  obtain ⟨k9q, h⟩ := z_ck_some h
  obtain ⟨g10q, eg10q, h⟩ := z_let_eq h
  refine z_put hE f_RX10_81 ft_10 (by decide) e_71 rfl (tyX10_ok 8 (by decide)) (z_bit_nar k9q).1 (z_bit_nar k9q).2 (Nat.le_of_ble_eq_true rfl) (u_71_8 eg10q) dX10_more_22 ?_
  refine z_aload_n hE 0 dX10_more_25 rfl ?_
  refine z_dup hE dX10_more_26 rfl ?_
  refine z_get hE f_RX10_71 (by decide) e_71 rfl dX10_more_27 ?_
  refine z_iconst (v := 1) hE dX10_more_30 rfl ?_
  refine z_iadd hE dX10_more_31 ?_
  obtain ⟨g11q, eg11q, h⟩ := z_let_eq h
  refine z_put hE f_RX10_71 ft_10 (by decide) e_71 rfl (tyX10_ok 6 (by decide)) rfl rfl (Nat.le_of_ble_eq_true rfl) (u_71_6 eg11q) dX10_more_32 ?_
  refine z_aload_n hE 0 dX10_more_35 rfl ?_
  refine z_get hE f_RX10_81 (by decide) e_71 rfl dX10_more_36 ?_
  refine z_if_eq hE 46 dX10_more_39 rfl (fun c12q => ?_) (fun c12q => ?_)
  · replace h := z_t c12q h
    refine z_aload_n hE 0 dX10_more_46 rfl ?_
    refine z_iload_n hE 1 dX10_more_47 rfl ?_
    refine z_iload_n hE 2 dX10_more_48 rfl ?_
    obtain ⟨r13q, hr13q, h⟩ := z_bind_some h
    refine z_iV (rest := []) (av := [.int x1, .int x2]) hE (c_Mod_number x1 x2 g11q r13q hr13q) l_RX10_85 (by decide) (by decide) e_71 rfl ⟨by decide, by decide⟩ dX10_more_49 rfl (Nat.le_of_ble_eq_true rfl) ?_
    obtain rfl := Option.some.inj h
    exact hret _ _ dX10_more_52
  · replace h := z_f c12q h
    refine z_iconst (v := 0) hE dX10_more_42 rfl ?_
    refine z_goto hE 52 dX10_more_43 rfl ?_
    obtain rfl := Option.some.inj h
    exact hret _ _ dX10_more_52
set_option maxHeartbeats 1000000 in
set_option maxRecDepth 20000 in
theorem b_Mod_more_b17 {X : z_X} {E : z_ET} {o : z_G} (hE : z_EV X E cX10_more 3 RX10 2 49 80) {r : Int32 × z_G} (hret : ∀ (pc : Nat) (lv : List (Nat × Value)), decode cX10_more pc = .ok (.ireturn, 1) → z_V X E 3 o r.2 pc lv [.int r.1]) (x1 : Int32) (x2 : Int32) (g : z_G)  (h : s_Mod_more_b17 x1 x2 g = some r) : z_V X E 3 o g 17 [(0, .ref (z_ad X 71)), (1, .int x1), (2, .int x2)] [.ref (z_ad X 71)] := by
  unfold s_Mod_more_b17 at h
  refine z_iconst (v := 1) hE dX10_more_17 rfl ?_
  refine z_goto hE 22 dX10_more_18 rfl ?_
  exact b_Mod_more_b22 hE hret x1 x2 1 g h
set_option maxHeartbeats 1000000 in
set_option maxRecDepth 20000 in
theorem c_Mod_more {X : z_X} {l : Launch} {o : z_G} (x1 : Int32) (x2 : Int32) (g : z_G) (r : Int32 × z_G) (h : s_Mod_more x1 x2 g = some r) : z_MI X l 80 yX10_more cX10_more 3 (some .int) 2 49 [.ref (z_ad X 71), .int x1, .int x2] o g o r.2 r.1 := by
  unfold s_Mod_more at h
  refine z_meti (ty := .int) rfl rfl (by decide) (Nat.le_of_ble_eq_true rfl) (fun E hl hE hret => ?_)
  subst hl
  refine z_aload_n hE 0 dX10_more_0 rfl ?_
  refine z_aload_n hE 0 dX10_more_1 rfl ?_
  refine z_get hE f_RX10_81 (by decide) e_71 rfl dX10_more_2 ?_
  refine z_if_ne hE 17 dX10_more_5 rfl (fun c14q => ?_) (fun c14q => ?_)
  · replace h := z_f c14q h
    exact b_Mod_more_b17 hE hret x1 x2 g h
  · replace h := z_t c14q h
    refine z_aload_n hE 0 dX10_more_8 rfl ?_
    obtain ⟨r15q, hr15q, h⟩ := z_bind_some h
    refine z_iV (rest := [.ref (z_ad X 71)]) (av := []) hE (c_Mod_next g r15q hr15q) l_RX10_74 (by decide) (by decide) e_71 rfl ⟨by decide, by decide⟩ dX10_more_9 rfl (Nat.le_of_ble_eq_true rfl) ?_
    refine z_bipush (v := 44) hE dX10_more_12 rfl ?_
    refine z_icmp_eq hE 21 dX10_more_14 rfl (fun c16q => ?_) (fun c16q => ?_)
    · replace h := z_t c16q h
      refine z_iconst (v := 0) hE dX10_more_21 rfl ?_
      exact b_Mod_more_b22 hE hret x1 x2 0 g h
    · replace h := z_f c16q h
      exact b_Mod_more_b17 hE hret x1 x2 g h
theorem dX10_puts_0 : decode cX10_puts 0 = .ok (.aload_n 0, 1) := by decide +kernel
theorem dX10_puts_1 : decode cX10_puts 1 = .ok (.getfield 7, 3) := by decide +kernel
theorem dX10_puts_4 : decode cX10_puts 4 = .ok (.iload_n 1, 1) := by decide +kernel
theorem dX10_puts_5 : decode cX10_puts 5 = .ok (.bipush 9, 2) := by decide +kernel
theorem dX10_puts_7 : decode cX10_puts 7 = .ok (.iadd, 1) := by decide +kernel
theorem dX10_puts_8 : decode cX10_puts 8 = .ok (.iaload, 1) := by decide +kernel
theorem dX10_puts_9 : decode cX10_puts 9 = .ok (.istore 7, 2) := by decide +kernel
theorem dX10_puts_11 : decode cX10_puts 11 = .ok (.aload_n 0, 1) := by decide +kernel
theorem dX10_puts_12 : decode cX10_puts 12 = .ok (.getfield 7, 3) := by decide +kernel
theorem dX10_puts_15 : decode cX10_puts 15 = .ok (.iload_n 1, 1) := by decide +kernel
theorem dX10_puts_16 : decode cX10_puts 16 = .ok (.bipush 23, 2) := by decide +kernel
theorem dX10_puts_18 : decode cX10_puts 18 = .ok (.iadd, 1) := by decide +kernel
theorem dX10_puts_19 : decode cX10_puts 19 = .ok (.iload 7, 2) := by decide +kernel
theorem dX10_puts_21 : decode cX10_puts 21 = .ok (.iadd, 1) := by decide +kernel
theorem dX10_puts_22 : decode cX10_puts 22 = .ok (.iload_n 2, 1) := by decide +kernel
theorem dX10_puts_23 : decode cX10_puts 23 = .ok (.iastore, 1) := by decide +kernel
theorem dX10_puts_24 : decode cX10_puts 24 = .ok (.aload_n 0, 1) := by decide +kernel
theorem dX10_puts_25 : decode cX10_puts 25 = .ok (.getfield 7, 3) := by decide +kernel
theorem dX10_puts_28 : decode cX10_puts 28 = .ok (.iload_n 1, 1) := by decide +kernel
theorem dX10_puts_29 : decode cX10_puts 29 = .ok (.bipush 29, 2) := by decide +kernel
theorem dX10_puts_31 : decode cX10_puts 31 = .ok (.iadd, 1) := by decide +kernel
theorem dX10_puts_32 : decode cX10_puts 32 = .ok (.iload 7, 2) := by decide +kernel
theorem dX10_puts_34 : decode cX10_puts 34 = .ok (.iadd, 1) := by decide +kernel
theorem dX10_puts_35 : decode cX10_puts 35 = .ok (.iload_n 3, 1) := by decide +kernel
theorem dX10_puts_36 : decode cX10_puts 36 = .ok (.iastore, 1) := by decide +kernel
theorem dX10_puts_37 : decode cX10_puts 37 = .ok (.aload_n 0, 1) := by decide +kernel
theorem dX10_puts_38 : decode cX10_puts 38 = .ok (.getfield 7, 3) := by decide +kernel
theorem dX10_puts_41 : decode cX10_puts 41 = .ok (.iload_n 1, 1) := by decide +kernel
theorem dX10_puts_42 : decode cX10_puts 42 = .ok (.bipush 11, 2) := by decide +kernel
theorem dX10_puts_44 : decode cX10_puts 44 = .ok (.iadd, 1) := by decide +kernel
theorem dX10_puts_45 : decode cX10_puts 45 = .ok (.iload 7, 2) := by decide +kernel
theorem dX10_puts_47 : decode cX10_puts 47 = .ok (.iadd, 1) := by decide +kernel
theorem dX10_puts_48 : decode cX10_puts 48 = .ok (.iload 4, 2) := by decide +kernel
theorem dX10_puts_50 : decode cX10_puts 50 = .ok (.iastore, 1) := by decide +kernel
theorem dX10_puts_51 : decode cX10_puts 51 = .ok (.aload_n 0, 1) := by decide +kernel
theorem dX10_puts_52 : decode cX10_puts 52 = .ok (.getfield 7, 3) := by decide +kernel
theorem dX10_puts_55 : decode cX10_puts 55 = .ok (.iload_n 1, 1) := by decide +kernel
theorem dX10_puts_56 : decode cX10_puts 56 = .ok (.bipush 41, 2) := by decide +kernel
theorem dX10_puts_58 : decode cX10_puts 58 = .ok (.iadd, 1) := by decide +kernel
theorem dX10_puts_59 : decode cX10_puts 59 = .ok (.iload 7, 2) := by decide +kernel
theorem dX10_puts_61 : decode cX10_puts 61 = .ok (.iadd, 1) := by decide +kernel
theorem dX10_puts_62 : decode cX10_puts 62 = .ok (.iload 5, 2) := by decide +kernel
theorem dX10_puts_64 : decode cX10_puts 64 = .ok (.iastore, 1) := by decide +kernel
theorem dX10_puts_65 : decode cX10_puts 65 = .ok (.aload_n 0, 1) := by decide +kernel
theorem dX10_puts_66 : decode cX10_puts 66 = .ok (.getfield 7, 3) := by decide +kernel
theorem dX10_puts_69 : decode cX10_puts 69 = .ok (.iload_n 1, 1) := by decide +kernel
theorem dX10_puts_70 : decode cX10_puts 70 = .ok (.bipush 17, 2) := by decide +kernel
theorem dX10_puts_72 : decode cX10_puts 72 = .ok (.iadd, 1) := by decide +kernel
theorem dX10_puts_73 : decode cX10_puts 73 = .ok (.iload 7, 2) := by decide +kernel
theorem dX10_puts_75 : decode cX10_puts 75 = .ok (.iadd, 1) := by decide +kernel
theorem dX10_puts_76 : decode cX10_puts 76 = .ok (.iload 6, 2) := by decide +kernel
theorem dX10_puts_78 : decode cX10_puts 78 = .ok (.iastore, 1) := by decide +kernel
theorem dX10_puts_79 : decode cX10_puts 79 = .ok (.aload_n 0, 1) := by decide +kernel
theorem dX10_puts_80 : decode cX10_puts 80 = .ok (.getfield 7, 3) := by decide +kernel
theorem dX10_puts_83 : decode cX10_puts 83 = .ok (.iload_n 1, 1) := by decide +kernel
theorem dX10_puts_84 : decode cX10_puts 84 = .ok (.bipush 9, 2) := by decide +kernel
theorem dX10_puts_86 : decode cX10_puts 86 = .ok (.iadd, 1) := by decide +kernel
theorem dX10_puts_87 : decode cX10_puts 87 = .ok (.iload 7, 2) := by decide +kernel
theorem dX10_puts_89 : decode cX10_puts 89 = .ok (.iconst 1, 1) := by decide +kernel
theorem dX10_puts_90 : decode cX10_puts 90 = .ok (.iadd, 1) := by decide +kernel
theorem dX10_puts_91 : decode cX10_puts 91 = .ok (.iastore, 1) := by decide +kernel
theorem dX10_puts_92 : decode cX10_puts 92 = .ok (.return_, 1) := by decide +kernel
def s_Mod_puts (x1 : Int32) (x2 : Int32) (x3 : Int32) (x4 : Int32) (x5 : Int32) (x6 : Int32) (g : z_G) : Option (z_G) := (z_ck (z_inb (x1 + 9) 120) (z_let (α := Int32) ((z_rd g 1 (x1 + 9))) fun v16q => (z_ck (z_inb ((x1 + 23) + v16q) 120) (z_let (α := z_G) (z_wr g 1 ((x1 + 23) + v16q) x2) fun g18q => (z_ck (z_inb ((x1 + 29) + v16q) 120) (z_let (α := z_G) (z_wr g18q 1 ((x1 + 29) + v16q) x3) fun g20q => (z_ck (z_inb ((x1 + 11) + v16q) 120) (z_let (α := z_G) (z_wr g20q 1 ((x1 + 11) + v16q) x4) fun g22q => (z_ck (z_inb ((x1 + 41) + v16q) 120) (z_let (α := z_G) (z_wr g22q 1 ((x1 + 41) + v16q) x5) fun g24q => (z_ck (z_inb ((x1 + 17) + v16q) 120) (z_let (α := z_G) (z_wr g24q 1 ((x1 + 17) + v16q) x6) fun g26q => (z_ck (z_inb (x1 + 9) 120) (z_let (α := z_G) (z_wr g26q 1 (x1 + 9) (v16q + 1)) fun g28q => (some g28q)))))))))))))))
set_option maxHeartbeats 1000000 in
set_option maxRecDepth 20000 in
theorem c_Mod_puts {X : z_X} {l : Launch} {o : z_G} (x1 : Int32) (x2 : Int32) (x3 : Int32) (x4 : Int32) (x5 : Int32) (x6 : Int32) (g : z_G) (r : z_G) (h : s_Mod_puts x1 x2 x3 x4 x5 x6 g = some r) : z_MV X l 80 yX10_puts cX10_puts 8 none 0 0 [.ref (z_ad X 71), .int x1, .int x2, .int x3, .int x4, .int x5, .int x6] o g o r := by
  unfold s_Mod_puts at h
  refine z_metv (by decide) (Nat.le_of_ble_eq_true rfl) (fun E hl hE hret => ?_)
  subst hl
  refine z_aload_n hE 0 dX10_puts_0 rfl ?_
  refine z_get hE f_RX10_7 (by decide) e_71 rfl dX10_puts_1 ?_
  refine z_iload_n hE 1 dX10_puts_4 rfl ?_
  refine z_bipush (v := 9) hE dX10_puts_5 rfl ?_
  refine z_iadd hE dX10_puts_7 ?_
  obtain ⟨k15q, h⟩ := z_ck_some h
  refine z_iald hE (by decide) e_72 k15q dX10_puts_8 ?_
  obtain ⟨v16q, ev16q, h⟩ := z_let_eq h
  refine z_topi ev16q ?_
  refine z_istore hE [(7, .int v16q), (0, .ref (z_ad X 71)), (1, .int x1), (2, .int x2), (3, .int x3), (4, .int x4), (5, .int x5), (6, .int x6)] dX10_puts_9 (by decide) rfl ?_
  refine z_aload_n hE 1 dX10_puts_11 rfl ?_
  refine z_get hE f_RX10_7 (by decide) e_71 rfl dX10_puts_12 ?_
  refine z_iload_n hE 2 dX10_puts_15 rfl ?_
  refine z_bipush (v := 23) hE dX10_puts_16 rfl ?_
  refine z_iadd hE dX10_puts_18 ?_
  refine z_iload hE 0 dX10_puts_19 rfl ?_
  refine z_iadd hE dX10_puts_21 ?_
  refine z_iload_n hE 3 dX10_puts_22 rfl ?_
  obtain ⟨k17q, h⟩ := z_ck_some h
  obtain ⟨g18q, eg18q, h⟩ := z_let_eq h
  refine z_iast hE (by decide) e_72 k17q (ua_72 eg18q) dX10_puts_23 ?_
  refine z_aload_n hE 1 dX10_puts_24 rfl ?_
  refine z_get hE f_RX10_7 (by decide) e_71 rfl dX10_puts_25 ?_
  refine z_iload_n hE 2 dX10_puts_28 rfl ?_
  refine z_bipush (v := 29) hE dX10_puts_29 rfl ?_
  refine z_iadd hE dX10_puts_31 ?_
  refine z_iload hE 0 dX10_puts_32 rfl ?_
  refine z_iadd hE dX10_puts_34 ?_
  refine z_iload_n hE 4 dX10_puts_35 rfl ?_
  obtain ⟨k19q, h⟩ := z_ck_some h
  obtain ⟨g20q, eg20q, h⟩ := z_let_eq h
  refine z_iast hE (by decide) e_72 k19q (ua_72 eg20q) dX10_puts_36 ?_
  refine z_aload_n hE 1 dX10_puts_37 rfl ?_
  refine z_get hE f_RX10_7 (by decide) e_71 rfl dX10_puts_38 ?_
  refine z_iload_n hE 2 dX10_puts_41 rfl ?_
  refine z_bipush (v := 11) hE dX10_puts_42 rfl ?_
  refine z_iadd hE dX10_puts_44 ?_
  refine z_iload hE 0 dX10_puts_45 rfl ?_
  refine z_iadd hE dX10_puts_47 ?_
  refine z_iload hE 5 dX10_puts_48 rfl ?_
  obtain ⟨k21q, h⟩ := z_ck_some h
  obtain ⟨g22q, eg22q, h⟩ := z_let_eq h
  refine z_iast hE (by decide) e_72 k21q (ua_72 eg22q) dX10_puts_50 ?_
  refine z_aload_n hE 1 dX10_puts_51 rfl ?_
  refine z_get hE f_RX10_7 (by decide) e_71 rfl dX10_puts_52 ?_
  refine z_iload_n hE 2 dX10_puts_55 rfl ?_
  refine z_bipush (v := 41) hE dX10_puts_56 rfl ?_
  refine z_iadd hE dX10_puts_58 ?_
  refine z_iload hE 0 dX10_puts_59 rfl ?_
  refine z_iadd hE dX10_puts_61 ?_
  refine z_iload hE 6 dX10_puts_62 rfl ?_
  obtain ⟨k23q, h⟩ := z_ck_some h
  obtain ⟨g24q, eg24q, h⟩ := z_let_eq h
  refine z_iast hE (by decide) e_72 k23q (ua_72 eg24q) dX10_puts_64 ?_
  refine z_aload_n hE 1 dX10_puts_65 rfl ?_
  refine z_get hE f_RX10_7 (by decide) e_71 rfl dX10_puts_66 ?_
  refine z_iload_n hE 2 dX10_puts_69 rfl ?_
  refine z_bipush (v := 17) hE dX10_puts_70 rfl ?_
  refine z_iadd hE dX10_puts_72 ?_
  refine z_iload hE 0 dX10_puts_73 rfl ?_
  refine z_iadd hE dX10_puts_75 ?_
  refine z_iload hE 7 dX10_puts_76 rfl ?_
  obtain ⟨k25q, h⟩ := z_ck_some h
  obtain ⟨g26q, eg26q, h⟩ := z_let_eq h
  refine z_iast hE (by decide) e_72 k25q (ua_72 eg26q) dX10_puts_78 ?_
  refine z_aload_n hE 1 dX10_puts_79 rfl ?_
  refine z_get hE f_RX10_7 (by decide) e_71 rfl dX10_puts_80 ?_
  refine z_iload_n hE 2 dX10_puts_83 rfl ?_
  refine z_bipush (v := 9) hE dX10_puts_84 rfl ?_
  refine z_iadd hE dX10_puts_86 ?_
  refine z_iload hE 0 dX10_puts_87 rfl ?_
  refine z_iconst (v := 1) hE dX10_puts_89 rfl ?_
  refine z_iadd hE dX10_puts_90 ?_
  obtain ⟨k27q, h⟩ := z_ck_some h
  obtain ⟨g28q, eg28q, h⟩ := z_let_eq h
  refine z_iast hE (by decide) e_72 k27q (ua_72 eg28q) dX10_puts_91 ?_
  obtain rfl := Option.some.inj h
  exact hret _ _ dX10_puts_92
theorem dX10_tells_0 : decode cX10_tells 0 = .ok (.aload_n 0, 1) := by decide +kernel
theorem dX10_tells_1 : decode cX10_tells 1 = .ok (.getfield 7, 3) := by decide +kernel
theorem dX10_tells_4 : decode cX10_tells 4 = .ok (.iload_n 1, 1) := by decide +kernel
theorem dX10_tells_5 : decode cX10_tells 5 = .ok (.bipush 47, 2) := by decide +kernel
theorem dX10_tells_7 : decode cX10_tells 7 = .ok (.iadd, 1) := by decide +kernel
theorem dX10_tells_8 : decode cX10_tells 8 = .ok (.iaload, 1) := by decide +kernel
theorem dX10_tells_9 : decode cX10_tells 9 = .ok (.istore 4, 2) := by decide +kernel
theorem dX10_tells_11 : decode cX10_tells 11 = .ok (.aload_n 0, 1) := by decide +kernel
theorem dX10_tells_12 : decode cX10_tells 12 = .ok (.getfield 7, 3) := by decide +kernel
theorem dX10_tells_15 : decode cX10_tells 15 = .ok (.iload_n 1, 1) := by decide +kernel
theorem dX10_tells_16 : decode cX10_tells 16 = .ok (.bipush 48, 2) := by decide +kernel
theorem dX10_tells_18 : decode cX10_tells 18 = .ok (.iadd, 1) := by decide +kernel
theorem dX10_tells_19 : decode cX10_tells 19 = .ok (.iload 4, 2) := by decide +kernel
theorem dX10_tells_21 : decode cX10_tells 21 = .ok (.iadd, 1) := by decide +kernel
theorem dX10_tells_22 : decode cX10_tells 22 = .ok (.iload_n 2, 1) := by decide +kernel
theorem dX10_tells_23 : decode cX10_tells 23 = .ok (.iastore, 1) := by decide +kernel
theorem dX10_tells_24 : decode cX10_tells 24 = .ok (.aload_n 0, 1) := by decide +kernel
theorem dX10_tells_25 : decode cX10_tells 25 = .ok (.getfield 7, 3) := by decide +kernel
theorem dX10_tells_28 : decode cX10_tells 28 = .ok (.iload_n 1, 1) := by decide +kernel
theorem dX10_tells_29 : decode cX10_tells 29 = .ok (.bipush 54, 2) := by decide +kernel
theorem dX10_tells_31 : decode cX10_tells 31 = .ok (.iadd, 1) := by decide +kernel
theorem dX10_tells_32 : decode cX10_tells 32 = .ok (.iload 4, 2) := by decide +kernel
theorem dX10_tells_34 : decode cX10_tells 34 = .ok (.iadd, 1) := by decide +kernel
theorem dX10_tells_35 : decode cX10_tells 35 = .ok (.iload_n 3, 1) := by decide +kernel
theorem dX10_tells_36 : decode cX10_tells 36 = .ok (.iastore, 1) := by decide +kernel
theorem dX10_tells_37 : decode cX10_tells 37 = .ok (.aload_n 0, 1) := by decide +kernel
theorem dX10_tells_38 : decode cX10_tells 38 = .ok (.getfield 7, 3) := by decide +kernel
theorem dX10_tells_41 : decode cX10_tells 41 = .ok (.iload_n 1, 1) := by decide +kernel
theorem dX10_tells_42 : decode cX10_tells 42 = .ok (.bipush 47, 2) := by decide +kernel
theorem dX10_tells_44 : decode cX10_tells 44 = .ok (.iadd, 1) := by decide +kernel
theorem dX10_tells_45 : decode cX10_tells 45 = .ok (.iload 4, 2) := by decide +kernel
theorem dX10_tells_47 : decode cX10_tells 47 = .ok (.iconst 1, 1) := by decide +kernel
theorem dX10_tells_48 : decode cX10_tells 48 = .ok (.iadd, 1) := by decide +kernel
theorem dX10_tells_49 : decode cX10_tells 49 = .ok (.iastore, 1) := by decide +kernel
theorem dX10_tells_50 : decode cX10_tells 50 = .ok (.return_, 1) := by decide +kernel
def s_Mod_tells (x1 : Int32) (x2 : Int32) (x3 : Int32) (g : z_G) : Option (z_G) := (z_ck (z_inb (x1 + 47) 120) (z_let (α := Int32) ((z_rd g 1 (x1 + 47))) fun v10q => (z_ck (z_inb ((x1 + 48) + v10q) 120) (z_let (α := z_G) (z_wr g 1 ((x1 + 48) + v10q) x2) fun g12q => (z_ck (z_inb ((x1 + 54) + v10q) 120) (z_let (α := z_G) (z_wr g12q 1 ((x1 + 54) + v10q) x3) fun g14q => (z_ck (z_inb (x1 + 47) 120) (z_let (α := z_G) (z_wr g14q 1 (x1 + 47) (v10q + 1)) fun g16q => (some g16q)))))))))
set_option maxHeartbeats 1000000 in
set_option maxRecDepth 20000 in
theorem c_Mod_tells {X : z_X} {l : Launch} {o : z_G} (x1 : Int32) (x2 : Int32) (x3 : Int32) (g : z_G) (r : z_G) (h : s_Mod_tells x1 x2 x3 g = some r) : z_MV X l 80 yX10_tells cX10_tells 5 none 0 0 [.ref (z_ad X 71), .int x1, .int x2, .int x3] o g o r := by
  unfold s_Mod_tells at h
  refine z_metv (by decide) (Nat.le_of_ble_eq_true rfl) (fun E hl hE hret => ?_)
  subst hl
  refine z_aload_n hE 0 dX10_tells_0 rfl ?_
  refine z_get hE f_RX10_7 (by decide) e_71 rfl dX10_tells_1 ?_
  refine z_iload_n hE 1 dX10_tells_4 rfl ?_
  refine z_bipush (v := 47) hE dX10_tells_5 rfl ?_
  refine z_iadd hE dX10_tells_7 ?_
  obtain ⟨k9q, h⟩ := z_ck_some h
  refine z_iald hE (by decide) e_72 k9q dX10_tells_8 ?_
  obtain ⟨v10q, ev10q, h⟩ := z_let_eq h
  refine z_topi ev10q ?_
  refine z_istore hE [(4, .int v10q), (0, .ref (z_ad X 71)), (1, .int x1), (2, .int x2), (3, .int x3)] dX10_tells_9 (by decide) rfl ?_
  refine z_aload_n hE 1 dX10_tells_11 rfl ?_
  refine z_get hE f_RX10_7 (by decide) e_71 rfl dX10_tells_12 ?_
  refine z_iload_n hE 2 dX10_tells_15 rfl ?_
  refine z_bipush (v := 48) hE dX10_tells_16 rfl ?_
  refine z_iadd hE dX10_tells_18 ?_
  refine z_iload hE 0 dX10_tells_19 rfl ?_
  refine z_iadd hE dX10_tells_21 ?_
  refine z_iload_n hE 3 dX10_tells_22 rfl ?_
  obtain ⟨k11q, h⟩ := z_ck_some h
  obtain ⟨g12q, eg12q, h⟩ := z_let_eq h
  refine z_iast hE (by decide) e_72 k11q (ua_72 eg12q) dX10_tells_23 ?_
  refine z_aload_n hE 1 dX10_tells_24 rfl ?_
  refine z_get hE f_RX10_7 (by decide) e_71 rfl dX10_tells_25 ?_
  refine z_iload_n hE 2 dX10_tells_28 rfl ?_
  refine z_bipush (v := 54) hE dX10_tells_29 rfl ?_
  refine z_iadd hE dX10_tells_31 ?_
  refine z_iload hE 0 dX10_tells_32 rfl ?_
  refine z_iadd hE dX10_tells_34 ?_
  refine z_iload_n hE 4 dX10_tells_35 rfl ?_
  obtain ⟨k13q, h⟩ := z_ck_some h
  obtain ⟨g14q, eg14q, h⟩ := z_let_eq h
  refine z_iast hE (by decide) e_72 k13q (ua_72 eg14q) dX10_tells_36 ?_
  refine z_aload_n hE 1 dX10_tells_37 rfl ?_
  refine z_get hE f_RX10_7 (by decide) e_71 rfl dX10_tells_38 ?_
  refine z_iload_n hE 2 dX10_tells_41 rfl ?_
  refine z_bipush (v := 47) hE dX10_tells_42 rfl ?_
  refine z_iadd hE dX10_tells_44 ?_
  refine z_iload hE 0 dX10_tells_45 rfl ?_
  refine z_iconst (v := 1) hE dX10_tells_47 rfl ?_
  refine z_iadd hE dX10_tells_48 ?_
  obtain ⟨k15q, h⟩ := z_ck_some h
  obtain ⟨g16q, eg16q, h⟩ := z_let_eq h
  refine z_iast hE (by decide) e_72 k15q (ua_72 eg16q) dX10_tells_49 ?_
  obtain rfl := Option.some.inj h
  exact hret _ _ dX10_tells_50
theorem dX10_item_0 : decode cX10_item 0 = .ok (.iload_n 1, 1) := by decide +kernel
theorem dX10_item_1 : decode cX10_item 1 = .ok (.bipush 104, 2) := by decide +kernel
theorem dX10_item_3 : decode cX10_item 3 = .ok (.if_icmp .ne 94, 3) := by decide +kernel
theorem dX10_item_6 : decode cX10_item 6 = .ok (.aload_n 0, 1) := by decide +kernel
theorem dX10_item_7 : decode cX10_item 7 = .ok (.getfield 7, 3) := by decide +kernel
theorem dX10_item_10 : decode cX10_item 10 = .ok (.bipush 68, 2) := by decide +kernel
theorem dX10_item_12 : decode cX10_item 12 = .ok (.iaload, 1) := by decide +kernel
theorem dX10_item_13 : decode cX10_item 13 = .ok (.istore_n 2, 1) := by decide +kernel
theorem dX10_item_14 : decode cX10_item 14 = .ok (.aload_n 0, 1) := by decide +kernel
theorem dX10_item_15 : decode cX10_item 15 = .ok (.iload_n 2, 1) := by decide +kernel
theorem dX10_item_16 : decode cX10_item 16 = .ok (.iconst 4, 1) := by decide +kernel
theorem dX10_item_17 : decode cX10_item 17 = .ok (.if_icmp .ne 7, 3) := by decide +kernel
theorem dX10_item_20 : decode cX10_item 20 = .ok (.iconst 1, 1) := by decide +kernel
theorem dX10_item_21 : decode cX10_item 21 = .ok (.goto 4, 3) := by decide +kernel
theorem dX10_item_24 : decode cX10_item 24 = .ok (.iconst 0, 1) := by decide +kernel
theorem dX10_item_25 : decode cX10_item 25 = .ok (.putfield 81, 3) := by decide +kernel
theorem dX10_item_28 : decode cX10_item 28 = .ok (.aload_n 0, 1) := by decide +kernel
theorem dX10_item_29 : decode cX10_item 29 = .ok (.getfield 81, 3) := by decide +kernel
theorem dX10_item_32 : decode cX10_item 32 = .ok (.ifCond .eq 7, 3) := by decide +kernel
theorem dX10_item_35 : decode cX10_item 35 = .ok (.iconst 0, 1) := by decide +kernel
theorem dX10_item_36 : decode cX10_item 36 = .ok (.goto 10, 3) := by decide +kernel
theorem dX10_item_39 : decode cX10_item 39 = .ok (.aload_n 0, 1) := by decide +kernel
theorem dX10_item_40 : decode cX10_item 40 = .ok (.iconst 0, 1) := by decide +kernel
theorem dX10_item_41 : decode cX10_item 41 = .ok (.bipush 15, 2) := by decide +kernel
theorem dX10_item_43 : decode cX10_item 43 = .ok (.invokevirtual 85, 3) := by decide +kernel
theorem dX10_item_46 : decode cX10_item 46 = .ok (.istore_n 3, 1) := by decide +kernel
theorem dX10_item_47 : decode cX10_item 47 = .ok (.aload_n 0, 1) := by decide +kernel
theorem dX10_item_48 : decode cX10_item 48 = .ok (.iconst 0, 1) := by decide +kernel
theorem dX10_item_49 : decode cX10_item 49 = .ok (.bipush 15, 2) := by decide +kernel
theorem dX10_item_51 : decode cX10_item 51 = .ok (.invokevirtual 89, 3) := by decide +kernel
theorem dX10_item_54 : decode cX10_item 54 = .ok (.istore 4, 2) := by decide +kernel
theorem dX10_item_56 : decode cX10_item 56 = .ok (.aload_n 0, 1) := by decide +kernel
theorem dX10_item_57 : decode cX10_item 57 = .ok (.getfield 81, 3) := by decide +kernel
theorem dX10_item_60 : decode cX10_item 60 = .ok (.ifCond .ne 34, 3) := by decide +kernel
theorem dX10_item_63 : decode cX10_item 63 = .ok (.aload_n 0, 1) := by decide +kernel
theorem dX10_item_64 : decode cX10_item 64 = .ok (.getfield 7, 3) := by decide +kernel
theorem dX10_item_67 : decode cX10_item 67 = .ok (.bipush 60, 2) := by decide +kernel
theorem dX10_item_69 : decode cX10_item 69 = .ok (.iload_n 2, 1) := by decide +kernel
theorem dX10_item_70 : decode cX10_item 70 = .ok (.iadd, 1) := by decide +kernel
theorem dX10_item_71 : decode cX10_item 71 = .ok (.iload_n 3, 1) := by decide +kernel
theorem dX10_item_72 : decode cX10_item 72 = .ok (.iastore, 1) := by decide +kernel
theorem dX10_item_73 : decode cX10_item 73 = .ok (.aload_n 0, 1) := by decide +kernel
theorem dX10_item_74 : decode cX10_item 74 = .ok (.getfield 7, 3) := by decide +kernel
theorem dX10_item_77 : decode cX10_item 77 = .ok (.bipush 64, 2) := by decide +kernel
theorem dX10_item_79 : decode cX10_item 79 = .ok (.iload_n 2, 1) := by decide +kernel
theorem dX10_item_80 : decode cX10_item 80 = .ok (.iadd, 1) := by decide +kernel
theorem dX10_item_81 : decode cX10_item 81 = .ok (.iload 4, 2) := by decide +kernel
theorem dX10_item_83 : decode cX10_item 83 = .ok (.iastore, 1) := by decide +kernel
theorem dX10_item_84 : decode cX10_item 84 = .ok (.aload_n 0, 1) := by decide +kernel
theorem dX10_item_85 : decode cX10_item 85 = .ok (.getfield 7, 3) := by decide +kernel
theorem dX10_item_88 : decode cX10_item 88 = .ok (.bipush 68, 2) := by decide +kernel
theorem dX10_item_90 : decode cX10_item 90 = .ok (.iload_n 2, 1) := by decide +kernel
theorem dX10_item_91 : decode cX10_item 91 = .ok (.iconst 1, 1) := by decide +kernel
theorem dX10_item_92 : decode cX10_item 92 = .ok (.iadd, 1) := by decide +kernel
theorem dX10_item_93 : decode cX10_item 93 = .ok (.iastore, 1) := by decide +kernel
theorem dX10_item_94 : decode cX10_item 94 = .ok (.goto 245, 3) := by decide +kernel
theorem dX10_item_97 : decode cX10_item 97 = .ok (.iload_n 1, 1) := by decide +kernel
theorem dX10_item_98 : decode cX10_item 98 = .ok (.bipush 109, 2) := by decide +kernel
theorem dX10_item_100 : decode cX10_item 100 = .ok (.if_icmp .ne 139, 3) := by decide +kernel
theorem dX10_item_103 : decode cX10_item 103 = .ok (.aload_n 0, 1) := by decide +kernel
theorem dX10_item_104 : decode cX10_item 104 = .ok (.getfield 7, 3) := by decide +kernel
theorem dX10_item_107 : decode cX10_item 107 = .ok (.bipush 69, 2) := by decide +kernel
theorem dX10_item_109 : decode cX10_item 109 = .ok (.iaload, 1) := by decide +kernel
theorem dX10_item_110 : decode cX10_item 110 = .ok (.istore_n 2, 1) := by decide +kernel
theorem dX10_item_111 : decode cX10_item 111 = .ok (.aload_n 0, 1) := by decide +kernel
theorem dX10_item_112 : decode cX10_item 112 = .ok (.iload_n 2, 1) := by decide +kernel
theorem dX10_item_113 : decode cX10_item 113 = .ok (.bipush 6, 2) := by decide +kernel
theorem dX10_item_115 : decode cX10_item 115 = .ok (.if_icmp .ne 7, 3) := by decide +kernel
theorem dX10_item_118 : decode cX10_item 118 = .ok (.iconst 1, 1) := by decide +kernel
theorem dX10_item_119 : decode cX10_item 119 = .ok (.goto 4, 3) := by decide +kernel
theorem dX10_item_122 : decode cX10_item 122 = .ok (.iconst 0, 1) := by decide +kernel
theorem dX10_item_123 : decode cX10_item 123 = .ok (.putfield 81, 3) := by decide +kernel
theorem dX10_item_126 : decode cX10_item 126 = .ok (.aload_n 0, 1) := by decide +kernel
theorem dX10_item_127 : decode cX10_item 127 = .ok (.getfield 81, 3) := by decide +kernel
theorem dX10_item_130 : decode cX10_item 130 = .ok (.ifCond .eq 7, 3) := by decide +kernel
theorem dX10_item_133 : decode cX10_item 133 = .ok (.iconst 0, 1) := by decide +kernel
theorem dX10_item_134 : decode cX10_item 134 = .ok (.goto 10, 3) := by decide +kernel
theorem dX10_item_137 : decode cX10_item 137 = .ok (.aload_n 0, 1) := by decide +kernel
theorem dX10_item_138 : decode cX10_item 138 = .ok (.iconst 0, 1) := by decide +kernel
theorem dX10_item_139 : decode cX10_item 139 = .ok (.bipush 15, 2) := by decide +kernel
theorem dX10_item_141 : decode cX10_item 141 = .ok (.invokevirtual 85, 3) := by decide +kernel
theorem dX10_item_144 : decode cX10_item 144 = .ok (.istore_n 3, 1) := by decide +kernel
theorem dX10_item_145 : decode cX10_item 145 = .ok (.aload_n 0, 1) := by decide +kernel
theorem dX10_item_146 : decode cX10_item 146 = .ok (.iconst 0, 1) := by decide +kernel
theorem dX10_item_147 : decode cX10_item 147 = .ok (.bipush 15, 2) := by decide +kernel
theorem dX10_item_149 : decode cX10_item 149 = .ok (.invokevirtual 89, 3) := by decide +kernel
theorem dX10_item_152 : decode cX10_item 152 = .ok (.istore 4, 2) := by decide +kernel
theorem dX10_item_154 : decode cX10_item 154 = .ok (.aload_n 0, 1) := by decide +kernel
theorem dX10_item_155 : decode cX10_item 155 = .ok (.iconst 0, 1) := by decide +kernel
theorem dX10_item_156 : decode cX10_item 156 = .ok (.bipush 7, 2) := by decide +kernel
theorem dX10_item_158 : decode cX10_item 158 = .ok (.invokevirtual 89, 3) := by decide +kernel
theorem dX10_item_161 : decode cX10_item 161 = .ok (.istore 5, 2) := by decide +kernel
theorem dX10_item_163 : decode cX10_item 163 = .ok (.aload_n 0, 1) := by decide +kernel
theorem dX10_item_164 : decode cX10_item 164 = .ok (.iconst 0, 1) := by decide +kernel
theorem dX10_item_165 : decode cX10_item 165 = .ok (.aload_n 0, 1) := by decide +kernel
theorem dX10_item_166 : decode cX10_item 166 = .ok (.getfield 7, 3) := by decide +kernel
theorem dX10_item_169 : decode cX10_item 169 = .ok (.bipush 68, 2) := by decide +kernel
theorem dX10_item_171 : decode cX10_item 171 = .ok (.iaload, 1) := by decide +kernel
theorem dX10_item_172 : decode cX10_item 172 = .ok (.iconst 1, 1) := by decide +kernel
theorem dX10_item_173 : decode cX10_item 173 = .ok (.isub, 1) := by decide +kernel
theorem dX10_item_174 : decode cX10_item 174 = .ok (.invokevirtual 89, 3) := by decide +kernel
theorem dX10_item_177 : decode cX10_item 177 = .ok (.istore 6, 2) := by decide +kernel
theorem dX10_item_179 : decode cX10_item 179 = .ok (.aload_n 0, 1) := by decide +kernel
theorem dX10_item_180 : decode cX10_item 180 = .ok (.iconst 0, 1) := by decide +kernel
theorem dX10_item_181 : decode cX10_item 181 = .ok (.aload_n 0, 1) := by decide +kernel
theorem dX10_item_182 : decode cX10_item 182 = .ok (.getfield 7, 3) := by decide +kernel
theorem dX10_item_185 : decode cX10_item 185 = .ok (.bipush 68, 2) := by decide +kernel
theorem dX10_item_187 : decode cX10_item 187 = .ok (.iaload, 1) := by decide +kernel
theorem dX10_item_188 : decode cX10_item 188 = .ok (.iconst 1, 1) := by decide +kernel
theorem dX10_item_189 : decode cX10_item 189 = .ok (.isub, 1) := by decide +kernel
theorem dX10_item_190 : decode cX10_item 190 = .ok (.invokevirtual 89, 3) := by decide +kernel
theorem dX10_item_193 : decode cX10_item 193 = .ok (.istore 7, 2) := by decide +kernel
theorem dX10_item_195 : decode cX10_item 195 = .ok (.aload_n 0, 1) := by decide +kernel
theorem dX10_item_196 : decode cX10_item 196 = .ok (.iconst 0, 1) := by decide +kernel
theorem dX10_item_197 : decode cX10_item 197 = .ok (.iconst 4, 1) := by decide +kernel
theorem dX10_item_198 : decode cX10_item 198 = .ok (.invokevirtual 89, 3) := by decide +kernel
theorem dX10_item_201 : decode cX10_item 201 = .ok (.istore 8, 2) := by decide +kernel
theorem dX10_item_203 : decode cX10_item 203 = .ok (.aload_n 0, 1) := by decide +kernel
theorem dX10_item_204 : decode cX10_item 204 = .ok (.getfield 81, 3) := by decide +kernel
theorem dX10_item_207 : decode cX10_item 207 = .ok (.ifCond .ne 29, 3) := by decide +kernel
theorem dX10_item_210 : decode cX10_item 210 = .ok (.aload_n 0, 1) := by decide +kernel
theorem dX10_item_211 : decode cX10_item 211 = .ok (.getfield 7, 3) := by decide +kernel
theorem dX10_item_214 : decode cX10_item 214 = .ok (.bipush 95, 2) := by decide +kernel
theorem dX10_item_216 : decode cX10_item 216 = .ok (.iload_n 2, 1) := by decide +kernel
theorem dX10_item_217 : decode cX10_item 217 = .ok (.iadd, 1) := by decide +kernel
theorem dX10_item_218 : decode cX10_item 218 = .ok (.iload 5, 2) := by decide +kernel
theorem dX10_item_220 : decode cX10_item 220 = .ok (.iastore, 1) := by decide +kernel
theorem dX10_item_221 : decode cX10_item 221 = .ok (.aload_n 0, 1) := by decide +kernel
theorem dX10_item_222 : decode cX10_item 222 = .ok (.bipush 60, 2) := by decide +kernel
theorem dX10_item_224 : decode cX10_item 224 = .ok (.iload_n 3, 1) := by decide +kernel
theorem dX10_item_225 : decode cX10_item 225 = .ok (.iload 4, 2) := by decide +kernel
theorem dX10_item_227 : decode cX10_item 227 = .ok (.iload 6, 2) := by decide +kernel
theorem dX10_item_229 : decode cX10_item 229 = .ok (.iload 7, 2) := by decide +kernel
theorem dX10_item_231 : decode cX10_item 231 = .ok (.iload 8, 2) := by decide +kernel
theorem dX10_item_233 : decode cX10_item 233 = .ok (.invokevirtual 35, 3) := by decide +kernel
theorem dX10_item_236 : decode cX10_item 236 = .ok (.goto 103, 3) := by decide +kernel
theorem dX10_item_239 : decode cX10_item 239 = .ok (.iload_n 1, 1) := by decide +kernel
theorem dX10_item_240 : decode cX10_item 240 = .ok (.bipush 111, 2) := by decide +kernel
theorem dX10_item_242 : decode cX10_item 242 = .ok (.if_icmp .ne 69, 3) := by decide +kernel
theorem dX10_item_245 : decode cX10_item 245 = .ok (.aload_n 0, 1) := by decide +kernel
theorem dX10_item_246 : decode cX10_item 246 = .ok (.aload_n 0, 1) := by decide +kernel
theorem dX10_item_247 : decode cX10_item 247 = .ok (.getfield 7, 3) := by decide +kernel
theorem dX10_item_250 : decode cX10_item 250 = .ok (.bipush 107, 2) := by decide +kernel
theorem dX10_item_252 : decode cX10_item 252 = .ok (.iaload, 1) := by decide +kernel
theorem dX10_item_253 : decode cX10_item 253 = .ok (.bipush 6, 2) := by decide +kernel
theorem dX10_item_255 : decode cX10_item 255 = .ok (.if_icmp .ne 7, 3) := by decide +kernel
theorem dX10_item_258 : decode cX10_item 258 = .ok (.iconst 1, 1) := by decide +kernel
theorem dX10_item_259 : decode cX10_item 259 = .ok (.goto 4, 3) := by decide +kernel
theorem dX10_item_262 : decode cX10_item 262 = .ok (.iconst 0, 1) := by decide +kernel
theorem dX10_item_263 : decode cX10_item 263 = .ok (.putfield 81, 3) := by decide +kernel
theorem dX10_item_266 : decode cX10_item 266 = .ok (.aload_n 0, 1) := by decide +kernel
theorem dX10_item_267 : decode cX10_item 267 = .ok (.getfield 81, 3) := by decide +kernel
theorem dX10_item_270 : decode cX10_item 270 = .ok (.ifCond .eq 7, 3) := by decide +kernel
theorem dX10_item_273 : decode cX10_item 273 = .ok (.iconst 0, 1) := by decide +kernel
theorem dX10_item_274 : decode cX10_item 274 = .ok (.goto 10, 3) := by decide +kernel
theorem dX10_item_277 : decode cX10_item 277 = .ok (.aload_n 0, 1) := by decide +kernel
theorem dX10_item_278 : decode cX10_item 278 = .ok (.iconst 0, 1) := by decide +kernel
theorem dX10_item_279 : decode cX10_item 279 = .ok (.bipush 7, 2) := by decide +kernel
theorem dX10_item_281 : decode cX10_item 281 = .ok (.invokevirtual 85, 3) := by decide +kernel
theorem dX10_item_284 : decode cX10_item 284 = .ok (.istore_n 2, 1) := by decide +kernel
theorem dX10_item_285 : decode cX10_item 285 = .ok (.aload_n 0, 1) := by decide +kernel
theorem dX10_item_286 : decode cX10_item 286 = .ok (.iconst 0, 1) := by decide +kernel
theorem dX10_item_287 : decode cX10_item 287 = .ok (.bipush 9, 2) := by decide +kernel
theorem dX10_item_289 : decode cX10_item 289 = .ok (.invokevirtual 89, 3) := by decide +kernel
theorem dX10_item_292 : decode cX10_item 292 = .ok (.istore_n 3, 1) := by decide +kernel
theorem dX10_item_293 : decode cX10_item 293 = .ok (.aload_n 0, 1) := by decide +kernel
theorem dX10_item_294 : decode cX10_item 294 = .ok (.getfield 81, 3) := by decide +kernel
theorem dX10_item_297 : decode cX10_item 297 = .ok (.ifCond .ne 11, 3) := by decide +kernel
theorem dX10_item_300 : decode cX10_item 300 = .ok (.aload_n 0, 1) := by decide +kernel
theorem dX10_item_301 : decode cX10_item 301 = .ok (.bipush 60, 2) := by decide +kernel
theorem dX10_item_303 : decode cX10_item 303 = .ok (.iload_n 2, 1) := by decide +kernel
theorem dX10_item_304 : decode cX10_item 304 = .ok (.iload_n 3, 1) := by decide +kernel
theorem dX10_item_305 : decode cX10_item 305 = .ok (.invokevirtual 39, 3) := by decide +kernel
theorem dX10_item_308 : decode cX10_item 308 = .ok (.goto 31, 3) := by decide +kernel
theorem dX10_item_311 : decode cX10_item 311 = .ok (.iload_n 1, 1) := by decide +kernel
theorem dX10_item_312 : decode cX10_item 312 = .ok (.bipush 100, 2) := by decide +kernel
theorem dX10_item_314 : decode cX10_item 314 = .ok (.if_icmp .ne 20, 3) := by decide +kernel
theorem dX10_item_317 : decode cX10_item 317 = .ok (.aload_n 0, 1) := by decide +kernel
theorem dX10_item_318 : decode cX10_item 318 = .ok (.getfield 7, 3) := by decide +kernel
theorem dX10_item_321 : decode cX10_item 321 = .ok (.bipush 70, 2) := by decide +kernel
theorem dX10_item_323 : decode cX10_item 323 = .ok (.aload_n 0, 1) := by decide +kernel
theorem dX10_item_324 : decode cX10_item 324 = .ok (.iconst 1, 1) := by decide +kernel
theorem dX10_item_325 : decode cX10_item 325 = .ok (.bipush 15, 2) := by decide +kernel
theorem dX10_item_327 : decode cX10_item 327 = .ok (.invokevirtual 85, 3) := by decide +kernel
theorem dX10_item_330 : decode cX10_item 330 = .ok (.iastore, 1) := by decide +kernel
theorem dX10_item_331 : decode cX10_item 331 = .ok (.goto 8, 3) := by decide +kernel
theorem dX10_item_334 : decode cX10_item 334 = .ok (.aload_n 0, 1) := by decide +kernel
theorem dX10_item_335 : decode cX10_item 335 = .ok (.iconst 1, 1) := by decide +kernel
theorem dX10_item_336 : decode cX10_item 336 = .ok (.putfield 81, 3) := by decide +kernel
theorem dX10_item_339 : decode cX10_item 339 = .ok (.return_, 1) := by decide +kernel
def s_Mod_item_b308  (g : z_G) : Option (z_G) := (some g)
def s_Mod_item_b284 (s0 : Int32) (g : z_G) : Option (z_G) := (Option.bind (s_Mod_more 0 9 g) fun r42q => (if (r42q.2 0 8) = 0 then (Option.bind (s_Mod_tells 60 s0 r42q.1 r42q.2) fun r44q => (s_Mod_item_b308 r44q)) else (s_Mod_item_b308 r42q.2)))
def s_Mod_item_b263 (s1 : Int32) (g : z_G) : Option (z_G) := (z_ck (z_bit s1) (z_let (α := z_G) (z_up g 0 8 s1) fun g46q => (if (g46q 0 8) = 0 then (Option.bind (s_Mod_number 0 7 g46q) fun r48q => (s_Mod_item_b284 r48q.1 r48q.2)) else (s_Mod_item_b284 0 g46q))))
def s_Mod_item_b236  (g : z_G) : Option (z_G) := (some g)
def s_Mod_item_b144 (x2 : Int32) (s0 : Int32) (g : z_G) : Option (z_G) := (Option.bind (s_Mod_more 0 15 g) fun r49q => (Option.bind (s_Mod_more 0 7 r49q.2) fun r50q => (Option.bind (s_Mod_more 0 ((z_rd r50q.2 1 68) - 1) r50q.2) fun r51q => (Option.bind (s_Mod_more 0 ((z_rd r51q.2 1 68) - 1) r51q.2) fun r52q => (Option.bind (s_Mod_more 0 4 r52q.2) fun r53q => (if (r53q.2 0 8) = 0 then (z_ck (z_inb (95 + x2) 120) (z_let (α := z_G) (z_wr r53q.2 1 (95 + x2) r50q.1) fun g56q => (Option.bind (s_Mod_puts 60 s0 r49q.1 r51q.1 r52q.1 r53q.1 g56q) fun r57q => (s_Mod_item_b236 r57q)))) else (s_Mod_item_b236 r53q.2)))))))
def s_Mod_item_b123 (x2 : Int32) (s1 : Int32) (g : z_G) : Option (z_G) := (z_ck (z_bit s1) (z_let (α := z_G) (z_up g 0 8 s1) fun g59q => (if (g59q 0 8) = 0 then (Option.bind (s_Mod_number 0 15 g59q) fun r61q => (s_Mod_item_b144 x2 r61q.1 r61q.2)) else (s_Mod_item_b144 x2 0 g59q))))
def s_Mod_item_b94  (g : z_G) : Option (z_G) := (some g)
def s_Mod_item_b46 (x2 : Int32) (s0 : Int32) (g : z_G) : Option (z_G) := (Option.bind (s_Mod_more 0 15 g) fun r62q => (if (r62q.2 0 8) = 0 then (z_ck (z_inb (60 + x2) 120) (z_let (α := z_G) (z_wr r62q.2 1 (60 + x2) s0) fun g65q => (z_ck (z_inb (64 + x2) 120) (z_let (α := z_G) (z_wr g65q 1 (64 + x2) r62q.1) fun g67q => (z_let (α := z_G) (z_wr g67q 1 68 (x2 + 1)) fun g68q => (s_Mod_item_b94 g68q)))))) else (s_Mod_item_b94 r62q.2)))
def s_Mod_item_b25 (x2 : Int32) (s1 : Int32) (g : z_G) : Option (z_G) := (z_ck (z_bit s1) (z_let (α := z_G) (z_up g 0 8 s1) fun g70q => (if (g70q 0 8) = 0 then (Option.bind (s_Mod_number 0 15 g70q) fun r72q => (s_Mod_item_b46 x2 r72q.1 r72q.2)) else (s_Mod_item_b46 x2 0 g70q))))
def s_Mod_item (x1 : Int32) (g : z_G) : Option (z_G) := (if x1 = 104 then (if (z_rd g 1 68) = 4 then (s_Mod_item_b25 (z_rd g 1 68) 1 g) else (s_Mod_item_b25 (z_rd g 1 68) 0 g)) else (if x1 = 109 then (if (z_rd g 1 69) = 6 then (s_Mod_item_b123 (z_rd g 1 69) 1 g) else (s_Mod_item_b123 (z_rd g 1 69) 0 g)) else (if x1 = 111 then (if (z_rd g 1 107) = 6 then (s_Mod_item_b263 1 g) else (s_Mod_item_b263 0 g)) else (if x1 = 100 then (Option.bind (s_Mod_number 1 15 g) fun r78q => (z_let (α := z_G) (z_wr r78q.2 1 70 r78q.1) fun g79q => (some g79q))) else (z_let (α := z_G) (z_up g 0 8 1) fun g77q => (some g77q))))))
set_option maxHeartbeats 1000000 in
set_option maxRecDepth 20000 in
theorem b_Mod_item_b308 {X : z_X} {E : z_ET} {o : z_G} (hE : z_EV X E cX10_item 9 RX10 3 71 80) {r : z_G} (hret : ∀ (pc : Nat) (lv : List (Nat × Value)), decode cX10_item pc = .ok (.return_, 1) → z_V X E 9 o r pc lv [])  (g : z_G)  (h : s_Mod_item_b308 g = some r) : z_V X E 9 o g 308 [] [] := by
  unfold s_Mod_item_b308 at h
  refine z_goto hE 339 dX10_item_308 rfl ?_
  obtain rfl := Option.some.inj h
  exact hret _ _ dX10_item_339
set_option maxHeartbeats 1000000 in
set_option maxRecDepth 20000 in
theorem b_Mod_item_b284 {X : z_X} {E : z_ET} {o : z_G} (hE : z_EV X E cX10_item 9 RX10 3 71 80) {r : z_G} (hret : ∀ (pc : Nat) (lv : List (Nat × Value)), decode cX10_item pc = .ok (.return_, 1) → z_V X E 9 o r pc lv []) (s0 : Int32) (g : z_G)  (h : s_Mod_item_b284 s0 g = some r) : z_V X E 9 o g 284 [(0, .ref (z_ad X 71))] [.int s0] := by
  unfold s_Mod_item_b284 at h
  refine z_istore_n hE [(2, .int s0), (0, .ref (z_ad X 71))] dX10_item_284 rfl (by decide) rfl ?_
  refine z_aload_n hE 1 dX10_item_285 rfl ?_
  refine z_iconst (v := 0) hE dX10_item_286 rfl ?_
  refine z_bipush (v := 9) hE dX10_item_287 rfl ?_
  obtain ⟨r42q, hr42q, h⟩ := z_bind_some h
  refine z_iV (rest := []) (av := [.int 0, .int 9]) hE (c_Mod_more 0 9 g r42q hr42q) l_RX10_89 (by decide) (by decide) e_71 rfl ⟨by decide, by decide⟩ dX10_item_289 rfl (Nat.le_of_ble_eq_true rfl) ?_
  refine z_istore_n hE [(3, .int r42q.1), (2, .int s0), (0, .ref (z_ad X 71))] dX10_item_292 rfl (by decide) rfl ?_
  refine z_aload_n hE 2 dX10_item_293 rfl ?_
  refine z_get hE f_RX10_81 (by decide) e_71 rfl dX10_item_294 ?_
  refine z_if_ne hE 308 dX10_item_297 rfl (fun c43q => ?_) (fun c43q => ?_)
  · replace h := z_f c43q h
    refine z_sub [] [] rfl ?_
    exact b_Mod_item_b308 hE hret r42q.2 h
  · replace h := z_t c43q h
    refine z_aload_n hE 2 dX10_item_300 rfl ?_
    refine z_bipush (v := 60) hE dX10_item_301 rfl ?_
    refine z_iload_n hE 1 dX10_item_303 rfl ?_
    refine z_iload_n hE 0 dX10_item_304 rfl ?_
    obtain ⟨r44q, hr44q, h⟩ := z_bind_some h
    refine z_vV (rest := []) (av := [.int 60, .int s0, .int r42q.1]) hE (c_Mod_tells 60 s0 r42q.1 r42q.2 r44q hr44q) l_RX10_39 (by decide) (by decide) e_71 rfl ⟨by decide, by decide⟩ dX10_item_305 rfl (Nat.le_of_ble_eq_true rfl) ?_
    refine z_sub [] [] rfl ?_
    exact b_Mod_item_b308 hE hret r44q h
set_option maxHeartbeats 1000000 in
set_option maxRecDepth 20000 in
theorem b_Mod_item_b263 {X : z_X} {E : z_ET} {o : z_G} (hE : z_EV X E cX10_item 9 RX10 3 71 80) {r : z_G} (hret : ∀ (pc : Nat) (lv : List (Nat × Value)), decode cX10_item pc = .ok (.return_, 1) → z_V X E 9 o r pc lv []) (s1 : Int32) (g : z_G)  (h : s_Mod_item_b263 s1 g = some r) : z_V X E 9 o g 263 [(0, .ref (z_ad X 71))] [.int s1, .ref (z_ad X 71)] := by
  unfold s_Mod_item_b263 at h
  obtain ⟨k45q, h⟩ := z_ck_some h
  obtain ⟨g46q, eg46q, h⟩ := z_let_eq h
  refine z_put hE f_RX10_81 ft_10 (by decide) e_71 rfl (tyX10_ok 8 (by decide)) (z_bit_nar k45q).1 (z_bit_nar k45q).2 (Nat.le_of_ble_eq_true rfl) (u_71_8 eg46q) dX10_item_263 ?_
  refine z_aload_n hE 0 dX10_item_266 rfl ?_
  refine z_get hE f_RX10_81 (by decide) e_71 rfl dX10_item_267 ?_
  refine z_if_eq hE 277 dX10_item_270 rfl (fun c47q => ?_) (fun c47q => ?_)
  · replace h := z_t c47q h
    refine z_aload_n hE 0 dX10_item_277 rfl ?_
    refine z_iconst (v := 0) hE dX10_item_278 rfl ?_
    refine z_bipush (v := 7) hE dX10_item_279 rfl ?_
    obtain ⟨r48q, hr48q, h⟩ := z_bind_some h
    refine z_iV (rest := []) (av := [.int 0, .int 7]) hE (c_Mod_number 0 7 g46q r48q hr48q) l_RX10_85 (by decide) (by decide) e_71 rfl ⟨by decide, by decide⟩ dX10_item_281 rfl (Nat.le_of_ble_eq_true rfl) ?_
    exact b_Mod_item_b284 hE hret r48q.1 r48q.2 h
  · replace h := z_f c47q h
    refine z_iconst (v := 0) hE dX10_item_273 rfl ?_
    refine z_goto hE 284 dX10_item_274 rfl ?_
    exact b_Mod_item_b284 hE hret 0 g46q h
set_option maxHeartbeats 1000000 in
set_option maxRecDepth 20000 in
theorem b_Mod_item_b236 {X : z_X} {E : z_ET} {o : z_G} (hE : z_EV X E cX10_item 9 RX10 3 71 80) {r : z_G} (hret : ∀ (pc : Nat) (lv : List (Nat × Value)), decode cX10_item pc = .ok (.return_, 1) → z_V X E 9 o r pc lv [])  (g : z_G)  (h : s_Mod_item_b236 g = some r) : z_V X E 9 o g 236 [] [] := by
  unfold s_Mod_item_b236 at h
  refine z_goto hE 339 dX10_item_236 rfl ?_
  obtain rfl := Option.some.inj h
  exact hret _ _ dX10_item_339
set_option maxHeartbeats 1000000 in
set_option maxRecDepth 20000 in
theorem b_Mod_item_b144 {X : z_X} {E : z_ET} {o : z_G} (hE : z_EV X E cX10_item 9 RX10 3 71 80) {r : z_G} (hret : ∀ (pc : Nat) (lv : List (Nat × Value)), decode cX10_item pc = .ok (.return_, 1) → z_V X E 9 o r pc lv []) (x2 : Int32) (s0 : Int32) (g : z_G)  (h : s_Mod_item_b144 x2 s0 g = some r) : z_V X E 9 o g 144 [(0, .ref (z_ad X 71)), (2, .int x2)] [.int s0] := by
  unfold s_Mod_item_b144 at h
  refine z_istore_n hE [(3, .int s0), (0, .ref (z_ad X 71)), (2, .int x2)] dX10_item_144 rfl (by decide) rfl ?_
  refine z_aload_n hE 1 dX10_item_145 rfl ?_
  refine z_iconst (v := 0) hE dX10_item_146 rfl ?_
  refine z_bipush (v := 15) hE dX10_item_147 rfl ?_
  obtain ⟨r49q, hr49q, h⟩ := z_bind_some h
  refine z_iV (rest := []) (av := [.int 0, .int 15]) hE (c_Mod_more 0 15 g r49q hr49q) l_RX10_89 (by decide) (by decide) e_71 rfl ⟨by decide, by decide⟩ dX10_item_149 rfl (Nat.le_of_ble_eq_true rfl) ?_
  refine z_istore hE [(4, .int r49q.1), (3, .int s0), (0, .ref (z_ad X 71)), (2, .int x2)] dX10_item_152 (by decide) rfl ?_
  refine z_aload_n hE 2 dX10_item_154 rfl ?_
  refine z_iconst (v := 0) hE dX10_item_155 rfl ?_
  refine z_bipush (v := 7) hE dX10_item_156 rfl ?_
  obtain ⟨r50q, hr50q, h⟩ := z_bind_some h
  refine z_iV (rest := []) (av := [.int 0, .int 7]) hE (c_Mod_more 0 7 r49q.2 r50q hr50q) l_RX10_89 (by decide) (by decide) e_71 rfl ⟨by decide, by decide⟩ dX10_item_158 rfl (Nat.le_of_ble_eq_true rfl) ?_
  refine z_istore hE [(5, .int r50q.1), (4, .int r49q.1), (3, .int s0), (0, .ref (z_ad X 71)), (2, .int x2)] dX10_item_161 (by decide) rfl ?_
  refine z_aload_n hE 3 dX10_item_163 rfl ?_
  refine z_iconst (v := 0) hE dX10_item_164 rfl ?_
  refine z_aload_n hE 3 dX10_item_165 rfl ?_
  refine z_get hE f_RX10_7 (by decide) e_71 rfl dX10_item_166 ?_
  refine z_bipush (v := 68) hE dX10_item_169 rfl ?_
  refine z_iald hE (by decide) e_72 (by decide) dX10_item_171 ?_
  refine z_iconst (v := 1) hE dX10_item_172 rfl ?_
  refine z_isub hE dX10_item_173 ?_
  obtain ⟨r51q, hr51q, h⟩ := z_bind_some h
  refine z_iV (rest := []) (av := [.int 0, .int ((z_rd r50q.2 1 68) - 1)]) hE (c_Mod_more 0 ((z_rd r50q.2 1 68) - 1) r50q.2 r51q hr51q) l_RX10_89 (by decide) (by decide) e_71 rfl ⟨by decide, by decide⟩ dX10_item_174 rfl (Nat.le_of_ble_eq_true rfl) ?_
  refine z_istore hE [(6, .int r51q.1), (5, .int r50q.1), (4, .int r49q.1), (3, .int s0), (0, .ref (z_ad X 71)), (2, .int x2)] dX10_item_177 (by decide) rfl ?_
  refine z_aload_n hE 4 dX10_item_179 rfl ?_
  refine z_iconst (v := 0) hE dX10_item_180 rfl ?_
  refine z_aload_n hE 4 dX10_item_181 rfl ?_
  refine z_get hE f_RX10_7 (by decide) e_71 rfl dX10_item_182 ?_
  refine z_bipush (v := 68) hE dX10_item_185 rfl ?_
  refine z_iald hE (by decide) e_72 (by decide) dX10_item_187 ?_
  refine z_iconst (v := 1) hE dX10_item_188 rfl ?_
  refine z_isub hE dX10_item_189 ?_
  obtain ⟨r52q, hr52q, h⟩ := z_bind_some h
  refine z_iV (rest := []) (av := [.int 0, .int ((z_rd r51q.2 1 68) - 1)]) hE (c_Mod_more 0 ((z_rd r51q.2 1 68) - 1) r51q.2 r52q hr52q) l_RX10_89 (by decide) (by decide) e_71 rfl ⟨by decide, by decide⟩ dX10_item_190 rfl (Nat.le_of_ble_eq_true rfl) ?_
  refine z_istore hE [(7, .int r52q.1), (6, .int r51q.1), (5, .int r50q.1), (4, .int r49q.1), (3, .int s0), (0, .ref (z_ad X 71)), (2, .int x2)] dX10_item_193 (by decide) rfl ?_
  refine z_aload_n hE 5 dX10_item_195 rfl ?_
  refine z_iconst (v := 0) hE dX10_item_196 rfl ?_
  refine z_iconst (v := 4) hE dX10_item_197 rfl ?_
  obtain ⟨r53q, hr53q, h⟩ := z_bind_some h
  refine z_iV (rest := []) (av := [.int 0, .int 4]) hE (c_Mod_more 0 4 r52q.2 r53q hr53q) l_RX10_89 (by decide) (by decide) e_71 rfl ⟨by decide, by decide⟩ dX10_item_198 rfl (Nat.le_of_ble_eq_true rfl) ?_
  refine z_istore hE [(8, .int r53q.1), (7, .int r52q.1), (6, .int r51q.1), (5, .int r50q.1), (4, .int r49q.1), (3, .int s0), (0, .ref (z_ad X 71)), (2, .int x2)] dX10_item_201 (by decide) rfl ?_
  refine z_aload_n hE 6 dX10_item_203 rfl ?_
  refine z_get hE f_RX10_81 (by decide) e_71 rfl dX10_item_204 ?_
  refine z_if_ne hE 236 dX10_item_207 rfl (fun c54q => ?_) (fun c54q => ?_)
  · replace h := z_f c54q h
    refine z_sub [] [] rfl ?_
    exact b_Mod_item_b236 hE hret r53q.2 h
  · replace h := z_t c54q h
    refine z_aload_n hE 6 dX10_item_210 rfl ?_
    refine z_get hE f_RX10_7 (by decide) e_71 rfl dX10_item_211 ?_
    refine z_bipush (v := 95) hE dX10_item_214 rfl ?_
    refine z_iload_n hE 7 dX10_item_216 rfl ?_
    refine z_iadd hE dX10_item_217 ?_
    refine z_iload hE 3 dX10_item_218 rfl ?_
    obtain ⟨k55q, h⟩ := z_ck_some h
    obtain ⟨g56q, eg56q, h⟩ := z_let_eq h
    refine z_iast hE (by decide) e_72 k55q (ua_72 eg56q) dX10_item_220 ?_
    refine z_aload_n hE 6 dX10_item_221 rfl ?_
    refine z_bipush (v := 60) hE dX10_item_222 rfl ?_
    refine z_iload_n hE 5 dX10_item_224 rfl ?_
    refine z_iload hE 4 dX10_item_225 rfl ?_
    refine z_iload hE 2 dX10_item_227 rfl ?_
    refine z_iload hE 1 dX10_item_229 rfl ?_
    refine z_iload hE 0 dX10_item_231 rfl ?_
    obtain ⟨r57q, hr57q, h⟩ := z_bind_some h
    refine z_vV (rest := []) (av := [.int 60, .int s0, .int r49q.1, .int r51q.1, .int r52q.1, .int r53q.1]) hE (c_Mod_puts 60 s0 r49q.1 r51q.1 r52q.1 r53q.1 g56q r57q hr57q) l_RX10_35 (by decide) (by decide) e_71 rfl ⟨by decide, by decide⟩ dX10_item_233 rfl (Nat.le_of_ble_eq_true rfl) ?_
    refine z_sub [] [] rfl ?_
    exact b_Mod_item_b236 hE hret r57q h
set_option maxHeartbeats 1000000 in
set_option maxRecDepth 20000 in
theorem b_Mod_item_b123 {X : z_X} {E : z_ET} {o : z_G} (hE : z_EV X E cX10_item 9 RX10 3 71 80) {r : z_G} (hret : ∀ (pc : Nat) (lv : List (Nat × Value)), decode cX10_item pc = .ok (.return_, 1) → z_V X E 9 o r pc lv []) (x2 : Int32) (s1 : Int32) (g : z_G)  (h : s_Mod_item_b123 x2 s1 g = some r) : z_V X E 9 o g 123 [(0, .ref (z_ad X 71)), (2, .int x2)] [.int s1, .ref (z_ad X 71)] := by
  unfold s_Mod_item_b123 at h
  obtain ⟨k58q, h⟩ := z_ck_some h
  obtain ⟨g59q, eg59q, h⟩ := z_let_eq h
  refine z_put hE f_RX10_81 ft_10 (by decide) e_71 rfl (tyX10_ok 8 (by decide)) (z_bit_nar k58q).1 (z_bit_nar k58q).2 (Nat.le_of_ble_eq_true rfl) (u_71_8 eg59q) dX10_item_123 ?_
  refine z_aload_n hE 0 dX10_item_126 rfl ?_
  refine z_get hE f_RX10_81 (by decide) e_71 rfl dX10_item_127 ?_
  refine z_if_eq hE 137 dX10_item_130 rfl (fun c60q => ?_) (fun c60q => ?_)
  · replace h := z_t c60q h
    refine z_aload_n hE 0 dX10_item_137 rfl ?_
    refine z_iconst (v := 0) hE dX10_item_138 rfl ?_
    refine z_bipush (v := 15) hE dX10_item_139 rfl ?_
    obtain ⟨r61q, hr61q, h⟩ := z_bind_some h
    refine z_iV (rest := []) (av := [.int 0, .int 15]) hE (c_Mod_number 0 15 g59q r61q hr61q) l_RX10_85 (by decide) (by decide) e_71 rfl ⟨by decide, by decide⟩ dX10_item_141 rfl (Nat.le_of_ble_eq_true rfl) ?_
    exact b_Mod_item_b144 hE hret x2 r61q.1 r61q.2 h
  · replace h := z_f c60q h
    refine z_iconst (v := 0) hE dX10_item_133 rfl ?_
    refine z_goto hE 144 dX10_item_134 rfl ?_
    exact b_Mod_item_b144 hE hret x2 0 g59q h
set_option maxHeartbeats 1000000 in
set_option maxRecDepth 20000 in
theorem b_Mod_item_b94 {X : z_X} {E : z_ET} {o : z_G} (hE : z_EV X E cX10_item 9 RX10 3 71 80) {r : z_G} (hret : ∀ (pc : Nat) (lv : List (Nat × Value)), decode cX10_item pc = .ok (.return_, 1) → z_V X E 9 o r pc lv [])  (g : z_G)  (h : s_Mod_item_b94 g = some r) : z_V X E 9 o g 94 [] [] := by
  unfold s_Mod_item_b94 at h
  refine z_goto hE 339 dX10_item_94 rfl ?_
  obtain rfl := Option.some.inj h
  exact hret _ _ dX10_item_339
set_option maxHeartbeats 1000000 in
set_option maxRecDepth 20000 in
theorem b_Mod_item_b46 {X : z_X} {E : z_ET} {o : z_G} (hE : z_EV X E cX10_item 9 RX10 3 71 80) {r : z_G} (hret : ∀ (pc : Nat) (lv : List (Nat × Value)), decode cX10_item pc = .ok (.return_, 1) → z_V X E 9 o r pc lv []) (x2 : Int32) (s0 : Int32) (g : z_G)  (h : s_Mod_item_b46 x2 s0 g = some r) : z_V X E 9 o g 46 [(0, .ref (z_ad X 71)), (2, .int x2)] [.int s0] := by
  unfold s_Mod_item_b46 at h
  refine z_istore_n hE [(3, .int s0), (0, .ref (z_ad X 71)), (2, .int x2)] dX10_item_46 rfl (by decide) rfl ?_
  refine z_aload_n hE 1 dX10_item_47 rfl ?_
  refine z_iconst (v := 0) hE dX10_item_48 rfl ?_
  refine z_bipush (v := 15) hE dX10_item_49 rfl ?_
  obtain ⟨r62q, hr62q, h⟩ := z_bind_some h
  refine z_iV (rest := []) (av := [.int 0, .int 15]) hE (c_Mod_more 0 15 g r62q hr62q) l_RX10_89 (by decide) (by decide) e_71 rfl ⟨by decide, by decide⟩ dX10_item_51 rfl (Nat.le_of_ble_eq_true rfl) ?_
  refine z_istore hE [(4, .int r62q.1), (3, .int s0), (0, .ref (z_ad X 71)), (2, .int x2)] dX10_item_54 (by decide) rfl ?_
  refine z_aload_n hE 2 dX10_item_56 rfl ?_
  refine z_get hE f_RX10_81 (by decide) e_71 rfl dX10_item_57 ?_
  refine z_if_ne hE 94 dX10_item_60 rfl (fun c63q => ?_) (fun c63q => ?_)
  · replace h := z_f c63q h
    refine z_sub [] [] rfl ?_
    exact b_Mod_item_b94 hE hret r62q.2 h
  · replace h := z_t c63q h
    refine z_aload_n hE 2 dX10_item_63 rfl ?_
    refine z_get hE f_RX10_7 (by decide) e_71 rfl dX10_item_64 ?_
    refine z_bipush (v := 60) hE dX10_item_67 rfl ?_
    refine z_iload_n hE 3 dX10_item_69 rfl ?_
    refine z_iadd hE dX10_item_70 ?_
    refine z_iload_n hE 1 dX10_item_71 rfl ?_
    obtain ⟨k64q, h⟩ := z_ck_some h
    obtain ⟨g65q, eg65q, h⟩ := z_let_eq h
    refine z_iast hE (by decide) e_72 k64q (ua_72 eg65q) dX10_item_72 ?_
    refine z_aload_n hE 2 dX10_item_73 rfl ?_
    refine z_get hE f_RX10_7 (by decide) e_71 rfl dX10_item_74 ?_
    refine z_bipush (v := 64) hE dX10_item_77 rfl ?_
    refine z_iload_n hE 3 dX10_item_79 rfl ?_
    refine z_iadd hE dX10_item_80 ?_
    refine z_iload hE 0 dX10_item_81 rfl ?_
    obtain ⟨k66q, h⟩ := z_ck_some h
    obtain ⟨g67q, eg67q, h⟩ := z_let_eq h
    refine z_iast hE (by decide) e_72 k66q (ua_72 eg67q) dX10_item_83 ?_
    refine z_aload_n hE 2 dX10_item_84 rfl ?_
    refine z_get hE f_RX10_7 (by decide) e_71 rfl dX10_item_85 ?_
    refine z_bipush (v := 68) hE dX10_item_88 rfl ?_
    refine z_iload_n hE 3 dX10_item_90 rfl ?_
    refine z_iconst (v := 1) hE dX10_item_91 rfl ?_
    refine z_iadd hE dX10_item_92 ?_
    obtain ⟨g68q, eg68q, h⟩ := z_let_eq h
    refine z_iast hE (by decide) e_72 (by decide) (ua_72 eg68q) dX10_item_93 ?_
    refine z_sub [] [] rfl ?_
    exact b_Mod_item_b94 hE hret g68q h
set_option maxHeartbeats 1000000 in
set_option maxRecDepth 20000 in
theorem b_Mod_item_b25 {X : z_X} {E : z_ET} {o : z_G} (hE : z_EV X E cX10_item 9 RX10 3 71 80) {r : z_G} (hret : ∀ (pc : Nat) (lv : List (Nat × Value)), decode cX10_item pc = .ok (.return_, 1) → z_V X E 9 o r pc lv []) (x2 : Int32) (s1 : Int32) (g : z_G)  (h : s_Mod_item_b25 x2 s1 g = some r) : z_V X E 9 o g 25 [(0, .ref (z_ad X 71)), (2, .int x2)] [.int s1, .ref (z_ad X 71)] := by
  unfold s_Mod_item_b25 at h
  obtain ⟨k69q, h⟩ := z_ck_some h
  obtain ⟨g70q, eg70q, h⟩ := z_let_eq h
  refine z_put hE f_RX10_81 ft_10 (by decide) e_71 rfl (tyX10_ok 8 (by decide)) (z_bit_nar k69q).1 (z_bit_nar k69q).2 (Nat.le_of_ble_eq_true rfl) (u_71_8 eg70q) dX10_item_25 ?_
  refine z_aload_n hE 0 dX10_item_28 rfl ?_
  refine z_get hE f_RX10_81 (by decide) e_71 rfl dX10_item_29 ?_
  refine z_if_eq hE 39 dX10_item_32 rfl (fun c71q => ?_) (fun c71q => ?_)
  · replace h := z_t c71q h
    refine z_aload_n hE 0 dX10_item_39 rfl ?_
    refine z_iconst (v := 0) hE dX10_item_40 rfl ?_
    refine z_bipush (v := 15) hE dX10_item_41 rfl ?_
    obtain ⟨r72q, hr72q, h⟩ := z_bind_some h
    refine z_iV (rest := []) (av := [.int 0, .int 15]) hE (c_Mod_number 0 15 g70q r72q hr72q) l_RX10_85 (by decide) (by decide) e_71 rfl ⟨by decide, by decide⟩ dX10_item_43 rfl (Nat.le_of_ble_eq_true rfl) ?_
    exact b_Mod_item_b46 hE hret x2 r72q.1 r72q.2 h
  · replace h := z_f c71q h
    refine z_iconst (v := 0) hE dX10_item_35 rfl ?_
    refine z_goto hE 46 dX10_item_36 rfl ?_
    exact b_Mod_item_b46 hE hret x2 0 g70q h
set_option maxHeartbeats 1000000 in
set_option maxRecDepth 20000 in
theorem c_Mod_item {X : z_X} {l : Launch} {o : z_G} (x1 : Int32) (g : z_G) (r : z_G) (h : s_Mod_item x1 g = some r) : z_MV X l 80 yX10_item cX10_item 9 none 3 71 [.ref (z_ad X 71), .int x1] o g o r := by
  unfold s_Mod_item at h
  refine z_metv (by decide) (Nat.le_of_ble_eq_true rfl) (fun E hl hE hret => ?_)
  subst hl
  refine z_iload_n hE 1 dX10_item_0 rfl ?_
  refine z_bipush (v := 104) hE dX10_item_1 rfl ?_
  refine z_icmp_ne hE 97 dX10_item_3 rfl (fun c73q => ?_) (fun c73q => ?_)
  · replace h := z_f c73q h
    refine z_iload_n hE 1 dX10_item_97 rfl ?_
    refine z_bipush (v := 109) hE dX10_item_98 rfl ?_
    refine z_icmp_ne hE 239 dX10_item_100 rfl (fun c74q => ?_) (fun c74q => ?_)
    · replace h := z_f c74q h
      refine z_iload_n hE 1 dX10_item_239 rfl ?_
      refine z_bipush (v := 111) hE dX10_item_240 rfl ?_
      refine z_icmp_ne hE 311 dX10_item_242 rfl (fun c75q => ?_) (fun c75q => ?_)
      · replace h := z_f c75q h
        refine z_iload_n hE 1 dX10_item_311 rfl ?_
        refine z_bipush (v := 100) hE dX10_item_312 rfl ?_
        refine z_icmp_ne hE 334 dX10_item_314 rfl (fun c76q => ?_) (fun c76q => ?_)
        · replace h := z_f c76q h
          refine z_aload_n hE 0 dX10_item_334 rfl ?_
          refine z_iconst (v := 1) hE dX10_item_335 rfl ?_
          obtain ⟨g77q, eg77q, h⟩ := z_let_eq h
          refine z_put hE f_RX10_81 ft_10 (by decide) e_71 rfl (tyX10_ok 8 (by decide)) (by decide +kernel) (by decide +kernel) (Nat.le_of_ble_eq_true rfl) (u_71_8 eg77q) dX10_item_336 ?_
          obtain rfl := Option.some.inj h
          exact hret _ _ dX10_item_339
        · replace h := z_t c76q h
          refine z_aload_n hE 0 dX10_item_317 rfl ?_
          refine z_get hE f_RX10_7 (by decide) e_71 rfl dX10_item_318 ?_
          refine z_bipush (v := 70) hE dX10_item_321 rfl ?_
          refine z_aload_n hE 0 dX10_item_323 rfl ?_
          refine z_iconst (v := 1) hE dX10_item_324 rfl ?_
          refine z_bipush (v := 15) hE dX10_item_325 rfl ?_
          obtain ⟨r78q, hr78q, h⟩ := z_bind_some h
          refine z_iV (rest := [.int 70, .ref (z_ad X 72)]) (av := [.int 1, .int 15]) hE (c_Mod_number 1 15 g r78q hr78q) l_RX10_85 (by decide) (by decide) e_71 rfl ⟨by decide, by decide⟩ dX10_item_327 rfl (Nat.le_of_ble_eq_true rfl) ?_
          obtain ⟨g79q, eg79q, h⟩ := z_let_eq h
          refine z_iast hE (by decide) e_72 (by decide) (ua_72 eg79q) dX10_item_330 ?_
          refine z_goto hE 339 dX10_item_331 rfl ?_
          obtain rfl := Option.some.inj h
          exact hret _ _ dX10_item_339
      · replace h := z_t c75q h
        refine z_aload_n hE 0 dX10_item_245 rfl ?_
        refine z_aload_n hE 0 dX10_item_246 rfl ?_
        refine z_get hE f_RX10_7 (by decide) e_71 rfl dX10_item_247 ?_
        refine z_bipush (v := 107) hE dX10_item_250 rfl ?_
        refine z_iald hE (by decide) e_72 (by decide) dX10_item_252 ?_
        refine z_bipush (v := 6) hE dX10_item_253 rfl ?_
        refine z_icmp_ne hE 262 dX10_item_255 rfl (fun c80q => ?_) (fun c80q => ?_)
        · replace h := z_f c80q h
          refine z_iconst (v := 0) hE dX10_item_262 rfl ?_
          refine z_sub [(0, .ref (z_ad X 71))] [0] rfl ?_
          exact b_Mod_item_b263 hE hret 0 g h
        · replace h := z_t c80q h
          refine z_iconst (v := 1) hE dX10_item_258 rfl ?_
          refine z_goto hE 263 dX10_item_259 rfl ?_
          refine z_sub [(0, .ref (z_ad X 71))] [0] rfl ?_
          exact b_Mod_item_b263 hE hret 1 g h
    · replace h := z_t c74q h
      refine z_aload_n hE 0 dX10_item_103 rfl ?_
      refine z_get hE f_RX10_7 (by decide) e_71 rfl dX10_item_104 ?_
      refine z_bipush (v := 69) hE dX10_item_107 rfl ?_
      refine z_iald hE (by decide) e_72 (by decide) dX10_item_109 ?_
      refine z_istore_n hE [(2, .int (z_rd g 1 69)), (0, .ref (z_ad X 71)), (1, .int x1)] dX10_item_110 rfl (by decide) rfl ?_
      refine z_aload_n hE 1 dX10_item_111 rfl ?_
      refine z_iload_n hE 0 dX10_item_112 rfl ?_
      refine z_bipush (v := 6) hE dX10_item_113 rfl ?_
      refine z_icmp_ne hE 122 dX10_item_115 rfl (fun c81q => ?_) (fun c81q => ?_)
      · replace h := z_f c81q h
        refine z_iconst (v := 0) hE dX10_item_122 rfl ?_
        refine z_sub [(0, .ref (z_ad X 71)), (2, .int (z_rd g 1 69))] [1, 0] rfl ?_
        exact b_Mod_item_b123 hE hret (z_rd g 1 69) 0 g h
      · replace h := z_t c81q h
        refine z_iconst (v := 1) hE dX10_item_118 rfl ?_
        refine z_goto hE 123 dX10_item_119 rfl ?_
        refine z_sub [(0, .ref (z_ad X 71)), (2, .int (z_rd g 1 69))] [1, 0] rfl ?_
        exact b_Mod_item_b123 hE hret (z_rd g 1 69) 1 g h
  · replace h := z_t c73q h
    refine z_aload_n hE 0 dX10_item_6 rfl ?_
    refine z_get hE f_RX10_7 (by decide) e_71 rfl dX10_item_7 ?_
    refine z_bipush (v := 68) hE dX10_item_10 rfl ?_
    refine z_iald hE (by decide) e_72 (by decide) dX10_item_12 ?_
    refine z_istore_n hE [(2, .int (z_rd g 1 68)), (0, .ref (z_ad X 71)), (1, .int x1)] dX10_item_13 rfl (by decide) rfl ?_
    refine z_aload_n hE 1 dX10_item_14 rfl ?_
    refine z_iload_n hE 0 dX10_item_15 rfl ?_
    refine z_iconst (v := 4) hE dX10_item_16 rfl ?_
    refine z_icmp_ne hE 24 dX10_item_17 rfl (fun c82q => ?_) (fun c82q => ?_)
    · replace h := z_f c82q h
      refine z_iconst (v := 0) hE dX10_item_24 rfl ?_
      refine z_sub [(0, .ref (z_ad X 71)), (2, .int (z_rd g 1 68))] [1, 0] rfl ?_
      exact b_Mod_item_b25 hE hret (z_rd g 1 68) 0 g h
    · replace h := z_t c82q h
      refine z_iconst (v := 1) hE dX10_item_20 rfl ?_
      refine z_goto hE 25 dX10_item_21 rfl ?_
      refine z_sub [(0, .ref (z_ad X 71)), (2, .int (z_rd g 1 68))] [1, 0] rfl ?_
      exact b_Mod_item_b25 hE hret (z_rd g 1 68) 1 g h
theorem dX10_reads_0 : decode cX10_reads 0 = .ok (.iconst 0, 1) := by decide +kernel
theorem dX10_reads_1 : decode cX10_reads 1 = .ok (.istore_n 1, 1) := by decide +kernel
theorem dX10_reads_2 : decode cX10_reads 2 = .ok (.iload_n 1, 1) := by decide +kernel
theorem dX10_reads_3 : decode cX10_reads 3 = .ok (.bipush 60, 2) := by decide +kernel
theorem dX10_reads_5 : decode cX10_reads 5 = .ok (.if_icmp .ge 19, 3) := by decide +kernel
theorem dX10_reads_8 : decode cX10_reads 8 = .ok (.aload_n 0, 1) := by decide +kernel
theorem dX10_reads_9 : decode cX10_reads 9 = .ok (.getfield 7, 3) := by decide +kernel
theorem dX10_reads_12 : decode cX10_reads 12 = .ok (.bipush 60, 2) := by decide +kernel
theorem dX10_reads_14 : decode cX10_reads 14 = .ok (.iload_n 1, 1) := by decide +kernel
theorem dX10_reads_15 : decode cX10_reads 15 = .ok (.iadd, 1) := by decide +kernel
theorem dX10_reads_16 : decode cX10_reads 16 = .ok (.iconst 0, 1) := by decide +kernel
theorem dX10_reads_17 : decode cX10_reads 17 = .ok (.iastore, 1) := by decide +kernel
theorem dX10_reads_18 : decode cX10_reads 18 = .ok (.iinc 1 1, 3) := by decide +kernel
theorem dX10_reads_21 : decode cX10_reads 21 = .ok (.goto (-19), 3) := by decide +kernel
theorem dX10_reads_24 : decode cX10_reads 24 = .ok (.aload_n 0, 1) := by decide +kernel
theorem dX10_reads_25 : decode cX10_reads 25 = .ok (.getfield 7, 3) := by decide +kernel
theorem dX10_reads_28 : decode cX10_reads 28 = .ok (.bipush 70, 2) := by decide +kernel
theorem dX10_reads_30 : decode cX10_reads 30 = .ok (.iconst 4, 1) := by decide +kernel
theorem dX10_reads_31 : decode cX10_reads 31 = .ok (.iastore, 1) := by decide +kernel
theorem dX10_reads_32 : decode cX10_reads 32 = .ok (.aload_n 0, 1) := by decide +kernel
theorem dX10_reads_33 : decode cX10_reads 33 = .ok (.iconst 0, 1) := by decide +kernel
theorem dX10_reads_34 : decode cX10_reads 34 = .ok (.putfield 71, 3) := by decide +kernel
theorem dX10_reads_37 : decode cX10_reads 37 = .ok (.aload_n 0, 1) := by decide +kernel
theorem dX10_reads_38 : decode cX10_reads 38 = .ok (.iconst 0, 1) := by decide +kernel
theorem dX10_reads_39 : decode cX10_reads 39 = .ok (.putfield 81, 3) := by decide +kernel
theorem dX10_reads_42 : decode cX10_reads 42 = .ok (.aload_n 0, 1) := by decide +kernel
theorem dX10_reads_43 : decode cX10_reads 43 = .ok (.getfield 71, 3) := by decide +kernel
theorem dX10_reads_46 : decode cX10_reads 46 = .ok (.aload_n 0, 1) := by decide +kernel
theorem dX10_reads_47 : decode cX10_reads 47 = .ok (.getfield 68, 3) := by decide +kernel
theorem dX10_reads_50 : decode cX10_reads 50 = .ok (.if_icmp .ge 76, 3) := by decide +kernel
theorem dX10_reads_53 : decode cX10_reads 53 = .ok (.aload_n 0, 1) := by decide +kernel
theorem dX10_reads_54 : decode cX10_reads 54 = .ok (.getfield 81, 3) := by decide +kernel
theorem dX10_reads_57 : decode cX10_reads 57 = .ok (.ifCond .ne 69, 3) := by decide +kernel
theorem dX10_reads_60 : decode cX10_reads 60 = .ok (.aload_n 0, 1) := by decide +kernel
theorem dX10_reads_61 : decode cX10_reads 61 = .ok (.aload_n 0, 1) := by decide +kernel
theorem dX10_reads_62 : decode cX10_reads 62 = .ok (.getfield 71, 3) := by decide +kernel
theorem dX10_reads_65 : decode cX10_reads 65 = .ok (.putfield 92, 3) := by decide +kernel
theorem dX10_reads_68 : decode cX10_reads 68 = .ok (.aload_n 0, 1) := by decide +kernel
theorem dX10_reads_69 : decode cX10_reads 69 = .ok (.invokevirtual 74, 3) := by decide +kernel
theorem dX10_reads_72 : decode cX10_reads 72 = .ok (.istore_n 1, 1) := by decide +kernel
theorem dX10_reads_73 : decode cX10_reads 73 = .ok (.aload_n 0, 1) := by decide +kernel
theorem dX10_reads_74 : decode cX10_reads 74 = .ok (.dup, 1) := by decide +kernel
theorem dX10_reads_75 : decode cX10_reads 75 = .ok (.getfield 71, 3) := by decide +kernel
theorem dX10_reads_78 : decode cX10_reads 78 = .ok (.iconst 1, 1) := by decide +kernel
theorem dX10_reads_79 : decode cX10_reads 79 = .ok (.iadd, 1) := by decide +kernel
theorem dX10_reads_80 : decode cX10_reads 80 = .ok (.putfield 71, 3) := by decide +kernel
theorem dX10_reads_83 : decode cX10_reads 83 = .ok (.aload_n 0, 1) := by decide +kernel
theorem dX10_reads_84 : decode cX10_reads 84 = .ok (.iload_n 1, 1) := by decide +kernel
theorem dX10_reads_85 : decode cX10_reads 85 = .ok (.invokevirtual 95, 3) := by decide +kernel
theorem dX10_reads_88 : decode cX10_reads 88 = .ok (.aload_n 0, 1) := by decide +kernel
theorem dX10_reads_89 : decode cX10_reads 89 = .ok (.aload_n 0, 1) := by decide +kernel
theorem dX10_reads_90 : decode cX10_reads 90 = .ok (.getfield 81, 3) := by decide +kernel
theorem dX10_reads_93 : decode cX10_reads 93 = .ok (.ifCond .ne 12, 3) := by decide +kernel
theorem dX10_reads_96 : decode cX10_reads 96 = .ok (.aload_n 0, 1) := by decide +kernel
theorem dX10_reads_97 : decode cX10_reads 97 = .ok (.invokevirtual 74, 3) := by decide +kernel
theorem dX10_reads_100 : decode cX10_reads 100 = .ok (.bipush 59, 2) := by decide +kernel
theorem dX10_reads_102 : decode cX10_reads 102 = .ok (.if_icmp .eq 7, 3) := by decide +kernel
theorem dX10_reads_105 : decode cX10_reads 105 = .ok (.iconst 1, 1) := by decide +kernel
theorem dX10_reads_106 : decode cX10_reads 106 = .ok (.goto 4, 3) := by decide +kernel
theorem dX10_reads_109 : decode cX10_reads 109 = .ok (.iconst 0, 1) := by decide +kernel
theorem dX10_reads_110 : decode cX10_reads 110 = .ok (.putfield 81, 3) := by decide +kernel
theorem dX10_reads_113 : decode cX10_reads 113 = .ok (.aload_n 0, 1) := by decide +kernel
theorem dX10_reads_114 : decode cX10_reads 114 = .ok (.dup, 1) := by decide +kernel
theorem dX10_reads_115 : decode cX10_reads 115 = .ok (.getfield 71, 3) := by decide +kernel
theorem dX10_reads_118 : decode cX10_reads 118 = .ok (.iconst 1, 1) := by decide +kernel
theorem dX10_reads_119 : decode cX10_reads 119 = .ok (.iadd, 1) := by decide +kernel
theorem dX10_reads_120 : decode cX10_reads 120 = .ok (.putfield 71, 3) := by decide +kernel
theorem dX10_reads_123 : decode cX10_reads 123 = .ok (.goto (-81), 3) := by decide +kernel
theorem dX10_reads_126 : decode cX10_reads 126 = .ok (.aload_n 0, 1) := by decide +kernel
theorem dX10_reads_127 : decode cX10_reads 127 = .ok (.getfield 81, 3) := by decide +kernel
theorem dX10_reads_130 : decode cX10_reads 130 = .ok (.ifCond .ne 7, 3) := by decide +kernel
theorem dX10_reads_133 : decode cX10_reads 133 = .ok (.iconst 1, 1) := by decide +kernel
theorem dX10_reads_134 : decode cX10_reads 134 = .ok (.goto 4, 3) := by decide +kernel
theorem dX10_reads_137 : decode cX10_reads 137 = .ok (.iconst 0, 1) := by decide +kernel
theorem dX10_reads_138 : decode cX10_reads 138 = .ok (.ireturn, 1) := by decide +kernel
def s_Mod_reads_b126  (g : z_G) : Option (Int32 × z_G) := (if (g 0 8) = 0 then (some (1, g)) else (some (0, g)))
def s_Mod_reads_b110 (k42 : z_G → Option (Int32 × z_G)) (s1 : Int32) (g : z_G) : Option (Int32 × z_G) := (z_ck (z_bit s1) (z_let (α := z_G) (z_up g 0 8 s1) fun g22q => (z_let (α := z_G) (z_up g22q 0 6 ((g22q 0 6) + 1)) fun g23q => (k42 g23q))))
def s_Mod_reads_b105 (k42 : z_G → Option (Int32 × z_G))  (g : z_G) : Option (Int32 × z_G) := (s_Mod_reads_b110 k42 1 g)
def s_Mod_reads_L42 : Nat → z_G → Option (Int32 × z_G)
  | 0, _ => none
  | n + 1, g => (if (g 0 4) ≤ (g 0 6) then (s_Mod_reads_b126 g) else (if (g 0 8) = 0 then (z_let (α := z_G) (z_up g 0 7 (g 0 6)) fun g26q => (Option.bind (s_Mod_next g26q) fun r27q => (z_let (α := z_G) (z_up g26q 0 6 ((g26q 0 6) + 1)) fun g28q => (Option.bind (s_Mod_item r27q g28q) fun r29q => (if (r29q 0 8) = 0 then (Option.bind (s_Mod_next r29q) fun r31q => (if r31q = 59 then (s_Mod_reads_b110 (s_Mod_reads_L42 n) 0 r29q) else (s_Mod_reads_b105 (s_Mod_reads_L42 n) r29q))) else (s_Mod_reads_b105 (s_Mod_reads_L42 n) r29q)))))) else (s_Mod_reads_b126 g)))
def s_Mod_reads_L2 : Nat → Int32 → z_G → Option (Int32 × z_G)
  | 0, _, _ => none
  | n + 1, x1, g => (if 60 ≤ x1 then (z_let (α := z_G) (z_wr g 1 70 4) fun g34q => (z_let (α := z_G) (z_up g34q 0 6 0) fun g35q => (z_let (α := z_G) (z_up g35q 0 8 0) fun g36q => (s_Mod_reads_L42 z_F g36q)))) else (z_ck (z_inb (60 + x1) 120) (z_let (α := z_G) (z_wr g 1 (60 + x1) 0) fun g38q => ((s_Mod_reads_L2 n) (x1 + 1) g38q))))
def s_Mod_reads (g : z_G) : Option (Int32 × z_G) := (s_Mod_reads_L2 z_F 0 g)
set_option maxHeartbeats 1000000 in
set_option maxRecDepth 20000 in
theorem b_Mod_reads_b126 {X : z_X} {E : z_ET} {o : z_G} (hE : z_EV X E cX10_reads 2 RX10 4 99 80) {r : Int32 × z_G} (hret : ∀ (pc : Nat) (lv : List (Nat × Value)), z_bit r.1 = true → decode cX10_reads pc = .ok (.ireturn, 1) → z_V X E 2 o r.2 pc lv [.int r.1])  (g : z_G)  (h : s_Mod_reads_b126 g = some r) : z_V X E 2 o g 126 [(0, .ref (z_ad X 71))] [] := by
  unfold s_Mod_reads_b126 at h
  refine z_aload_n hE 0 dX10_reads_126 rfl ?_
  refine z_get hE f_RX10_81 (by decide) e_71 rfl dX10_reads_127 ?_
  refine z_if_ne hE 137 dX10_reads_130 rfl (fun c20q => ?_) (fun c20q => ?_)
  · replace h := z_f c20q h
    refine z_iconst (v := 0) hE dX10_reads_137 rfl ?_
    obtain rfl := Option.some.inj h
    exact hret _ _ z_b0 dX10_reads_138
  · replace h := z_t c20q h
    refine z_iconst (v := 1) hE dX10_reads_133 rfl ?_
    refine z_goto hE 138 dX10_reads_134 rfl ?_
    obtain rfl := Option.some.inj h
    exact hret _ _ z_b1 dX10_reads_138
set_option maxHeartbeats 1000000 in
set_option maxRecDepth 20000 in
theorem b_Mod_reads_b110 {X : z_X} {E : z_ET} {o : z_G} (hE : z_EV X E cX10_reads 2 RX10 4 99 80) {r : Int32 × z_G} (hret : ∀ (pc : Nat) (lv : List (Nat × Value)), z_bit r.1 = true → decode cX10_reads pc = .ok (.ireturn, 1) → z_V X E 2 o r.2 pc lv [.int r.1]) (k42 : z_G → Option (Int32 × z_G)) (hk42 : ∀  (g : z_G), k42  g = some r → z_V X E 2 o g 42 [(0, .ref (z_ad X 71))] []) (s1 : Int32) (g : z_G)  (h : s_Mod_reads_b110 k42 s1 g = some r) : z_V X E 2 o g 110 [(0, .ref (z_ad X 71))] [.int s1, .ref (z_ad X 71)] := by
  unfold s_Mod_reads_b110 at h
  obtain ⟨k21q, h⟩ := z_ck_some h
  obtain ⟨g22q, eg22q, h⟩ := z_let_eq h
  refine z_put hE f_RX10_81 ft_10 (by decide) e_71 rfl (tyX10_ok 8 (by decide)) (z_bit_nar k21q).1 (z_bit_nar k21q).2 (Nat.le_of_ble_eq_true rfl) (u_71_8 eg22q) dX10_reads_110 ?_
  refine z_aload_n hE 0 dX10_reads_113 rfl ?_
  refine z_dup hE dX10_reads_114 rfl ?_
  refine z_get hE f_RX10_71 (by decide) e_71 rfl dX10_reads_115 ?_
  refine z_iconst (v := 1) hE dX10_reads_118 rfl ?_
  refine z_iadd hE dX10_reads_119 ?_
  obtain ⟨g23q, eg23q, h⟩ := z_let_eq h
  refine z_put hE f_RX10_71 ft_10 (by decide) e_71 rfl (tyX10_ok 6 (by decide)) rfl rfl (Nat.le_of_ble_eq_true rfl) (u_71_6 eg23q) dX10_reads_120 ?_
  refine z_goto hE 42 dX10_reads_123 rfl ?_
  exact hk42 g23q h
set_option maxHeartbeats 1000000 in
set_option maxRecDepth 20000 in
theorem b_Mod_reads_b105 {X : z_X} {E : z_ET} {o : z_G} (hE : z_EV X E cX10_reads 2 RX10 4 99 80) {r : Int32 × z_G} (hret : ∀ (pc : Nat) (lv : List (Nat × Value)), z_bit r.1 = true → decode cX10_reads pc = .ok (.ireturn, 1) → z_V X E 2 o r.2 pc lv [.int r.1]) (k42 : z_G → Option (Int32 × z_G)) (hk42 : ∀  (g : z_G), k42  g = some r → z_V X E 2 o g 42 [(0, .ref (z_ad X 71))] [])  (g : z_G)  (h : s_Mod_reads_b105 k42 g = some r) : z_V X E 2 o g 105 [(0, .ref (z_ad X 71))] [.ref (z_ad X 71)] := by
  unfold s_Mod_reads_b105 at h
  refine z_iconst (v := 1) hE dX10_reads_105 rfl ?_
  refine z_goto hE 110 dX10_reads_106 rfl ?_
  exact b_Mod_reads_b110 hE hret k42 hk42 1 g h
set_option maxHeartbeats 1000000 in
set_option maxRecDepth 20000 in
theorem b_Mod_reads_L42 {X : z_X} {E : z_ET} {o : z_G} (hE : z_EV X E cX10_reads 2 RX10 4 99 80) {r : Int32 × z_G} (hret : ∀ (pc : Nat) (lv : List (Nat × Value)), z_bit r.1 = true → decode cX10_reads pc = .ok (.ireturn, 1) → z_V X E 2 o r.2 pc lv [.int r.1]) : ∀ (n : Nat)  (g : z_G), s_Mod_reads_L42 n g = some r → z_V X E 2 o g 42 [(0, .ref (z_ad X 71))] [] := by
  intro n
  induction n with
  | zero => intro g h; exact z_none h
  | succ n ih =>
    intro g h
    rw [s_Mod_reads_L42] at h
    refine z_aload_n hE 0 dX10_reads_42 rfl ?_
    refine z_get hE f_RX10_71 (by decide) e_71 rfl dX10_reads_43 ?_
    refine z_aload_n hE 0 dX10_reads_46 rfl ?_
    refine z_get hE f_RX10_68 (by decide) e_71 rfl dX10_reads_47 ?_
    refine z_icmp_ge hE 126 dX10_reads_50 rfl (fun c24q => ?_) (fun c24q => ?_)
    · replace h := z_t c24q h
      exact b_Mod_reads_b126 hE hret g h
    · replace h := z_f c24q h
      refine z_aload_n hE 0 dX10_reads_53 rfl ?_
      refine z_get hE f_RX10_81 (by decide) e_71 rfl dX10_reads_54 ?_
      refine z_if_ne hE 126 dX10_reads_57 rfl (fun c25q => ?_) (fun c25q => ?_)
      · replace h := z_f c25q h
        exact b_Mod_reads_b126 hE hret g h
      · replace h := z_t c25q h
        refine z_aload_n hE 0 dX10_reads_60 rfl ?_
        refine z_aload_n hE 0 dX10_reads_61 rfl ?_
        refine z_get hE f_RX10_71 (by decide) e_71 rfl dX10_reads_62 ?_
        obtain ⟨g26q, eg26q, h⟩ := z_let_eq h
        refine z_put hE f_RX10_92 ft_10 (by decide) e_71 rfl (tyX10_ok 7 (by decide)) rfl rfl (Nat.le_of_ble_eq_true rfl) (u_71_7 eg26q) dX10_reads_65 ?_
        refine z_aload_n hE 0 dX10_reads_68 rfl ?_
        obtain ⟨r27q, hr27q, h⟩ := z_bind_some h
        refine z_iV (rest := []) (av := []) hE (c_Mod_next g26q r27q hr27q) l_RX10_74 (by decide) (by decide) e_71 rfl ⟨by decide, by decide⟩ dX10_reads_69 rfl (Nat.le_of_ble_eq_true rfl) ?_
        refine z_istore_n hE [(1, .int r27q), (0, .ref (z_ad X 71))] dX10_reads_72 rfl (by decide) rfl ?_
        refine z_aload_n hE 1 dX10_reads_73 rfl ?_
        refine z_dup hE dX10_reads_74 rfl ?_
        refine z_get hE f_RX10_71 (by decide) e_71 rfl dX10_reads_75 ?_
        refine z_iconst (v := 1) hE dX10_reads_78 rfl ?_
        refine z_iadd hE dX10_reads_79 ?_
        obtain ⟨g28q, eg28q, h⟩ := z_let_eq h
        refine z_put hE f_RX10_71 ft_10 (by decide) e_71 rfl (tyX10_ok 6 (by decide)) rfl rfl (Nat.le_of_ble_eq_true rfl) (u_71_6 eg28q) dX10_reads_80 ?_
        refine z_aload_n hE 1 dX10_reads_83 rfl ?_
        refine z_iload_n hE 0 dX10_reads_84 rfl ?_
        obtain ⟨r29q, hr29q, h⟩ := z_bind_some h
        refine z_vV (rest := []) (av := [.int r27q]) hE (c_Mod_item r27q g28q r29q hr29q) l_RX10_95 (by decide) (by decide) e_71 rfl ⟨by decide, by decide⟩ dX10_reads_85 rfl (Nat.le_of_ble_eq_true rfl) ?_
        refine z_aload_n hE 1 dX10_reads_88 rfl ?_
        refine z_aload_n hE 1 dX10_reads_89 rfl ?_
        refine z_get hE f_RX10_81 (by decide) e_71 rfl dX10_reads_90 ?_
        refine z_if_ne hE 105 dX10_reads_93 rfl (fun c30q => ?_) (fun c30q => ?_)
        · replace h := z_f c30q h
          refine z_sub [(0, .ref (z_ad X 71))] [1] rfl ?_
          exact b_Mod_reads_b105 hE hret (s_Mod_reads_L42 n) ih r29q h
        · replace h := z_t c30q h
          refine z_aload_n hE 1 dX10_reads_96 rfl ?_
          obtain ⟨r31q, hr31q, h⟩ := z_bind_some h
          refine z_iV (rest := [.ref (z_ad X 71)]) (av := []) hE (c_Mod_next r29q r31q hr31q) l_RX10_74 (by decide) (by decide) e_71 rfl ⟨by decide, by decide⟩ dX10_reads_97 rfl (Nat.le_of_ble_eq_true rfl) ?_
          refine z_bipush (v := 59) hE dX10_reads_100 rfl ?_
          refine z_icmp_eq hE 109 dX10_reads_102 rfl (fun c32q => ?_) (fun c32q => ?_)
          · replace h := z_t c32q h
            refine z_iconst (v := 0) hE dX10_reads_109 rfl ?_
            refine z_sub [(0, .ref (z_ad X 71))] [1] rfl ?_
            exact b_Mod_reads_b110 hE hret (s_Mod_reads_L42 n) ih 0 r29q h
          · replace h := z_f c32q h
            refine z_sub [(0, .ref (z_ad X 71))] [1] rfl ?_
            exact b_Mod_reads_b105 hE hret (s_Mod_reads_L42 n) ih r29q h
set_option maxHeartbeats 1000000 in
set_option maxRecDepth 20000 in
theorem b_Mod_reads_L2 {X : z_X} {E : z_ET} {o : z_G} (hE : z_EV X E cX10_reads 2 RX10 4 99 80) {r : Int32 × z_G} (hret : ∀ (pc : Nat) (lv : List (Nat × Value)), z_bit r.1 = true → decode cX10_reads pc = .ok (.ireturn, 1) → z_V X E 2 o r.2 pc lv [.int r.1]) : ∀ (n : Nat) (x1 : Int32) (g : z_G), s_Mod_reads_L2 n x1 g = some r → z_V X E 2 o g 2 [(0, .ref (z_ad X 71)), (1, .int x1)] [] := by
  intro n
  induction n with
  | zero => intro x1 g h; exact z_none h
  | succ n ih =>
    intro x1 g h
    rw [s_Mod_reads_L2] at h
    refine z_iload_n hE 1 dX10_reads_2 rfl ?_
    refine z_bipush (v := 60) hE dX10_reads_3 rfl ?_
    refine z_icmp_ge hE 24 dX10_reads_5 rfl (fun c33q => ?_) (fun c33q => ?_)
    · replace h := z_t c33q h
      refine z_aload_n hE 0 dX10_reads_24 rfl ?_
      refine z_get hE f_RX10_7 (by decide) e_71 rfl dX10_reads_25 ?_
      refine z_bipush (v := 70) hE dX10_reads_28 rfl ?_
      refine z_iconst (v := 4) hE dX10_reads_30 rfl ?_
      obtain ⟨g34q, eg34q, h⟩ := z_let_eq h
      refine z_iast hE (by decide) e_72 (by decide) (ua_72 eg34q) dX10_reads_31 ?_
      refine z_aload_n hE 0 dX10_reads_32 rfl ?_
      refine z_iconst (v := 0) hE dX10_reads_33 rfl ?_
      obtain ⟨g35q, eg35q, h⟩ := z_let_eq h
      refine z_put hE f_RX10_71 ft_10 (by decide) e_71 rfl (tyX10_ok 6 (by decide)) rfl rfl (Nat.le_of_ble_eq_true rfl) (u_71_6 eg35q) dX10_reads_34 ?_
      refine z_aload_n hE 0 dX10_reads_37 rfl ?_
      refine z_iconst (v := 0) hE dX10_reads_38 rfl ?_
      obtain ⟨g36q, eg36q, h⟩ := z_let_eq h
      refine z_put hE f_RX10_81 ft_10 (by decide) e_71 rfl (tyX10_ok 8 (by decide)) (by decide +kernel) (by decide +kernel) (Nat.le_of_ble_eq_true rfl) (u_71_8 eg36q) dX10_reads_39 ?_
      refine z_sub [(0, .ref (z_ad X 71))] [0] rfl ?_
      exact b_Mod_reads_L42 hE hret z_F g36q h
    · replace h := z_f c33q h
      refine z_aload_n hE 0 dX10_reads_8 rfl ?_
      refine z_get hE f_RX10_7 (by decide) e_71 rfl dX10_reads_9 ?_
      refine z_bipush (v := 60) hE dX10_reads_12 rfl ?_
      refine z_iload_n hE 1 dX10_reads_14 rfl ?_
      refine z_iadd hE dX10_reads_15 ?_
      refine z_iconst (v := 0) hE dX10_reads_16 rfl ?_
      obtain ⟨k37q, h⟩ := z_ck_some h
      obtain ⟨g38q, eg38q, h⟩ := z_let_eq h
      refine z_iast hE (by decide) e_72 k37q (ua_72 eg38q) dX10_reads_17 ?_
      refine z_iinc (v := x1 + 1) hE 1 [(1, .int (x1 + 1)), (0, .ref (z_ad X 71))] dX10_reads_18 rfl rfl (by decide) rfl ?_
      refine z_goto hE 2 dX10_reads_21 rfl ?_
      refine z_sub [(0, .ref (z_ad X 71)), (1, .int (x1 + 1))] [1, 0] rfl ?_
      exact ih (x1 + 1) g38q h
set_option maxHeartbeats 1000000 in
set_option maxRecDepth 20000 in
theorem c_Mod_reads {X : z_X} {l : Launch} {o : z_G} (g : z_G) (r : Int32 × z_G) (h : s_Mod_reads g = some r) : z_MI X l 80 yX10_reads cX10_reads 2 (some .boolean) 4 99 [.ref (z_ad X 71)] o g o r.2 r.1 := by
  unfold s_Mod_reads at h
  refine z_metz (by decide) (Nat.le_of_ble_eq_true rfl) (fun E hl hE hret => ?_)
  subst hl
  refine z_iconst (v := 0) hE dX10_reads_0 rfl ?_
  refine z_istore_n hE [(1, .int 0), (0, .ref (z_ad X 71))] dX10_reads_1 rfl (by decide) rfl ?_
  refine z_sub [(0, .ref (z_ad X 71)), (1, .int 0)] [1, 0] rfl ?_
  exact b_Mod_reads_L2 hE hret z_F 0 g h
