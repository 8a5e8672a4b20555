theorem dX10_fault_0 : decode cX10_fault 0 = .ok (.aload_n 0, 1) := by decide +kernel
theorem dX10_fault_1 : decode cX10_fault 1 = .ok (.invokevirtual 99, 3) := by decide +kernel
theorem dX10_fault_4 : decode cX10_fault 4 = .ok (.ifCond .eq 8, 3) := by decide +kernel
theorem dX10_fault_7 : decode cX10_fault 7 = .ok (.bipush (-4), 2) := by decide +kernel
theorem dX10_fault_9 : decode cX10_fault 9 = .ok (.goto 7, 3) := by decide +kernel
theorem dX10_fault_12 : decode cX10_fault 12 = .ok (.aload_n 0, 1) := by decide +kernel
theorem dX10_fault_13 : decode cX10_fault 13 = .ok (.getfield 92, 3) := by decide +kernel
theorem dX10_fault_16 : decode cX10_fault 16 = .ok (.ireturn, 1) := by decide +kernel
def s_Mod_fault (g : z_G) : Option (Int32 × z_G) := (Option.bind (s_Mod_reads g) fun r3q => (if r3q.1 = 0 then (some ((r3q.2 0 7), r3q.2)) else (some ((-4), r3q.2))))
set_option maxHeartbeats 1000000 in
set_option maxRecDepth 20000 in
theorem c_Mod_fault {X : z_X} {l : Launch} {o : z_G} (g : z_G) (r : Int32 × z_G) (h : s_Mod_fault g = some r) : z_MI X l 80 yX10_fault cX10_fault 1 (some .int) 5 120 [.ref (z_ad X 71)] o g o r.2 r.1 := by
  unfold s_Mod_fault at h
  refine z_meti (ty := .int) rfl rfl (by decide) (Nat.le_of_ble_eq_true rfl) (fun E hl hE hret => ?_)
  subst hl
  refine z_aload_n hE 0 dX10_fault_0 rfl ?_
  obtain ⟨r3q, hr3q, h⟩ := z_bind_some h
  refine z_iV (rest := []) (av := []) hE (c_Mod_reads g r3q hr3q) l_RX10_99 (by decide) (by decide) e_71 rfl ⟨by decide, by decide⟩ dX10_fault_1 rfl (Nat.le_of_ble_eq_true rfl) ?_
  refine z_if_eq hE 12 dX10_fault_4 rfl (fun c4q => ?_) (fun c4q => ?_)
  · replace h := z_t c4q h
    refine z_aload_n hE 0 dX10_fault_12 rfl ?_
    refine z_get hE f_RX10_92 (by decide) e_71 rfl dX10_fault_13 ?_
    obtain rfl := Option.some.inj h
    exact hret _ _ dX10_fault_16
  · replace h := z_f c4q h
    refine z_bipush (v := (-4)) hE dX10_fault_7 rfl ?_
    refine z_goto hE 16 dX10_fault_9 rfl ?_
    obtain rfl := Option.some.inj h
    exact hret _ _ dX10_fault_16
theorem dX10_stands_0 : decode cX10_stands 0 = .ok (.iconst 0, 1) := by decide +kernel
theorem dX10_stands_1 : decode cX10_stands 1 = .ok (.istore_n 1, 1) := by decide +kernel
theorem dX10_stands_2 : decode cX10_stands 2 = .ok (.iload_n 1, 1) := by decide +kernel
theorem dX10_stands_3 : decode cX10_stands 3 = .ok (.bipush 6, 2) := by decide +kernel
theorem dX10_stands_5 : decode cX10_stands 5 = .ok (.if_icmp .ge 78, 3) := by decide +kernel
theorem dX10_stands_8 : decode cX10_stands 8 = .ok (.aload_n 0, 1) := by decide +kernel
theorem dX10_stands_9 : decode cX10_stands 9 = .ok (.getfield 13, 3) := by decide +kernel
theorem dX10_stands_12 : decode cX10_stands 12 = .ok (.iload_n 1, 1) := by decide +kernel
theorem dX10_stands_13 : decode cX10_stands 13 = .ok (.aload_n 0, 1) := by decide +kernel
theorem dX10_stands_14 : decode cX10_stands 14 = .ok (.getfield 7, 3) := by decide +kernel
theorem dX10_stands_17 : decode cX10_stands 17 = .ok (.bipush 23, 2) := by decide +kernel
theorem dX10_stands_19 : decode cX10_stands 19 = .ok (.iload_n 1, 1) := by decide +kernel
theorem dX10_stands_20 : decode cX10_stands 20 = .ok (.iadd, 1) := by decide +kernel
theorem dX10_stands_21 : decode cX10_stands 21 = .ok (.iaload, 1) := by decide +kernel
theorem dX10_stands_22 : decode cX10_stands 22 = .ok (.iastore, 1) := by decide +kernel
theorem dX10_stands_23 : decode cX10_stands 23 = .ok (.aload_n 0, 1) := by decide +kernel
theorem dX10_stands_24 : decode cX10_stands 24 = .ok (.getfield 13, 3) := by decide +kernel
theorem dX10_stands_27 : decode cX10_stands 27 = .ok (.bipush 6, 2) := by decide +kernel
theorem dX10_stands_29 : decode cX10_stands 29 = .ok (.iload_n 1, 1) := by decide +kernel
theorem dX10_stands_30 : decode cX10_stands 30 = .ok (.iadd, 1) := by decide +kernel
theorem dX10_stands_31 : decode cX10_stands 31 = .ok (.aload_n 0, 1) := by decide +kernel
theorem dX10_stands_32 : decode cX10_stands 32 = .ok (.getfield 7, 3) := by decide +kernel
theorem dX10_stands_35 : decode cX10_stands 35 = .ok (.bipush 29, 2) := by decide +kernel
theorem dX10_stands_37 : decode cX10_stands 37 = .ok (.iload_n 1, 1) := by decide +kernel
theorem dX10_stands_38 : decode cX10_stands 38 = .ok (.iadd, 1) := by decide +kernel
theorem dX10_stands_39 : decode cX10_stands 39 = .ok (.iaload, 1) := by decide +kernel
theorem dX10_stands_40 : decode cX10_stands 40 = .ok (.iastore, 1) := by decide +kernel
theorem dX10_stands_41 : decode cX10_stands 41 = .ok (.aload_n 0, 1) := by decide +kernel
theorem dX10_stands_42 : decode cX10_stands 42 = .ok (.getfield 13, 3) := by decide +kernel
theorem dX10_stands_45 : decode cX10_stands 45 = .ok (.bipush 12, 2) := by decide +kernel
theorem dX10_stands_47 : decode cX10_stands 47 = .ok (.iload_n 1, 1) := by decide +kernel
theorem dX10_stands_48 : decode cX10_stands 48 = .ok (.iadd, 1) := by decide +kernel
theorem dX10_stands_49 : decode cX10_stands 49 = .ok (.aload_n 0, 1) := by decide +kernel
theorem dX10_stands_50 : decode cX10_stands 50 = .ok (.getfield 7, 3) := by decide +kernel
theorem dX10_stands_53 : decode cX10_stands 53 = .ok (.bipush 35, 2) := by decide +kernel
theorem dX10_stands_55 : decode cX10_stands 55 = .ok (.iload_n 1, 1) := by decide +kernel
theorem dX10_stands_56 : decode cX10_stands 56 = .ok (.iadd, 1) := by decide +kernel
theorem dX10_stands_57 : decode cX10_stands 57 = .ok (.iaload, 1) := by decide +kernel
theorem dX10_stands_58 : decode cX10_stands 58 = .ok (.iastore, 1) := by decide +kernel
theorem dX10_stands_59 : decode cX10_stands 59 = .ok (.aload_n 0, 1) := by decide +kernel
theorem dX10_stands_60 : decode cX10_stands 60 = .ok (.getfield 13, 3) := by decide +kernel
theorem dX10_stands_63 : decode cX10_stands 63 = .ok (.bipush 18, 2) := by decide +kernel
theorem dX10_stands_65 : decode cX10_stands 65 = .ok (.iload_n 1, 1) := by decide +kernel
theorem dX10_stands_66 : decode cX10_stands 66 = .ok (.iadd, 1) := by decide +kernel
theorem dX10_stands_67 : decode cX10_stands 67 = .ok (.aload_n 0, 1) := by decide +kernel
theorem dX10_stands_68 : decode cX10_stands 68 = .ok (.getfield 7, 3) := by decide +kernel
theorem dX10_stands_71 : decode cX10_stands 71 = .ok (.bipush 41, 2) := by decide +kernel
theorem dX10_stands_73 : decode cX10_stands 73 = .ok (.iload_n 1, 1) := by decide +kernel
theorem dX10_stands_74 : decode cX10_stands 74 = .ok (.iadd, 1) := by decide +kernel
theorem dX10_stands_75 : decode cX10_stands 75 = .ok (.iaload, 1) := by decide +kernel
theorem dX10_stands_76 : decode cX10_stands 76 = .ok (.iastore, 1) := by decide +kernel
theorem dX10_stands_77 : decode cX10_stands 77 = .ok (.iinc 1 1, 3) := by decide +kernel
theorem dX10_stands_80 : decode cX10_stands 80 = .ok (.goto (-78), 3) := by decide +kernel
theorem dX10_stands_83 : decode cX10_stands 83 = .ok (.aload_n 0, 1) := by decide +kernel
theorem dX10_stands_84 : decode cX10_stands 84 = .ok (.getfield 13, 3) := by decide +kernel
theorem dX10_stands_87 : decode cX10_stands 87 = .ok (.bipush 24, 2) := by decide +kernel
theorem dX10_stands_89 : decode cX10_stands 89 = .ok (.iconst 0, 1) := by decide +kernel
theorem dX10_stands_90 : decode cX10_stands 90 = .ok (.iastore, 1) := by decide +kernel
theorem dX10_stands_91 : decode cX10_stands 91 = .ok (.aload_n 0, 1) := by decide +kernel
theorem dX10_stands_92 : decode cX10_stands 92 = .ok (.getfield 13, 3) := by decide +kernel
theorem dX10_stands_95 : decode cX10_stands 95 = .ok (.bipush 25, 2) := by decide +kernel
theorem dX10_stands_97 : decode cX10_stands 97 = .ok (.iconst 0, 1) := by decide +kernel
theorem dX10_stands_98 : decode cX10_stands 98 = .ok (.iastore, 1) := by decide +kernel
theorem dX10_stands_99 : decode cX10_stands 99 = .ok (.aload_n 0, 1) := by decide +kernel
theorem dX10_stands_100 : decode cX10_stands 100 = .ok (.iconst 0, 1) := by decide +kernel
theorem dX10_stands_101 : decode cX10_stands 101 = .ok (.putfield 46, 3) := by decide +kernel
theorem dX10_stands_104 : decode cX10_stands 104 = .ok (.aload_n 0, 1) := by decide +kernel
theorem dX10_stands_105 : decode cX10_stands 105 = .ok (.iconst 0, 1) := by decide +kernel
theorem dX10_stands_106 : decode cX10_stands 106 = .ok (.putfield 50, 3) := by decide +kernel
theorem dX10_stands_109 : decode cX10_stands 109 = .ok (.aload_n 0, 1) := by decide +kernel
theorem dX10_stands_110 : decode cX10_stands 110 = .ok (.iconst 0, 1) := by decide +kernel
theorem dX10_stands_111 : decode cX10_stands 111 = .ok (.putfield 53, 3) := by decide +kernel
theorem dX10_stands_114 : decode cX10_stands 114 = .ok (.return_, 1) := by decide +kernel
def s_Mod_stands_L2 : Nat → Int32 → z_G → Option (z_G)
  | 0, _, _ => none
  | n + 1, x1, g => (if 6 ≤ x1 then (z_let (α := z_G) (z_wr g 2 24 0) fun g20q => (z_let (α := z_G) (z_wr g20q 2 25 0) fun g21q => (z_let (α := z_G) (z_up g21q 0 2 0) fun g22q => (z_let (α := z_G) (z_up g22q 0 3 0) fun g23q => (z_let (α := z_G) (z_up g23q 0 9 0) fun g24q => (some g24q)))))) else (z_ck (z_inb (23 + x1) 120) (z_ck (z_inb x1 312) (z_let (α := z_G) (z_wr g 2 x1 (z_rd g 1 (23 + x1))) fun g27q => (z_ck (z_inb (29 + x1) 120) (z_ck (z_inb (6 + x1) 312) (z_let (α := z_G) (z_wr g27q 2 (6 + x1) (z_rd g27q 1 (29 + x1))) fun g30q => (z_ck (z_inb (35 + x1) 120) (z_ck (z_inb (12 + x1) 312) (z_let (α := z_G) (z_wr g30q 2 (12 + x1) (z_rd g30q 1 (35 + x1))) fun g33q => (z_ck (z_inb (41 + x1) 120) (z_ck (z_inb (18 + x1) 312) (z_let (α := z_G) (z_wr g33q 2 (18 + x1) (z_rd g33q 1 (41 + x1))) fun g36q => ((s_Mod_stands_L2 n) (x1 + 1) g36q))))))))))))))
def s_Mod_stands (g : z_G) : Option (z_G) := (s_Mod_stands_L2 z_F 0 g)
set_option maxHeartbeats 1000000 in
set_option maxRecDepth 20000 in
theorem b_Mod_stands_L2 {X : z_X} {E : z_ET} {o : z_G} (hE : z_EV X E cX10_stands 2 RX10 0 0 80) {r : z_G} (hret : ∀ (pc : Nat) (lv : List (Nat × Value)), decode cX10_stands pc = .ok (.return_, 1) → z_V X E 2 o r pc lv []) : ∀ (n : Nat) (x1 : Int32) (g : z_G), s_Mod_stands_L2 n x1 g = some r → z_V X E 2 o g 2 [(0, .ref (z_ad X 71)), (1, .int x1)] [] := by
  intro n
  induction n with
  | zero => intro x1 g h; exact z_none h
  | succ n ih =>
    intro x1 g h
    rw [s_Mod_stands_L2] at h
    refine z_iload_n hE 1 dX10_stands_2 rfl ?_
    refine z_bipush (v := 6) hE dX10_stands_3 rfl ?_
    refine z_icmp_ge hE 83 dX10_stands_5 rfl (fun c19q => ?_) (fun c19q => ?_)
    · replace h := z_t c19q h
      refine z_aload_n hE 0 dX10_stands_83 rfl ?_
      refine z_get hE f_RX10_13 (by decide) e_71 rfl dX10_stands_84 ?_
      refine z_bipush (v := 24) hE dX10_stands_87 rfl ?_
      refine z_iconst (v := 0) hE dX10_stands_89 rfl ?_
      obtain ⟨g20q, eg20q, h⟩ := z_let_eq h
      refine z_iast hE (by decide) e_73 (by decide) (ua_73 eg20q) dX10_stands_90 ?_
      refine z_aload_n hE 0 dX10_stands_91 rfl ?_
      refine z_get hE f_RX10_13 (by decide) e_71 rfl dX10_stands_92 ?_
      refine z_bipush (v := 25) hE dX10_stands_95 rfl ?_
      refine z_iconst (v := 0) hE dX10_stands_97 rfl ?_
      obtain ⟨g21q, eg21q, h⟩ := z_let_eq h
      refine z_iast hE (by decide) e_73 (by decide) (ua_73 eg21q) dX10_stands_98 ?_
      refine z_aload_n hE 0 dX10_stands_99 rfl ?_
      refine z_iconst (v := 0) hE dX10_stands_100 rfl ?_
      obtain ⟨g22q, eg22q, h⟩ := z_let_eq h
      refine z_put hE f_RX10_46 ft_10 (by decide) e_71 rfl (tyX10_ok 2 (by decide)) rfl rfl (Nat.le_of_ble_eq_true rfl) (u_71_2 eg22q) dX10_stands_101 ?_
      refine z_aload_n hE 0 dX10_stands_104 rfl ?_
      refine z_iconst (v := 0) hE dX10_stands_105 rfl ?_
      obtain ⟨g23q, eg23q, h⟩ := z_let_eq h
      refine z_put hE f_RX10_50 ft_10 (by decide) e_71 rfl (tyX10_ok 3 (by decide)) rfl rfl (Nat.le_of_ble_eq_true rfl) (u_71_3 eg23q) dX10_stands_106 ?_
      refine z_aload_n hE 0 dX10_stands_109 rfl ?_
      refine z_iconst (v := 0) hE dX10_stands_110 rfl ?_
      obtain ⟨g24q, eg24q, h⟩ := z_let_eq h
      refine z_put hE f_RX10_53 ft_10 (by decide) e_71 rfl (tyX10_ok 9 (by decide)) rfl rfl (Nat.le_of_ble_eq_true rfl) (u_71_9 eg24q) dX10_stands_111 ?_
      obtain rfl := Option.some.inj h
      exact hret _ _ dX10_stands_114
    · replace h := z_f c19q h
      refine z_aload_n hE 0 dX10_stands_8 rfl ?_
      refine z_get hE f_RX10_13 (by decide) e_71 rfl dX10_stands_9 ?_
      refine z_iload_n hE 1 dX10_stands_12 rfl ?_
      refine z_aload_n hE 0 dX10_stands_13 rfl ?_
      refine z_get hE f_RX10_7 (by decide) e_71 rfl dX10_stands_14 ?_
      refine z_bipush (v := 23) hE dX10_stands_17 rfl ?_
      refine z_iload_n hE 1 dX10_stands_19 rfl ?_
      refine z_iadd hE dX10_stands_20 ?_
      obtain ⟨k25q, h⟩ := z_ck_some h
      refine z_iald hE (by decide) e_72 k25q dX10_stands_21 ?_
      obtain ⟨k26q, h⟩ := z_ck_some h
      obtain ⟨g27q, eg27q, h⟩ := z_let_eq h
      refine z_iast hE (by decide) e_73 k26q (ua_73 eg27q) dX10_stands_22 ?_
      refine z_aload_n hE 0 dX10_stands_23 rfl ?_
      refine z_get hE f_RX10_13 (by decide) e_71 rfl dX10_stands_24 ?_
      refine z_bipush (v := 6) hE dX10_stands_27 rfl ?_
      refine z_iload_n hE 1 dX10_stands_29 rfl ?_
      refine z_iadd hE dX10_stands_30 ?_
      refine z_aload_n hE 0 dX10_stands_31 rfl ?_
      refine z_get hE f_RX10_7 (by decide) e_71 rfl dX10_stands_32 ?_
      refine z_bipush (v := 29) hE dX10_stands_35 rfl ?_
      refine z_iload_n hE 1 dX10_stands_37 rfl ?_
      refine z_iadd hE dX10_stands_38 ?_
      obtain ⟨k28q, h⟩ := z_ck_some h
      refine z_iald hE (by decide) e_72 k28q dX10_stands_39 ?_
      obtain ⟨k29q, h⟩ := z_ck_some h
      obtain ⟨g30q, eg30q, h⟩ := z_let_eq h
      refine z_iast hE (by decide) e_73 k29q (ua_73 eg30q) dX10_stands_40 ?_
      refine z_aload_n hE 0 dX10_stands_41 rfl ?_
      refine z_get hE f_RX10_13 (by decide) e_71 rfl dX10_stands_42 ?_
      refine z_bipush (v := 12) hE dX10_stands_45 rfl ?_
      refine z_iload_n hE 1 dX10_stands_47 rfl ?_
      refine z_iadd hE dX10_stands_48 ?_
      refine z_aload_n hE 0 dX10_stands_49 rfl ?_
      refine z_get hE f_RX10_7 (by decide) e_71 rfl dX10_stands_50 ?_
      refine z_bipush (v := 35) hE dX10_stands_53 rfl ?_
      refine z_iload_n hE 1 dX10_stands_55 rfl ?_
      refine z_iadd hE dX10_stands_56 ?_
      obtain ⟨k31q, h⟩ := z_ck_some h
      refine z_iald hE (by decide) e_72 k31q dX10_stands_57 ?_
      obtain ⟨k32q, h⟩ := z_ck_some h
      obtain ⟨g33q, eg33q, h⟩ := z_let_eq h
      refine z_iast hE (by decide) e_73 k32q (ua_73 eg33q) dX10_stands_58 ?_
      refine z_aload_n hE 0 dX10_stands_59 rfl ?_
      refine z_get hE f_RX10_13 (by decide) e_71 rfl dX10_stands_60 ?_
      refine z_bipush (v := 18) hE dX10_stands_63 rfl ?_
      refine z_iload_n hE 1 dX10_stands_65 rfl ?_
      refine z_iadd hE dX10_stands_66 ?_
      refine z_aload_n hE 0 dX10_stands_67 rfl ?_
      refine z_get hE f_RX10_7 (by decide) e_71 rfl dX10_stands_68 ?_
      refine z_bipush (v := 41) hE dX10_stands_71 rfl ?_
      refine z_iload_n hE 1 dX10_stands_73 rfl ?_
      refine z_iadd hE dX10_stands_74 ?_
      obtain ⟨k34q, h⟩ := z_ck_some h
      refine z_iald hE (by decide) e_72 k34q dX10_stands_75 ?_
      obtain ⟨k35q, h⟩ := z_ck_some h
      obtain ⟨g36q, eg36q, h⟩ := z_let_eq h
      refine z_iast hE (by decide) e_73 k35q (ua_73 eg36q) dX10_stands_76 ?_
      refine z_iinc (v := x1 + 1) hE 1 [(1, .int (x1 + 1)), (0, .ref (z_ad X 71))] dX10_stands_77 rfl rfl (by decide) rfl ?_
      refine z_goto hE 2 dX10_stands_80 rfl ?_
      refine z_sub [(0, .ref (z_ad X 71)), (1, .int (x1 + 1))] [1, 0] rfl ?_
      exact ih (x1 + 1) g36q h
set_option maxHeartbeats 1000000 in
set_option maxRecDepth 20000 in
theorem c_Mod_stands {X : z_X} {l : Launch} {o : z_G} (g : z_G) (r : z_G) (h : s_Mod_stands g = some r) : z_MV X l 80 yX10_stands cX10_stands 2 none 0 0 [.ref (z_ad X 71)] o g o r := by
  unfold s_Mod_stands at h
  refine z_metv (by decide) (Nat.le_of_ble_eq_true rfl) (fun E hl hE hret => ?_)
  subst hl
  refine z_iconst (v := 0) hE dX10_stands_0 rfl ?_
  refine z_istore_n hE [(1, .int 0), (0, .ref (z_ad X 71))] dX10_stands_1 rfl (by decide) rfl ?_
  refine z_sub [(0, .ref (z_ad X 71)), (1, .int 0)] [1, 0] rfl ?_
  exact b_Mod_stands_L2 hE hret z_F 0 g h
theorem dX10_men_0 : decode cX10_men 0 = .ok (.aload_n 0, 1) := by decide +kernel
theorem dX10_men_1 : decode cX10_men 1 = .ok (.getfield 7, 3) := by decide +kernel
theorem dX10_men_4 : decode cX10_men 4 = .ok (.bipush 9, 2) := by decide +kernel
theorem dX10_men_6 : decode cX10_men 6 = .ok (.iaload, 1) := by decide +kernel
theorem dX10_men_7 : decode cX10_men 7 = .ok (.ireturn, 1) := by decide +kernel
def s_Mod_men (g : z_G) : Int32 := (z_rd g 1 9)
set_option maxHeartbeats 1000000 in
set_option maxRecDepth 20000 in
theorem c_Mod_men {X : z_X} {l : Launch} {o : z_G} (g : z_G) : z_MI X l 80 yX10_men cX10_men 1 (some .int) 0 0 [.ref (z_ad X 71)] o g o g (s_Mod_men g) := by
  obtain ⟨r, h⟩ : ∃ r, s_Mod_men g = r := ⟨_, rfl⟩
  rw [h]
  unfold s_Mod_men at h
  refine z_meti (ty := .int) rfl rfl (by decide) (Nat.le_of_ble_eq_true rfl) (fun E hl hE hret => ?_)
  subst hl
  refine z_aload_n hE 0 dX10_men_0 rfl ?_
  refine z_get hE f_RX10_7 (by decide) e_71 rfl dX10_men_1 ?_
  refine z_bipush (v := 9) hE dX10_men_4 rfl ?_
  refine z_iald hE (by decide) e_72 (by decide) dX10_men_6 ?_
  subst h
  exact hret _ _ dX10_men_7
theorem dX10_lay_0 : decode cX10_lay 0 = .ok (.aload_n 0, 1) := by decide +kernel
theorem dX10_lay_1 : decode cX10_lay 1 = .ok (.invokevirtual 99, 3) := by decide +kernel
theorem dX10_lay_4 : decode cX10_lay 4 = .ok (.ifCond .eq 23, 3) := by decide +kernel
theorem dX10_lay_7 : decode cX10_lay 7 = .ok (.aload_n 0, 1) := by decide +kernel
theorem dX10_lay_8 : decode cX10_lay 8 = .ok (.getfield 7, 3) := by decide +kernel
theorem dX10_lay_11 : decode cX10_lay 11 = .ok (.bipush 68, 2) := by decide +kernel
theorem dX10_lay_13 : decode cX10_lay 13 = .ok (.iaload, 1) := by decide +kernel
theorem dX10_lay_14 : decode cX10_lay 14 = .ok (.ifCond .eq 13, 3) := by decide +kernel
theorem dX10_lay_17 : decode cX10_lay 17 = .ok (.aload_n 0, 1) := by decide +kernel
theorem dX10_lay_18 : decode cX10_lay 18 = .ok (.getfield 7, 3) := by decide +kernel
theorem dX10_lay_21 : decode cX10_lay 21 = .ok (.bipush 69, 2) := by decide +kernel
theorem dX10_lay_23 : decode cX10_lay 23 = .ok (.iaload, 1) := by decide +kernel
theorem dX10_lay_24 : decode cX10_lay 24 = .ok (.ifCond .ne 6, 3) := by decide +kernel
theorem dX10_lay_27 : decode cX10_lay 27 = .ok (.bipush (-2), 2) := by decide +kernel
theorem dX10_lay_29 : decode cX10_lay 29 = .ok (.ireturn, 1) := by decide +kernel
theorem dX10_lay_30 : decode cX10_lay 30 = .ok (.iconst 0, 1) := by decide +kernel
theorem dX10_lay_31 : decode cX10_lay 31 = .ok (.istore_n 1, 1) := by decide +kernel
theorem dX10_lay_32 : decode cX10_lay 32 = .ok (.iload_n 1, 1) := by decide +kernel
theorem dX10_lay_33 : decode cX10_lay 33 = .ok (.bipush 60, 2) := by decide +kernel
theorem dX10_lay_35 : decode cX10_lay 35 = .ok (.if_icmp .ge 24, 3) := by decide +kernel
theorem dX10_lay_38 : decode cX10_lay 38 = .ok (.aload_n 0, 1) := by decide +kernel
theorem dX10_lay_39 : decode cX10_lay 39 = .ok (.getfield 7, 3) := by decide +kernel
theorem dX10_lay_42 : decode cX10_lay 42 = .ok (.iload_n 1, 1) := by decide +kernel
theorem dX10_lay_43 : decode cX10_lay 43 = .ok (.aload_n 0, 1) := by decide +kernel
theorem dX10_lay_44 : decode cX10_lay 44 = .ok (.getfield 7, 3) := by decide +kernel
theorem dX10_lay_47 : decode cX10_lay 47 = .ok (.bipush 60, 2) := by decide +kernel
theorem dX10_lay_49 : decode cX10_lay 49 = .ok (.iload_n 1, 1) := by decide +kernel
theorem dX10_lay_50 : decode cX10_lay 50 = .ok (.iadd, 1) := by decide +kernel
theorem dX10_lay_51 : decode cX10_lay 51 = .ok (.iaload, 1) := by decide +kernel
theorem dX10_lay_52 : decode cX10_lay 52 = .ok (.iastore, 1) := by decide +kernel
theorem dX10_lay_53 : decode cX10_lay 53 = .ok (.iinc 1 1, 3) := by decide +kernel
theorem dX10_lay_56 : decode cX10_lay 56 = .ok (.goto (-24), 3) := by decide +kernel
theorem dX10_lay_59 : decode cX10_lay 59 = .ok (.aload_n 0, 1) := by decide +kernel
theorem dX10_lay_60 : decode cX10_lay 60 = .ok (.invokevirtual 43, 3) := by decide +kernel
theorem dX10_lay_63 : decode cX10_lay 63 = .ok (.aload_n 0, 1) := by decide +kernel
theorem dX10_lay_64 : decode cX10_lay 64 = .ok (.invokevirtual 56, 3) := by decide +kernel
theorem dX10_lay_67 : decode cX10_lay 67 = .ok (.ireturn, 1) := by decide +kernel
def s_Mod_lay_b27  (g : z_G) : Option (Int32 × z_G) := (some ((-2), g))
def s_Mod_lay_L32 : Nat → Int32 → z_G → Option (Int32 × z_G)
  | 0, _, _ => none
  | n + 1, x1, g => (if 60 ≤ x1 then (Option.bind (s_Mod_stands g) fun r11q => (some ((s_Mod_men r11q), r11q))) else (z_ck (z_inb (60 + x1) 120) (z_ck (z_inb x1 120) (z_let (α := z_G) (z_wr g 1 x1 (z_rd g 1 (60 + x1))) fun g14q => ((s_Mod_lay_L32 n) (x1 + 1) g14q)))))
def s_Mod_lay (g : z_G) : Option (Int32 × z_G) := (Option.bind (s_Mod_reads g) fun r15q => (if r15q.1 = 0 then (s_Mod_lay_b27 r15q.2) else (if (z_rd r15q.2 1 68) = 0 then (s_Mod_lay_b27 r15q.2) else (if (z_rd r15q.2 1 69) = 0 then (s_Mod_lay_b27 r15q.2) else (s_Mod_lay_L32 z_F 0 r15q.2)))))
set_option maxHeartbeats 1000000 in
set_option maxRecDepth 20000 in
theorem b_Mod_lay_b27 {X : z_X} {E : z_ET} {o : z_G} (hE : z_EV X E cX10_lay 2 RX10 5 120 80) {r : Int32 × z_G} (hret : ∀ (pc : Nat) (lv : List (Nat × Value)), decode cX10_lay pc = .ok (.ireturn, 1) → z_V X E 2 o r.2 pc lv [.int r.1])  (g : z_G)  (h : s_Mod_lay_b27 g = some r) : z_V X E 2 o g 27 [] [] := by
  unfold s_Mod_lay_b27 at h
  refine z_bipush (v := (-2)) hE dX10_lay_27 rfl ?_
  obtain rfl := Option.some.inj h
  exact hret _ _ dX10_lay_29
set_option maxHeartbeats 1000000 in
set_option maxRecDepth 20000 in
theorem b_Mod_lay_L32 {X : z_X} {E : z_ET} {o : z_G} (hE : z_EV X E cX10_lay 2 RX10 5 120 80) {r : Int32 × z_G} (hret : ∀ (pc : Nat) (lv : List (Nat × Value)), decode cX10_lay pc = .ok (.ireturn, 1) → z_V X E 2 o r.2 pc lv [.int r.1]) : ∀ (n : Nat) (x1 : Int32) (g : z_G), s_Mod_lay_L32 n x1 g = some r → z_V X E 2 o g 32 [(0, .ref (z_ad X 71)), (1, .int x1)] [] := by
  intro n
  induction n with
  | zero => intro x1 g h; exact z_none h
  | succ n ih =>
    intro x1 g h
    rw [s_Mod_lay_L32] at h
    refine z_iload_n hE 1 dX10_lay_32 rfl ?_
    refine z_bipush (v := 60) hE dX10_lay_33 rfl ?_
    refine z_icmp_ge hE 59 dX10_lay_35 rfl (fun c10q => ?_) (fun c10q => ?_)
    · replace h := z_t c10q h
      refine z_aload_n hE 0 dX10_lay_59 rfl ?_
      obtain ⟨r11q, hr11q, h⟩ := z_bind_some h
      refine z_vV (rest := []) (av := []) hE (c_Mod_stands g r11q hr11q) l_RX10_43 (by decide) (by decide) e_71 rfl ⟨by decide, by decide⟩ dX10_lay_60 rfl (Nat.le_of_ble_eq_true rfl) ?_
      refine z_aload_n hE 0 dX10_lay_63 rfl ?_
      refine z_iV (rest := []) (av := []) hE (c_Mod_men r11q) l_RX10_56 (by decide) (by decide) e_71 rfl ⟨by decide, by decide⟩ dX10_lay_64 rfl (Nat.le_of_ble_eq_true rfl) ?_
      obtain rfl := Option.some.inj h
      exact hret _ _ dX10_lay_67
    · replace h := z_f c10q h
      refine z_aload_n hE 0 dX10_lay_38 rfl ?_
      refine z_get hE f_RX10_7 (by decide) e_71 rfl dX10_lay_39 ?_
      refine z_iload_n hE 1 dX10_lay_42 rfl ?_
      refine z_aload_n hE 0 dX10_lay_43 rfl ?_
      refine z_get hE f_RX10_7 (by decide) e_71 rfl dX10_lay_44 ?_
      refine z_bipush (v := 60) hE dX10_lay_47 rfl ?_
      refine z_iload_n hE 1 dX10_lay_49 rfl ?_
      refine z_iadd hE dX10_lay_50 ?_
      obtain ⟨k12q, h⟩ := z_ck_some h
      refine z_iald hE (by decide) e_72 k12q dX10_lay_51 ?_
      obtain ⟨k13q, h⟩ := z_ck_some h
      obtain ⟨g14q, eg14q, h⟩ := z_let_eq h
      refine z_iast hE (by decide) e_72 k13q (ua_72 eg14q) dX10_lay_52 ?_
      refine z_iinc (v := x1 + 1) hE 1 [(1, .int (x1 + 1)), (0, .ref (z_ad X 71))] dX10_lay_53 rfl rfl (by decide) rfl ?_
      refine z_goto hE 32 dX10_lay_56 rfl ?_
      refine z_sub [(0, .ref (z_ad X 71)), (1, .int (x1 + 1))] [1, 0] rfl ?_
      exact ih (x1 + 1) g14q h
set_option maxHeartbeats 1000000 in
set_option maxRecDepth 20000 in
theorem c_Mod_lay {X : z_X} {l : Launch} {o : z_G} (g : z_G) (r : Int32 × z_G) (h : s_Mod_lay g = some r) : z_MI X l 80 yX10_lay cX10_lay 2 (some .int) 5 120 [.ref (z_ad X 71)] o g o r.2 r.1 := by
  unfold s_Mod_lay at h
  refine z_meti (ty := .int) rfl rfl (by decide) (Nat.le_of_ble_eq_true rfl) (fun E hl hE hret => ?_)
  subst hl
  refine z_aload_n hE 0 dX10_lay_0 rfl ?_
  obtain ⟨r15q, hr15q, h⟩ := z_bind_some h
  refine z_iV (rest := []) (av := []) hE (c_Mod_reads g r15q hr15q) l_RX10_99 (by decide) (by decide) e_71 rfl ⟨by decide, by decide⟩ dX10_lay_1 rfl (Nat.le_of_ble_eq_true rfl) ?_
  refine z_if_eq hE 27 dX10_lay_4 rfl (fun c16q => ?_) (fun c16q => ?_)
  · replace h := z_t c16q h
    refine z_sub [] [] rfl ?_
    exact b_Mod_lay_b27 hE hret r15q.2 h
  · replace h := z_f c16q h
    refine z_aload_n hE 0 dX10_lay_7 rfl ?_
    refine z_get hE f_RX10_7 (by decide) e_71 rfl dX10_lay_8 ?_
    refine z_bipush (v := 68) hE dX10_lay_11 rfl ?_
    refine z_iald hE (by decide) e_72 (by decide) dX10_lay_13 ?_
    refine z_if_eq hE 27 dX10_lay_14 rfl (fun c17q => ?_) (fun c17q => ?_)
    · replace h := z_t c17q h
      refine z_sub [] [] rfl ?_
      exact b_Mod_lay_b27 hE hret r15q.2 h
    · replace h := z_f c17q h
      refine z_aload_n hE 0 dX10_lay_17 rfl ?_
      refine z_get hE f_RX10_7 (by decide) e_71 rfl dX10_lay_18 ?_
      refine z_bipush (v := 69) hE dX10_lay_21 rfl ?_
      refine z_iald hE (by decide) e_72 (by decide) dX10_lay_23 ?_
      refine z_if_ne hE 30 dX10_lay_24 rfl (fun c18q => ?_) (fun c18q => ?_)
      · replace h := z_f c18q h
        refine z_iconst (v := 0) hE dX10_lay_30 rfl ?_
        refine z_istore_n hE [(1, .int 0), (0, .ref (z_ad X 71))] dX10_lay_31 rfl (by decide) rfl ?_
        refine z_sub [(0, .ref (z_ad X 71)), (1, .int 0)] [1, 0] rfl ?_
        exact b_Mod_lay_L32 hE hret z_F 0 r15q.2 h
      · replace h := z_t c18q h
        refine z_sub [] [] rfl ?_
        exact b_Mod_lay_b27 hE hret r15q.2 h
theorem dX10_isMan_0 : decode cX10_isMan 0 = .ok (.iload_n 1, 1) := by decide +kernel
theorem dX10_isMan_1 : decode cX10_isMan 1 = .ok (.i2l, 1) := by decide +kernel
theorem dX10_isMan_2 : decode cX10_isMan 2 = .ok (.lconst 0, 1) := by decide +kernel
theorem dX10_isMan_3 : decode cX10_isMan 3 = .ok (.aload_n 0, 1) := by decide +kernel
theorem dX10_isMan_4 : decode cX10_isMan 4 = .ok (.invokevirtual 56, 3) := by decide +kernel
theorem dX10_isMan_7 : decode cX10_isMan 7 = .ok (.iconst 1, 1) := by decide +kernel
theorem dX10_isMan_8 : decode cX10_isMan 8 = .ok (.isub, 1) := by decide +kernel
theorem dX10_isMan_9 : decode cX10_isMan 9 = .ok (.i2l, 1) := by decide +kernel
theorem dX10_isMan_10 : decode cX10_isMan 10 = .ok (.invokestatic 60, 3) := by decide +kernel
theorem dX10_isMan_13 : decode cX10_isMan 13 = .ok (.ireturn, 1) := by decide +kernel
def s_Mod_isMan (x1 : Int32) (g : z_G) : Int32 := (s_Mod_in (Int32.toInt64 x1) 0 (Int32.toInt64 ((s_Mod_men g) - 1)))
set_option maxHeartbeats 1000000 in
set_option maxRecDepth 20000 in
theorem t_Mod_isMan (x1 : Int32) (g : z_G) : z_bit (s_Mod_isMan x1 g) = true := by
  unfold s_Mod_isMan
  repeat' split
  all_goals (first | rfl | decide | exact (t_Mod_in (Int32.toInt64 x1) 0 (Int32.toInt64 ((s_Mod_men g) - 1))) | exact (t_Mod_in (Int32.toInt64 x1) 0 (Int32.toInt64 ((s_Mod_men g) - 1))) | exact (t_Mod_in (Int32.toInt64 x1) 0 (Int32.toInt64 ((s_Mod_men g) - 1))) | exact (t_Mod_in (Int32.toInt64 x1) 0 (Int32.toInt64 ((s_Mod_men g) - 1))))
set_option maxHeartbeats 1000000 in
set_option maxRecDepth 20000 in
theorem c_Mod_isMan {X : z_X} {l : Launch} {o : z_G} (x1 : Int32) (g : z_G) : z_MI X l 80 yX10_isMan cX10_isMan 2 (some .boolean) 1 25 [.ref (z_ad X 71), .int x1] o g o g (s_Mod_isMan x1 g) := by
  obtain ⟨r, h⟩ : ∃ r, s_Mod_isMan x1 g = r := ⟨_, rfl⟩
  rw [h]
  unfold s_Mod_isMan at h
  refine z_metz (by decide) (Nat.le_of_ble_eq_true rfl) (fun E hl hE hret => ?_)
  subst hl
  refine z_iload_n hE 1 dX10_isMan_0 rfl ?_
  refine z_i2l hE dX10_isMan_1 ?_
  refine z_lconst (v := 0) hE dX10_isMan_2 rfl ?_
  refine z_aload_n hE 0 dX10_isMan_3 rfl ?_
  refine z_iV (rest := [.long 0, .long (Int32.toInt64 x1)]) (av := []) hE (c_Mod_men g) l_RX10_56 (by decide) (by decide) e_71 rfl ⟨by decide, by decide⟩ dX10_isMan_4 rfl (Nat.le_of_ble_eq_true rfl) ?_
  refine z_iconst (v := 1) hE dX10_isMan_7 rfl ?_
  refine z_isub hE dX10_isMan_8 ?_
  refine z_i2l hE dX10_isMan_9 ?_
  refine z_iS (rest := []) (av := [.long (Int32.toInt64 x1), .long 0, .long (Int32.toInt64 ((s_Mod_men g) - 1))]) hE (c_Mod_in (Int32.toInt64 x1) 0 (Int32.toInt64 ((s_Mod_men g) - 1)) g) l_RX10_60 (by decide) ⟨by decide, by decide⟩ dX10_isMan_10 rfl (Nat.le_of_ble_eq_true rfl) ?_
  subst h
  exact hret _ _ (t_Mod_in (Int32.toInt64 x1) 0 (Int32.toInt64 ((s_Mod_men g) - 1))) dX10_isMan_13
theorem dX10_isHome_0 : decode cX10_isHome 0 = .ok (.aload_n 0, 1) := by decide +kernel
theorem dX10_isHome_1 : decode cX10_isHome 1 = .ok (.getfield 7, 3) := by decide +kernel
theorem dX10_isHome_4 : decode cX10_isHome 4 = .ok (.bipush 11, 2) := by decide +kernel
theorem dX10_isHome_6 : decode cX10_isHome 6 = .ok (.iload_n 2, 1) := by decide +kernel
theorem dX10_isHome_7 : decode cX10_isHome 7 = .ok (.iadd, 1) := by decide +kernel
theorem dX10_isHome_8 : decode cX10_isHome 8 = .ok (.iaload, 1) := by decide +kernel
theorem dX10_isHome_9 : decode cX10_isHome 9 = .ok (.istore_n 3, 1) := by decide +kernel
theorem dX10_isHome_10 : decode cX10_isHome 10 = .ok (.aload_n 0, 1) := by decide +kernel
theorem dX10_isHome_11 : decode cX10_isHome 11 = .ok (.getfield 13, 3) := by decide +kernel
theorem dX10_isHome_14 : decode cX10_isHome 14 = .ok (.iload_n 1, 1) := by decide +kernel
theorem dX10_isHome_15 : decode cX10_isHome 15 = .ok (.iload_n 2, 1) := by decide +kernel
theorem dX10_isHome_16 : decode cX10_isHome 16 = .ok (.iadd, 1) := by decide +kernel
theorem dX10_isHome_17 : decode cX10_isHome 17 = .ok (.iaload, 1) := by decide +kernel
theorem dX10_isHome_18 : decode cX10_isHome 18 = .ok (.aload_n 0, 1) := by decide +kernel
theorem dX10_isHome_19 : decode cX10_isHome 19 = .ok (.getfield 7, 3) := by decide +kernel
theorem dX10_isHome_22 : decode cX10_isHome 22 = .ok (.iload_n 3, 1) := by decide +kernel
theorem dX10_isHome_23 : decode cX10_isHome 23 = .ok (.iaload, 1) := by decide +kernel
theorem dX10_isHome_24 : decode cX10_isHome 24 = .ok (.if_icmp .ne 29, 3) := by decide +kernel
theorem dX10_isHome_27 : decode cX10_isHome 27 = .ok (.aload_n 0, 1) := by decide +kernel
theorem dX10_isHome_28 : decode cX10_isHome 28 = .ok (.getfield 13, 3) := by decide +kernel
theorem dX10_isHome_31 : decode cX10_isHome 31 = .ok (.iload_n 1, 1) := by decide +kernel
theorem dX10_isHome_32 : decode cX10_isHome 32 = .ok (.bipush 6, 2) := by decide +kernel
theorem dX10_isHome_34 : decode cX10_isHome 34 = .ok (.iadd, 1) := by decide +kernel
theorem dX10_isHome_35 : decode cX10_isHome 35 = .ok (.iload_n 2, 1) := by decide +kernel
theorem dX10_isHome_36 : decode cX10_isHome 36 = .ok (.iadd, 1) := by decide +kernel
theorem dX10_isHome_37 : decode cX10_isHome 37 = .ok (.iaload, 1) := by decide +kernel
theorem dX10_isHome_38 : decode cX10_isHome 38 = .ok (.aload_n 0, 1) := by decide +kernel
theorem dX10_isHome_39 : decode cX10_isHome 39 = .ok (.getfield 7, 3) := by decide +kernel
theorem dX10_isHome_42 : decode cX10_isHome 42 = .ok (.iconst 4, 1) := by decide +kernel
theorem dX10_isHome_43 : decode cX10_isHome 43 = .ok (.iload_n 3, 1) := by decide +kernel
theorem dX10_isHome_44 : decode cX10_isHome 44 = .ok (.iadd, 1) := by decide +kernel
theorem dX10_isHome_45 : decode cX10_isHome 45 = .ok (.iaload, 1) := by decide +kernel
theorem dX10_isHome_46 : decode cX10_isHome 46 = .ok (.if_icmp .ne 7, 3) := by decide +kernel
theorem dX10_isHome_49 : decode cX10_isHome 49 = .ok (.iconst 1, 1) := by decide +kernel
theorem dX10_isHome_50 : decode cX10_isHome 50 = .ok (.goto 4, 3) := by decide +kernel
theorem dX10_isHome_53 : decode cX10_isHome 53 = .ok (.iconst 0, 1) := by decide +kernel
theorem dX10_isHome_54 : decode cX10_isHome 54 = .ok (.ireturn, 1) := by decide +kernel
def s_Mod_isHome_b53 (g : z_G) : Option (Int32) := (some 0)
def s_Mod_isHome (x1 : Int32) (x2 : Int32) (g : z_G) : Option (Int32) := (z_ck (z_inb (11 + x2) 120) (z_let (α := Int32) ((z_rd g 1 (11 + x2))) fun v10q => (z_ck (z_inb (x1 + x2) 312) (z_ck (z_inb v10q 120) (if (z_rd g 2 (x1 + x2)) = (z_rd g 1 v10q) then (z_ck (z_inb ((x1 + 6) + x2) 312) (z_ck (z_inb (4 + v10q) 120) (if (z_rd g 2 ((x1 + 6) + x2)) = (z_rd g 1 (4 + v10q)) then (some 1) else (s_Mod_isHome_b53 g)))) else (s_Mod_isHome_b53 g))))))
set_option maxHeartbeats 1000000 in
set_option maxRecDepth 20000 in
theorem b_Mod_isHome_b53 {X : z_X} {E : z_ET} {o : z_G} (hE : z_EV X E cX10_isHome 4 RX10 0 0 80) {g : z_G} {r : Int32} (hret : ∀ (pc : Nat) (lv : List (Nat × Value)), z_bit r = true → decode cX10_isHome pc = .ok (.ireturn, 1) → z_V X E 4 o g pc lv [.int r])   (h : s_Mod_isHome_b53 g = some r) : z_V X E 4 o g 53 [] [] := by
  unfold s_Mod_isHome_b53 at h
  refine z_iconst (v := 0) hE dX10_isHome_53 rfl ?_
  obtain rfl := Option.some.inj h
  exact hret _ _ z_b0 dX10_isHome_54
set_option maxHeartbeats 1000000 in
set_option maxRecDepth 20000 in
theorem c_Mod_isHome {X : z_X} {l : Launch} {o : z_G} (x1 : Int32) (x2 : Int32) (g : z_G) (r : Int32) (h : s_Mod_isHome x1 x2 g = some r) : z_MI X l 80 yX10_isHome cX10_isHome 4 (some .boolean) 0 0 [.ref (z_ad X 71), .int x1, .int x2] o g o g r := by
  unfold s_Mod_isHome at h
  refine z_metz (by decide) (Nat.le_of_ble_eq_true rfl) (fun E hl hE hret => ?_)
  subst hl
  refine z_aload_n hE 0 dX10_isHome_0 rfl ?_
  refine z_get hE f_RX10_7 (by decide) e_71 rfl dX10_isHome_1 ?_
  refine z_bipush (v := 11) hE dX10_isHome_4 rfl ?_
  refine z_iload_n hE 2 dX10_isHome_6 rfl ?_
  refine z_iadd hE dX10_isHome_7 ?_
  obtain ⟨k9q, h⟩ := z_ck_some h
  refine z_iald hE (by decide) e_72 k9q dX10_isHome_8 ?_
  obtain ⟨v10q, ev10q, h⟩ := z_let_eq h
  refine z_topi ev10q ?_
  refine z_istore_n hE [(3, .int v10q), (0, .ref (z_ad X 71)), (1, .int x1), (2, .int x2)] dX10_isHome_9 rfl (by decide) rfl ?_
  refine z_aload_n hE 1 dX10_isHome_10 rfl ?_
  refine z_get hE f_RX10_13 (by decide) e_71 rfl dX10_isHome_11 ?_
  refine z_iload_n hE 2 dX10_isHome_14 rfl ?_
  refine z_iload_n hE 3 dX10_isHome_15 rfl ?_
  refine z_iadd hE dX10_isHome_16 ?_
  obtain ⟨k11q, h⟩ := z_ck_some h
  refine z_iald hE (by decide) e_73 k11q dX10_isHome_17 ?_
  refine z_aload_n hE 1 dX10_isHome_18 rfl ?_
  refine z_get hE f_RX10_7 (by decide) e_71 rfl dX10_isHome_19 ?_
  refine z_iload_n hE 0 dX10_isHome_22 rfl ?_
  obtain ⟨k12q, h⟩ := z_ck_some h
  refine z_iald hE (by decide) e_72 k12q dX10_isHome_23 ?_
  refine z_icmp_ne hE 53 dX10_isHome_24 rfl (fun c13q => ?_) (fun c13q => ?_)
  · replace h := z_f c13q h
    refine z_sub [] [] rfl ?_
    exact b_Mod_isHome_b53 hE hret h
  · replace h := z_t c13q h
    refine z_aload_n hE 1 dX10_isHome_27 rfl ?_
    refine z_get hE f_RX10_13 (by decide) e_71 rfl dX10_isHome_28 ?_
    refine z_iload_n hE 2 dX10_isHome_31 rfl ?_
    refine z_bipush (v := 6) hE dX10_isHome_32 rfl ?_
    refine z_iadd hE dX10_isHome_34 ?_
    refine z_iload_n hE 3 dX10_isHome_35 rfl ?_
    refine z_iadd hE dX10_isHome_36 ?_
    obtain ⟨k14q, h⟩ := z_ck_some h
    refine z_iald hE (by decide) e_73 k14q dX10_isHome_37 ?_
    refine z_aload_n hE 1 dX10_isHome_38 rfl ?_
    refine z_get hE f_RX10_7 (by decide) e_71 rfl dX10_isHome_39 ?_
    refine z_iconst (v := 4) hE dX10_isHome_42 rfl ?_
    refine z_iload_n hE 0 dX10_isHome_43 rfl ?_
    refine z_iadd hE dX10_isHome_44 ?_
    obtain ⟨k15q, h⟩ := z_ck_some h
    refine z_iald hE (by decide) e_72 k15q dX10_isHome_45 ?_
    refine z_icmp_ne hE 53 dX10_isHome_46 rfl (fun c16q => ?_) (fun c16q => ?_)
    · replace h := z_f c16q h
      refine z_sub [] [] rfl ?_
      exact b_Mod_isHome_b53 hE hret h
    · replace h := z_t c16q h
      refine z_iconst (v := 1) hE dX10_isHome_49 rfl ?_
      refine z_goto hE 54 dX10_isHome_50 rfl ?_
      obtain rfl := Option.some.inj h
      exact hret _ _ z_b1 dX10_isHome_54
theorem dX10_apart_0 : decode cX10_apart 0 = .ok (.iload_n 0, 1) := by decide +kernel
theorem dX10_apart_1 : decode cX10_apart 1 = .ok (.iload_n 1, 1) := by decide +kernel
theorem dX10_apart_2 : decode cX10_apart 2 = .ok (.if_icmp .ge 9, 3) := by decide +kernel
theorem dX10_apart_5 : decode cX10_apart 5 = .ok (.iload_n 1, 1) := by decide +kernel
theorem dX10_apart_6 : decode cX10_apart 6 = .ok (.iload_n 0, 1) := by decide +kernel
theorem dX10_apart_7 : decode cX10_apart 7 = .ok (.isub, 1) := by decide +kernel
theorem dX10_apart_8 : decode cX10_apart 8 = .ok (.goto 6, 3) := by decide +kernel
theorem dX10_apart_11 : decode cX10_apart 11 = .ok (.iload_n 0, 1) := by decide +kernel
theorem dX10_apart_12 : decode cX10_apart 12 = .ok (.iload_n 1, 1) := by decide +kernel
theorem dX10_apart_13 : decode cX10_apart 13 = .ok (.isub, 1) := by decide +kernel
theorem dX10_apart_14 : decode cX10_apart 14 = .ok (.ireturn, 1) := by decide +kernel
def s_Mod_apart (x0 : Int32) (x1 : Int32) : Int32 := (if x1 ≤ x0 then (x0 - x1) else (x1 - x0))
set_option maxHeartbeats 1000000 in
set_option maxRecDepth 20000 in
theorem c_Mod_apart {X : z_X} {l : Launch} {o : z_G} (x0 : Int32) (x1 : Int32) (g : z_G) : z_MI X l 80 yX10_apart cX10_apart 2 (some .int) 0 0 [.int x0, .int x1] o g o g (s_Mod_apart x0 x1) := by
  obtain ⟨r, h⟩ : ∃ r, s_Mod_apart x0 x1 = r := ⟨_, rfl⟩
  rw [h]
  unfold s_Mod_apart at h
  refine z_meti (ty := .int) rfl rfl (by decide) (Nat.le_of_ble_eq_true rfl) (fun E hl hE hret => ?_)
  subst hl
  refine z_iload_n hE 0 dX10_apart_0 rfl ?_
  refine z_iload_n hE 1 dX10_apart_1 rfl ?_
  refine z_icmp_ge hE 11 dX10_apart_2 rfl (fun c2q => ?_) (fun c2q => ?_)
  · replace h := z_t c2q h
    refine z_iload_n hE 0 dX10_apart_11 rfl ?_
    refine z_iload_n hE 1 dX10_apart_12 rfl ?_
    refine z_isub hE dX10_apart_13 ?_
    subst h
    exact hret _ _ dX10_apart_14
  · replace h := z_f c2q h
    refine z_iload_n hE 1 dX10_apart_5 rfl ?_
    refine z_iload_n hE 0 dX10_apart_6 rfl ?_
    refine z_isub hE dX10_apart_7 ?_
    refine z_goto hE 14 dX10_apart_8 rfl ?_
    subst h
    exact hret _ _ dX10_apart_14
theorem dX10_larger_0 : decode cX10_larger 0 = .ok (.iload_n 0, 1) := by decide +kernel
theorem dX10_larger_1 : decode cX10_larger 1 = .ok (.iload_n 1, 1) := by decide +kernel
theorem dX10_larger_2 : decode cX10_larger 2 = .ok (.if_icmp .ge 7, 3) := by decide +kernel
theorem dX10_larger_5 : decode cX10_larger 5 = .ok (.iload_n 1, 1) := by decide +kernel
theorem dX10_larger_6 : decode cX10_larger 6 = .ok (.goto 4, 3) := by decide +kernel
theorem dX10_larger_9 : decode cX10_larger 9 = .ok (.iload_n 0, 1) := by decide +kernel
theorem dX10_larger_10 : decode cX10_larger 10 = .ok (.ireturn, 1) := by decide +kernel
def s_Mod_larger (x0 : Int32) (x1 : Int32) : Int32 := (if x1 ≤ x0 then x0 else x1)
set_option maxHeartbeats 1000000 in
set_option maxRecDepth 20000 in
theorem c_Mod_larger {X : z_X} {l : Launch} {o : z_G} (x0 : Int32) (x1 : Int32) (g : z_G) : z_MI X l 80 yX10_larger cX10_larger 2 (some .int) 0 0 [.int x0, .int x1] o g o g (s_Mod_larger x0 x1) := by
  obtain ⟨r, h⟩ : ∃ r, s_Mod_larger x0 x1 = r := ⟨_, rfl⟩
  rw [h]
  unfold s_Mod_larger at h
  refine z_meti (ty := .int) rfl rfl (by decide) (Nat.le_of_ble_eq_true rfl) (fun E hl hE hret => ?_)
  subst hl
  refine z_iload_n hE 0 dX10_larger_0 rfl ?_
  refine z_iload_n hE 1 dX10_larger_1 rfl ?_
  refine z_icmp_ge hE 9 dX10_larger_2 rfl (fun c2q => ?_) (fun c2q => ?_)
  · replace h := z_t c2q h
    refine z_iload_n hE 0 dX10_larger_9 rfl ?_
    subst h
    exact hret _ _ dX10_larger_10
  · replace h := z_f c2q h
    refine z_iload_n hE 1 dX10_larger_5 rfl ?_
    refine z_goto hE 10 dX10_larger_6 rfl ?_
    subst h
    exact hret _ _ dX10_larger_10
theorem dX10_isLost_0 : decode cX10_isLost 0 = .ok (.aload_n 0, 1) := by decide +kernel
theorem dX10_isLost_1 : decode cX10_isLost 1 = .ok (.getfield 13, 3) := by decide +kernel
theorem dX10_isLost_4 : decode cX10_isLost 4 = .ok (.iload_n 1, 1) := by decide +kernel
theorem dX10_isLost_5 : decode cX10_isLost 5 = .ok (.iload_n 2, 1) := by decide +kernel
theorem dX10_isLost_6 : decode cX10_isLost 6 = .ok (.iadd, 1) := by decide +kernel
theorem dX10_isLost_7 : decode cX10_isLost 7 = .ok (.iaload, 1) := by decide +kernel
theorem dX10_isLost_8 : decode cX10_isLost 8 = .ok (.aload_n 0, 1) := by decide +kernel
theorem dX10_isLost_9 : decode cX10_isLost 9 = .ok (.getfield 13, 3) := by decide +kernel
theorem dX10_isLost_12 : decode cX10_isLost 12 = .ok (.iload_n 1, 1) := by decide +kernel
theorem dX10_isLost_13 : decode cX10_isLost 13 = .ok (.iaload, 1) := by decide +kernel
theorem dX10_isLost_14 : decode cX10_isLost 14 = .ok (.invokestatic 103, 3) := by decide +kernel
theorem dX10_isLost_17 : decode cX10_isLost 17 = .ok (.aload_n 0, 1) := by decide +kernel
theorem dX10_isLost_18 : decode cX10_isLost 18 = .ok (.getfield 13, 3) := by decide +kernel
theorem dX10_isLost_21 : decode cX10_isLost 21 = .ok (.iload_n 1, 1) := by decide +kernel
theorem dX10_isLost_22 : decode cX10_isLost 22 = .ok (.bipush 6, 2) := by decide +kernel
theorem dX10_isLost_24 : decode cX10_isLost 24 = .ok (.iadd, 1) := by decide +kernel
theorem dX10_isLost_25 : decode cX10_isLost 25 = .ok (.iload_n 2, 1) := by decide +kernel
theorem dX10_isLost_26 : decode cX10_isLost 26 = .ok (.iadd, 1) := by decide +kernel
theorem dX10_isLost_27 : decode cX10_isLost 27 = .ok (.iaload, 1) := by decide +kernel
theorem dX10_isLost_28 : decode cX10_isLost 28 = .ok (.aload_n 0, 1) := by decide +kernel
theorem dX10_isLost_29 : decode cX10_isLost 29 = .ok (.getfield 13, 3) := by decide +kernel
theorem dX10_isLost_32 : decode cX10_isLost 32 = .ok (.iload_n 1, 1) := by decide +kernel
theorem dX10_isLost_33 : decode cX10_isLost 33 = .ok (.bipush 6, 2) := by decide +kernel
theorem dX10_isLost_35 : decode cX10_isLost 35 = .ok (.iadd, 1) := by decide +kernel
theorem dX10_isLost_36 : decode cX10_isLost 36 = .ok (.iaload, 1) := by decide +kernel
theorem dX10_isLost_37 : decode cX10_isLost 37 = .ok (.invokestatic 103, 3) := by decide +kernel
theorem dX10_isLost_40 : decode cX10_isLost 40 = .ok (.invokestatic 106, 3) := by decide +kernel
theorem dX10_isLost_43 : decode cX10_isLost 43 = .ok (.aload_n 0, 1) := by decide +kernel
theorem dX10_isLost_44 : decode cX10_isLost 44 = .ok (.getfield 7, 3) := by decide +kernel
theorem dX10_isLost_47 : decode cX10_isLost 47 = .ok (.bipush 10, 2) := by decide +kernel
theorem dX10_isLost_49 : decode cX10_isLost 49 = .ok (.iaload, 1) := by decide +kernel
theorem dX10_isLost_50 : decode cX10_isLost 50 = .ok (.if_icmp .le 7, 3) := by decide +kernel
theorem dX10_isLost_53 : decode cX10_isLost 53 = .ok (.iconst 1, 1) := by decide +kernel
theorem dX10_isLost_54 : decode cX10_isLost 54 = .ok (.goto 4, 3) := by decide +kernel
theorem dX10_isLost_57 : decode cX10_isLost 57 = .ok (.iconst 0, 1) := by decide +kernel
theorem dX10_isLost_58 : decode cX10_isLost 58 = .ok (.ireturn, 1) := by decide +kernel
def s_Mod_isLost (x1 : Int32) (x2 : Int32) (g : z_G) : Option (Int32) := (z_ck (z_inb (x1 + x2) 312) (z_ck (z_inb x1 312) (z_ck (z_inb ((x1 + 6) + x2) 312) (z_ck (z_inb (x1 + 6) 312) (if (s_Mod_larger (s_Mod_apart (z_rd g 2 (x1 + x2)) (z_rd g 2 x1)) (s_Mod_apart (z_rd g 2 ((x1 + 6) + x2)) (z_rd g 2 (x1 + 6)))) ≤ (z_rd g 1 10) then (some 0) else (some 1))))))
set_option maxHeartbeats 1000000 in
set_option maxRecDepth 20000 in
theorem c_Mod_isLost {X : z_X} {l : Launch} {o : z_G} (x1 : Int32) (x2 : Int32) (g : z_G) (r : Int32) (h : s_Mod_isLost x1 x2 g = some r) : z_MI X l 80 yX10_isLost cX10_isLost 3 (some .boolean) 1 21 [.ref (z_ad X 71), .int x1, .int x2] o g o g r := by
  unfold s_Mod_isLost at h
  refine z_metz (by decide) (Nat.le_of_ble_eq_true rfl) (fun E hl hE hret => ?_)
  subst hl
  refine z_aload_n hE 0 dX10_isLost_0 rfl ?_
  refine z_get hE f_RX10_13 (by decide) e_71 rfl dX10_isLost_1 ?_
  refine z_iload_n hE 1 dX10_isLost_4 rfl ?_
  refine z_iload_n hE 2 dX10_isLost_5 rfl ?_
  refine z_iadd hE dX10_isLost_6 ?_
  obtain ⟨k6q, h⟩ := z_ck_some h
  refine z_iald hE (by decide) e_73 k6q dX10_isLost_7 ?_
  refine z_aload_n hE 0 dX10_isLost_8 rfl ?_
  refine z_get hE f_RX10_13 (by decide) e_71 rfl dX10_isLost_9 ?_
  refine z_iload_n hE 1 dX10_isLost_12 rfl ?_
  obtain ⟨k7q, h⟩ := z_ck_some h
  refine z_iald hE (by decide) e_73 k7q dX10_isLost_13 ?_
  refine z_iS (rest := []) (av := [.int (z_rd g 2 (x1 + x2)), .int (z_rd g 2 x1)]) hE (c_Mod_apart (z_rd g 2 (x1 + x2)) (z_rd g 2 x1) g) l_RX10_103 (by decide) ⟨by decide, by decide⟩ dX10_isLost_14 rfl (Nat.le_of_ble_eq_true rfl) ?_
  refine z_aload_n hE 0 dX10_isLost_17 rfl ?_
  refine z_get hE f_RX10_13 (by decide) e_71 rfl dX10_isLost_18 ?_
  refine z_iload_n hE 1 dX10_isLost_21 rfl ?_
  refine z_bipush (v := 6) hE dX10_isLost_22 rfl ?_
  refine z_iadd hE dX10_isLost_24 ?_
  refine z_iload_n hE 2 dX10_isLost_25 rfl ?_
  refine z_iadd hE dX10_isLost_26 ?_
  obtain ⟨k8q, h⟩ := z_ck_some h
  refine z_iald hE (by decide) e_73 k8q dX10_isLost_27 ?_
  refine z_aload_n hE 0 dX10_isLost_28 rfl ?_
  refine z_get hE f_RX10_13 (by decide) e_71 rfl dX10_isLost_29 ?_
  refine z_iload_n hE 1 dX10_isLost_32 rfl ?_
  refine z_bipush (v := 6) hE dX10_isLost_33 rfl ?_
  refine z_iadd hE dX10_isLost_35 ?_
  obtain ⟨k9q, h⟩ := z_ck_some h
  refine z_iald hE (by decide) e_73 k9q dX10_isLost_36 ?_
  refine z_iS (rest := [.int (s_Mod_apart (z_rd g 2 (x1 + x2)) (z_rd g 2 x1))]) (av := [.int (z_rd g 2 ((x1 + 6) + x2)), .int (z_rd g 2 (x1 + 6))]) hE (c_Mod_apart (z_rd g 2 ((x1 + 6) + x2)) (z_rd g 2 (x1 + 6)) g) l_RX10_103 (by decide) ⟨by decide, by decide⟩ dX10_isLost_37 rfl (Nat.le_of_ble_eq_true rfl) ?_
  refine z_iS (rest := []) (av := [.int (s_Mod_apart (z_rd g 2 (x1 + x2)) (z_rd g 2 x1)), .int (s_Mod_apart (z_rd g 2 ((x1 + 6) + x2)) (z_rd g 2 (x1 + 6)))]) hE (c_Mod_larger (s_Mod_apart (z_rd g 2 (x1 + x2)) (z_rd g 2 x1)) (s_Mod_apart (z_rd g 2 ((x1 + 6) + x2)) (z_rd g 2 (x1 + 6))) g) l_RX10_106 (by decide) ⟨by decide, by decide⟩ dX10_isLost_40 rfl (Nat.le_of_ble_eq_true rfl) ?_
  refine z_aload_n hE 0 dX10_isLost_43 rfl ?_
  refine z_get hE f_RX10_7 (by decide) e_71 rfl dX10_isLost_44 ?_
  refine z_bipush (v := 10) hE dX10_isLost_47 rfl ?_
  refine z_iald hE (by decide) e_72 (by decide) dX10_isLost_49 ?_
  refine z_icmp_le hE 57 dX10_isLost_50 rfl (fun c10q => ?_) (fun c10q => ?_)
  · replace h := z_t c10q h
    refine z_iconst (v := 0) hE dX10_isLost_57 rfl ?_
    obtain rfl := Option.some.inj h
    exact hret _ _ z_b0 dX10_isLost_58
  · replace h := z_f c10q h
    refine z_iconst (v := 1) hE dX10_isLost_53 rfl ?_
    refine z_goto hE 58 dX10_isLost_54 rfl ?_
    obtain rfl := Option.some.inj h
    exact hret _ _ z_b1 dX10_isLost_58
theorem dX10_man_0 : decode cX10_man 0 = .ok (.aload_n 0, 1) := by decide +kernel
theorem dX10_man_1 : decode cX10_man 1 = .ok (.iload_n 1, 1) := by decide +kernel
theorem dX10_man_2 : decode cX10_man 2 = .ok (.invokevirtual 113, 3) := by decide +kernel
theorem dX10_man_5 : decode cX10_man 5 = .ok (.ifCond .eq 15, 3) := by decide +kernel
theorem dX10_man_8 : decode cX10_man 8 = .ok (.iload_n 2, 1) := by decide +kernel
theorem dX10_man_9 : decode cX10_man 9 = .ok (.i2l, 1) := by decide +kernel
theorem dX10_man_10 : decode cX10_man 10 = .ok (.lconst 0, 1) := by decide +kernel
theorem dX10_man_11 : decode cX10_man 11 = .ok (.ldc2_w 117, 3) := by decide +kernel
theorem dX10_man_14 : decode cX10_man 14 = .ok (.invokestatic 60, 3) := by decide +kernel
theorem dX10_man_17 : decode cX10_man 17 = .ok (.ifCond .ne 5, 3) := by decide +kernel
theorem dX10_man_20 : decode cX10_man 20 = .ok (.iconst (-1), 1) := by decide +kernel
theorem dX10_man_21 : decode cX10_man 21 = .ok (.ireturn, 1) := by decide +kernel
theorem dX10_man_22 : decode cX10_man 22 = .ok (.iload_n 2, 1) := by decide +kernel
theorem dX10_man_23 : decode cX10_man 23 = .ok (.ifCond .ne 12, 3) := by decide +kernel
theorem dX10_man_26 : decode cX10_man 26 = .ok (.aload_n 0, 1) := by decide +kernel
theorem dX10_man_27 : decode cX10_man 27 = .ok (.getfield 13, 3) := by decide +kernel
theorem dX10_man_30 : decode cX10_man 30 = .ok (.iload_n 1, 1) := by decide +kernel
theorem dX10_man_31 : decode cX10_man 31 = .ok (.iaload, 1) := by decide +kernel
theorem dX10_man_32 : decode cX10_man 32 = .ok (.goto 140, 3) := by decide +kernel
theorem dX10_man_35 : decode cX10_man 35 = .ok (.iload_n 2, 1) := by decide +kernel
theorem dX10_man_36 : decode cX10_man 36 = .ok (.iconst 1, 1) := by decide +kernel
theorem dX10_man_37 : decode cX10_man 37 = .ok (.if_icmp .ne 15, 3) := by decide +kernel
theorem dX10_man_40 : decode cX10_man 40 = .ok (.aload_n 0, 1) := by decide +kernel
theorem dX10_man_41 : decode cX10_man 41 = .ok (.getfield 13, 3) := by decide +kernel
theorem dX10_man_44 : decode cX10_man 44 = .ok (.bipush 6, 2) := by decide +kernel
theorem dX10_man_46 : decode cX10_man 46 = .ok (.iload_n 1, 1) := by decide +kernel
theorem dX10_man_47 : decode cX10_man 47 = .ok (.iadd, 1) := by decide +kernel
theorem dX10_man_48 : decode cX10_man 48 = .ok (.iaload, 1) := by decide +kernel
theorem dX10_man_49 : decode cX10_man 49 = .ok (.goto 123, 3) := by decide +kernel
theorem dX10_man_52 : decode cX10_man 52 = .ok (.iload_n 2, 1) := by decide +kernel
theorem dX10_man_53 : decode cX10_man 53 = .ok (.iconst 2, 1) := by decide +kernel
theorem dX10_man_54 : decode cX10_man 54 = .ok (.if_icmp .ne 15, 3) := by decide +kernel
theorem dX10_man_57 : decode cX10_man 57 = .ok (.aload_n 0, 1) := by decide +kernel
theorem dX10_man_58 : decode cX10_man 58 = .ok (.getfield 13, 3) := by decide +kernel
theorem dX10_man_61 : decode cX10_man 61 = .ok (.bipush 12, 2) := by decide +kernel
theorem dX10_man_63 : decode cX10_man 63 = .ok (.iload_n 1, 1) := by decide +kernel
theorem dX10_man_64 : decode cX10_man 64 = .ok (.iadd, 1) := by decide +kernel
theorem dX10_man_65 : decode cX10_man 65 = .ok (.iaload, 1) := by decide +kernel
theorem dX10_man_66 : decode cX10_man 66 = .ok (.goto 106, 3) := by decide +kernel
theorem dX10_man_69 : decode cX10_man 69 = .ok (.iload_n 2, 1) := by decide +kernel
theorem dX10_man_70 : decode cX10_man 70 = .ok (.iconst 3, 1) := by decide +kernel
theorem dX10_man_71 : decode cX10_man 71 = .ok (.if_icmp .ne 15, 3) := by decide +kernel
theorem dX10_man_74 : decode cX10_man 74 = .ok (.aload_n 0, 1) := by decide +kernel
theorem dX10_man_75 : decode cX10_man 75 = .ok (.getfield 7, 3) := by decide +kernel
theorem dX10_man_78 : decode cX10_man 78 = .ok (.bipush 11, 2) := by decide +kernel
theorem dX10_man_80 : decode cX10_man 80 = .ok (.iload_n 1, 1) := by decide +kernel
theorem dX10_man_81 : decode cX10_man 81 = .ok (.iadd, 1) := by decide +kernel
theorem dX10_man_82 : decode cX10_man 82 = .ok (.iaload, 1) := by decide +kernel
theorem dX10_man_83 : decode cX10_man 83 = .ok (.goto 89, 3) := by decide +kernel
theorem dX10_man_86 : decode cX10_man 86 = .ok (.iload_n 2, 1) := by decide +kernel
theorem dX10_man_87 : decode cX10_man 87 = .ok (.iconst 4, 1) := by decide +kernel
theorem dX10_man_88 : decode cX10_man 88 = .ok (.if_icmp .ne 15, 3) := by decide +kernel
theorem dX10_man_91 : decode cX10_man 91 = .ok (.aload_n 0, 1) := by decide +kernel
theorem dX10_man_92 : decode cX10_man 92 = .ok (.getfield 13, 3) := by decide +kernel
theorem dX10_man_95 : decode cX10_man 95 = .ok (.bipush 18, 2) := by decide +kernel
theorem dX10_man_97 : decode cX10_man 97 = .ok (.iload_n 1, 1) := by decide +kernel
theorem dX10_man_98 : decode cX10_man 98 = .ok (.iadd, 1) := by decide +kernel
theorem dX10_man_99 : decode cX10_man 99 = .ok (.iaload, 1) := by decide +kernel
theorem dX10_man_100 : decode cX10_man 100 = .ok (.goto 72, 3) := by decide +kernel
theorem dX10_man_103 : decode cX10_man 103 = .ok (.iload_n 2, 1) := by decide +kernel
theorem dX10_man_104 : decode cX10_man 104 = .ok (.iconst 5, 1) := by decide +kernel
theorem dX10_man_105 : decode cX10_man 105 = .ok (.if_icmp .ne 15, 3) := by decide +kernel
theorem dX10_man_108 : decode cX10_man 108 = .ok (.aload_n 0, 1) := by decide +kernel
theorem dX10_man_109 : decode cX10_man 109 = .ok (.getfield 7, 3) := by decide +kernel
theorem dX10_man_112 : decode cX10_man 112 = .ok (.bipush 17, 2) := by decide +kernel
theorem dX10_man_114 : decode cX10_man 114 = .ok (.iload_n 1, 1) := by decide +kernel
theorem dX10_man_115 : decode cX10_man 115 = .ok (.iadd, 1) := by decide +kernel
theorem dX10_man_116 : decode cX10_man 116 = .ok (.iaload, 1) := by decide +kernel
theorem dX10_man_117 : decode cX10_man 117 = .ok (.goto 55, 3) := by decide +kernel
theorem dX10_man_120 : decode cX10_man 120 = .ok (.iload_n 2, 1) := by decide +kernel
theorem dX10_man_121 : decode cX10_man 121 = .ok (.bipush 6, 2) := by decide +kernel
theorem dX10_man_123 : decode cX10_man 123 = .ok (.if_icmp .ne 17, 3) := by decide +kernel
theorem dX10_man_126 : decode cX10_man 126 = .ok (.aload_n 0, 1) := by decide +kernel
theorem dX10_man_127 : decode cX10_man 127 = .ok (.getfield 13, 3) := by decide +kernel
theorem dX10_man_130 : decode cX10_man 130 = .ok (.bipush 24, 2) := by decide +kernel
theorem dX10_man_132 : decode cX10_man 132 = .ok (.iaload, 1) := by decide +kernel
theorem dX10_man_133 : decode cX10_man 133 = .ok (.iload_n 1, 1) := by decide +kernel
theorem dX10_man_134 : decode cX10_man 134 = .ok (.ishr, 1) := by decide +kernel
theorem dX10_man_135 : decode cX10_man 135 = .ok (.iconst 1, 1) := by decide +kernel
theorem dX10_man_136 : decode cX10_man 136 = .ok (.iand, 1) := by decide +kernel
theorem dX10_man_137 : decode cX10_man 137 = .ok (.goto 35, 3) := by decide +kernel
theorem dX10_man_140 : decode cX10_man 140 = .ok (.iload_n 2, 1) := by decide +kernel
theorem dX10_man_141 : decode cX10_man 141 = .ok (.bipush 7, 2) := by decide +kernel
theorem dX10_man_143 : decode cX10_man 143 = .ok (.if_icmp .ne 15, 3) := by decide +kernel
theorem dX10_man_146 : decode cX10_man 146 = .ok (.aload_n 0, 1) := by decide +kernel
theorem dX10_man_147 : decode cX10_man 147 = .ok (.iconst 0, 1) := by decide +kernel
theorem dX10_man_148 : decode cX10_man 148 = .ok (.iload_n 1, 1) := by decide +kernel
theorem dX10_man_149 : decode cX10_man 149 = .ok (.invokevirtual 109, 3) := by decide +kernel
theorem dX10_man_152 : decode cX10_man 152 = .ok (.ifCond .eq 19, 3) := by decide +kernel
theorem dX10_man_155 : decode cX10_man 155 = .ok (.goto 12, 3) := by decide +kernel
theorem dX10_man_158 : decode cX10_man 158 = .ok (.aload_n 0, 1) := by decide +kernel
theorem dX10_man_159 : decode cX10_man 159 = .ok (.iconst 0, 1) := by decide +kernel
theorem dX10_man_160 : decode cX10_man 160 = .ok (.iload_n 1, 1) := by decide +kernel
theorem dX10_man_161 : decode cX10_man 161 = .ok (.invokevirtual 119, 3) := by decide +kernel
theorem dX10_man_164 : decode cX10_man 164 = .ok (.ifCond .eq 7, 3) := by decide +kernel
theorem dX10_man_167 : decode cX10_man 167 = .ok (.iconst 1, 1) := by decide +kernel
theorem dX10_man_168 : decode cX10_man 168 = .ok (.goto 4, 3) := by decide +kernel
theorem dX10_man_171 : decode cX10_man 171 = .ok (.iconst 0, 1) := by decide +kernel
theorem dX10_man_172 : decode cX10_man 172 = .ok (.ireturn, 1) := by decide +kernel
def s_Mod_man_b20 (g : z_G) : Option (Int32) := (some (-1))
def s_Mod_man_b171 (g : z_G) : Option (Int32) := (some 0)
def s_Mod_man_b167 (g : z_G) : Option (Int32) := (some 1)
def s_Mod_man (x1 : Int32) (x2 : Int32) (g : z_G) : Option (Int32) := (if (s_Mod_isMan x1 g) = 0 then (s_Mod_man_b20 g) else (if (s_Mod_in (Int32.toInt64 x2) 0 8) = 0 then (s_Mod_man_b20 g) else (if x2 = 0 then (z_ck (z_inb x1 312) (some (z_rd g 2 x1))) else (if x2 = 1 then (z_ck (z_inb (6 + x1) 312) (some (z_rd g 2 (6 + x1)))) else (if x2 = 2 then (z_ck (z_inb (12 + x1) 312) (some (z_rd g 2 (12 + x1)))) else (if x2 = 3 then (z_ck (z_inb (11 + x1) 120) (some (z_rd g 1 (11 + x1)))) else (if x2 = 4 then (z_ck (z_inb (18 + x1) 312) (some (z_rd g 2 (18 + x1)))) else (if x2 = 5 then (z_ck (z_inb (17 + x1) 120) (some (z_rd g 1 (17 + x1)))) else (if x2 = 6 then (some (((z_rd g 2 24) >>> (x1 &&& 31)) &&& 1)) else (if x2 = 7 then (Option.bind (s_Mod_isLost 0 x1 g) fun r33q => (if r33q = 0 then (s_Mod_man_b171 g) else (s_Mod_man_b167 g))) else (Option.bind (s_Mod_isHome 0 x1 g) fun r31q => (if r31q = 0 then (s_Mod_man_b171 g) else (s_Mod_man_b167 g)))))))))))))
set_option maxHeartbeats 1000000 in
set_option maxRecDepth 20000 in
theorem b_Mod_man_b20 {X : z_X} {E : z_ET} {o : z_G} (hE : z_EV X E cX10_man 3 RX10 2 46 80) {g : z_G} {r : Int32} (hret : ∀ (pc : Nat) (lv : List (Nat × Value)), decode cX10_man pc = .ok (.ireturn, 1) → z_V X E 3 o g pc lv [.int r])   (h : s_Mod_man_b20 g = some r) : z_V X E 3 o g 20 [] [] := by
  unfold s_Mod_man_b20 at h
  refine z_iconst (v := (-1)) hE dX10_man_20 rfl ?_
  obtain rfl := Option.some.inj h
  exact hret _ _ dX10_man_21
set_option maxHeartbeats 1000000 in
set_option maxRecDepth 20000 in
theorem b_Mod_man_b171 {X : z_X} {E : z_ET} {o : z_G} (hE : z_EV X E cX10_man 3 RX10 2 46 80) {g : z_G} {r : Int32} (hret : ∀ (pc : Nat) (lv : List (Nat × Value)), decode cX10_man pc = .ok (.ireturn, 1) → z_V X E 3 o g pc lv [.int r])   (h : s_Mod_man_b171 g = some r) : z_V X E 3 o g 171 [] [] := by
  unfold s_Mod_man_b171 at h
  refine z_iconst (v := 0) hE dX10_man_171 rfl ?_
  obtain rfl := Option.some.inj h
  exact hret _ _ dX10_man_172
set_option maxHeartbeats 1000000 in
set_option maxRecDepth 20000 in
theorem b_Mod_man_b167 {X : z_X} {E : z_ET} {o : z_G} (hE : z_EV X E cX10_man 3 RX10 2 46 80) {g : z_G} {r : Int32} (hret : ∀ (pc : Nat) (lv : List (Nat × Value)), decode cX10_man pc = .ok (.ireturn, 1) → z_V X E 3 o g pc lv [.int r])   (h : s_Mod_man_b167 g = some r) : z_V X E 3 o g 167 [] [] := by
  unfold s_Mod_man_b167 at h
  refine z_iconst (v := 1) hE dX10_man_167 rfl ?_
  refine z_goto hE 172 dX10_man_168 rfl ?_
  obtain rfl := Option.some.inj h
  exact hret _ _ dX10_man_172
set_option maxHeartbeats 1000000 in
set_option maxRecDepth 20000 in
theorem c_Mod_man {X : z_X} {l : Launch} {o : z_G} (x1 : Int32) (x2 : Int32) (g : z_G) (r : Int32) (h : s_Mod_man x1 x2 g = some r) : z_MI X l 80 yX10_man cX10_man 3 (some .int) 2 46 [.ref (z_ad X 71), .int x1, .int x2] o g o g r := by
  unfold s_Mod_man at h
  refine z_meti (ty := .int) rfl rfl (by decide) (Nat.le_of_ble_eq_true rfl) (fun E hl hE hret => ?_)
  subst hl
  refine z_aload_n hE 0 dX10_man_0 rfl ?_
  refine z_iload_n hE 1 dX10_man_1 rfl ?_
  refine z_iV (rest := []) (av := [.int x1]) hE (c_Mod_isMan x1 g) l_RX10_113 (by decide) (by decide) e_71 rfl ⟨by decide, by decide⟩ dX10_man_2 rfl (Nat.le_of_ble_eq_true rfl) ?_
  refine z_if_eq hE 20 dX10_man_5 rfl (fun c21q => ?_) (fun c21q => ?_)
  · replace h := z_t c21q h
    refine z_sub [] [] rfl ?_
    exact b_Mod_man_b20 hE hret h
  · replace h := z_f c21q h
    refine z_iload_n hE 2 dX10_man_8 rfl ?_
    refine z_i2l hE dX10_man_9 ?_
    refine z_lconst (v := 0) hE dX10_man_10 rfl ?_
    refine z_ldc2 hE dX10_man_11 w_455 ?_
    refine z_iS (rest := []) (av := [.long (Int32.toInt64 x2), .long 0, .long 8]) hE (c_Mod_in (Int32.toInt64 x2) 0 8 g) l_RX10_60 (by decide) ⟨by decide, by decide⟩ dX10_man_14 rfl (Nat.le_of_ble_eq_true rfl) ?_
    refine z_if_ne hE 22 dX10_man_17 rfl (fun c22q => ?_) (fun c22q => ?_)
    · replace h := z_f c22q h
      refine z_iload_n hE 2 dX10_man_22 rfl ?_
      refine z_if_ne hE 35 dX10_man_23 rfl (fun c23q => ?_) (fun c23q => ?_)
      · replace h := z_f c23q h
        refine z_iload_n hE 2 dX10_man_35 rfl ?_
        refine z_iconst (v := 1) hE dX10_man_36 rfl ?_
        refine z_icmp_ne hE 52 dX10_man_37 rfl (fun c24q => ?_) (fun c24q => ?_)
        · replace h := z_f c24q h
          refine z_iload_n hE 2 dX10_man_52 rfl ?_
          refine z_iconst (v := 2) hE dX10_man_53 rfl ?_
          refine z_icmp_ne hE 69 dX10_man_54 rfl (fun c25q => ?_) (fun c25q => ?_)
          · replace h := z_f c25q h
            refine z_iload_n hE 2 dX10_man_69 rfl ?_
            refine z_iconst (v := 3) hE dX10_man_70 rfl ?_
            refine z_icmp_ne hE 86 dX10_man_71 rfl (fun c26q => ?_) (fun c26q => ?_)
            · replace h := z_f c26q h
              refine z_iload_n hE 2 dX10_man_86 rfl ?_
              refine z_iconst (v := 4) hE dX10_man_87 rfl ?_
              refine z_icmp_ne hE 103 dX10_man_88 rfl (fun c27q => ?_) (fun c27q => ?_)
              · replace h := z_f c27q h
                refine z_iload_n hE 2 dX10_man_103 rfl ?_
                refine z_iconst (v := 5) hE dX10_man_104 rfl ?_
                refine z_icmp_ne hE 120 dX10_man_105 rfl (fun c28q => ?_) (fun c28q => ?_)
                · replace h := z_f c28q h
                  refine z_iload_n hE 2 dX10_man_120 rfl ?_
                  refine z_bipush (v := 6) hE dX10_man_121 rfl ?_
                  refine z_icmp_ne hE 140 dX10_man_123 rfl (fun c29q => ?_) (fun c29q => ?_)
                  · replace h := z_f c29q h
                    refine z_iload_n hE 2 dX10_man_140 rfl ?_
                    refine z_bipush (v := 7) hE dX10_man_141 rfl ?_
                    refine z_icmp_ne hE 158 dX10_man_143 rfl (fun c30q => ?_) (fun c30q => ?_)
                    · replace h := z_f c30q h
                      refine z_aload_n hE 0 dX10_man_158 rfl ?_
                      refine z_iconst (v := 0) hE dX10_man_159 rfl ?_
                      refine z_iload_n hE 1 dX10_man_160 rfl ?_
                      obtain ⟨r31q, hr31q, h⟩ := z_bind_some h
                      refine z_iV (rest := []) (av := [.int 0, .int x1]) hE (c_Mod_isHome 0 x1 g r31q hr31q) l_RX10_119 (by decide) (by decide) e_71 rfl ⟨by decide, by decide⟩ dX10_man_161 rfl (Nat.le_of_ble_eq_true rfl) ?_
                      refine z_if_eq hE 171 dX10_man_164 rfl (fun c32q => ?_) (fun c32q => ?_)
                      · replace h := z_t c32q h
                        refine z_sub [] [] rfl ?_
                        exact b_Mod_man_b171 hE hret h
                      · replace h := z_f c32q h
                        refine z_sub [] [] rfl ?_
                        exact b_Mod_man_b167 hE hret h
                    · replace h := z_t c30q h
                      refine z_aload_n hE 0 dX10_man_146 rfl ?_
                      refine z_iconst (v := 0) hE dX10_man_147 rfl ?_
                      refine z_iload_n hE 1 dX10_man_148 rfl ?_
                      obtain ⟨r33q, hr33q, h⟩ := z_bind_some h
                      refine z_iV (rest := []) (av := [.int 0, .int x1]) hE (c_Mod_isLost 0 x1 g r33q hr33q) l_RX10_109 (by decide) (by decide) e_71 rfl ⟨by decide, by decide⟩ dX10_man_149 rfl (Nat.le_of_ble_eq_true rfl) ?_
                      refine z_if_eq hE 171 dX10_man_152 rfl (fun c34q => ?_) (fun c34q => ?_)
                      · replace h := z_t c34q h
                        refine z_sub [] [] rfl ?_
                        exact b_Mod_man_b171 hE hret h
                      · replace h := z_f c34q h
                        refine z_goto hE 167 dX10_man_155 rfl ?_
                        refine z_sub [] [] rfl ?_
                        exact b_Mod_man_b167 hE hret h
                  · replace h := z_t c29q h
                    refine z_aload_n hE 0 dX10_man_126 rfl ?_
                    refine z_get hE f_RX10_13 (by decide) e_71 rfl dX10_man_127 ?_
                    refine z_bipush (v := 24) hE dX10_man_130 rfl ?_
                    refine z_iald hE (by decide) e_73 (by decide) dX10_man_132 ?_
                    refine z_iload_n hE 1 dX10_man_133 rfl ?_
                    refine z_ishr hE dX10_man_134 ?_
                    refine z_iconst (v := 1) hE dX10_man_135 rfl ?_
                    refine z_iand hE dX10_man_136 ?_
                    refine z_goto hE 172 dX10_man_137 rfl ?_
                    obtain rfl := Option.some.inj h
                    exact hret _ _ dX10_man_172
                · replace h := z_t c28q h
                  refine z_aload_n hE 0 dX10_man_108 rfl ?_
                  refine z_get hE f_RX10_7 (by decide) e_71 rfl dX10_man_109 ?_
                  refine z_bipush (v := 17) hE dX10_man_112 rfl ?_
                  refine z_iload_n hE 1 dX10_man_114 rfl ?_
                  refine z_iadd hE dX10_man_115 ?_
                  obtain ⟨k35q, h⟩ := z_ck_some h
                  refine z_iald hE (by decide) e_72 k35q dX10_man_116 ?_
                  refine z_goto hE 172 dX10_man_117 rfl ?_
                  obtain rfl := Option.some.inj h
                  exact hret _ _ dX10_man_172
              · replace h := z_t c27q h
                refine z_aload_n hE 0 dX10_man_91 rfl ?_
                refine z_get hE f_RX10_13 (by decide) e_71 rfl dX10_man_92 ?_
                refine z_bipush (v := 18) hE dX10_man_95 rfl ?_
                refine z_iload_n hE 1 dX10_man_97 rfl ?_
                refine z_iadd hE dX10_man_98 ?_
                obtain ⟨k36q, h⟩ := z_ck_some h
                refine z_iald hE (by decide) e_73 k36q dX10_man_99 ?_
                refine z_goto hE 172 dX10_man_100 rfl ?_
                obtain rfl := Option.some.inj h
                exact hret _ _ dX10_man_172
            · replace h := z_t c26q h
              refine z_aload_n hE 0 dX10_man_74 rfl ?_
              refine z_get hE f_RX10_7 (by decide) e_71 rfl dX10_man_75 ?_
              refine z_bipush (v := 11) hE dX10_man_78 rfl ?_
              refine z_iload_n hE 1 dX10_man_80 rfl ?_
              refine z_iadd hE dX10_man_81 ?_
              obtain ⟨k37q, h⟩ := z_ck_some h
              refine z_iald hE (by decide) e_72 k37q dX10_man_82 ?_
              refine z_goto hE 172 dX10_man_83 rfl ?_
              obtain rfl := Option.some.inj h
              exact hret _ _ dX10_man_172
          · replace h := z_t c25q h
            refine z_aload_n hE 0 dX10_man_57 rfl ?_
            refine z_get hE f_RX10_13 (by decide) e_71 rfl dX10_man_58 ?_
            refine z_bipush (v := 12) hE dX10_man_61 rfl ?_
            refine z_iload_n hE 1 dX10_man_63 rfl ?_
            refine z_iadd hE dX10_man_64 ?_
            obtain ⟨k38q, h⟩ := z_ck_some h
            refine z_iald hE (by decide) e_73 k38q dX10_man_65 ?_
            refine z_goto hE 172 dX10_man_66 rfl ?_
            obtain rfl := Option.some.inj h
            exact hret _ _ dX10_man_172
        · replace h := z_t c24q h
          refine z_aload_n hE 0 dX10_man_40 rfl ?_
          refine z_get hE f_RX10_13 (by decide) e_71 rfl dX10_man_41 ?_
          refine z_bipush (v := 6) hE dX10_man_44 rfl ?_
          refine z_iload_n hE 1 dX10_man_46 rfl ?_
          refine z_iadd hE dX10_man_47 ?_
          obtain ⟨k39q, h⟩ := z_ck_some h
          refine z_iald hE (by decide) e_73 k39q dX10_man_48 ?_
          refine z_goto hE 172 dX10_man_49 rfl ?_
          obtain rfl := Option.some.inj h
          exact hret _ _ dX10_man_172
      · replace h := z_t c23q h
        refine z_aload_n hE 0 dX10_man_26 rfl ?_
        refine z_get hE f_RX10_13 (by decide) e_71 rfl dX10_man_27 ?_
        refine z_iload_n hE 1 dX10_man_30 rfl ?_
        obtain ⟨k40q, h⟩ := z_ck_some h
        refine z_iald hE (by decide) e_73 k40q dX10_man_31 ?_
        refine z_goto hE 172 dX10_man_32 rfl ?_
        obtain rfl := Option.some.inj h
        exact hret _ _ dX10_man_172
    · replace h := z_t c22q h
      refine z_sub [] [] rfl ?_
      exact b_Mod_man_b20 hE hret h
theorem dX10_home_0 : decode cX10_home 0 = .ok (.iload_n 1, 1) := by decide +kernel
theorem dX10_home_1 : decode cX10_home 1 = .ok (.i2l, 1) := by decide +kernel
theorem dX10_home_2 : decode cX10_home 2 = .ok (.lconst 0, 1) := by decide +kernel
theorem dX10_home_3 : decode cX10_home 3 = .ok (.aload_n 0, 1) := by decide +kernel
theorem dX10_home_4 : decode cX10_home 4 = .ok (.getfield 7, 3) := by decide +kernel
theorem dX10_home_7 : decode cX10_home 7 = .ok (.bipush 8, 2) := by decide +kernel
theorem dX10_home_9 : decode cX10_home 9 = .ok (.iaload, 1) := by decide +kernel
theorem dX10_home_10 : decode cX10_home 10 = .ok (.iconst 1, 1) := by decide +kernel
theorem dX10_home_11 : decode cX10_home 11 = .ok (.isub, 1) := by decide +kernel
theorem dX10_home_12 : decode cX10_home 12 = .ok (.i2l, 1) := by decide +kernel
theorem dX10_home_13 : decode cX10_home 13 = .ok (.invokestatic 60, 3) := by decide +kernel
theorem dX10_home_16 : decode cX10_home 16 = .ok (.ifCond .eq 26, 3) := by decide +kernel
theorem dX10_home_19 : decode cX10_home 19 = .ok (.iload_n 2, 1) := by decide +kernel
theorem dX10_home_20 : decode cX10_home 20 = .ok (.i2l, 1) := by decide +kernel
theorem dX10_home_21 : decode cX10_home 21 = .ok (.lconst 0, 1) := by decide +kernel
theorem dX10_home_22 : decode cX10_home 22 = .ok (.lconst 1, 1) := by decide +kernel
theorem dX10_home_23 : decode cX10_home 23 = .ok (.invokestatic 60, 3) := by decide +kernel
theorem dX10_home_26 : decode cX10_home 26 = .ok (.ifCond .eq 16, 3) := by decide +kernel
theorem dX10_home_29 : decode cX10_home 29 = .ok (.aload_n 0, 1) := by decide +kernel
theorem dX10_home_30 : decode cX10_home 30 = .ok (.getfield 7, 3) := by decide +kernel
theorem dX10_home_33 : decode cX10_home 33 = .ok (.iconst 4, 1) := by decide +kernel
theorem dX10_home_34 : decode cX10_home 34 = .ok (.iload_n 2, 1) := by decide +kernel
theorem dX10_home_35 : decode cX10_home 35 = .ok (.imul, 1) := by decide +kernel
theorem dX10_home_36 : decode cX10_home 36 = .ok (.iload_n 1, 1) := by decide +kernel
theorem dX10_home_37 : decode cX10_home 37 = .ok (.iadd, 1) := by decide +kernel
theorem dX10_home_38 : decode cX10_home 38 = .ok (.iaload, 1) := by decide +kernel
theorem dX10_home_39 : decode cX10_home 39 = .ok (.goto 4, 3) := by decide +kernel
theorem dX10_home_42 : decode cX10_home 42 = .ok (.iconst (-1), 1) := by decide +kernel
theorem dX10_home_43 : decode cX10_home 43 = .ok (.ireturn, 1) := by decide +kernel
def s_Mod_home_b42 (g : z_G) : Option (Int32) := (some (-1))
def s_Mod_home (x1 : Int32) (x2 : Int32) (g : z_G) : Option (Int32) := (if (s_Mod_in (Int32.toInt64 x1) 0 (Int32.toInt64 ((z_rd g 1 8) - 1))) = 0 then (s_Mod_home_b42 g) else (if (s_Mod_in (Int32.toInt64 x2) 0 1) = 0 then (s_Mod_home_b42 g) else (z_ck (z_inb ((4 * x2) + x1) 120) (some (z_rd g 1 ((4 * x2) + x1))))))
set_option maxHeartbeats 1000000 in
set_option maxRecDepth 20000 in
theorem b_Mod_home_b42 {X : z_X} {E : z_ET} {o : z_G} (hE : z_EV X E cX10_home 3 RX10 1 25 80) {g : z_G} {r : Int32} (hret : ∀ (pc : Nat) (lv : List (Nat × Value)), decode cX10_home pc = .ok (.ireturn, 1) → z_V X E 3 o g pc lv [.int r])   (h : s_Mod_home_b42 g = some r) : z_V X E 3 o g 42 [] [] := by
  unfold s_Mod_home_b42 at h
  refine z_iconst (v := (-1)) hE dX10_home_42 rfl ?_
  obtain rfl := Option.some.inj h
  exact hret _ _ dX10_home_43
set_option maxHeartbeats 1000000 in
set_option maxRecDepth 20000 in
theorem c_Mod_home {X : z_X} {l : Launch} {o : z_G} (x1 : Int32) (x2 : Int32) (g : z_G) (r : Int32) (h : s_Mod_home x1 x2 g = some r) : z_MI X l 80 yX10_home cX10_home 3 (some .int) 1 25 [.ref (z_ad X 71), .int x1, .int x2] o g o g r := by
  unfold s_Mod_home at h
  refine z_meti (ty := .int) rfl rfl (by decide) (Nat.le_of_ble_eq_true rfl) (fun E hl hE hret => ?_)
  subst hl
  refine z_iload_n hE 1 dX10_home_0 rfl ?_
  refine z_i2l hE dX10_home_1 ?_
  refine z_lconst (v := 0) hE dX10_home_2 rfl ?_
  refine z_aload_n hE 0 dX10_home_3 rfl ?_
  refine z_get hE f_RX10_7 (by decide) e_71 rfl dX10_home_4 ?_
  refine z_bipush (v := 8) hE dX10_home_7 rfl ?_
  refine z_iald hE (by decide) e_72 (by decide) dX10_home_9 ?_
  refine z_iconst (v := 1) hE dX10_home_10 rfl ?_
  refine z_isub hE dX10_home_11 ?_
  refine z_i2l hE dX10_home_12 ?_
  refine z_iS (rest := []) (av := [.long (Int32.toInt64 x1), .long 0, .long (Int32.toInt64 ((z_rd g 1 8) - 1))]) hE (c_Mod_in (Int32.toInt64 x1) 0 (Int32.toInt64 ((z_rd g 1 8) - 1)) g) l_RX10_60 (by decide) ⟨by decide, by decide⟩ dX10_home_13 rfl (Nat.le_of_ble_eq_true rfl) ?_
  refine z_if_eq hE 42 dX10_home_16 rfl (fun c4q => ?_) (fun c4q => ?_)
  · replace h := z_t c4q h
    refine z_sub [] [] rfl ?_
    exact b_Mod_home_b42 hE hret h
  · replace h := z_f c4q h
    refine z_iload_n hE 2 dX10_home_19 rfl ?_
    refine z_i2l hE dX10_home_20 ?_
    refine z_lconst (v := 0) hE dX10_home_21 rfl ?_
    refine z_lconst (v := 1) hE dX10_home_22 rfl ?_
    refine z_iS (rest := []) (av := [.long (Int32.toInt64 x2), .long 0, .long 1]) hE (c_Mod_in (Int32.toInt64 x2) 0 1 g) l_RX10_60 (by decide) ⟨by decide, by decide⟩ dX10_home_23 rfl (Nat.le_of_ble_eq_true rfl) ?_
    refine z_if_eq hE 42 dX10_home_26 rfl (fun c5q => ?_) (fun c5q => ?_)
    · replace h := z_t c5q h
      refine z_sub [] [] rfl ?_
      exact b_Mod_home_b42 hE hret h
    · replace h := z_f c5q h
      refine z_aload_n hE 0 dX10_home_29 rfl ?_
      refine z_get hE f_RX10_7 (by decide) e_71 rfl dX10_home_30 ?_
      refine z_iconst (v := 4) hE dX10_home_33 rfl ?_
      refine z_iload_n hE 2 dX10_home_34 rfl ?_
      refine z_imul hE dX10_home_35 ?_
      refine z_iload_n hE 1 dX10_home_36 rfl ?_
      refine z_iadd hE dX10_home_37 ?_
      obtain ⟨k6q, h⟩ := z_ck_some h
      refine z_iald hE (by decide) e_72 k6q dX10_home_38 ?_
      refine z_goto hE 43 dX10_home_39 rfl ?_
      obtain rfl := Option.some.inj h
      exact hret _ _ dX10_home_43
