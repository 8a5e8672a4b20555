theorem dX10_goes_0 : decode cX10_goes 0 = .ok (.aload_n 0, 1) := by decide +kernel
theorem dX10_goes_1 : decode cX10_goes 1 = .ok (.iload_n 3, 1) := by decide +kernel
theorem dX10_goes_2 : decode cX10_goes 2 = .ok (.iload 4, 2) := by decide +kernel
theorem dX10_goes_4 : decode cX10_goes 4 = .ok (.invokevirtual 144, 3) := by decide +kernel
theorem dX10_goes_7 : decode cX10_goes 7 = .ok (.aload_n 0, 1) := by decide +kernel
theorem dX10_goes_8 : decode cX10_goes 8 = .ok (.dup, 1) := by decide +kernel
theorem dX10_goes_9 : decode cX10_goes 9 = .ok (.getfield 141, 3) := by decide +kernel
theorem dX10_goes_12 : decode cX10_goes 12 = .ok (.iconst 1, 1) := by decide +kernel
theorem dX10_goes_13 : decode cX10_goes 13 = .ok (.iadd, 1) := by decide +kernel
theorem dX10_goes_14 : decode cX10_goes 14 = .ok (.putfield 141, 3) := by decide +kernel
theorem dX10_goes_17 : decode cX10_goes 17 = .ok (.aload_n 0, 1) := by decide +kernel
theorem dX10_goes_18 : decode cX10_goes 18 = .ok (.getfield 7, 3) := by decide +kernel
theorem dX10_goes_21 : decode cX10_goes 21 = .ok (.bipush 11, 2) := by decide +kernel
theorem dX10_goes_23 : decode cX10_goes 23 = .ok (.iload_n 2, 1) := by decide +kernel
theorem dX10_goes_24 : decode cX10_goes 24 = .ok (.iadd, 1) := by decide +kernel
theorem dX10_goes_25 : decode cX10_goes 25 = .ok (.iaload, 1) := by decide +kernel
theorem dX10_goes_26 : decode cX10_goes 26 = .ok (.istore 5, 2) := by decide +kernel
theorem dX10_goes_28 : decode cX10_goes 28 = .ok (.aload_n 0, 1) := by decide +kernel
theorem dX10_goes_29 : decode cX10_goes 29 = .ok (.getfield 13, 3) := by decide +kernel
theorem dX10_goes_32 : decode cX10_goes 32 = .ok (.iload_n 1, 1) := by decide +kernel
theorem dX10_goes_33 : decode cX10_goes 33 = .ok (.bipush 24, 2) := by decide +kernel
theorem dX10_goes_35 : decode cX10_goes 35 = .ok (.iadd, 1) := by decide +kernel
theorem dX10_goes_36 : decode cX10_goes 36 = .ok (.iaload, 1) := by decide +kernel
theorem dX10_goes_37 : decode cX10_goes 37 = .ok (.iload_n 2, 1) := by decide +kernel
theorem dX10_goes_38 : decode cX10_goes 38 = .ok (.invokestatic 148, 3) := by decide +kernel
theorem dX10_goes_41 : decode cX10_goes 41 = .ok (.ifCond .ne 52, 3) := by decide +kernel
theorem dX10_goes_44 : decode cX10_goes 44 = .ok (.aload_n 0, 1) := by decide +kernel
theorem dX10_goes_45 : decode cX10_goes 45 = .ok (.getfield 13, 3) := by decide +kernel
theorem dX10_goes_48 : decode cX10_goes 48 = .ok (.iload_n 1, 1) := by decide +kernel
theorem dX10_goes_49 : decode cX10_goes 49 = .ok (.bipush 18, 2) := by decide +kernel
theorem dX10_goes_51 : decode cX10_goes 51 = .ok (.iadd, 1) := by decide +kernel
theorem dX10_goes_52 : decode cX10_goes 52 = .ok (.iload_n 2, 1) := by decide +kernel
theorem dX10_goes_53 : decode cX10_goes 53 = .ok (.iadd, 1) := by decide +kernel
theorem dX10_goes_54 : decode cX10_goes 54 = .ok (.iaload, 1) := by decide +kernel
theorem dX10_goes_55 : decode cX10_goes 55 = .ok (.iload 5, 2) := by decide +kernel
theorem dX10_goes_57 : decode cX10_goes 57 = .ok (.if_icmp .ne 36, 3) := by decide +kernel
theorem dX10_goes_60 : decode cX10_goes 60 = .ok (.aload_n 0, 1) := by decide +kernel
theorem dX10_goes_61 : decode cX10_goes 61 = .ok (.aload_n 0, 1) := by decide +kernel
theorem dX10_goes_62 : decode cX10_goes 62 = .ok (.getfield 141, 3) := by decide +kernel
theorem dX10_goes_65 : decode cX10_goes 65 = .ok (.aload_n 0, 1) := by decide +kernel
theorem dX10_goes_66 : decode cX10_goes 66 = .ok (.getfield 7, 3) := by decide +kernel
theorem dX10_goes_69 : decode cX10_goes 69 = .ok (.bipush 17, 2) := by decide +kernel
theorem dX10_goes_71 : decode cX10_goes 71 = .ok (.iload_n 2, 1) := by decide +kernel
theorem dX10_goes_72 : decode cX10_goes 72 = .ok (.iadd, 1) := by decide +kernel
theorem dX10_goes_73 : decode cX10_goes 73 = .ok (.iaload, 1) := by decide +kernel
theorem dX10_goes_74 : decode cX10_goes 74 = .ok (.aload_n 0, 1) := by decide +kernel
theorem dX10_goes_75 : decode cX10_goes 75 = .ok (.getfield 7, 3) := by decide +kernel
theorem dX10_goes_78 : decode cX10_goes 78 = .ok (.iload 5, 2) := by decide +kernel
theorem dX10_goes_80 : decode cX10_goes 80 = .ok (.iaload, 1) := by decide +kernel
theorem dX10_goes_81 : decode cX10_goes 81 = .ok (.aload_n 0, 1) := by decide +kernel
theorem dX10_goes_82 : decode cX10_goes 82 = .ok (.getfield 7, 3) := by decide +kernel
theorem dX10_goes_85 : decode cX10_goes 85 = .ok (.iconst 4, 1) := by decide +kernel
theorem dX10_goes_86 : decode cX10_goes 86 = .ok (.iload 5, 2) := by decide +kernel
theorem dX10_goes_88 : decode cX10_goes 88 = .ok (.iadd, 1) := by decide +kernel
theorem dX10_goes_89 : decode cX10_goes 89 = .ok (.iaload, 1) := by decide +kernel
theorem dX10_goes_90 : decode cX10_goes 90 = .ok (.invokevirtual 151, 3) := by decide +kernel
theorem dX10_goes_93 : decode cX10_goes 93 = .ok (.return_, 1) := by decide +kernel
def s_Mod_goes (x1 : Int32) (x2 : Int32) (x3 : Int32) (x4 : Int32) (g : z_G) : Option (z_G) := (Option.bind (s_Mod_marches x3 x4 g) fun r12q => (z_let (α := z_G) (z_up r12q 0 16 ((r12q 0 16) + 1)) fun g13q => (z_ck (z_inb (11 + x2) 120) (z_let (α := Int32) ((z_rd g13q 1 (11 + x2))) fun v15q => (z_ck (z_inb (x1 + 24) 312) (if (s_Mod_has (z_rd g13q 2 (x1 + 24)) x2) = 0 then (z_ck (z_inb ((x1 + 18) + x2) 312) (if (z_rd g13q 2 ((x1 + 18) + x2)) = v15q then (z_ck (z_inb (17 + x2) 120) (z_ck (z_inb v15q 120) (z_ck (z_inb (4 + v15q) 120) (some (s_Mod_halts (g13q 0 16) (z_rd g13q 1 (17 + x2)) (z_rd g13q 1 v15q) (z_rd g13q 1 (4 + v15q)) g13q))))) else (some g13q))) else (some g13q)))))))
set_option maxHeartbeats 1000000 in
set_option maxRecDepth 20000 in
theorem c_Mod_goes {X : z_X} {l : Launch} {o : z_G} (x1 : Int32) (x2 : Int32) (x3 : Int32) (x4 : Int32) (g : z_G) (r : z_G) (h : s_Mod_goes x1 x2 x3 x4 g = some r) : z_MV X l 80 yX10_goes cX10_goes 6 none 3 74 [.ref (z_ad X 71), .int x1, .int x2, .int x3, .int x4] o g o r := by
  unfold s_Mod_goes at h
  refine z_metv (by decide) (Nat.le_of_ble_eq_true rfl) (fun E hl hE hret => ?_)
  subst hl
  refine z_aload_n hE 0 dX10_goes_0 rfl ?_
  refine z_iload_n hE 3 dX10_goes_1 rfl ?_
  refine z_iload hE 4 dX10_goes_2 rfl ?_
  obtain ⟨r12q, hr12q, h⟩ := z_bind_some h
  refine z_vV (rest := []) (av := [.int x3, .int x4]) hE (c_Mod_marches x3 x4 g r12q hr12q) l_RX10_144 (by decide) (by decide) e_71 rfl ⟨by decide, by decide⟩ dX10_goes_4 rfl (Nat.le_of_ble_eq_true rfl) ?_
  refine z_aload_n hE 0 dX10_goes_7 rfl ?_
  refine z_dup hE dX10_goes_8 rfl ?_
  refine z_get hE f_RX10_141 (by decide) e_71 rfl dX10_goes_9 ?_
  refine z_iconst (v := 1) hE dX10_goes_12 rfl ?_
  refine z_iadd hE dX10_goes_13 ?_
  obtain ⟨g13q, eg13q, h⟩ := z_let_eq h
  refine z_put hE f_RX10_141 ft_10 (by decide) e_71 rfl (tyX10_ok 16 (by decide)) rfl rfl (Nat.le_of_ble_eq_true rfl) (u_71_16 eg13q) dX10_goes_14 ?_
  refine z_aload_n hE 0 dX10_goes_17 rfl ?_
  refine z_get hE f_RX10_7 (by decide) e_71 rfl dX10_goes_18 ?_
  refine z_bipush (v := 11) hE dX10_goes_21 rfl ?_
  refine z_iload_n hE 2 dX10_goes_23 rfl ?_
  refine z_iadd hE dX10_goes_24 ?_
  obtain ⟨k14q, h⟩ := z_ck_some h
  refine z_iald hE (by decide) e_72 k14q dX10_goes_25 ?_
  obtain ⟨v15q, ev15q, h⟩ := z_let_eq h
  refine z_topi ev15q ?_
  refine z_istore hE [(5, .int v15q), (0, .ref (z_ad X 71)), (1, .int x1), (2, .int x2), (3, .int x3), (4, .int x4)] dX10_goes_26 (by decide) rfl ?_
  refine z_aload_n hE 1 dX10_goes_28 rfl ?_
  refine z_get hE f_RX10_13 (by decide) e_71 rfl dX10_goes_29 ?_
  refine z_iload_n hE 2 dX10_goes_32 rfl ?_
  refine z_bipush (v := 24) hE dX10_goes_33 rfl ?_
  refine z_iadd hE dX10_goes_35 ?_
  obtain ⟨k16q, h⟩ := z_ck_some h
  refine z_iald hE (by decide) e_73 k16q dX10_goes_36 ?_
  refine z_iload_n hE 3 dX10_goes_37 rfl ?_
  refine z_iS (rest := []) (av := [.int (z_rd g13q 2 (x1 + 24)), .int x2]) hE (c_Mod_has (z_rd g13q 2 (x1 + 24)) x2 g13q) l_RX10_148 (by decide) ⟨by decide, by decide⟩ dX10_goes_38 rfl (Nat.le_of_ble_eq_true rfl) ?_
  refine z_if_ne hE 93 dX10_goes_41 rfl (fun c17q => ?_) (fun c17q => ?_)
  · replace h := z_f c17q h
    obtain rfl := Option.some.inj h
    exact hret _ _ dX10_goes_93
  · replace h := z_t c17q h
    refine z_aload_n hE 1 dX10_goes_44 rfl ?_
    refine z_get hE f_RX10_13 (by decide) e_71 rfl dX10_goes_45 ?_
    refine z_iload_n hE 2 dX10_goes_48 rfl ?_
    refine z_bipush (v := 18) hE dX10_goes_49 rfl ?_
    refine z_iadd hE dX10_goes_51 ?_
    refine z_iload_n hE 3 dX10_goes_52 rfl ?_
    refine z_iadd hE dX10_goes_53 ?_
    obtain ⟨k18q, h⟩ := z_ck_some h
    refine z_iald hE (by decide) e_73 k18q dX10_goes_54 ?_
    refine z_iload hE 0 dX10_goes_55 rfl ?_
    refine z_icmp_ne hE 93 dX10_goes_57 rfl (fun c19q => ?_) (fun c19q => ?_)
    · replace h := z_f c19q h
      obtain rfl := Option.some.inj h
      exact hret _ _ dX10_goes_93
    · replace h := z_t c19q h
      refine z_aload_n hE 1 dX10_goes_60 rfl ?_
      refine z_aload_n hE 1 dX10_goes_61 rfl ?_
      refine z_get hE f_RX10_141 (by decide) e_71 rfl dX10_goes_62 ?_
      refine z_aload_n hE 1 dX10_goes_65 rfl ?_
      refine z_get hE f_RX10_7 (by decide) e_71 rfl dX10_goes_66 ?_
      refine z_bipush (v := 17) hE dX10_goes_69 rfl ?_
      refine z_iload_n hE 3 dX10_goes_71 rfl ?_
      refine z_iadd hE dX10_goes_72 ?_
      obtain ⟨k20q, h⟩ := z_ck_some h
      refine z_iald hE (by decide) e_72 k20q dX10_goes_73 ?_
      refine z_aload_n hE 1 dX10_goes_74 rfl ?_
      refine z_get hE f_RX10_7 (by decide) e_71 rfl dX10_goes_75 ?_
      refine z_iload hE 0 dX10_goes_78 rfl ?_
      obtain ⟨k21q, h⟩ := z_ck_some h
      refine z_iald hE (by decide) e_72 k21q dX10_goes_80 ?_
      refine z_aload_n hE 1 dX10_goes_81 rfl ?_
      refine z_get hE f_RX10_7 (by decide) e_71 rfl dX10_goes_82 ?_
      refine z_iconst (v := 4) hE dX10_goes_85 rfl ?_
      refine z_iload hE 0 dX10_goes_86 rfl ?_
      refine z_iadd hE dX10_goes_88 ?_
      obtain ⟨k22q, h⟩ := z_ck_some h
      refine z_iald hE (by decide) e_72 k22q dX10_goes_89 ?_
      refine z_vV (rest := []) (av := [.int (g13q 0 16), .int (z_rd g13q 1 (17 + x2)), .int (z_rd g13q 1 v15q), .int (z_rd g13q 1 (4 + v15q))]) hE (c_Mod_halts (g13q 0 16) (z_rd g13q 1 (17 + x2)) (z_rd g13q 1 v15q) (z_rd g13q 1 (4 + v15q)) g13q) l_RX10_151 (by decide) (by decide) e_71 rfl ⟨by decide, by decide⟩ dX10_goes_90 rfl (Nat.le_of_ble_eq_true rfl) ?_
      obtain rfl := Option.some.inj h
      exact hret _ _ dX10_goes_93
theorem dX10_orders_0 : decode cX10_orders 0 = .ok (.iconst 0, 1) := by decide +kernel
theorem dX10_orders_1 : decode cX10_orders 1 = .ok (.istore 4, 2) := by decide +kernel
theorem dX10_orders_3 : decode cX10_orders 3 = .ok (.iload 4, 2) := by decide +kernel
theorem dX10_orders_5 : decode cX10_orders 5 = .ok (.aload_n 0, 1) := by decide +kernel
theorem dX10_orders_6 : decode cX10_orders 6 = .ok (.invokevirtual 56, 3) := by decide +kernel
theorem dX10_orders_9 : decode cX10_orders 9 = .ok (.if_icmp .ge 70, 3) := by decide +kernel
theorem dX10_orders_12 : decode cX10_orders 12 = .ok (.aload_n 0, 1) := by decide +kernel
theorem dX10_orders_13 : decode cX10_orders 13 = .ok (.iload_n 1, 1) := by decide +kernel
theorem dX10_orders_14 : decode cX10_orders 14 = .ok (.iload 4, 2) := by decide +kernel
theorem dX10_orders_16 : decode cX10_orders 16 = .ok (.invokevirtual 155, 3) := by decide +kernel
theorem dX10_orders_19 : decode cX10_orders 19 = .ok (.aload_n 0, 1) := by decide +kernel
theorem dX10_orders_20 : decode cX10_orders 20 = .ok (.iload_n 1, 1) := by decide +kernel
theorem dX10_orders_21 : decode cX10_orders 21 = .ok (.iload 4, 2) := by decide +kernel
theorem dX10_orders_23 : decode cX10_orders 23 = .ok (.iload_n 2, 1) := by decide +kernel
theorem dX10_orders_24 : decode cX10_orders 24 = .ok (.iload_n 3, 1) := by decide +kernel
theorem dX10_orders_25 : decode cX10_orders 25 = .ok (.invokevirtual 158, 3) := by decide +kernel
theorem dX10_orders_28 : decode cX10_orders 28 = .ok (.aload_n 0, 1) := by decide +kernel
theorem dX10_orders_29 : decode cX10_orders 29 = .ok (.getfield 13, 3) := by decide +kernel
theorem dX10_orders_32 : decode cX10_orders 32 = .ok (.iload_n 1, 1) := by decide +kernel
theorem dX10_orders_33 : decode cX10_orders 33 = .ok (.iload 4, 2) := by decide +kernel
theorem dX10_orders_35 : decode cX10_orders 35 = .ok (.iadd, 1) := by decide +kernel
theorem dX10_orders_36 : decode cX10_orders 36 = .ok (.aload_n 0, 1) := by decide +kernel
theorem dX10_orders_37 : decode cX10_orders 37 = .ok (.getfield 135, 3) := by decide +kernel
theorem dX10_orders_40 : decode cX10_orders 40 = .ok (.iastore, 1) := by decide +kernel
theorem dX10_orders_41 : decode cX10_orders 41 = .ok (.aload_n 0, 1) := by decide +kernel
theorem dX10_orders_42 : decode cX10_orders 42 = .ok (.getfield 13, 3) := by decide +kernel
theorem dX10_orders_45 : decode cX10_orders 45 = .ok (.iload_n 1, 1) := by decide +kernel
theorem dX10_orders_46 : decode cX10_orders 46 = .ok (.bipush 6, 2) := by decide +kernel
theorem dX10_orders_48 : decode cX10_orders 48 = .ok (.iadd, 1) := by decide +kernel
theorem dX10_orders_49 : decode cX10_orders 49 = .ok (.iload 4, 2) := by decide +kernel
theorem dX10_orders_51 : decode cX10_orders 51 = .ok (.iadd, 1) := by decide +kernel
theorem dX10_orders_52 : decode cX10_orders 52 = .ok (.aload_n 0, 1) := by decide +kernel
theorem dX10_orders_53 : decode cX10_orders 53 = .ok (.getfield 138, 3) := by decide +kernel
theorem dX10_orders_56 : decode cX10_orders 56 = .ok (.iastore, 1) := by decide +kernel
theorem dX10_orders_57 : decode cX10_orders 57 = .ok (.aload_n 0, 1) := by decide +kernel
theorem dX10_orders_58 : decode cX10_orders 58 = .ok (.getfield 13, 3) := by decide +kernel
theorem dX10_orders_61 : decode cX10_orders 61 = .ok (.iload_n 1, 1) := by decide +kernel
theorem dX10_orders_62 : decode cX10_orders 62 = .ok (.bipush 12, 2) := by decide +kernel
theorem dX10_orders_64 : decode cX10_orders 64 = .ok (.iadd, 1) := by decide +kernel
theorem dX10_orders_65 : decode cX10_orders 65 = .ok (.iload 4, 2) := by decide +kernel
theorem dX10_orders_67 : decode cX10_orders 67 = .ok (.iadd, 1) := by decide +kernel
theorem dX10_orders_68 : decode cX10_orders 68 = .ok (.aload_n 0, 1) := by decide +kernel
theorem dX10_orders_69 : decode cX10_orders 69 = .ok (.getfield 128, 3) := by decide +kernel
theorem dX10_orders_72 : decode cX10_orders 72 = .ok (.iastore, 1) := by decide +kernel
theorem dX10_orders_73 : decode cX10_orders 73 = .ok (.iinc 4 1, 3) := by decide +kernel
theorem dX10_orders_76 : decode cX10_orders 76 = .ok (.goto (-73), 3) := by decide +kernel
theorem dX10_orders_79 : decode cX10_orders 79 = .ok (.aload_n 0, 1) := by decide +kernel
theorem dX10_orders_80 : decode cX10_orders 80 = .ok (.getfield 13, 3) := by decide +kernel
theorem dX10_orders_83 : decode cX10_orders 83 = .ok (.iload_n 1, 1) := by decide +kernel
theorem dX10_orders_84 : decode cX10_orders 84 = .ok (.bipush 25, 2) := by decide +kernel
theorem dX10_orders_86 : decode cX10_orders 86 = .ok (.iadd, 1) := by decide +kernel
theorem dX10_orders_87 : decode cX10_orders 87 = .ok (.dup2, 1) := by decide +kernel
theorem dX10_orders_88 : decode cX10_orders 88 = .ok (.iaload, 1) := by decide +kernel
theorem dX10_orders_89 : decode cX10_orders 89 = .ok (.iconst 1, 1) := by decide +kernel
theorem dX10_orders_90 : decode cX10_orders 90 = .ok (.iadd, 1) := by decide +kernel
theorem dX10_orders_91 : decode cX10_orders 91 = .ok (.iastore, 1) := by decide +kernel
theorem dX10_orders_92 : decode cX10_orders 92 = .ok (.return_, 1) := by decide +kernel
def s_Mod_orders_L3 : Nat → Int32 → Int32 → Int32 → Int32 → z_G → Option (z_G)
  | 0, _, _, _, _, _ => none
  | n + 1, x1, x2, x3, x4, g => (if (s_Mod_men g) ≤ x4 then (z_ck (z_inb (x1 + 25) 312) (z_ck (z_inb (x1 + 25) 312) (z_let (α := z_G) (z_wr g 2 (x1 + 25) ((z_rd g 2 (x1 + 25)) + 1)) fun g16q => (some g16q)))) else (Option.bind (s_Mod_picks x1 x4 g) fun r17q => (Option.bind (s_Mod_goes x1 x4 x2 x3 r17q) fun r18q => (z_ck (z_inb (x1 + x4) 312) (z_let (α := z_G) (z_wr r18q 2 (x1 + x4) (r18q 0 13)) fun g20q => (z_ck (z_inb ((x1 + 6) + x4) 312) (z_let (α := z_G) (z_wr g20q 2 ((x1 + 6) + x4) (g20q 0 14)) fun g22q => (z_ck (z_inb ((x1 + 12) + x4) 312) (z_let (α := z_G) (z_wr g22q 2 ((x1 + 12) + x4) (g22q 0 15)) fun g24q => ((s_Mod_orders_L3 n) x1 x2 x3 (x4 + 1) g24q))))))))))
def s_Mod_orders (x1 : Int32) (x2 : Int32) (x3 : Int32) (g : z_G) : Option (z_G) := (s_Mod_orders_L3 z_F x1 x2 x3 0 g)
set_option maxHeartbeats 1000000 in
set_option maxRecDepth 20000 in
theorem b_Mod_orders_L3 {X : z_X} {E : z_ET} {o : z_G} (hE : z_EV X E cX10_orders 5 RX10 4 99 80) {r : z_G} (hret : ∀ (pc : Nat) (lv : List (Nat × Value)), decode cX10_orders pc = .ok (.return_, 1) → z_V X E 5 o r pc lv []) : ∀ (n : Nat) (x1 : Int32) (x2 : Int32) (x3 : Int32) (x4 : Int32) (g : z_G), s_Mod_orders_L3 n x1 x2 x3 x4 g = some r → z_V X E 5 o g 3 [(0, .ref (z_ad X 71)), (1, .int x1), (2, .int x2), (3, .int x3), (4, .int x4)] [] := by
  intro n
  induction n with
  | zero => intro x1 x2 x3 x4 g h; exact z_none h
  | succ n ih =>
    intro x1 x2 x3 x4 g h
    rw [s_Mod_orders_L3] at h
    refine z_iload hE 4 dX10_orders_3 rfl ?_
    refine z_aload_n hE 0 dX10_orders_5 rfl ?_
    refine z_iV (rest := [.int x4]) (av := []) hE (c_Mod_men g) l_RX10_56 (by decide) (by decide) e_71 rfl ⟨by decide, by decide⟩ dX10_orders_6 rfl (Nat.le_of_ble_eq_true rfl) ?_
    refine z_icmp_ge hE 79 dX10_orders_9 rfl (fun c13q => ?_) (fun c13q => ?_)
    · replace h := z_t c13q h
      refine z_aload_n hE 0 dX10_orders_79 rfl ?_
      refine z_get hE f_RX10_13 (by decide) e_71 rfl dX10_orders_80 ?_
      refine z_iload_n hE 1 dX10_orders_83 rfl ?_
      refine z_bipush (v := 25) hE dX10_orders_84 rfl ?_
      refine z_iadd hE dX10_orders_86 ?_
      refine z_dup2 hE dX10_orders_87 rfl rfl ?_
      obtain ⟨k14q, h⟩ := z_ck_some h
      refine z_iald hE (by decide) e_73 k14q dX10_orders_88 ?_
      refine z_iconst (v := 1) hE dX10_orders_89 rfl ?_
      refine z_iadd hE dX10_orders_90 ?_
      obtain ⟨k15q, h⟩ := z_ck_some h
      obtain ⟨g16q, eg16q, h⟩ := z_let_eq h
      refine z_iast hE (by decide) e_73 k15q (ua_73 eg16q) dX10_orders_91 ?_
      obtain rfl := Option.some.inj h
      exact hret _ _ dX10_orders_92
    · replace h := z_f c13q h
      refine z_aload_n hE 0 dX10_orders_12 rfl ?_
      refine z_iload_n hE 1 dX10_orders_13 rfl ?_
      refine z_iload hE 4 dX10_orders_14 rfl ?_
      obtain ⟨r17q, hr17q, h⟩ := z_bind_some h
      refine z_vV (rest := []) (av := [.int x1, .int x4]) hE (c_Mod_picks x1 x4 g r17q hr17q) l_RX10_155 (by decide) (by decide) e_71 rfl ⟨by decide, by decide⟩ dX10_orders_16 rfl (Nat.le_of_ble_eq_true rfl) ?_
      refine z_aload_n hE 0 dX10_orders_19 rfl ?_
      refine z_iload_n hE 1 dX10_orders_20 rfl ?_
      refine z_iload hE 4 dX10_orders_21 rfl ?_
      refine z_iload_n hE 2 dX10_orders_23 rfl ?_
      refine z_iload_n hE 3 dX10_orders_24 rfl ?_
      obtain ⟨r18q, hr18q, h⟩ := z_bind_some h
      refine z_vV (rest := []) (av := [.int x1, .int x4, .int x2, .int x3]) hE (c_Mod_goes x1 x4 x2 x3 r17q r18q hr18q) l_RX10_158 (by decide) (by decide) e_71 rfl ⟨by decide, by decide⟩ dX10_orders_25 rfl (Nat.le_of_ble_eq_true rfl) ?_
      refine z_aload_n hE 0 dX10_orders_28 rfl ?_
      refine z_get hE f_RX10_13 (by decide) e_71 rfl dX10_orders_29 ?_
      refine z_iload_n hE 1 dX10_orders_32 rfl ?_
      refine z_iload hE 4 dX10_orders_33 rfl ?_
      refine z_iadd hE dX10_orders_35 ?_
      refine z_aload_n hE 0 dX10_orders_36 rfl ?_
      refine z_get hE f_RX10_135 (by decide) e_71 rfl dX10_orders_37 ?_
      obtain ⟨k19q, h⟩ := z_ck_some h
      obtain ⟨g20q, eg20q, h⟩ := z_let_eq h
      refine z_iast hE (by decide) e_73 k19q (ua_73 eg20q) dX10_orders_40 ?_
      refine z_aload_n hE 0 dX10_orders_41 rfl ?_
      refine z_get hE f_RX10_13 (by decide) e_71 rfl dX10_orders_42 ?_
      refine z_iload_n hE 1 dX10_orders_45 rfl ?_
      refine z_bipush (v := 6) hE dX10_orders_46 rfl ?_
      refine z_iadd hE dX10_orders_48 ?_
      refine z_iload hE 4 dX10_orders_49 rfl ?_
      refine z_iadd hE dX10_orders_51 ?_
      refine z_aload_n hE 0 dX10_orders_52 rfl ?_
      refine z_get hE f_RX10_138 (by decide) e_71 rfl dX10_orders_53 ?_
      obtain ⟨k21q, h⟩ := z_ck_some h
      obtain ⟨g22q, eg22q, h⟩ := z_let_eq h
      refine z_iast hE (by decide) e_73 k21q (ua_73 eg22q) dX10_orders_56 ?_
      refine z_aload_n hE 0 dX10_orders_57 rfl ?_
      refine z_get hE f_RX10_13 (by decide) e_71 rfl dX10_orders_58 ?_
      refine z_iload_n hE 1 dX10_orders_61 rfl ?_
      refine z_bipush (v := 12) hE dX10_orders_62 rfl ?_
      refine z_iadd hE dX10_orders_64 ?_
      refine z_iload hE 4 dX10_orders_65 rfl ?_
      refine z_iadd hE dX10_orders_67 ?_
      refine z_aload_n hE 0 dX10_orders_68 rfl ?_
      refine z_get hE f_RX10_128 (by decide) e_71 rfl dX10_orders_69 ?_
      obtain ⟨k23q, h⟩ := z_ck_some h
      obtain ⟨g24q, eg24q, h⟩ := z_let_eq h
      refine z_iast hE (by decide) e_73 k23q (ua_73 eg24q) dX10_orders_72 ?_
      refine z_iinc (v := x4 + 1) hE 4 [(4, .int (x4 + 1)), (0, .ref (z_ad X 71)), (1, .int x1), (2, .int x2), (3, .int x3)] dX10_orders_73 rfl rfl (by decide) rfl ?_
      refine z_goto hE 3 dX10_orders_76 rfl ?_
      refine z_sub [(0, .ref (z_ad X 71)), (1, .int x1), (2, .int x2), (3, .int x3), (4, .int (x4 + 1))] [1, 2, 3, 4, 0] rfl ?_
      exact ih x1 x2 x3 (x4 + 1) g24q h
set_option maxHeartbeats 1000000 in
set_option maxRecDepth 20000 in
theorem c_Mod_orders {X : z_X} {l : Launch} {o : z_G} (x1 : Int32) (x2 : Int32) (x3 : Int32) (g : z_G) (r : z_G) (h : s_Mod_orders x1 x2 x3 g = some r) : z_MV X l 80 yX10_orders cX10_orders 5 none 4 99 [.ref (z_ad X 71), .int x1, .int x2, .int x3] o g o r := by
  unfold s_Mod_orders at h
  refine z_metv (by decide) (Nat.le_of_ble_eq_true rfl) (fun E hl hE hret => ?_)
  subst hl
  refine z_iconst (v := 0) hE dX10_orders_0 rfl ?_
  refine z_istore hE [(4, .int 0), (0, .ref (z_ad X 71)), (1, .int x1), (2, .int x2), (3, .int x3)] dX10_orders_1 (by decide) rfl ?_
  refine z_sub [(0, .ref (z_ad X 71)), (1, .int x1), (2, .int x2), (3, .int x3), (4, .int 0)] [1, 2, 3, 4, 0] rfl ?_
  exact b_Mod_orders_L3 hE hret z_F x1 x2 x3 0 g h
theorem dX10_lost_0 : decode cX10_lost 0 = .ok (.iconst 0, 1) := by decide +kernel
theorem dX10_lost_1 : decode cX10_lost 1 = .ok (.istore_n 2, 1) := by decide +kernel
theorem dX10_lost_2 : decode cX10_lost 2 = .ok (.iconst 0, 1) := by decide +kernel
theorem dX10_lost_3 : decode cX10_lost 3 = .ok (.istore_n 3, 1) := by decide +kernel
theorem dX10_lost_4 : decode cX10_lost 4 = .ok (.iload_n 3, 1) := by decide +kernel
theorem dX10_lost_5 : decode cX10_lost 5 = .ok (.aload_n 0, 1) := by decide +kernel
theorem dX10_lost_6 : decode cX10_lost 6 = .ok (.invokevirtual 56, 3) := by decide +kernel
theorem dX10_lost_9 : decode cX10_lost 9 = .ok (.if_icmp .ge 26, 3) := by decide +kernel
theorem dX10_lost_12 : decode cX10_lost 12 = .ok (.iload_n 2, 1) := by decide +kernel
theorem dX10_lost_13 : decode cX10_lost 13 = .ok (.aload_n 0, 1) := by decide +kernel
theorem dX10_lost_14 : decode cX10_lost 14 = .ok (.iload_n 1, 1) := by decide +kernel
theorem dX10_lost_15 : decode cX10_lost 15 = .ok (.iload_n 3, 1) := by decide +kernel
theorem dX10_lost_16 : decode cX10_lost 16 = .ok (.invokevirtual 109, 3) := by decide +kernel
theorem dX10_lost_19 : decode cX10_lost 19 = .ok (.ifCond .eq 7, 3) := by decide +kernel
theorem dX10_lost_22 : decode cX10_lost 22 = .ok (.iconst 1, 1) := by decide +kernel
theorem dX10_lost_23 : decode cX10_lost 23 = .ok (.goto 4, 3) := by decide +kernel
theorem dX10_lost_26 : decode cX10_lost 26 = .ok (.iconst 0, 1) := by decide +kernel
theorem dX10_lost_27 : decode cX10_lost 27 = .ok (.iadd, 1) := by decide +kernel
theorem dX10_lost_28 : decode cX10_lost 28 = .ok (.istore_n 2, 1) := by decide +kernel
theorem dX10_lost_29 : decode cX10_lost 29 = .ok (.iinc 3 1, 3) := by decide +kernel
theorem dX10_lost_32 : decode cX10_lost 32 = .ok (.goto (-28), 3) := by decide +kernel
theorem dX10_lost_35 : decode cX10_lost 35 = .ok (.iload_n 2, 1) := by decide +kernel
theorem dX10_lost_36 : decode cX10_lost 36 = .ok (.ireturn, 1) := by decide +kernel
def s_Mod_lost_b27 (g : z_G) (k4 : Int32 → Int32 → Int32 → Option (Int32)) (x1 : Int32) (x3 : Int32) (s1 : Int32) (s0 : Int32) : Option (Int32) := (k4 x1 (s0 + s1) (x3 + 1))
def s_Mod_lost_L4 (g : z_G) : Nat → Int32 → Int32 → Int32 → Option (Int32)
  | 0, _, _, _ => none
  | n + 1, x1, x2, x3 => (if (s_Mod_men g) ≤ x3 then (some x2) else (Option.bind (s_Mod_isLost x1 x3 g) fun r5q => (if r5q = 0 then (s_Mod_lost_b27 g (s_Mod_lost_L4 g n) x1 x3 0 x2) else (s_Mod_lost_b27 g (s_Mod_lost_L4 g n) x1 x3 1 x2))))
def s_Mod_lost (x1 : Int32) (g : z_G) : Option (Int32) := (s_Mod_lost_L4 g z_F x1 0 0)
set_option maxHeartbeats 1000000 in
set_option maxRecDepth 20000 in
theorem b_Mod_lost_b27 {X : z_X} {E : z_ET} {o : z_G} (hE : z_EV X E cX10_lost 4 RX10 2 43 80) {g : z_G} {r : Int32} (hret : ∀ (pc : Nat) (lv : List (Nat × Value)), decode cX10_lost pc = .ok (.ireturn, 1) → z_V X E 4 o g pc lv [.int r]) (k4 : Int32 → Int32 → Int32 → Option (Int32)) (hk4 : ∀ (x1 : Int32) (x2 : Int32) (x3 : Int32), k4 x1 x2 x3 = some r → z_V X E 4 o g 4 [(0, .ref (z_ad X 71)), (1, .int x1), (2, .int x2), (3, .int x3)] []) (x1 : Int32) (x3 : Int32) (s1 : Int32) (s0 : Int32)  (h : s_Mod_lost_b27 g k4 x1 x3 s1 s0 = some r) : z_V X E 4 o g 27 [(0, .ref (z_ad X 71)), (1, .int x1), (3, .int x3)] [.int s1, .int s0] := by
  unfold s_Mod_lost_b27 at h
  refine z_iadd hE dX10_lost_27 ?_
  refine z_istore_n hE [(2, .int (s0 + s1)), (0, .ref (z_ad X 71)), (1, .int x1), (3, .int x3)] dX10_lost_28 rfl (by decide) rfl ?_
  refine z_iinc (v := x3 + 1) hE 3 [(3, .int (x3 + 1)), (2, .int (s0 + s1)), (0, .ref (z_ad X 71)), (1, .int x1)] dX10_lost_29 rfl rfl (by decide) rfl ?_
  refine z_goto hE 4 dX10_lost_32 rfl ?_
  refine z_sub [(0, .ref (z_ad X 71)), (1, .int x1), (2, .int (s0 + s1)), (3, .int (x3 + 1))] [2, 3, 1, 0] rfl ?_
  exact hk4 x1 (s0 + s1) (x3 + 1) h
set_option maxHeartbeats 1000000 in
set_option maxRecDepth 20000 in
theorem b_Mod_lost_L4 {X : z_X} {E : z_ET} {o : z_G} (hE : z_EV X E cX10_lost 4 RX10 2 43 80) {g : z_G} {r : Int32} (hret : ∀ (pc : Nat) (lv : List (Nat × Value)), decode cX10_lost pc = .ok (.ireturn, 1) → z_V X E 4 o g pc lv [.int r]) : ∀ (n : Nat) (x1 : Int32) (x2 : Int32) (x3 : Int32), s_Mod_lost_L4 g n x1 x2 x3 = some r → z_V X E 4 o g 4 [(0, .ref (z_ad X 71)), (1, .int x1), (2, .int x2), (3, .int x3)] [] := by
  intro n
  induction n with
  | zero => intro x1 x2 x3 h; exact z_none h
  | succ n ih =>
    intro x1 x2 x3 h
    rw [s_Mod_lost_L4] at h
    refine z_iload_n hE 3 dX10_lost_4 rfl ?_
    refine z_aload_n hE 0 dX10_lost_5 rfl ?_
    refine z_iV (rest := [.int x3]) (av := []) hE (c_Mod_men g) l_RX10_56 (by decide) (by decide) e_71 rfl ⟨by decide, by decide⟩ dX10_lost_6 rfl (Nat.le_of_ble_eq_true rfl) ?_
    refine z_icmp_ge hE 35 dX10_lost_9 rfl (fun c4q => ?_) (fun c4q => ?_)
    · replace h := z_t c4q h
      refine z_iload_n hE 2 dX10_lost_35 rfl ?_
      obtain rfl := Option.some.inj h
      exact hret _ _ dX10_lost_36
    · replace h := z_f c4q h
      refine z_iload_n hE 2 dX10_lost_12 rfl ?_
      refine z_aload_n hE 0 dX10_lost_13 rfl ?_
      refine z_iload_n hE 1 dX10_lost_14 rfl ?_
      refine z_iload_n hE 3 dX10_lost_15 rfl ?_
      obtain ⟨r5q, hr5q, h⟩ := z_bind_some h
      refine z_iV (rest := [.int x2]) (av := [.int x1, .int x3]) hE (c_Mod_isLost x1 x3 g r5q hr5q) l_RX10_109 (by decide) (by decide) e_71 rfl ⟨by decide, by decide⟩ dX10_lost_16 rfl (Nat.le_of_ble_eq_true rfl) ?_
      refine z_if_eq hE 26 dX10_lost_19 rfl (fun c6q => ?_) (fun c6q => ?_)
      · replace h := z_t c6q h
        refine z_iconst (v := 0) hE dX10_lost_26 rfl ?_
        refine z_sub [(0, .ref (z_ad X 71)), (1, .int x1), (3, .int x3)] [0, 1, 3] rfl ?_
        exact b_Mod_lost_b27 hE hret (s_Mod_lost_L4 g n) ih x1 x3 0 x2 h
      · replace h := z_f c6q h
        refine z_iconst (v := 1) hE dX10_lost_22 rfl ?_
        refine z_goto hE 27 dX10_lost_23 rfl ?_
        refine z_sub [(0, .ref (z_ad X 71)), (1, .int x1), (3, .int x3)] [0, 1, 3] rfl ?_
        exact b_Mod_lost_b27 hE hret (s_Mod_lost_L4 g n) ih x1 x3 1 x2 h
set_option maxHeartbeats 1000000 in
set_option maxRecDepth 20000 in
theorem c_Mod_lost {X : z_X} {l : Launch} {o : z_G} (x1 : Int32) (g : z_G) (r : Int32) (h : s_Mod_lost x1 g = some r) : z_MI X l 80 yX10_lost cX10_lost 4 (some .int) 2 43 [.ref (z_ad X 71), .int x1] o g o g r := by
  unfold s_Mod_lost at h
  refine z_meti (ty := .int) rfl rfl (by decide) (Nat.le_of_ble_eq_true rfl) (fun E hl hE hret => ?_)
  subst hl
  refine z_iconst (v := 0) hE dX10_lost_0 rfl ?_
  refine z_istore_n hE [(2, .int 0), (0, .ref (z_ad X 71)), (1, .int x1)] dX10_lost_1 rfl (by decide) rfl ?_
  refine z_iconst (v := 0) hE dX10_lost_2 rfl ?_
  refine z_istore_n hE [(3, .int 0), (2, .int 0), (0, .ref (z_ad X 71)), (1, .int x1)] dX10_lost_3 rfl (by decide) rfl ?_
  refine z_sub [(0, .ref (z_ad X 71)), (1, .int x1), (2, .int 0), (3, .int 0)] [2, 3, 1, 0] rfl ?_
  exact b_Mod_lost_L4 hE hret z_F x1 0 0 h
theorem dX10_order_0 : decode cX10_order 0 = .ok (.iload_n 1, 1) := by decide +kernel
theorem dX10_order_1 : decode cX10_order 1 = .ok (.iload_n 2, 1) := by decide +kernel
theorem dX10_order_2 : decode cX10_order 2 = .ok (.invokestatic 168, 3) := by decide +kernel
theorem dX10_order_5 : decode cX10_order 5 = .ok (.ifCond .ne 5, 3) := by decide +kernel
theorem dX10_order_8 : decode cX10_order 8 = .ok (.iconst (-1), 1) := by decide +kernel
theorem dX10_order_9 : decode cX10_order 9 = .ok (.ireturn, 1) := by decide +kernel
theorem dX10_order_10 : decode cX10_order 10 = .ok (.aload_n 0, 1) := by decide +kernel
theorem dX10_order_11 : decode cX10_order 11 = .ok (.invokevirtual 171, 3) := by decide +kernel
theorem dX10_order_14 : decode cX10_order 14 = .ok (.aload_n 0, 1) := by decide +kernel
theorem dX10_order_15 : decode cX10_order 15 = .ok (.iconst 0, 1) := by decide +kernel
theorem dX10_order_16 : decode cX10_order 16 = .ok (.iload_n 1, 1) := by decide +kernel
theorem dX10_order_17 : decode cX10_order 17 = .ok (.iload_n 2, 1) := by decide +kernel
theorem dX10_order_18 : decode cX10_order 18 = .ok (.invokevirtual 174, 3) := by decide +kernel
theorem dX10_order_21 : decode cX10_order 21 = .ok (.aload_n 0, 1) := by decide +kernel
theorem dX10_order_22 : decode cX10_order 22 = .ok (.iconst 0, 1) := by decide +kernel
theorem dX10_order_23 : decode cX10_order 23 = .ok (.invokevirtual 177, 3) := by decide +kernel
theorem dX10_order_26 : decode cX10_order 26 = .ok (.ireturn, 1) := by decide +kernel
def s_Mod_order (x1 : Int32) (x2 : Int32) (g : z_G) : Option (Int32 × z_G) := (if (s_Mod_isOrder x1 x2) = 0 then (some ((-1), g)) else (Option.bind (s_Mod_known g) fun r6q => (Option.bind (s_Mod_orders 0 x1 x2 r6q) fun r7q => (Option.bind (s_Mod_lost 0 r7q) fun r8q => (some (r8q, r7q))))))
set_option maxHeartbeats 1000000 in
set_option maxRecDepth 20000 in
theorem c_Mod_order {X : z_X} {l : Launch} {o : z_G} (x1 : Int32) (x2 : Int32) (g : z_G) (r : Int32 × z_G) (h : s_Mod_order x1 x2 g = some r) : z_MI X l 80 yX10_order cX10_order 3 (some .int) 5 123 [.ref (z_ad X 71), .int x1, .int x2] o g o r.2 r.1 := by
  unfold s_Mod_order at h
  refine z_meti (ty := .int) rfl rfl (by decide) (Nat.le_of_ble_eq_true rfl) (fun E hl hE hret => ?_)
  subst hl
  refine z_iload_n hE 1 dX10_order_0 rfl ?_
  refine z_iload_n hE 2 dX10_order_1 rfl ?_
  refine z_iS (rest := []) (av := [.int x1, .int x2]) hE (c_Mod_isOrder x1 x2 g) l_RX10_168 (by decide) ⟨by decide, by decide⟩ dX10_order_2 rfl (Nat.le_of_ble_eq_true rfl) ?_
  refine z_if_ne hE 10 dX10_order_5 rfl (fun c5q => ?_) (fun c5q => ?_)
  · replace h := z_f c5q h
    refine z_aload_n hE 0 dX10_order_10 rfl ?_
    obtain ⟨r6q, hr6q, h⟩ := z_bind_some h
    refine z_vV (rest := []) (av := []) hE (c_Mod_known g r6q hr6q) l_RX10_171 (by decide) (by decide) e_71 rfl ⟨by decide, by decide⟩ dX10_order_11 rfl (Nat.le_of_ble_eq_true rfl) ?_
    refine z_aload_n hE 0 dX10_order_14 rfl ?_
    refine z_iconst (v := 0) hE dX10_order_15 rfl ?_
    refine z_iload_n hE 1 dX10_order_16 rfl ?_
    refine z_iload_n hE 2 dX10_order_17 rfl ?_
    obtain ⟨r7q, hr7q, h⟩ := z_bind_some h
    refine z_vV (rest := []) (av := [.int 0, .int x1, .int x2]) hE (c_Mod_orders 0 x1 x2 r6q r7q hr7q) l_RX10_174 (by decide) (by decide) e_71 rfl ⟨by decide, by decide⟩ dX10_order_18 rfl (Nat.le_of_ble_eq_true rfl) ?_
    refine z_aload_n hE 0 dX10_order_21 rfl ?_
    refine z_iconst (v := 0) hE dX10_order_22 rfl ?_
    obtain ⟨r8q, hr8q, h⟩ := z_bind_some h
    refine z_iV (rest := []) (av := [.int 0]) hE (c_Mod_lost 0 r7q r8q hr8q) l_RX10_177 (by decide) (by decide) e_71 rfl ⟨by decide, by decide⟩ dX10_order_23 rfl (Nat.le_of_ble_eq_true rfl) ?_
    obtain rfl := Option.some.inj h
    exact hret _ _ dX10_order_26
  · replace h := z_t c5q h
    refine z_iconst (v := (-1)) hE dX10_order_8 rfl ?_
    obtain rfl := Option.some.inj h
    exact hret _ _ dX10_order_9
theorem dX10_bits_0 : decode cX10_bits 0 = .ok (.iconst 0, 1) := by decide +kernel
theorem dX10_bits_1 : decode cX10_bits 1 = .ok (.istore_n 1, 1) := by decide +kernel
theorem dX10_bits_2 : decode cX10_bits 2 = .ok (.iconst 0, 1) := by decide +kernel
theorem dX10_bits_3 : decode cX10_bits 3 = .ok (.istore_n 2, 1) := by decide +kernel
theorem dX10_bits_4 : decode cX10_bits 4 = .ok (.iload_n 2, 1) := by decide +kernel
theorem dX10_bits_5 : decode cX10_bits 5 = .ok (.bipush 6, 2) := by decide +kernel
theorem dX10_bits_7 : decode cX10_bits 7 = .ok (.if_icmp .ge 17, 3) := by decide +kernel
theorem dX10_bits_10 : decode cX10_bits 10 = .ok (.iload_n 1, 1) := by decide +kernel
theorem dX10_bits_11 : decode cX10_bits 11 = .ok (.iload_n 0, 1) := by decide +kernel
theorem dX10_bits_12 : decode cX10_bits 12 = .ok (.iload_n 2, 1) := by decide +kernel
theorem dX10_bits_13 : decode cX10_bits 13 = .ok (.ishr, 1) := by decide +kernel
theorem dX10_bits_14 : decode cX10_bits 14 = .ok (.iconst 1, 1) := by decide +kernel
theorem dX10_bits_15 : decode cX10_bits 15 = .ok (.iand, 1) := by decide +kernel
theorem dX10_bits_16 : decode cX10_bits 16 = .ok (.iadd, 1) := by decide +kernel
theorem dX10_bits_17 : decode cX10_bits 17 = .ok (.istore_n 1, 1) := by decide +kernel
theorem dX10_bits_18 : decode cX10_bits 18 = .ok (.iinc 2 1, 3) := by decide +kernel
theorem dX10_bits_21 : decode cX10_bits 21 = .ok (.goto (-17), 3) := by decide +kernel
theorem dX10_bits_24 : decode cX10_bits 24 = .ok (.iload_n 1, 1) := by decide +kernel
theorem dX10_bits_25 : decode cX10_bits 25 = .ok (.ireturn, 1) := by decide +kernel
def s_Mod_bits_L4 : Nat → Int32 → Int32 → Int32 → Option (Int32)
  | 0, _, _, _ => none
  | n + 1, x0, x1, x2 => (if 6 ≤ x2 then (some x1) else (z_let (α := Int32) ((x1 + ((x0 >>> (x2 &&& 31)) &&& 1))) fun v4q => ((s_Mod_bits_L4 n) x0 v4q (x2 + 1))))
def s_Mod_bits (x0 : Int32) : Option (Int32) := (s_Mod_bits_L4 z_F x0 0 0)
set_option maxHeartbeats 1000000 in
set_option maxRecDepth 20000 in
theorem b_Mod_bits_L4 {X : z_X} {E : z_ET} {o : z_G} {g : z_G} (hE : z_EV X E cX10_bits 3 RX10 0 0 80) {r : Int32} (hret : ∀ (pc : Nat) (lv : List (Nat × Value)), decode cX10_bits pc = .ok (.ireturn, 1) → z_V X E 3 o g pc lv [.int r]) : ∀ (n : Nat) (x0 : Int32) (x1 : Int32) (x2 : Int32), s_Mod_bits_L4 n x0 x1 x2 = some r → z_V X E 3 o g 4 [(0, .int x0), (1, .int x1), (2, .int x2)] [] := by
  intro n
  induction n with
  | zero => intro x0 x1 x2 h; exact z_none h
  | succ n ih =>
    intro x0 x1 x2 h
    rw [s_Mod_bits_L4] at h
    refine z_iload_n hE 2 dX10_bits_4 rfl ?_
    refine z_bipush (v := 6) hE dX10_bits_5 rfl ?_
    refine z_icmp_ge hE 24 dX10_bits_7 rfl (fun c3q => ?_) (fun c3q => ?_)
    · replace h := z_t c3q h
      refine z_iload_n hE 1 dX10_bits_24 rfl ?_
      obtain rfl := Option.some.inj h
      exact hret _ _ dX10_bits_25
    · replace h := z_f c3q h
      refine z_iload_n hE 1 dX10_bits_10 rfl ?_
      refine z_iload_n hE 0 dX10_bits_11 rfl ?_
      refine z_iload_n hE 2 dX10_bits_12 rfl ?_
      refine z_ishr hE dX10_bits_13 ?_
      refine z_iconst (v := 1) hE dX10_bits_14 rfl ?_
      refine z_iand hE dX10_bits_15 ?_
      refine z_iadd hE dX10_bits_16 ?_
      obtain ⟨v4q, ev4q, h⟩ := z_let_eq h
      refine z_topi ev4q ?_
      refine z_istore_n hE [(1, .int v4q), (0, .int x0), (2, .int x2)] dX10_bits_17 rfl (by decide) rfl ?_
      refine z_iinc (v := x2 + 1) hE 2 [(2, .int (x2 + 1)), (1, .int v4q), (0, .int x0)] dX10_bits_18 rfl rfl (by decide) rfl ?_
      refine z_goto hE 4 dX10_bits_21 rfl ?_
      refine z_sub [(0, .int x0), (1, .int v4q), (2, .int (x2 + 1))] [2, 1, 0] rfl ?_
      exact ih x0 v4q (x2 + 1) h
set_option maxHeartbeats 1000000 in
set_option maxRecDepth 20000 in
theorem c_Mod_bits {X : z_X} {l : Launch} {o : z_G} (x0 : Int32) (g : z_G) (r : Int32) (h : s_Mod_bits x0 = some r) : z_MI X l 80 yX10_bits cX10_bits 3 (some .int) 0 0 [.int x0] o g o g r := by
  unfold s_Mod_bits at h
  refine z_meti (ty := .int) rfl rfl (by decide) (Nat.le_of_ble_eq_true rfl) (fun E hl hE hret => ?_)
  subst hl
  refine z_iconst (v := 0) hE dX10_bits_0 rfl ?_
  refine z_istore_n hE [(1, .int 0), (0, .int x0)] dX10_bits_1 rfl (by decide) rfl ?_
  refine z_iconst (v := 0) hE dX10_bits_2 rfl ?_
  refine z_istore_n hE [(2, .int 0), (1, .int 0), (0, .int x0)] dX10_bits_3 rfl (by decide) rfl ?_
  refine z_sub [(0, .int x0), (1, .int 0), (2, .int 0)] [2, 1, 0] rfl ?_
  exact b_Mod_bits_L4 hE hret z_F x0 0 0 h
theorem dX10_tie_0 : decode cX10_tie 0 = .ok (.aload_n 0, 1) := by decide +kernel
theorem dX10_tie_1 : decode cX10_tie 1 = .ok (.iload_n 1, 1) := by decide +kernel
theorem dX10_tie_2 : decode cX10_tie 2 = .ok (.invokevirtual 113, 3) := by decide +kernel
theorem dX10_tie_5 : decode cX10_tie 5 = .ok (.ifCond .ne 5, 3) := by decide +kernel
theorem dX10_tie_8 : decode cX10_tie 8 = .ok (.iconst (-1), 1) := by decide +kernel
theorem dX10_tie_9 : decode cX10_tie 9 = .ok (.ireturn, 1) := by decide +kernel
theorem dX10_tie_10 : decode cX10_tie 10 = .ok (.aload_n 0, 1) := by decide +kernel
theorem dX10_tie_11 : decode cX10_tie 11 = .ok (.getfield 13, 3) := by decide +kernel
theorem dX10_tie_14 : decode cX10_tie 14 = .ok (.bipush 24, 2) := by decide +kernel
theorem dX10_tie_16 : decode cX10_tie 16 = .ok (.iaload, 1) := by decide +kernel
theorem dX10_tie_17 : decode cX10_tie 17 = .ok (.iload_n 1, 1) := by decide +kernel
theorem dX10_tie_18 : decode cX10_tie 18 = .ok (.invokestatic 148, 3) := by decide +kernel
theorem dX10_tie_21 : decode cX10_tie 21 = .ok (.iload_n 2, 1) := by decide +kernel
theorem dX10_tie_22 : decode cX10_tie 22 = .ok (.if_icmp .ne 6, 3) := by decide +kernel
theorem dX10_tie_25 : decode cX10_tie 25 = .ok (.bipush (-2), 2) := by decide +kernel
theorem dX10_tie_27 : decode cX10_tie 27 = .ok (.ireturn, 1) := by decide +kernel
theorem dX10_tie_28 : decode cX10_tie 28 = .ok (.aload_n 0, 1) := by decide +kernel
theorem dX10_tie_29 : decode cX10_tie 29 = .ok (.invokevirtual 171, 3) := by decide +kernel
theorem dX10_tie_32 : decode cX10_tie 32 = .ok (.aload_n 0, 1) := by decide +kernel
theorem dX10_tie_33 : decode cX10_tie 33 = .ok (.getfield 13, 3) := by decide +kernel
theorem dX10_tie_36 : decode cX10_tie 36 = .ok (.bipush 24, 2) := by decide +kernel
theorem dX10_tie_38 : decode cX10_tie 38 = .ok (.dup2, 1) := by decide +kernel
theorem dX10_tie_39 : decode cX10_tie 39 = .ok (.iaload, 1) := by decide +kernel
theorem dX10_tie_40 : decode cX10_tie 40 = .ok (.iconst 1, 1) := by decide +kernel
theorem dX10_tie_41 : decode cX10_tie 41 = .ok (.iload_n 1, 1) := by decide +kernel
theorem dX10_tie_42 : decode cX10_tie 42 = .ok (.ishl, 1) := by decide +kernel
theorem dX10_tie_43 : decode cX10_tie 43 = .ok (.ixor, 1) := by decide +kernel
theorem dX10_tie_44 : decode cX10_tie 44 = .ok (.iastore, 1) := by decide +kernel
theorem dX10_tie_45 : decode cX10_tie 45 = .ok (.aload_n 0, 1) := by decide +kernel
theorem dX10_tie_46 : decode cX10_tie 46 = .ok (.getfield 13, 3) := by decide +kernel
theorem dX10_tie_49 : decode cX10_tie 49 = .ok (.bipush 24, 2) := by decide +kernel
theorem dX10_tie_51 : decode cX10_tie 51 = .ok (.iaload, 1) := by decide +kernel
theorem dX10_tie_52 : decode cX10_tie 52 = .ok (.invokestatic 181, 3) := by decide +kernel
theorem dX10_tie_55 : decode cX10_tie 55 = .ok (.ireturn, 1) := by decide +kernel
def s_Mod_tie (x1 : Int32) (x2 : Int32) (g : z_G) : Option (Int32 × z_G) := (if (s_Mod_isMan x1 g) = 0 then (some ((-1), g)) else (if (s_Mod_has (z_rd g 2 24) x1) = x2 then (some ((-2), g)) else (Option.bind (s_Mod_known g) fun r8q => (z_let (α := z_G) (z_wr r8q 2 24 ((z_rd r8q 2 24) ^^^ (1 <<< (x1 &&& 31)))) fun g9q => (Option.bind (s_Mod_bits (z_rd g9q 2 24)) fun r10q => (some (r10q, g9q)))))))
set_option maxHeartbeats 1000000 in
set_option maxRecDepth 20000 in
theorem c_Mod_tie {X : z_X} {l : Launch} {o : z_G} (x1 : Int32) (x2 : Int32) (g : z_G) (r : Int32 × z_G) (h : s_Mod_tie x1 x2 g = some r) : z_MI X l 80 yX10_tie cX10_tie 3 (some .int) 2 46 [.ref (z_ad X 71), .int x1, .int x2] o g o r.2 r.1 := by
  unfold s_Mod_tie at h
  refine z_meti (ty := .int) rfl rfl (by decide) (Nat.le_of_ble_eq_true rfl) (fun E hl hE hret => ?_)
  subst hl
  refine z_aload_n hE 0 dX10_tie_0 rfl ?_
  refine z_iload_n hE 1 dX10_tie_1 rfl ?_
  refine z_iV (rest := []) (av := [.int x1]) hE (c_Mod_isMan x1 g) l_RX10_113 (by decide) (by decide) e_71 rfl ⟨by decide, by decide⟩ dX10_tie_2 rfl (Nat.le_of_ble_eq_true rfl) ?_
  refine z_if_ne hE 10 dX10_tie_5 rfl (fun c6q => ?_) (fun c6q => ?_)
  · replace h := z_f c6q h
    refine z_aload_n hE 0 dX10_tie_10 rfl ?_
    refine z_get hE f_RX10_13 (by decide) e_71 rfl dX10_tie_11 ?_
    refine z_bipush (v := 24) hE dX10_tie_14 rfl ?_
    refine z_iald hE (by decide) e_73 (by decide) dX10_tie_16 ?_
    refine z_iload_n hE 1 dX10_tie_17 rfl ?_
    refine z_iS (rest := []) (av := [.int (z_rd g 2 24), .int x1]) hE (c_Mod_has (z_rd g 2 24) x1 g) l_RX10_148 (by decide) ⟨by decide, by decide⟩ dX10_tie_18 rfl (Nat.le_of_ble_eq_true rfl) ?_
    refine z_iload_n hE 2 dX10_tie_21 rfl ?_
    refine z_icmp_ne hE 28 dX10_tie_22 rfl (fun c7q => ?_) (fun c7q => ?_)
    · replace h := z_f c7q h
      refine z_aload_n hE 0 dX10_tie_28 rfl ?_
      obtain ⟨r8q, hr8q, h⟩ := z_bind_some h
      refine z_vV (rest := []) (av := []) hE (c_Mod_known g r8q hr8q) l_RX10_171 (by decide) (by decide) e_71 rfl ⟨by decide, by decide⟩ dX10_tie_29 rfl (Nat.le_of_ble_eq_true rfl) ?_
      refine z_aload_n hE 0 dX10_tie_32 rfl ?_
      refine z_get hE f_RX10_13 (by decide) e_71 rfl dX10_tie_33 ?_
      refine z_bipush (v := 24) hE dX10_tie_36 rfl ?_
      refine z_dup2 hE dX10_tie_38 rfl rfl ?_
      refine z_iald hE (by decide) e_73 (by decide) dX10_tie_39 ?_
      refine z_iconst (v := 1) hE dX10_tie_40 rfl ?_
      refine z_iload_n hE 1 dX10_tie_41 rfl ?_
      refine z_ishl hE dX10_tie_42 ?_
      refine z_ixor hE dX10_tie_43 ?_
      obtain ⟨g9q, eg9q, h⟩ := z_let_eq h
      refine z_iast hE (by decide) e_73 (by decide) (ua_73 eg9q) dX10_tie_44 ?_
      refine z_aload_n hE 0 dX10_tie_45 rfl ?_
      refine z_get hE f_RX10_13 (by decide) e_71 rfl dX10_tie_46 ?_
      refine z_bipush (v := 24) hE dX10_tie_49 rfl ?_
      refine z_iald hE (by decide) e_73 (by decide) dX10_tie_51 ?_
      obtain ⟨r10q, hr10q, h⟩ := z_bind_some h
      refine z_iS (rest := []) (av := [.int (z_rd g9q 2 24)]) hE (c_Mod_bits (z_rd g9q 2 24) g9q r10q hr10q) l_RX10_181 (by decide) ⟨by decide, by decide⟩ dX10_tie_52 rfl (Nat.le_of_ble_eq_true rfl) ?_
      obtain rfl := Option.some.inj h
      exact hret _ _ dX10_tie_55
    · replace h := z_t c7q h
      refine z_bipush (v := (-2)) hE dX10_tie_25 rfl ?_
      obtain rfl := Option.some.inj h
      exact hret _ _ dX10_tie_27
  · replace h := z_t c6q h
    refine z_iconst (v := (-1)) hE dX10_tie_8 rfl ?_
    obtain rfl := Option.some.inj h
    exact hret _ _ dX10_tie_9
theorem dX10_swap_0 : decode cX10_swap 0 = .ok (.aload_n 0, 1) := by decide +kernel
theorem dX10_swap_1 : decode cX10_swap 1 = .ok (.iload_n 1, 1) := by decide +kernel
theorem dX10_swap_2 : decode cX10_swap 2 = .ok (.invokevirtual 113, 3) := by decide +kernel
theorem dX10_swap_5 : decode cX10_swap 5 = .ok (.ifCond .eq 16, 3) := by decide +kernel
theorem dX10_swap_8 : decode cX10_swap 8 = .ok (.aload_n 0, 1) := by decide +kernel
theorem dX10_swap_9 : decode cX10_swap 9 = .ok (.iload_n 2, 1) := by decide +kernel
theorem dX10_swap_10 : decode cX10_swap 10 = .ok (.invokevirtual 113, 3) := by decide +kernel
theorem dX10_swap_13 : decode cX10_swap 13 = .ok (.ifCond .eq 8, 3) := by decide +kernel
theorem dX10_swap_16 : decode cX10_swap 16 = .ok (.iload_n 1, 1) := by decide +kernel
theorem dX10_swap_17 : decode cX10_swap 17 = .ok (.iload_n 2, 1) := by decide +kernel
theorem dX10_swap_18 : decode cX10_swap 18 = .ok (.if_icmp .ne 5, 3) := by decide +kernel
theorem dX10_swap_21 : decode cX10_swap 21 = .ok (.iconst (-1), 1) := by decide +kernel
theorem dX10_swap_22 : decode cX10_swap 22 = .ok (.ireturn, 1) := by decide +kernel
theorem dX10_swap_23 : decode cX10_swap 23 = .ok (.aload_n 0, 1) := by decide +kernel
theorem dX10_swap_24 : decode cX10_swap 24 = .ok (.invokevirtual 171, 3) := by decide +kernel
theorem dX10_swap_27 : decode cX10_swap 27 = .ok (.aload_n 0, 1) := by decide +kernel
theorem dX10_swap_28 : decode cX10_swap 28 = .ok (.getfield 13, 3) := by decide +kernel
theorem dX10_swap_31 : decode cX10_swap 31 = .ok (.bipush 18, 2) := by decide +kernel
theorem dX10_swap_33 : decode cX10_swap 33 = .ok (.iload_n 1, 1) := by decide +kernel
theorem dX10_swap_34 : decode cX10_swap 34 = .ok (.iadd, 1) := by decide +kernel
theorem dX10_swap_35 : decode cX10_swap 35 = .ok (.iaload, 1) := by decide +kernel
theorem dX10_swap_36 : decode cX10_swap 36 = .ok (.istore_n 3, 1) := by decide +kernel
theorem dX10_swap_37 : decode cX10_swap 37 = .ok (.aload_n 0, 1) := by decide +kernel
theorem dX10_swap_38 : decode cX10_swap 38 = .ok (.getfield 13, 3) := by decide +kernel
theorem dX10_swap_41 : decode cX10_swap 41 = .ok (.bipush 18, 2) := by decide +kernel
theorem dX10_swap_43 : decode cX10_swap 43 = .ok (.iload_n 1, 1) := by decide +kernel
theorem dX10_swap_44 : decode cX10_swap 44 = .ok (.iadd, 1) := by decide +kernel
theorem dX10_swap_45 : decode cX10_swap 45 = .ok (.aload_n 0, 1) := by decide +kernel
theorem dX10_swap_46 : decode cX10_swap 46 = .ok (.getfield 13, 3) := by decide +kernel
theorem dX10_swap_49 : decode cX10_swap 49 = .ok (.bipush 18, 2) := by decide +kernel
theorem dX10_swap_51 : decode cX10_swap 51 = .ok (.iload_n 2, 1) := by decide +kernel
theorem dX10_swap_52 : decode cX10_swap 52 = .ok (.iadd, 1) := by decide +kernel
theorem dX10_swap_53 : decode cX10_swap 53 = .ok (.iaload, 1) := by decide +kernel
theorem dX10_swap_54 : decode cX10_swap 54 = .ok (.iastore, 1) := by decide +kernel
theorem dX10_swap_55 : decode cX10_swap 55 = .ok (.aload_n 0, 1) := by decide +kernel
theorem dX10_swap_56 : decode cX10_swap 56 = .ok (.getfield 13, 3) := by decide +kernel
theorem dX10_swap_59 : decode cX10_swap 59 = .ok (.bipush 18, 2) := by decide +kernel
theorem dX10_swap_61 : decode cX10_swap 61 = .ok (.iload_n 2, 1) := by decide +kernel
theorem dX10_swap_62 : decode cX10_swap 62 = .ok (.iadd, 1) := by decide +kernel
theorem dX10_swap_63 : decode cX10_swap 63 = .ok (.iload_n 3, 1) := by decide +kernel
theorem dX10_swap_64 : decode cX10_swap 64 = .ok (.iastore, 1) := by decide +kernel
theorem dX10_swap_65 : decode cX10_swap 65 = .ok (.aload_n 0, 1) := by decide +kernel
theorem dX10_swap_66 : decode cX10_swap 66 = .ok (.getfield 13, 3) := by decide +kernel
theorem dX10_swap_69 : decode cX10_swap 69 = .ok (.bipush 18, 2) := by decide +kernel
theorem dX10_swap_71 : decode cX10_swap 71 = .ok (.iload_n 1, 1) := by decide +kernel
theorem dX10_swap_72 : decode cX10_swap 72 = .ok (.iadd, 1) := by decide +kernel
theorem dX10_swap_73 : decode cX10_swap 73 = .ok (.iaload, 1) := by decide +kernel
theorem dX10_swap_74 : decode cX10_swap 74 = .ok (.ireturn, 1) := by decide +kernel
def s_Mod_swap_b21  (g : z_G) : Option (Int32 × z_G) := (some ((-1), g))
def s_Mod_swap (x1 : Int32) (x2 : Int32) (g : z_G) : Option (Int32 × z_G) := (if (s_Mod_isMan x1 g) = 0 then (s_Mod_swap_b21 g) else (if (s_Mod_isMan x2 g) = 0 then (s_Mod_swap_b21 g) else (if x1 = x2 then (s_Mod_swap_b21 g) else (Option.bind (s_Mod_known g) fun r16q => (z_ck (z_inb (18 + x1) 312) (z_let (α := Int32) ((z_rd r16q 2 (18 + x1))) fun v18q => (z_ck (z_inb (18 + x2) 312) (z_ck (z_inb (18 + x1) 312) (z_let (α := z_G) (z_wr r16q 2 (18 + x1) (z_rd r16q 2 (18 + x2))) fun g21q => (z_ck (z_inb (18 + x2) 312) (z_let (α := z_G) (z_wr g21q 2 (18 + x2) v18q) fun g23q => (z_ck (z_inb (18 + x1) 312) (some ((z_rd g23q 2 (18 + x1)), g23q))))))))))))))
set_option maxHeartbeats 1000000 in
set_option maxRecDepth 20000 in
theorem b_Mod_swap_b21 {X : z_X} {E : z_ET} {o : z_G} (hE : z_EV X E cX10_swap 4 RX10 2 46 80) {r : Int32 × z_G} (hret : ∀ (pc : Nat) (lv : List (Nat × Value)), decode cX10_swap pc = .ok (.ireturn, 1) → z_V X E 4 o r.2 pc lv [.int r.1])  (g : z_G)  (h : s_Mod_swap_b21 g = some r) : z_V X E 4 o g 21 [] [] := by
  unfold s_Mod_swap_b21 at h
  refine z_iconst (v := (-1)) hE dX10_swap_21 rfl ?_
  obtain rfl := Option.some.inj h
  exact hret _ _ dX10_swap_22
set_option maxHeartbeats 1000000 in
set_option maxRecDepth 20000 in
theorem c_Mod_swap {X : z_X} {l : Launch} {o : z_G} (x1 : Int32) (x2 : Int32) (g : z_G) (r : Int32 × z_G) (h : s_Mod_swap x1 x2 g = some r) : z_MI X l 80 yX10_swap cX10_swap 4 (some .int) 2 46 [.ref (z_ad X 71), .int x1, .int x2] o g o r.2 r.1 := by
  unfold s_Mod_swap at h
  refine z_meti (ty := .int) rfl rfl (by decide) (Nat.le_of_ble_eq_true rfl) (fun E hl hE hret => ?_)
  subst hl
  refine z_aload_n hE 0 dX10_swap_0 rfl ?_
  refine z_iload_n hE 1 dX10_swap_1 rfl ?_
  refine z_iV (rest := []) (av := [.int x1]) hE (c_Mod_isMan x1 g) l_RX10_113 (by decide) (by decide) e_71 rfl ⟨by decide, by decide⟩ dX10_swap_2 rfl (Nat.le_of_ble_eq_true rfl) ?_
  refine z_if_eq hE 21 dX10_swap_5 rfl (fun c13q => ?_) (fun c13q => ?_)
  · replace h := z_t c13q h
    refine z_sub [] [] rfl ?_
    exact b_Mod_swap_b21 hE hret g h
  · replace h := z_f c13q h
    refine z_aload_n hE 0 dX10_swap_8 rfl ?_
    refine z_iload_n hE 2 dX10_swap_9 rfl ?_
    refine z_iV (rest := []) (av := [.int x2]) hE (c_Mod_isMan x2 g) l_RX10_113 (by decide) (by decide) e_71 rfl ⟨by decide, by decide⟩ dX10_swap_10 rfl (Nat.le_of_ble_eq_true rfl) ?_
    refine z_if_eq hE 21 dX10_swap_13 rfl (fun c14q => ?_) (fun c14q => ?_)
    · replace h := z_t c14q h
      refine z_sub [] [] rfl ?_
      exact b_Mod_swap_b21 hE hret g h
    · replace h := z_f c14q h
      refine z_iload_n hE 1 dX10_swap_16 rfl ?_
      refine z_iload_n hE 2 dX10_swap_17 rfl ?_
      refine z_icmp_ne hE 23 dX10_swap_18 rfl (fun c15q => ?_) (fun c15q => ?_)
      · replace h := z_f c15q h
        refine z_aload_n hE 0 dX10_swap_23 rfl ?_
        obtain ⟨r16q, hr16q, h⟩ := z_bind_some h
        refine z_vV (rest := []) (av := []) hE (c_Mod_known g r16q hr16q) l_RX10_171 (by decide) (by decide) e_71 rfl ⟨by decide, by decide⟩ dX10_swap_24 rfl (Nat.le_of_ble_eq_true rfl) ?_
        refine z_aload_n hE 0 dX10_swap_27 rfl ?_
        refine z_get hE f_RX10_13 (by decide) e_71 rfl dX10_swap_28 ?_
        refine z_bipush (v := 18) hE dX10_swap_31 rfl ?_
        refine z_iload_n hE 1 dX10_swap_33 rfl ?_
        refine z_iadd hE dX10_swap_34 ?_
        obtain ⟨k17q, h⟩ := z_ck_some h
        refine z_iald hE (by decide) e_73 k17q dX10_swap_35 ?_
        obtain ⟨v18q, ev18q, h⟩ := z_let_eq h
        refine z_topi ev18q ?_
        refine z_istore_n hE [(3, .int v18q), (0, .ref (z_ad X 71)), (1, .int x1), (2, .int x2)] dX10_swap_36 rfl (by decide) rfl ?_
        refine z_aload_n hE 1 dX10_swap_37 rfl ?_
        refine z_get hE f_RX10_13 (by decide) e_71 rfl dX10_swap_38 ?_
        refine z_bipush (v := 18) hE dX10_swap_41 rfl ?_
        refine z_iload_n hE 2 dX10_swap_43 rfl ?_
        refine z_iadd hE dX10_swap_44 ?_
        refine z_aload_n hE 1 dX10_swap_45 rfl ?_
        refine z_get hE f_RX10_13 (by decide) e_71 rfl dX10_swap_46 ?_
        refine z_bipush (v := 18) hE dX10_swap_49 rfl ?_
        refine z_iload_n hE 3 dX10_swap_51 rfl ?_
        refine z_iadd hE dX10_swap_52 ?_
        obtain ⟨k19q, h⟩ := z_ck_some h
        refine z_iald hE (by decide) e_73 k19q dX10_swap_53 ?_
        obtain ⟨k20q, h⟩ := z_ck_some h
        obtain ⟨g21q, eg21q, h⟩ := z_let_eq h
        refine z_iast hE (by decide) e_73 k20q (ua_73 eg21q) dX10_swap_54 ?_
        refine z_aload_n hE 1 dX10_swap_55 rfl ?_
        refine z_get hE f_RX10_13 (by decide) e_71 rfl dX10_swap_56 ?_
        refine z_bipush (v := 18) hE dX10_swap_59 rfl ?_
        refine z_iload_n hE 3 dX10_swap_61 rfl ?_
        refine z_iadd hE dX10_swap_62 ?_
        refine z_iload_n hE 0 dX10_swap_63 rfl ?_
        obtain ⟨k22q, h⟩ := z_ck_some h
        obtain ⟨g23q, eg23q, h⟩ := z_let_eq h
        refine z_iast hE (by decide) e_73 k22q (ua_73 eg23q) dX10_swap_64 ?_
        refine z_aload_n hE 1 dX10_swap_65 rfl ?_
        refine z_get hE f_RX10_13 (by decide) e_71 rfl dX10_swap_66 ?_
        refine z_bipush (v := 18) hE dX10_swap_69 rfl ?_
        refine z_iload_n hE 2 dX10_swap_71 rfl ?_
        refine z_iadd hE dX10_swap_72 ?_
        obtain ⟨k24q, h⟩ := z_ck_some h
        refine z_iald hE (by decide) e_73 k24q dX10_swap_73 ?_
        obtain rfl := Option.some.inj h
        exact hret _ _ dX10_swap_74
      · replace h := z_t c15q h
        refine z_sub [] [] rfl ?_
        exact b_Mod_swap_b21 hE hret g h
theorem dX10_undo_0 : decode cX10_undo 0 = .ok (.aload_n 0, 1) := by decide +kernel
theorem dX10_undo_1 : decode cX10_undo 1 = .ok (.getfield 46, 3) := by decide +kernel
theorem dX10_undo_4 : decode cX10_undo 4 = .ok (.ifCond .ne 6, 3) := by decide +kernel
theorem dX10_undo_7 : decode cX10_undo 7 = .ok (.bipush (-2), 2) := by decide +kernel
theorem dX10_undo_9 : decode cX10_undo 9 = .ok (.ireturn, 1) := by decide +kernel
theorem dX10_undo_10 : decode cX10_undo 10 = .ok (.aload_n 0, 1) := by decide +kernel
theorem dX10_undo_11 : decode cX10_undo 11 = .ok (.aload_n 0, 1) := by decide +kernel
theorem dX10_undo_12 : decode cX10_undo 12 = .ok (.getfield 46, 3) := by decide +kernel
theorem dX10_undo_15 : decode cX10_undo 15 = .ok (.bipush 26, 2) := by decide +kernel
theorem dX10_undo_17 : decode cX10_undo 17 = .ok (.imul, 1) := by decide +kernel
theorem dX10_undo_18 : decode cX10_undo 18 = .ok (.iconst 0, 1) := by decide +kernel
theorem dX10_undo_19 : decode cX10_undo 19 = .ok (.invokevirtual 161, 3) := by decide +kernel
theorem dX10_undo_22 : decode cX10_undo 22 = .ok (.aload_n 0, 1) := by decide +kernel
theorem dX10_undo_23 : decode cX10_undo 23 = .ok (.dup, 1) := by decide +kernel
theorem dX10_undo_24 : decode cX10_undo 24 = .ok (.getfield 46, 3) := by decide +kernel
theorem dX10_undo_27 : decode cX10_undo 27 = .ok (.iconst 1, 1) := by decide +kernel
theorem dX10_undo_28 : decode cX10_undo 28 = .ok (.isub, 1) := by decide +kernel
theorem dX10_undo_29 : decode cX10_undo 29 = .ok (.putfield 46, 3) := by decide +kernel
theorem dX10_undo_32 : decode cX10_undo 32 = .ok (.aload_n 0, 1) := by decide +kernel
theorem dX10_undo_33 : decode cX10_undo 33 = .ok (.getfield 46, 3) := by decide +kernel
theorem dX10_undo_36 : decode cX10_undo 36 = .ok (.ireturn, 1) := by decide +kernel
def s_Mod_undo (g : z_G) : Option (Int32 × z_G) := (if (g 0 2) = 0 then (some ((-2), g)) else (Option.bind (s_Mod_copies ((g 0 2) * 26) 0 g) fun r5q => (z_let (α := z_G) (z_up r5q 0 2 ((r5q 0 2) - 1)) fun g6q => (some ((g6q 0 2), g6q)))))
set_option maxHeartbeats 1000000 in
set_option maxRecDepth 20000 in
theorem c_Mod_undo {X : z_X} {l : Launch} {o : z_G} (g : z_G) (r : Int32 × z_G) (h : s_Mod_undo g = some r) : z_MI X l 80 yX10_undo cX10_undo 1 (some .int) 1 23 [.ref (z_ad X 71)] o g o r.2 r.1 := by
  unfold s_Mod_undo at h
  refine z_meti (ty := .int) rfl rfl (by decide) (Nat.le_of_ble_eq_true rfl) (fun E hl hE hret => ?_)
  subst hl
  refine z_aload_n hE 0 dX10_undo_0 rfl ?_
  refine z_get hE f_RX10_46 (by decide) e_71 rfl dX10_undo_1 ?_
  refine z_if_ne hE 10 dX10_undo_4 rfl (fun c4q => ?_) (fun c4q => ?_)
  · replace h := z_f c4q h
    refine z_aload_n hE 0 dX10_undo_10 rfl ?_
    refine z_aload_n hE 0 dX10_undo_11 rfl ?_
    refine z_get hE f_RX10_46 (by decide) e_71 rfl dX10_undo_12 ?_
    refine z_bipush (v := 26) hE dX10_undo_15 rfl ?_
    refine z_imul hE dX10_undo_17 ?_
    refine z_iconst (v := 0) hE dX10_undo_18 rfl ?_
    obtain ⟨r5q, hr5q, h⟩ := z_bind_some h
    refine z_vV (rest := []) (av := [.int ((g 0 2) * 26), .int 0]) hE (c_Mod_copies ((g 0 2) * 26) 0 g r5q hr5q) l_RX10_161 (by decide) (by decide) e_71 rfl ⟨by decide, by decide⟩ dX10_undo_19 rfl (Nat.le_of_ble_eq_true rfl) ?_
    refine z_aload_n hE 0 dX10_undo_22 rfl ?_
    refine z_dup hE dX10_undo_23 rfl ?_
    refine z_get hE f_RX10_46 (by decide) e_71 rfl dX10_undo_24 ?_
    refine z_iconst (v := 1) hE dX10_undo_27 rfl ?_
    refine z_isub hE dX10_undo_28 ?_
    obtain ⟨g6q, eg6q, h⟩ := z_let_eq h
    refine z_put hE f_RX10_46 ft_10 (by decide) e_71 rfl (tyX10_ok 2 (by decide)) rfl rfl (Nat.le_of_ble_eq_true rfl) (u_71_2 eg6q) dX10_undo_29 ?_
    refine z_aload_n hE 0 dX10_undo_32 rfl ?_
    refine z_get hE f_RX10_46 (by decide) e_71 rfl dX10_undo_33 ?_
    obtain rfl := Option.some.inj h
    exact hret _ _ dX10_undo_36
  · replace h := z_t c4q h
    refine z_bipush (v := (-2)) hE dX10_undo_7 rfl ?_
    obtain rfl := Option.some.inj h
    exact hret _ _ dX10_undo_9
theorem dX10_tell_0 : decode cX10_tell 0 = .ok (.iload_n 1, 1) := by decide +kernel
theorem dX10_tell_1 : decode cX10_tell 1 = .ok (.iload_n 2, 1) := by decide +kernel
theorem dX10_tell_2 : decode cX10_tell 2 = .ok (.invokestatic 168, 3) := by decide +kernel
theorem dX10_tell_5 : decode cX10_tell 5 = .ok (.ifCond .ne 5, 3) := by decide +kernel
theorem dX10_tell_8 : decode cX10_tell 8 = .ok (.iconst (-1), 1) := by decide +kernel
theorem dX10_tell_9 : decode cX10_tell 9 = .ok (.ireturn, 1) := by decide +kernel
theorem dX10_tell_10 : decode cX10_tell 10 = .ok (.aload_n 0, 1) := by decide +kernel
theorem dX10_tell_11 : decode cX10_tell 11 = .ok (.getfield 7, 3) := by decide +kernel
theorem dX10_tell_14 : decode cX10_tell 14 = .ok (.bipush 47, 2) := by decide +kernel
theorem dX10_tell_16 : decode cX10_tell 16 = .ok (.iaload, 1) := by decide +kernel
theorem dX10_tell_17 : decode cX10_tell 17 = .ok (.bipush 6, 2) := by decide +kernel
theorem dX10_tell_19 : decode cX10_tell 19 = .ok (.if_icmp .ne 6, 3) := by decide +kernel
theorem dX10_tell_22 : decode cX10_tell 22 = .ok (.bipush (-3), 2) := by decide +kernel
theorem dX10_tell_24 : decode cX10_tell 24 = .ok (.ireturn, 1) := by decide +kernel
theorem dX10_tell_25 : decode cX10_tell 25 = .ok (.aload_n 0, 1) := by decide +kernel
theorem dX10_tell_26 : decode cX10_tell 26 = .ok (.iconst 0, 1) := by decide +kernel
theorem dX10_tell_27 : decode cX10_tell 27 = .ok (.iload_n 1, 1) := by decide +kernel
theorem dX10_tell_28 : decode cX10_tell 28 = .ok (.iload_n 2, 1) := by decide +kernel
theorem dX10_tell_29 : decode cX10_tell 29 = .ok (.invokevirtual 39, 3) := by decide +kernel
theorem dX10_tell_32 : decode cX10_tell 32 = .ok (.aload_n 0, 1) := by decide +kernel
theorem dX10_tell_33 : decode cX10_tell 33 = .ok (.getfield 7, 3) := by decide +kernel
theorem dX10_tell_36 : decode cX10_tell 36 = .ok (.bipush 47, 2) := by decide +kernel
theorem dX10_tell_38 : decode cX10_tell 38 = .ok (.iaload, 1) := by decide +kernel
theorem dX10_tell_39 : decode cX10_tell 39 = .ok (.ireturn, 1) := by decide +kernel
def s_Mod_tell (x1 : Int32) (x2 : Int32) (g : z_G) : Option (Int32 × z_G) := (if (s_Mod_isOrder x1 x2) = 0 then (some ((-1), g)) else (if (z_rd g 1 47) = 6 then (some ((-3), g)) else (Option.bind (s_Mod_tells 0 x1 x2 g) fun r6q => (some ((z_rd r6q 1 47), r6q)))))
set_option maxHeartbeats 1000000 in
set_option maxRecDepth 20000 in
theorem c_Mod_tell {X : z_X} {l : Launch} {o : z_G} (x1 : Int32) (x2 : Int32) (g : z_G) (r : Int32 × z_G) (h : s_Mod_tell x1 x2 g = some r) : z_MI X l 80 yX10_tell cX10_tell 3 (some .int) 2 46 [.ref (z_ad X 71), .int x1, .int x2] o g o r.2 r.1 := by
  unfold s_Mod_tell at h
  refine z_meti (ty := .int) rfl rfl (by decide) (Nat.le_of_ble_eq_true rfl) (fun E hl hE hret => ?_)
  subst hl
  refine z_iload_n hE 1 dX10_tell_0 rfl ?_
  refine z_iload_n hE 2 dX10_tell_1 rfl ?_
  refine z_iS (rest := []) (av := [.int x1, .int x2]) hE (c_Mod_isOrder x1 x2 g) l_RX10_168 (by decide) ⟨by decide, by decide⟩ dX10_tell_2 rfl (Nat.le_of_ble_eq_true rfl) ?_
  refine z_if_ne hE 10 dX10_tell_5 rfl (fun c4q => ?_) (fun c4q => ?_)
  · replace h := z_f c4q h
    refine z_aload_n hE 0 dX10_tell_10 rfl ?_
    refine z_get hE f_RX10_7 (by decide) e_71 rfl dX10_tell_11 ?_
    refine z_bipush (v := 47) hE dX10_tell_14 rfl ?_
    refine z_iald hE (by decide) e_72 (by decide) dX10_tell_16 ?_
    refine z_bipush (v := 6) hE dX10_tell_17 rfl ?_
    refine z_icmp_ne hE 25 dX10_tell_19 rfl (fun c5q => ?_) (fun c5q => ?_)
    · replace h := z_f c5q h
      refine z_aload_n hE 0 dX10_tell_25 rfl ?_
      refine z_iconst (v := 0) hE dX10_tell_26 rfl ?_
      refine z_iload_n hE 1 dX10_tell_27 rfl ?_
      refine z_iload_n hE 2 dX10_tell_28 rfl ?_
      obtain ⟨r6q, hr6q, h⟩ := z_bind_some h
      refine z_vV (rest := []) (av := [.int 0, .int x1, .int x2]) hE (c_Mod_tells 0 x1 x2 g r6q hr6q) l_RX10_39 (by decide) (by decide) e_71 rfl ⟨by decide, by decide⟩ dX10_tell_29 rfl (Nat.le_of_ble_eq_true rfl) ?_
      refine z_aload_n hE 0 dX10_tell_32 rfl ?_
      refine z_get hE f_RX10_7 (by decide) e_71 rfl dX10_tell_33 ?_
      refine z_bipush (v := 47) hE dX10_tell_36 rfl ?_
      refine z_iald hE (by decide) e_72 (by decide) dX10_tell_38 ?_
      obtain rfl := Option.some.inj h
      exact hret _ _ dX10_tell_39
    · replace h := z_t c5q h
      refine z_bipush (v := (-3)) hE dX10_tell_22 rfl ?_
      obtain rfl := Option.some.inj h
      exact hret _ _ dX10_tell_24
  · replace h := z_t c4q h
    refine z_iconst (v := (-1)) hE dX10_tell_8 rfl ?_
    obtain rfl := Option.some.inj h
    exact hret _ _ dX10_tell_9
theorem dX10_noRow_0 : decode cX10_noRow 0 = .ok (.aload_n 0, 1) := by decide +kernel
theorem dX10_noRow_1 : decode cX10_noRow 1 = .ok (.getfield 7, 3) := by decide +kernel
theorem dX10_noRow_4 : decode cX10_noRow 4 = .ok (.bipush 47, 2) := by decide +kernel
theorem dX10_noRow_6 : decode cX10_noRow 6 = .ok (.iaload, 1) := by decide +kernel
theorem dX10_noRow_7 : decode cX10_noRow 7 = .ok (.istore_n 1, 1) := by decide +kernel
theorem dX10_noRow_8 : decode cX10_noRow 8 = .ok (.aload_n 0, 1) := by decide +kernel
theorem dX10_noRow_9 : decode cX10_noRow 9 = .ok (.getfield 7, 3) := by decide +kernel
theorem dX10_noRow_12 : decode cX10_noRow 12 = .ok (.bipush 47, 2) := by decide +kernel
theorem dX10_noRow_14 : decode cX10_noRow 14 = .ok (.iconst 0, 1) := by decide +kernel
theorem dX10_noRow_15 : decode cX10_noRow 15 = .ok (.iastore, 1) := by decide +kernel
theorem dX10_noRow_16 : decode cX10_noRow 16 = .ok (.aload_n 0, 1) := by decide +kernel
theorem dX10_noRow_17 : decode cX10_noRow 17 = .ok (.iconst 0, 1) := by decide +kernel
theorem dX10_noRow_18 : decode cX10_noRow 18 = .ok (.putfield 53, 3) := by decide +kernel
theorem dX10_noRow_21 : decode cX10_noRow 21 = .ok (.iload_n 1, 1) := by decide +kernel
theorem dX10_noRow_22 : decode cX10_noRow 22 = .ok (.ireturn, 1) := by decide +kernel
def s_Mod_noRow (g : z_G) : Int32 × z_G := (z_let (α := z_G) (z_wr g 1 47 0) fun g3q => (z_let (α := z_G) (z_up g3q 0 9 0) fun g4q => ((z_rd g 1 47), g4q)))
set_option maxHeartbeats 1000000 in
set_option maxRecDepth 20000 in
theorem c_Mod_noRow {X : z_X} {l : Launch} {o : z_G} (g : z_G) : z_MI X l 80 yX10_noRow cX10_noRow 2 (some .int) 0 0 [.ref (z_ad X 71)] o g o (s_Mod_noRow g).2 (s_Mod_noRow g).1 := by
  obtain ⟨r, h⟩ : ∃ r, s_Mod_noRow g = r := ⟨_, rfl⟩
  rw [h]
  unfold s_Mod_noRow at h
  refine z_meti (ty := .int) rfl rfl (by decide) (Nat.le_of_ble_eq_true rfl) (fun E hl hE hret => ?_)
  subst hl
  refine z_aload_n hE 0 dX10_noRow_0 rfl ?_
  refine z_get hE f_RX10_7 (by decide) e_71 rfl dX10_noRow_1 ?_
  refine z_bipush (v := 47) hE dX10_noRow_4 rfl ?_
  refine z_iald hE (by decide) e_72 (by decide) dX10_noRow_6 ?_
  refine z_istore_n hE [(1, .int (z_rd g 1 47)), (0, .ref (z_ad X 71))] dX10_noRow_7 rfl (by decide) rfl ?_
  refine z_aload_n hE 1 dX10_noRow_8 rfl ?_
  refine z_get hE f_RX10_7 (by decide) e_71 rfl dX10_noRow_9 ?_
  refine z_bipush (v := 47) hE dX10_noRow_12 rfl ?_
  refine z_iconst (v := 0) hE dX10_noRow_14 rfl ?_
  obtain ⟨g3q, eg3q, h⟩ := z_let_eq h
  refine z_iast hE (by decide) e_72 (by decide) (ua_72 eg3q) dX10_noRow_15 ?_
  refine z_aload_n hE 1 dX10_noRow_16 rfl ?_
  refine z_iconst (v := 0) hE dX10_noRow_17 rfl ?_
  obtain ⟨g4q, eg4q, h⟩ := z_let_eq h
  refine z_put hE f_RX10_53 ft_10 (by decide) e_71 rfl (tyX10_ok 9 (by decide)) rfl rfl (Nat.le_of_ble_eq_true rfl) (u_71_9 eg4q) dX10_noRow_18 ?_
  refine z_iload_n hE 0 dX10_noRow_21 rfl ?_
  subst h
  exact hret _ _ dX10_noRow_22
theorem dX10_behind_0 : decode cX10_behind 0 = .ok (.iload_n 1, 1) := by decide +kernel
theorem dX10_behind_1 : decode cX10_behind 1 = .ok (.i2l, 1) := by decide +kernel
theorem dX10_behind_2 : decode cX10_behind 2 = .ok (.lconst 0, 1) := by decide +kernel
theorem dX10_behind_3 : decode cX10_behind 3 = .ok (.aload_n 0, 1) := by decide +kernel
theorem dX10_behind_4 : decode cX10_behind 4 = .ok (.getfield 7, 3) := by decide +kernel
theorem dX10_behind_7 : decode cX10_behind 7 = .ok (.bipush 47, 2) := by decide +kernel
theorem dX10_behind_9 : decode cX10_behind 9 = .ok (.iaload, 1) := by decide +kernel
theorem dX10_behind_10 : decode cX10_behind 10 = .ok (.i2l, 1) := by decide +kernel
theorem dX10_behind_11 : decode cX10_behind 11 = .ok (.invokestatic 60, 3) := by decide +kernel
theorem dX10_behind_14 : decode cX10_behind 14 = .ok (.ifCond .eq 23, 3) := by decide +kernel
theorem dX10_behind_17 : decode cX10_behind 17 = .ok (.aload_n 0, 1) := by decide +kernel
theorem dX10_behind_18 : decode cX10_behind 18 = .ok (.iload_n 2, 1) := by decide +kernel
theorem dX10_behind_19 : decode cX10_behind 19 = .ok (.invokevirtual 113, 3) := by decide +kernel
theorem dX10_behind_22 : decode cX10_behind 22 = .ok (.ifCond .eq 15, 3) := by decide +kernel
theorem dX10_behind_25 : decode cX10_behind 25 = .ok (.iload_n 3, 1) := by decide +kernel
theorem dX10_behind_26 : decode cX10_behind 26 = .ok (.i2l, 1) := by decide +kernel
theorem dX10_behind_27 : decode cX10_behind 27 = .ok (.lconst 0, 1) := by decide +kernel
theorem dX10_behind_28 : decode cX10_behind 28 = .ok (.ldc2_w 184, 3) := by decide +kernel
theorem dX10_behind_31 : decode cX10_behind 31 = .ok (.invokestatic 60, 3) := by decide +kernel
theorem dX10_behind_34 : decode cX10_behind 34 = .ok (.ifCond .ne 5, 3) := by decide +kernel
theorem dX10_behind_37 : decode cX10_behind 37 = .ok (.iconst (-1), 1) := by decide +kernel
theorem dX10_behind_38 : decode cX10_behind 38 = .ok (.ireturn, 1) := by decide +kernel
theorem dX10_behind_39 : decode cX10_behind 39 = .ok (.aload_n 0, 1) := by decide +kernel
theorem dX10_behind_40 : decode cX10_behind 40 = .ok (.iconst 0, 1) := by decide +kernel
theorem dX10_behind_41 : decode cX10_behind 41 = .ok (.iload_n 2, 1) := by decide +kernel
theorem dX10_behind_42 : decode cX10_behind 42 = .ok (.invokevirtual 155, 3) := by decide +kernel
theorem dX10_behind_45 : decode cX10_behind 45 = .ok (.iconst 0, 1) := by decide +kernel
theorem dX10_behind_46 : decode cX10_behind 46 = .ok (.istore 4, 2) := by decide +kernel
theorem dX10_behind_48 : decode cX10_behind 48 = .ok (.iload 4, 2) := by decide +kernel
theorem dX10_behind_50 : decode cX10_behind 50 = .ok (.iload_n 1, 1) := by decide +kernel
theorem dX10_behind_51 : decode cX10_behind 51 = .ok (.if_icmp .ge 35, 3) := by decide +kernel
theorem dX10_behind_54 : decode cX10_behind 54 = .ok (.aload_n 0, 1) := by decide +kernel
theorem dX10_behind_55 : decode cX10_behind 55 = .ok (.iconst 0, 1) := by decide +kernel
theorem dX10_behind_56 : decode cX10_behind 56 = .ok (.iload_n 2, 1) := by decide +kernel
theorem dX10_behind_57 : decode cX10_behind 57 = .ok (.aload_n 0, 1) := by decide +kernel
theorem dX10_behind_58 : decode cX10_behind 58 = .ok (.getfield 7, 3) := by decide +kernel
theorem dX10_behind_61 : decode cX10_behind 61 = .ok (.bipush 48, 2) := by decide +kernel
theorem dX10_behind_63 : decode cX10_behind 63 = .ok (.iload 4, 2) := by decide +kernel
theorem dX10_behind_65 : decode cX10_behind 65 = .ok (.iadd, 1) := by decide +kernel
theorem dX10_behind_66 : decode cX10_behind 66 = .ok (.iaload, 1) := by decide +kernel
theorem dX10_behind_67 : decode cX10_behind 67 = .ok (.aload_n 0, 1) := by decide +kernel
theorem dX10_behind_68 : decode cX10_behind 68 = .ok (.getfield 7, 3) := by decide +kernel
theorem dX10_behind_71 : decode cX10_behind 71 = .ok (.bipush 54, 2) := by decide +kernel
theorem dX10_behind_73 : decode cX10_behind 73 = .ok (.iload 4, 2) := by decide +kernel
theorem dX10_behind_75 : decode cX10_behind 75 = .ok (.iadd, 1) := by decide +kernel
theorem dX10_behind_76 : decode cX10_behind 76 = .ok (.iaload, 1) := by decide +kernel
theorem dX10_behind_77 : decode cX10_behind 77 = .ok (.invokevirtual 158, 3) := by decide +kernel
theorem dX10_behind_80 : decode cX10_behind 80 = .ok (.iinc 4 1, 3) := by decide +kernel
theorem dX10_behind_83 : decode cX10_behind 83 = .ok (.goto (-35), 3) := by decide +kernel
theorem dX10_behind_86 : decode cX10_behind 86 = .ok (.iload_n 3, 1) := by decide +kernel
theorem dX10_behind_87 : decode cX10_behind 87 = .ok (.ifCond .ne 10, 3) := by decide +kernel
theorem dX10_behind_90 : decode cX10_behind 90 = .ok (.aload_n 0, 1) := by decide +kernel
theorem dX10_behind_91 : decode cX10_behind 91 = .ok (.getfield 135, 3) := by decide +kernel
theorem dX10_behind_94 : decode cX10_behind 94 = .ok (.goto 19, 3) := by decide +kernel
theorem dX10_behind_97 : decode cX10_behind 97 = .ok (.iload_n 3, 1) := by decide +kernel
theorem dX10_behind_98 : decode cX10_behind 98 = .ok (.iconst 1, 1) := by decide +kernel
theorem dX10_behind_99 : decode cX10_behind 99 = .ok (.if_icmp .ne 10, 3) := by decide +kernel
theorem dX10_behind_102 : decode cX10_behind 102 = .ok (.aload_n 0, 1) := by decide +kernel
theorem dX10_behind_103 : decode cX10_behind 103 = .ok (.getfield 138, 3) := by decide +kernel
theorem dX10_behind_106 : decode cX10_behind 106 = .ok (.goto 7, 3) := by decide +kernel
theorem dX10_behind_109 : decode cX10_behind 109 = .ok (.aload_n 0, 1) := by decide +kernel
theorem dX10_behind_110 : decode cX10_behind 110 = .ok (.getfield 128, 3) := by decide +kernel
theorem dX10_behind_113 : decode cX10_behind 113 = .ok (.ireturn, 1) := by decide +kernel
def s_Mod_behind_b37  (g : z_G) : Option (Int32 × z_G) := (some ((-1), g))
def s_Mod_behind_L48 : Nat → Int32 → Int32 → Int32 → Int32 → z_G → Option (Int32 × z_G)
  | 0, _, _, _, _, _ => none
  | n + 1, x1, x2, x3, x4, g => (if x1 ≤ x4 then (if x3 = 0 then (some ((g 0 13), g)) else (if x3 = 1 then (some ((g 0 14), g)) else (some ((g 0 15), g)))) else (z_ck (z_inb (48 + x4) 120) (z_ck (z_inb (54 + x4) 120) (Option.bind (s_Mod_goes 0 x2 (z_rd g 1 (48 + x4)) (z_rd g 1 (54 + x4)) g) fun r16q => ((s_Mod_behind_L48 n) x1 x2 x3 (x4 + 1) r16q)))))
def s_Mod_behind (x1 : Int32) (x2 : Int32) (x3 : Int32) (g : z_G) : Option (Int32 × z_G) := (if (s_Mod_in (Int32.toInt64 x1) 0 (Int32.toInt64 (z_rd g 1 47))) = 0 then (s_Mod_behind_b37 g) else (if (s_Mod_isMan x2 g) = 0 then (s_Mod_behind_b37 g) else (if (s_Mod_in (Int32.toInt64 x3) 0 2) = 0 then (s_Mod_behind_b37 g) else (Option.bind (s_Mod_picks 0 x2 g) fun r20q => (s_Mod_behind_L48 z_F x1 x2 x3 0 r20q)))))
set_option maxHeartbeats 1000000 in
set_option maxRecDepth 20000 in
theorem b_Mod_behind_b37 {X : z_X} {E : z_ET} {o : z_G} (hE : z_EV X E cX10_behind 5 RX10 4 99 80) {r : Int32 × z_G} (hret : ∀ (pc : Nat) (lv : List (Nat × Value)), decode cX10_behind pc = .ok (.ireturn, 1) → z_V X E 5 o r.2 pc lv [.int r.1])  (g : z_G)  (h : s_Mod_behind_b37 g = some r) : z_V X E 5 o g 37 [] [] := by
  unfold s_Mod_behind_b37 at h
  refine z_iconst (v := (-1)) hE dX10_behind_37 rfl ?_
  obtain rfl := Option.some.inj h
  exact hret _ _ dX10_behind_38
set_option maxHeartbeats 1000000 in
set_option maxRecDepth 20000 in
theorem b_Mod_behind_L48 {X : z_X} {E : z_ET} {o : z_G} (hE : z_EV X E cX10_behind 5 RX10 4 99 80) {r : Int32 × z_G} (hret : ∀ (pc : Nat) (lv : List (Nat × Value)), decode cX10_behind pc = .ok (.ireturn, 1) → z_V X E 5 o r.2 pc lv [.int r.1]) : ∀ (n : Nat) (x1 : Int32) (x2 : Int32) (x3 : Int32) (x4 : Int32) (g : z_G), s_Mod_behind_L48 n x1 x2 x3 x4 g = some r → z_V X E 5 o g 48 [(0, .ref (z_ad X 71)), (1, .int x1), (2, .int x2), (3, .int x3), (4, .int x4)] [] := by
  intro n
  induction n with
  | zero => intro x1 x2 x3 x4 g h; exact z_none h
  | succ n ih =>
    intro x1 x2 x3 x4 g h
    rw [s_Mod_behind_L48] at h
    refine z_iload hE 4 dX10_behind_48 rfl ?_
    refine z_iload_n hE 1 dX10_behind_50 rfl ?_
    refine z_icmp_ge hE 86 dX10_behind_51 rfl (fun c11q => ?_) (fun c11q => ?_)
    · replace h := z_t c11q h
      refine z_iload_n hE 3 dX10_behind_86 rfl ?_
      refine z_if_ne hE 97 dX10_behind_87 rfl (fun c12q => ?_) (fun c12q => ?_)
      · replace h := z_f c12q h
        refine z_iload_n hE 3 dX10_behind_97 rfl ?_
        refine z_iconst (v := 1) hE dX10_behind_98 rfl ?_
        refine z_icmp_ne hE 109 dX10_behind_99 rfl (fun c13q => ?_) (fun c13q => ?_)
        · replace h := z_f c13q h
          refine z_aload_n hE 0 dX10_behind_109 rfl ?_
          refine z_get hE f_RX10_128 (by decide) e_71 rfl dX10_behind_110 ?_
          obtain rfl := Option.some.inj h
          exact hret _ _ dX10_behind_113
        · replace h := z_t c13q h
          refine z_aload_n hE 0 dX10_behind_102 rfl ?_
          refine z_get hE f_RX10_138 (by decide) e_71 rfl dX10_behind_103 ?_
          refine z_goto hE 113 dX10_behind_106 rfl ?_
          obtain rfl := Option.some.inj h
          exact hret _ _ dX10_behind_113
      · replace h := z_t c12q h
        refine z_aload_n hE 0 dX10_behind_90 rfl ?_
        refine z_get hE f_RX10_135 (by decide) e_71 rfl dX10_behind_91 ?_
        refine z_goto hE 113 dX10_behind_94 rfl ?_
        obtain rfl := Option.some.inj h
        exact hret _ _ dX10_behind_113
    · replace h := z_f c11q h
      refine z_aload_n hE 0 dX10_behind_54 rfl ?_
      refine z_iconst (v := 0) hE dX10_behind_55 rfl ?_
      refine z_iload_n hE 2 dX10_behind_56 rfl ?_
      refine z_aload_n hE 0 dX10_behind_57 rfl ?_
      refine z_get hE f_RX10_7 (by decide) e_71 rfl dX10_behind_58 ?_
      refine z_bipush (v := 48) hE dX10_behind_61 rfl ?_
      refine z_iload hE 4 dX10_behind_63 rfl ?_
      refine z_iadd hE dX10_behind_65 ?_
      obtain ⟨k14q, h⟩ := z_ck_some h
      refine z_iald hE (by decide) e_72 k14q dX10_behind_66 ?_
      refine z_aload_n hE 0 dX10_behind_67 rfl ?_
      refine z_get hE f_RX10_7 (by decide) e_71 rfl dX10_behind_68 ?_
      refine z_bipush (v := 54) hE dX10_behind_71 rfl ?_
      refine z_iload hE 4 dX10_behind_73 rfl ?_
      refine z_iadd hE dX10_behind_75 ?_
      obtain ⟨k15q, h⟩ := z_ck_some h
      refine z_iald hE (by decide) e_72 k15q dX10_behind_76 ?_
      obtain ⟨r16q, hr16q, h⟩ := z_bind_some h
      refine z_vV (rest := []) (av := [.int 0, .int x2, .int (z_rd g 1 (48 + x4)), .int (z_rd g 1 (54 + x4))]) hE (c_Mod_goes 0 x2 (z_rd g 1 (48 + x4)) (z_rd g 1 (54 + x4)) g r16q hr16q) l_RX10_158 (by decide) (by decide) e_71 rfl ⟨by decide, by decide⟩ dX10_behind_77 rfl (Nat.le_of_ble_eq_true rfl) ?_
      refine z_iinc (v := x4 + 1) hE 4 [(4, .int (x4 + 1)), (0, .ref (z_ad X 71)), (1, .int x1), (2, .int x2), (3, .int x3)] dX10_behind_80 rfl rfl (by decide) rfl ?_
      refine z_goto hE 48 dX10_behind_83 rfl ?_
      refine z_sub [(0, .ref (z_ad X 71)), (1, .int x1), (2, .int x2), (3, .int x3), (4, .int (x4 + 1))] [1, 2, 3, 4, 0] rfl ?_
      exact ih x1 x2 x3 (x4 + 1) r16q h
set_option maxHeartbeats 1000000 in
set_option maxRecDepth 20000 in
theorem c_Mod_behind {X : z_X} {l : Launch} {o : z_G} (x1 : Int32) (x2 : Int32) (x3 : Int32) (g : z_G) (r : Int32 × z_G) (h : s_Mod_behind x1 x2 x3 g = some r) : z_MI X l 80 yX10_behind cX10_behind 5 (some .int) 4 99 [.ref (z_ad X 71), .int x1, .int x2, .int x3] o g o r.2 r.1 := by
  unfold s_Mod_behind at h
  refine z_meti (ty := .int) rfl rfl (by decide) (Nat.le_of_ble_eq_true rfl) (fun E hl hE hret => ?_)
  subst hl
  refine z_iload_n hE 1 dX10_behind_0 rfl ?_
  refine z_i2l hE dX10_behind_1 ?_
  refine z_lconst (v := 0) hE dX10_behind_2 rfl ?_
  refine z_aload_n hE 0 dX10_behind_3 rfl ?_
  refine z_get hE f_RX10_7 (by decide) e_71 rfl dX10_behind_4 ?_
  refine z_bipush (v := 47) hE dX10_behind_7 rfl ?_
  refine z_iald hE (by decide) e_72 (by decide) dX10_behind_9 ?_
  refine z_i2l hE dX10_behind_10 ?_
  refine z_iS (rest := []) (av := [.long (Int32.toInt64 x1), .long 0, .long (Int32.toInt64 (z_rd g 1 47))]) hE (c_Mod_in (Int32.toInt64 x1) 0 (Int32.toInt64 (z_rd g 1 47)) g) l_RX10_60 (by decide) ⟨by decide, by decide⟩ dX10_behind_11 rfl (Nat.le_of_ble_eq_true rfl) ?_
  refine z_if_eq hE 37 dX10_behind_14 rfl (fun c17q => ?_) (fun c17q => ?_)
  · replace h := z_t c17q h
    refine z_sub [] [] rfl ?_
    exact b_Mod_behind_b37 hE hret g h
  · replace h := z_f c17q h
    refine z_aload_n hE 0 dX10_behind_17 rfl ?_
    refine z_iload_n hE 2 dX10_behind_18 rfl ?_
    refine z_iV (rest := []) (av := [.int x2]) hE (c_Mod_isMan x2 g) l_RX10_113 (by decide) (by decide) e_71 rfl ⟨by decide, by decide⟩ dX10_behind_19 rfl (Nat.le_of_ble_eq_true rfl) ?_
    refine z_if_eq hE 37 dX10_behind_22 rfl (fun c18q => ?_) (fun c18q => ?_)
    · replace h := z_t c18q h
      refine z_sub [] [] rfl ?_
      exact b_Mod_behind_b37 hE hret g h
    · replace h := z_f c18q h
      refine z_iload_n hE 3 dX10_behind_25 rfl ?_
      refine z_i2l hE dX10_behind_26 ?_
      refine z_lconst (v := 0) hE dX10_behind_27 rfl ?_
      refine z_ldc2 hE dX10_behind_28 w_523 ?_
      refine z_iS (rest := []) (av := [.long (Int32.toInt64 x3), .long 0, .long 2]) hE (c_Mod_in (Int32.toInt64 x3) 0 2 g) l_RX10_60 (by decide) ⟨by decide, by decide⟩ dX10_behind_31 rfl (Nat.le_of_ble_eq_true rfl) ?_
      refine z_if_ne hE 39 dX10_behind_34 rfl (fun c19q => ?_) (fun c19q => ?_)
      · replace h := z_f c19q h
        refine z_aload_n hE 0 dX10_behind_39 rfl ?_
        refine z_iconst (v := 0) hE dX10_behind_40 rfl ?_
        refine z_iload_n hE 2 dX10_behind_41 rfl ?_
        obtain ⟨r20q, hr20q, h⟩ := z_bind_some h
        refine z_vV (rest := []) (av := [.int 0, .int x2]) hE (c_Mod_picks 0 x2 g r20q hr20q) l_RX10_155 (by decide) (by decide) e_71 rfl ⟨by decide, by decide⟩ dX10_behind_42 rfl (Nat.le_of_ble_eq_true rfl) ?_
        refine z_iconst (v := 0) hE dX10_behind_45 rfl ?_
        refine z_istore hE [(4, .int 0), (0, .ref (z_ad X 71)), (1, .int x1), (2, .int x2), (3, .int x3)] dX10_behind_46 (by decide) rfl ?_
        refine z_sub [(0, .ref (z_ad X 71)), (1, .int x1), (2, .int x2), (3, .int x3), (4, .int 0)] [1, 2, 3, 4, 0] rfl ?_
        exact b_Mod_behind_L48 hE hret z_F x1 x2 x3 0 r20q h
      · replace h := z_t c19q h
        refine z_sub [] [] rfl ?_
        exact b_Mod_behind_b37 hE hret g h
