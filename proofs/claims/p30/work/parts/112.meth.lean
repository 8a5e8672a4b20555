theorem dX10_strayed_0 : decode cX10_strayed 0 = .ok (.aload_n 0, 1) := by decide +kernel
theorem dX10_strayed_1 : decode cX10_strayed 1 = .ok (.iconst 0, 1) := by decide +kernel
theorem dX10_strayed_2 : decode cX10_strayed 2 = .ok (.sipush 286, 3) := by decide +kernel
theorem dX10_strayed_5 : decode cX10_strayed 5 = .ok (.invokevirtual 161, 3) := by decide +kernel
theorem dX10_strayed_8 : decode cX10_strayed 8 = .ok (.iconst 0, 1) := by decide +kernel
theorem dX10_strayed_9 : decode cX10_strayed 9 = .ok (.istore_n 1, 1) := by decide +kernel
theorem dX10_strayed_10 : decode cX10_strayed 10 = .ok (.iload_n 1, 1) := by decide +kernel
theorem dX10_strayed_11 : decode cX10_strayed 11 = .ok (.aload_n 0, 1) := by decide +kernel
theorem dX10_strayed_12 : decode cX10_strayed 12 = .ok (.getfield 7, 3) := by decide +kernel
theorem dX10_strayed_15 : decode cX10_strayed 15 = .ok (.bipush 47, 2) := by decide +kernel
theorem dX10_strayed_17 : decode cX10_strayed 17 = .ok (.iaload, 1) := by decide +kernel
theorem dX10_strayed_18 : decode cX10_strayed 18 = .ok (.if_icmp .ge 48, 3) := by decide +kernel
theorem dX10_strayed_21 : decode cX10_strayed 21 = .ok (.aload_n 0, 1) := by decide +kernel
theorem dX10_strayed_22 : decode cX10_strayed 22 = .ok (.sipush 286, 3) := by decide +kernel
theorem dX10_strayed_25 : decode cX10_strayed 25 = .ok (.aload_n 0, 1) := by decide +kernel
theorem dX10_strayed_26 : decode cX10_strayed 26 = .ok (.getfield 7, 3) := by decide +kernel
theorem dX10_strayed_29 : decode cX10_strayed 29 = .ok (.bipush 48, 2) := by decide +kernel
theorem dX10_strayed_31 : decode cX10_strayed 31 = .ok (.iload_n 1, 1) := by decide +kernel
theorem dX10_strayed_32 : decode cX10_strayed 32 = .ok (.iadd, 1) := by decide +kernel
theorem dX10_strayed_33 : decode cX10_strayed 33 = .ok (.iaload, 1) := by decide +kernel
theorem dX10_strayed_34 : decode cX10_strayed 34 = .ok (.aload_n 0, 1) := by decide +kernel
theorem dX10_strayed_35 : decode cX10_strayed 35 = .ok (.getfield 7, 3) := by decide +kernel
theorem dX10_strayed_38 : decode cX10_strayed 38 = .ok (.bipush 54, 2) := by decide +kernel
theorem dX10_strayed_40 : decode cX10_strayed 40 = .ok (.iload_n 1, 1) := by decide +kernel
theorem dX10_strayed_41 : decode cX10_strayed 41 = .ok (.iadd, 1) := by decide +kernel
theorem dX10_strayed_42 : decode cX10_strayed 42 = .ok (.iaload, 1) := by decide +kernel
theorem dX10_strayed_43 : decode cX10_strayed 43 = .ok (.invokevirtual 174, 3) := by decide +kernel
theorem dX10_strayed_46 : decode cX10_strayed 46 = .ok (.aload_n 0, 1) := by decide +kernel
theorem dX10_strayed_47 : decode cX10_strayed 47 = .ok (.sipush 286, 3) := by decide +kernel
theorem dX10_strayed_50 : decode cX10_strayed 50 = .ok (.invokevirtual 177, 3) := by decide +kernel
theorem dX10_strayed_53 : decode cX10_strayed 53 = .ok (.ifCond .le 7, 3) := by decide +kernel
theorem dX10_strayed_56 : decode cX10_strayed 56 = .ok (.iload_n 1, 1) := by decide +kernel
theorem dX10_strayed_57 : decode cX10_strayed 57 = .ok (.iconst 1, 1) := by decide +kernel
theorem dX10_strayed_58 : decode cX10_strayed 58 = .ok (.iadd, 1) := by decide +kernel
theorem dX10_strayed_59 : decode cX10_strayed 59 = .ok (.ireturn, 1) := by decide +kernel
theorem dX10_strayed_60 : decode cX10_strayed 60 = .ok (.iinc 1 1, 3) := by decide +kernel
theorem dX10_strayed_63 : decode cX10_strayed 63 = .ok (.goto (-53), 3) := by decide +kernel
theorem dX10_strayed_66 : decode cX10_strayed 66 = .ok (.bipush (-4), 2) := by decide +kernel
theorem dX10_strayed_68 : decode cX10_strayed 68 = .ok (.ireturn, 1) := by decide +kernel
def s_Mod_strayed_L10 : Nat → Int32 → z_G → Option (Int32 × z_G)
  | 0, _, _ => none
  | n + 1, x1, g => (if (z_rd g 1 47) ≤ x1 then (some ((-4), g)) else (z_ck (z_inb (48 + x1) 120) (z_ck (z_inb (54 + x1) 120) (Option.bind (s_Mod_orders 286 (z_rd g 1 (48 + x1)) (z_rd g 1 (54 + x1)) g) fun r11q => (Option.bind (s_Mod_lost 286 r11q) fun r12q => (if r12q ≤ 0 then ((s_Mod_strayed_L10 n) (x1 + 1) r11q) else (some ((x1 + 1), r11q))))))))
def s_Mod_strayed (g : z_G) : Option (Int32 × z_G) := (Option.bind (s_Mod_copies 0 286 g) fun r14q => (s_Mod_strayed_L10 z_F 0 r14q))
set_option maxHeartbeats 1000000 in
set_option maxRecDepth 20000 in
theorem b_Mod_strayed_L10 {X : z_X} {E : z_ET} {o : z_G} (hE : z_EV X E cX10_strayed 2 RX10 5 123 80) {r : Int32 × z_G} (hret : ∀ (pc : Nat) (lv : List (Nat × Value)), decode cX10_strayed pc = .ok (.ireturn, 1) → z_V X E 2 o r.2 pc lv [.int r.1]) : ∀ (n : Nat) (x1 : Int32) (g : z_G), s_Mod_strayed_L10 n x1 g = some r → z_V X E 2 o g 10 [(0, .ref (z_ad X 71)), (1, .int x1)] [] := by
  intro n
  induction n with
  | zero => intro x1 g h; exact z_none h
  | succ n ih =>
    intro x1 g h
    rw [s_Mod_strayed_L10] at h
    refine z_iload_n hE 1 dX10_strayed_10 rfl ?_
    refine z_aload_n hE 0 dX10_strayed_11 rfl ?_
    refine z_get hE f_RX10_7 (by decide) e_71 rfl dX10_strayed_12 ?_
    refine z_bipush (v := 47) hE dX10_strayed_15 rfl ?_
    refine z_iald hE (by decide) e_72 (by decide) dX10_strayed_17 ?_
    refine z_icmp_ge hE 66 dX10_strayed_18 rfl (fun c8q => ?_) (fun c8q => ?_)
    · replace h := z_t c8q h
      refine z_bipush (v := (-4)) hE dX10_strayed_66 rfl ?_
      obtain rfl := Option.some.inj h
      exact hret _ _ dX10_strayed_68
    · replace h := z_f c8q h
      refine z_aload_n hE 0 dX10_strayed_21 rfl ?_
      refine z_sipush (v := 286) hE dX10_strayed_22 rfl ?_
      refine z_aload_n hE 0 dX10_strayed_25 rfl ?_
      refine z_get hE f_RX10_7 (by decide) e_71 rfl dX10_strayed_26 ?_
      refine z_bipush (v := 48) hE dX10_strayed_29 rfl ?_
      refine z_iload_n hE 1 dX10_strayed_31 rfl ?_
      refine z_iadd hE dX10_strayed_32 ?_
      obtain ⟨k9q, h⟩ := z_ck_some h
      refine z_iald hE (by decide) e_72 k9q dX10_strayed_33 ?_
      refine z_aload_n hE 0 dX10_strayed_34 rfl ?_
      refine z_get hE f_RX10_7 (by decide) e_71 rfl dX10_strayed_35 ?_
      refine z_bipush (v := 54) hE dX10_strayed_38 rfl ?_
      refine z_iload_n hE 1 dX10_strayed_40 rfl ?_
      refine z_iadd hE dX10_strayed_41 ?_
      obtain ⟨k10q, h⟩ := z_ck_some h
      refine z_iald hE (by decide) e_72 k10q dX10_strayed_42 ?_
      obtain ⟨r11q, hr11q, h⟩ := z_bind_some h
      refine z_vV (rest := []) (av := [.int 286, .int (z_rd g 1 (48 + x1)), .int (z_rd g 1 (54 + x1))]) hE (c_Mod_orders 286 (z_rd g 1 (48 + x1)) (z_rd g 1 (54 + x1)) g r11q hr11q) l_RX10_174 (by decide) (by decide) e_71 rfl ⟨by decide, by decide⟩ dX10_strayed_43 rfl (Nat.le_of_ble_eq_true rfl) ?_
      refine z_aload_n hE 0 dX10_strayed_46 rfl ?_
      refine z_sipush (v := 286) hE dX10_strayed_47 rfl ?_
      obtain ⟨r12q, hr12q, h⟩ := z_bind_some h
      refine z_iV (rest := []) (av := [.int 286]) hE (c_Mod_lost 286 r11q r12q hr12q) l_RX10_177 (by decide) (by decide) e_71 rfl ⟨by decide, by decide⟩ dX10_strayed_50 rfl (Nat.le_of_ble_eq_true rfl) ?_
      refine z_if_le hE 60 dX10_strayed_53 rfl (fun c13q => ?_) (fun c13q => ?_)
      · replace h := z_t c13q h
        refine z_iinc (v := x1 + 1) hE 1 [(1, .int (x1 + 1)), (0, .ref (z_ad X 71))] dX10_strayed_60 rfl rfl (by decide) rfl ?_
        refine z_goto hE 10 dX10_strayed_63 rfl ?_
        refine z_sub [(0, .ref (z_ad X 71)), (1, .int (x1 + 1))] [1, 0] rfl ?_
        exact ih (x1 + 1) r11q h
      · replace h := z_f c13q h
        refine z_iload_n hE 1 dX10_strayed_56 rfl ?_
        refine z_iconst (v := 1) hE dX10_strayed_57 rfl ?_
        refine z_iadd hE dX10_strayed_58 ?_
        obtain rfl := Option.some.inj h
        exact hret _ _ dX10_strayed_59
set_option maxHeartbeats 1000000 in
set_option maxRecDepth 20000 in
theorem c_Mod_strayed {X : z_X} {l : Launch} {o : z_G} (g : z_G) (r : Int32 × z_G) (h : s_Mod_strayed g = some r) : z_MI X l 80 yX10_strayed cX10_strayed 2 (some .int) 5 123 [.ref (z_ad X 71)] o g o r.2 r.1 := by
  unfold s_Mod_strayed at h
  refine z_meti (ty := .int) rfl rfl (by decide) (Nat.le_of_ble_eq_true rfl) (fun E hl hE hret => ?_)
  subst hl
  refine z_aload_n hE 0 dX10_strayed_0 rfl ?_
  refine z_iconst (v := 0) hE dX10_strayed_1 rfl ?_
  refine z_sipush (v := 286) hE dX10_strayed_2 rfl ?_
  obtain ⟨r14q, hr14q, h⟩ := z_bind_some h
  refine z_vV (rest := []) (av := [.int 0, .int 286]) hE (c_Mod_copies 0 286 g r14q hr14q) l_RX10_161 (by decide) (by decide) e_71 rfl ⟨by decide, by decide⟩ dX10_strayed_5 rfl (Nat.le_of_ble_eq_true rfl) ?_
  refine z_iconst (v := 0) hE dX10_strayed_8 rfl ?_
  refine z_istore_n hE [(1, .int 0), (0, .ref (z_ad X 71))] dX10_strayed_9 rfl (by decide) rfl ?_
  refine z_sub [(0, .ref (z_ad X 71)), (1, .int 0)] [1, 0] rfl ?_
  exact b_Mod_strayed_L10 hE hret z_F 0 r14q h
theorem dX10_brings_0 : decode cX10_brings 0 = .ok (.aload_n 0, 1) := by decide +kernel
theorem dX10_brings_1 : decode cX10_brings 1 = .ok (.iconst 0, 1) := by decide +kernel
theorem dX10_brings_2 : decode cX10_brings 2 = .ok (.iload_n 1, 1) := by decide +kernel
theorem dX10_brings_3 : decode cX10_brings 3 = .ok (.invokevirtual 155, 3) := by decide +kernel
theorem dX10_brings_6 : decode cX10_brings 6 = .ok (.iload_n 3, 1) := by decide +kernel
theorem dX10_brings_7 : decode cX10_brings 7 = .ok (.iconst 3, 1) := by decide +kernel
theorem dX10_brings_8 : decode cX10_brings 8 = .ok (.if_icmp .ne 9, 3) := by decide +kernel
theorem dX10_brings_11 : decode cX10_brings 11 = .ok (.sipush 576, 3) := by decide +kernel
theorem dX10_brings_14 : decode cX10_brings 14 = .ok (.goto 14, 3) := by decide +kernel
theorem dX10_brings_17 : decode cX10_brings 17 = .ok (.iload_n 3, 1) := by decide +kernel
theorem dX10_brings_18 : decode cX10_brings 18 = .ok (.iconst 2, 1) := by decide +kernel
theorem dX10_brings_19 : decode cX10_brings 19 = .ok (.if_icmp .ne 8, 3) := by decide +kernel
theorem dX10_brings_22 : decode cX10_brings 22 = .ok (.bipush 24, 2) := by decide +kernel
theorem dX10_brings_24 : decode cX10_brings 24 = .ok (.goto 4, 3) := by decide +kernel
theorem dX10_brings_27 : decode cX10_brings 27 = .ok (.iconst 1, 1) := by decide +kernel
theorem dX10_brings_28 : decode cX10_brings 28 = .ok (.istore 6, 2) := by decide +kernel
theorem dX10_brings_30 : decode cX10_brings 30 = .ok (.iload_n 2, 1) := by decide +kernel
theorem dX10_brings_31 : decode cX10_brings 31 = .ok (.istore 7, 2) := by decide +kernel
theorem dX10_brings_33 : decode cX10_brings 33 = .ok (.iconst 0, 1) := by decide +kernel
theorem dX10_brings_34 : decode cX10_brings 34 = .ok (.istore 8, 2) := by decide +kernel
theorem dX10_brings_36 : decode cX10_brings 36 = .ok (.iload 8, 2) := by decide +kernel
theorem dX10_brings_38 : decode cX10_brings 38 = .ok (.iload_n 3, 1) := by decide +kernel
theorem dX10_brings_39 : decode cX10_brings 39 = .ok (.if_icmp .ge 46, 3) := by decide +kernel
theorem dX10_brings_42 : decode cX10_brings 42 = .ok (.iload 7, 2) := by decide +kernel
theorem dX10_brings_44 : decode cX10_brings 44 = .ok (.iload 6, 2) := by decide +kernel
theorem dX10_brings_46 : decode cX10_brings 46 = .ok (.idiv, 1) := by decide +kernel
theorem dX10_brings_47 : decode cX10_brings 47 = .ok (.istore 9, 2) := by decide +kernel
theorem dX10_brings_49 : decode cX10_brings 49 = .ok (.iload 7, 2) := by decide +kernel
theorem dX10_brings_51 : decode cX10_brings 51 = .ok (.iload 6, 2) := by decide +kernel
theorem dX10_brings_53 : decode cX10_brings 53 = .ok (.irem, 1) := by decide +kernel
theorem dX10_brings_54 : decode cX10_brings 54 = .ok (.istore 7, 2) := by decide +kernel
theorem dX10_brings_56 : decode cX10_brings 56 = .ok (.iload 6, 2) := by decide +kernel
theorem dX10_brings_58 : decode cX10_brings 58 = .ok (.bipush 24, 2) := by decide +kernel
theorem dX10_brings_60 : decode cX10_brings 60 = .ok (.idiv, 1) := by decide +kernel
theorem dX10_brings_61 : decode cX10_brings 61 = .ok (.istore 6, 2) := by decide +kernel
theorem dX10_brings_63 : decode cX10_brings 63 = .ok (.aload_n 0, 1) := by decide +kernel
theorem dX10_brings_64 : decode cX10_brings 64 = .ok (.iconst 0, 1) := by decide +kernel
theorem dX10_brings_65 : decode cX10_brings 65 = .ok (.iload_n 1, 1) := by decide +kernel
theorem dX10_brings_66 : decode cX10_brings 66 = .ok (.iload 9, 2) := by decide +kernel
theorem dX10_brings_68 : decode cX10_brings 68 = .ok (.iconst 3, 1) := by decide +kernel
theorem dX10_brings_69 : decode cX10_brings 69 = .ok (.idiv, 1) := by decide +kernel
theorem dX10_brings_70 : decode cX10_brings 70 = .ok (.iload 9, 2) := by decide +kernel
theorem dX10_brings_72 : decode cX10_brings 72 = .ok (.iconst 3, 1) := by decide +kernel
theorem dX10_brings_73 : decode cX10_brings 73 = .ok (.irem, 1) := by decide +kernel
theorem dX10_brings_74 : decode cX10_brings 74 = .ok (.iconst 1, 1) := by decide +kernel
theorem dX10_brings_75 : decode cX10_brings 75 = .ok (.iadd, 1) := by decide +kernel
theorem dX10_brings_76 : decode cX10_brings 76 = .ok (.invokevirtual 158, 3) := by decide +kernel
theorem dX10_brings_79 : decode cX10_brings 79 = .ok (.iinc 8 1, 3) := by decide +kernel
theorem dX10_brings_82 : decode cX10_brings 82 = .ok (.goto (-46), 3) := by decide +kernel
theorem dX10_brings_85 : decode cX10_brings 85 = .ok (.aload_n 0, 1) := by decide +kernel
theorem dX10_brings_86 : decode cX10_brings 86 = .ok (.getfield 135, 3) := by decide +kernel
theorem dX10_brings_89 : decode cX10_brings 89 = .ok (.iload 4, 2) := by decide +kernel
theorem dX10_brings_91 : decode cX10_brings 91 = .ok (.if_icmp .ne 16, 3) := by decide +kernel
theorem dX10_brings_94 : decode cX10_brings 94 = .ok (.aload_n 0, 1) := by decide +kernel
theorem dX10_brings_95 : decode cX10_brings 95 = .ok (.getfield 138, 3) := by decide +kernel
theorem dX10_brings_98 : decode cX10_brings 98 = .ok (.iload 5, 2) := by decide +kernel
theorem dX10_brings_100 : decode cX10_brings 100 = .ok (.if_icmp .ne 7, 3) := by decide +kernel
theorem dX10_brings_103 : decode cX10_brings 103 = .ok (.iconst 1, 1) := by decide +kernel
theorem dX10_brings_104 : decode cX10_brings 104 = .ok (.goto 4, 3) := by decide +kernel
theorem dX10_brings_107 : decode cX10_brings 107 = .ok (.iconst 0, 1) := by decide +kernel
theorem dX10_brings_108 : decode cX10_brings 108 = .ok (.ireturn, 1) := by decide +kernel
def s_Mod_brings_b107  (g : z_G) : Option (Int32 × z_G) := (some (0, g))
def s_Mod_brings_L36 : Nat → Int32 → Int32 → Int32 → Int32 → Int32 → Int32 → Int32 → z_G → Option (Int32 × z_G)
  | 0, _, _, _, _, _, _, _, _ => none
  | n + 1, x1, x3, x4, x5, x6, x7, x8, g => (if x3 ≤ x8 then (if (g 0 13) = x4 then (if (g 0 14) = x5 then (some (1, g)) else (s_Mod_brings_b107 g)) else (s_Mod_brings_b107 g)) else (z_ck (decide (¬ x6 = 0)) (z_ck (decide (¬ x6 = 0)) (Option.bind (s_Mod_goes 0 x1 ((x7 / x6) / 3) ((z_rem (x7 / x6) 3) + 1) g) fun r15q => ((s_Mod_brings_L36 n) x1 x3 x4 x5 (x6 / 24) (z_rem x7 x6) (x8 + 1) r15q)))))
def s_Mod_brings_b28 (x1 : Int32) (x2 : Int32) (x3 : Int32) (x4 : Int32) (x5 : Int32) (s0 : Int32) (g : z_G) : Option (Int32 × z_G) := (s_Mod_brings_L36 z_F x1 x3 x4 x5 s0 x2 0 g)
def s_Mod_brings (x1 : Int32) (x2 : Int32) (x3 : Int32) (x4 : Int32) (x5 : Int32) (g : z_G) : Option (Int32 × z_G) := (Option.bind (s_Mod_picks 0 x1 g) fun r16q => (if x3 = 3 then (s_Mod_brings_b28 x1 x2 x3 x4 x5 576 r16q) else (if x3 = 2 then (s_Mod_brings_b28 x1 x2 x3 x4 x5 24 r16q) else (s_Mod_brings_b28 x1 x2 x3 x4 x5 1 r16q))))
set_option maxHeartbeats 1000000 in
set_option maxRecDepth 20000 in
theorem b_Mod_brings_b107 {X : z_X} {E : z_ET} {o : z_G} (hE : z_EV X E cX10_brings 10 RX10 4 99 80) {r : Int32 × z_G} (hret : ∀ (pc : Nat) (lv : List (Nat × Value)), z_bit r.1 = true → decode cX10_brings pc = .ok (.ireturn, 1) → z_V X E 10 o r.2 pc lv [.int r.1])  (g : z_G)  (h : s_Mod_brings_b107 g = some r) : z_V X E 10 o g 107 [] [] := by
  unfold s_Mod_brings_b107 at h
  refine z_iconst (v := 0) hE dX10_brings_107 rfl ?_
  obtain rfl := Option.some.inj h
  exact hret _ _ z_b0 dX10_brings_108
set_option maxHeartbeats 1000000 in
set_option maxRecDepth 20000 in
theorem b_Mod_brings_L36 {X : z_X} {E : z_ET} {o : z_G} (hE : z_EV X E cX10_brings 10 RX10 4 99 80) {r : Int32 × z_G} (hret : ∀ (pc : Nat) (lv : List (Nat × Value)), z_bit r.1 = true → decode cX10_brings pc = .ok (.ireturn, 1) → z_V X E 10 o r.2 pc lv [.int r.1]) : ∀ (n : Nat) (x1 : Int32) (x3 : Int32) (x4 : Int32) (x5 : Int32) (x6 : Int32) (x7 : Int32) (x8 : Int32) (g : z_G), s_Mod_brings_L36 n x1 x3 x4 x5 x6 x7 x8 g = some r → z_V X E 10 o g 36 [(0, .ref (z_ad X 71)), (1, .int x1), (3, .int x3), (4, .int x4), (5, .int x5), (6, .int x6), (7, .int x7), (8, .int x8)] [] := by
  intro n
  induction n with
  | zero => intro x1 x3 x4 x5 x6 x7 x8 g h; exact z_none h
  | succ n ih =>
    intro x1 x3 x4 x5 x6 x7 x8 g h
    rw [s_Mod_brings_L36] at h
    refine z_iload hE 7 dX10_brings_36 rfl ?_
    refine z_iload_n hE 2 dX10_brings_38 rfl ?_
    refine z_icmp_ge hE 85 dX10_brings_39 rfl (fun c10q => ?_) (fun c10q => ?_)
    · replace h := z_t c10q h
      refine z_aload_n hE 0 dX10_brings_85 rfl ?_
      refine z_get hE f_RX10_135 (by decide) e_71 rfl dX10_brings_86 ?_
      refine z_iload hE 3 dX10_brings_89 rfl ?_
      refine z_icmp_ne hE 107 dX10_brings_91 rfl (fun c11q => ?_) (fun c11q => ?_)
      · replace h := z_f c11q h
        refine z_sub [] [] rfl ?_
        exact b_Mod_brings_b107 hE hret g h
      · replace h := z_t c11q h
        refine z_aload_n hE 0 dX10_brings_94 rfl ?_
        refine z_get hE f_RX10_138 (by decide) e_71 rfl dX10_brings_95 ?_
        refine z_iload hE 4 dX10_brings_98 rfl ?_
        refine z_icmp_ne hE 107 dX10_brings_100 rfl (fun c12q => ?_) (fun c12q => ?_)
        · replace h := z_f c12q h
          refine z_sub [] [] rfl ?_
          exact b_Mod_brings_b107 hE hret g h
        · replace h := z_t c12q h
          refine z_iconst (v := 1) hE dX10_brings_103 rfl ?_
          refine z_goto hE 108 dX10_brings_104 rfl ?_
          obtain rfl := Option.some.inj h
          exact hret _ _ z_b1 dX10_brings_108
    · replace h := z_f c10q h
      refine z_iload hE 6 dX10_brings_42 rfl ?_
      refine z_iload hE 5 dX10_brings_44 rfl ?_
      obtain ⟨k13q, h⟩ := z_ck_some h
      refine z_idiv hE dX10_brings_46 (of_decide_eq_true k13q) ?_
      refine z_istore hE [(9, .int (x7 / x6)), (0, .ref (z_ad X 71)), (1, .int x1), (3, .int x3), (4, .int x4), (5, .int x5), (6, .int x6), (7, .int x7), (8, .int x8)] dX10_brings_47 (by decide) rfl ?_
      refine z_iload hE 7 dX10_brings_49 rfl ?_
      refine z_iload hE 6 dX10_brings_51 rfl ?_
      obtain ⟨k14q, h⟩ := z_ck_some h
      refine z_irem hE dX10_brings_53 (of_decide_eq_true k14q) ?_
      refine z_istore hE [(7, .int (z_rem x7 x6)), (9, .int (x7 / x6)), (0, .ref (z_ad X 71)), (1, .int x1), (3, .int x3), (4, .int x4), (5, .int x5), (6, .int x6), (8, .int x8)] dX10_brings_54 (by decide) rfl ?_
      refine z_iload hE 7 dX10_brings_56 rfl ?_
      refine z_bipush (v := 24) hE dX10_brings_58 rfl ?_
      refine z_idiv hE dX10_brings_60 (by decide) ?_
      refine z_istore hE [(6, .int (x6 / 24)), (7, .int (z_rem x7 x6)), (9, .int (x7 / x6)), (0, .ref (z_ad X 71)), (1, .int x1), (3, .int x3), (4, .int x4), (5, .int x5), (8, .int x8)] dX10_brings_61 (by decide) rfl ?_
      refine z_aload_n hE 3 dX10_brings_63 rfl ?_
      refine z_iconst (v := 0) hE dX10_brings_64 rfl ?_
      refine z_iload_n hE 4 dX10_brings_65 rfl ?_
      refine z_iload hE 2 dX10_brings_66 rfl ?_
      refine z_iconst (v := 3) hE dX10_brings_68 rfl ?_
      refine z_idiv hE dX10_brings_69 (by decide) ?_
      refine z_iload hE 2 dX10_brings_70 rfl ?_
      refine z_iconst (v := 3) hE dX10_brings_72 rfl ?_
      refine z_irem hE dX10_brings_73 (by decide) ?_
      refine z_iconst (v := 1) hE dX10_brings_74 rfl ?_
      refine z_iadd hE dX10_brings_75 ?_
      obtain ⟨r15q, hr15q, h⟩ := z_bind_some h
      refine z_vV (rest := []) (av := [.int 0, .int x1, .int ((x7 / x6) / 3), .int ((z_rem (x7 / x6) 3) + 1)]) hE (c_Mod_goes 0 x1 ((x7 / x6) / 3) ((z_rem (x7 / x6) 3) + 1) g r15q hr15q) l_RX10_158 (by decide) (by decide) e_71 rfl ⟨by decide, by decide⟩ dX10_brings_76 rfl (Nat.le_of_ble_eq_true rfl) ?_
      refine z_iinc (v := x8 + 1) hE 8 [(8, .int (x8 + 1)), (6, .int (x6 / 24)), (7, .int (z_rem x7 x6)), (9, .int (x7 / x6)), (0, .ref (z_ad X 71)), (1, .int x1), (3, .int x3), (4, .int x4), (5, .int x5)] dX10_brings_79 rfl rfl (by decide) rfl ?_
      refine z_goto hE 36 dX10_brings_82 rfl ?_
      refine z_sub [(0, .ref (z_ad X 71)), (1, .int x1), (3, .int x3), (4, .int x4), (5, .int x5), (6, .int (x6 / 24)), (7, .int (z_rem x7 x6)), (8, .int (x8 + 1))] [4, 5, 6, 7, 8, 1, 2, 0] rfl ?_
      exact ih x1 x3 x4 x5 (x6 / 24) (z_rem x7 x6) (x8 + 1) r15q h
set_option maxHeartbeats 1000000 in
set_option maxRecDepth 20000 in
theorem b_Mod_brings_b28 {X : z_X} {E : z_ET} {o : z_G} (hE : z_EV X E cX10_brings 10 RX10 4 99 80) {r : Int32 × z_G} (hret : ∀ (pc : Nat) (lv : List (Nat × Value)), z_bit r.1 = true → decode cX10_brings pc = .ok (.ireturn, 1) → z_V X E 10 o r.2 pc lv [.int r.1]) (x1 : Int32) (x2 : Int32) (x3 : Int32) (x4 : Int32) (x5 : Int32) (s0 : Int32) (g : z_G)  (h : s_Mod_brings_b28 x1 x2 x3 x4 x5 s0 g = some r) : z_V X E 10 o g 28 [(0, .ref (z_ad X 71)), (1, .int x1), (2, .int x2), (3, .int x3), (4, .int x4), (5, .int x5)] [.int s0] := by
  unfold s_Mod_brings_b28 at h
  refine z_istore hE [(6, .int s0), (0, .ref (z_ad X 71)), (1, .int x1), (2, .int x2), (3, .int x3), (4, .int x4), (5, .int x5)] dX10_brings_28 (by decide) rfl ?_
  refine z_iload_n hE 3 dX10_brings_30 rfl ?_
  refine z_istore hE [(7, .int x2), (6, .int s0), (0, .ref (z_ad X 71)), (1, .int x1), (2, .int x2), (3, .int x3), (4, .int x4), (5, .int x5)] dX10_brings_31 (by decide) rfl ?_
  refine z_iconst (v := 0) hE dX10_brings_33 rfl ?_
  refine z_istore hE [(8, .int 0), (7, .int x2), (6, .int s0), (0, .ref (z_ad X 71)), (1, .int x1), (2, .int x2), (3, .int x3), (4, .int x4), (5, .int x5)] dX10_brings_34 (by decide) rfl ?_
  refine z_sub [(0, .ref (z_ad X 71)), (1, .int x1), (3, .int x3), (4, .int x4), (5, .int x5), (6, .int s0), (7, .int x2), (8, .int 0)] [3, 4, 6, 7, 8, 2, 1, 0] rfl ?_
  exact b_Mod_brings_L36 hE hret z_F x1 x3 x4 x5 s0 x2 0 g h
set_option maxHeartbeats 1000000 in
set_option maxRecDepth 20000 in
theorem c_Mod_brings {X : z_X} {l : Launch} {o : z_G} (x1 : Int32) (x2 : Int32) (x3 : Int32) (x4 : Int32) (x5 : Int32) (g : z_G) (r : Int32 × z_G) (h : s_Mod_brings x1 x2 x3 x4 x5 g = some r) : z_MI X l 80 yX10_brings cX10_brings 10 (some .boolean) 4 99 [.ref (z_ad X 71), .int x1, .int x2, .int x3, .int x4, .int x5] o g o r.2 r.1 := by
  unfold s_Mod_brings at h
  refine z_metz (by decide) (Nat.le_of_ble_eq_true rfl) (fun E hl hE hret => ?_)
  subst hl
  refine z_aload_n hE 0 dX10_brings_0 rfl ?_
  refine z_iconst (v := 0) hE dX10_brings_1 rfl ?_
  refine z_iload_n hE 1 dX10_brings_2 rfl ?_
  obtain ⟨r16q, hr16q, h⟩ := z_bind_some h
  refine z_vV (rest := []) (av := [.int 0, .int x1]) hE (c_Mod_picks 0 x1 g r16q hr16q) l_RX10_155 (by decide) (by decide) e_71 rfl ⟨by decide, by decide⟩ dX10_brings_3 rfl (Nat.le_of_ble_eq_true rfl) ?_
  refine z_iload_n hE 3 dX10_brings_6 rfl ?_
  refine z_iconst (v := 3) hE dX10_brings_7 rfl ?_
  refine z_icmp_ne hE 17 dX10_brings_8 rfl (fun c17q => ?_) (fun c17q => ?_)
  · replace h := z_f c17q h
    refine z_iload_n hE 3 dX10_brings_17 rfl ?_
    refine z_iconst (v := 2) hE dX10_brings_18 rfl ?_
    refine z_icmp_ne hE 27 dX10_brings_19 rfl (fun c18q => ?_) (fun c18q => ?_)
    · replace h := z_f c18q h
      refine z_iconst (v := 1) hE dX10_brings_27 rfl ?_
      exact b_Mod_brings_b28 hE hret x1 x2 x3 x4 x5 1 r16q h
    · replace h := z_t c18q h
      refine z_bipush (v := 24) hE dX10_brings_22 rfl ?_
      refine z_goto hE 28 dX10_brings_24 rfl ?_
      exact b_Mod_brings_b28 hE hret x1 x2 x3 x4 x5 24 r16q h
  · replace h := z_t c17q h
    refine z_sipush (v := 576) hE dX10_brings_11 rfl ?_
    refine z_goto hE 28 dX10_brings_14 rfl ?_
    exact b_Mod_brings_b28 hE hret x1 x2 x3 x4 x5 576 r16q h
theorem dX10_bring_0 : decode cX10_bring 0 = .ok (.aload_n 0, 1) := by decide +kernel
theorem dX10_bring_1 : decode cX10_bring 1 = .ok (.iload_n 1, 1) := by decide +kernel
theorem dX10_bring_2 : decode cX10_bring 2 = .ok (.invokevirtual 113, 3) := by decide +kernel
theorem dX10_bring_5 : decode cX10_bring 5 = .ok (.ifCond .eq 40, 3) := by decide +kernel
theorem dX10_bring_8 : decode cX10_bring 8 = .ok (.iload_n 2, 1) := by decide +kernel
theorem dX10_bring_9 : decode cX10_bring 9 = .ok (.i2l, 1) := by decide +kernel
theorem dX10_bring_10 : decode cX10_bring 10 = .ok (.lconst 0, 1) := by decide +kernel
theorem dX10_bring_11 : decode cX10_bring 11 = .ok (.ldc2_w 122, 3) := by decide +kernel
theorem dX10_bring_14 : decode cX10_bring 14 = .ok (.invokestatic 60, 3) := by decide +kernel
theorem dX10_bring_17 : decode cX10_bring 17 = .ok (.ifCond .eq 28, 3) := by decide +kernel
theorem dX10_bring_20 : decode cX10_bring 20 = .ok (.iload_n 3, 1) := by decide +kernel
theorem dX10_bring_21 : decode cX10_bring 21 = .ok (.i2l, 1) := by decide +kernel
theorem dX10_bring_22 : decode cX10_bring 22 = .ok (.lconst 0, 1) := by decide +kernel
theorem dX10_bring_23 : decode cX10_bring 23 = .ok (.ldc2_w 122, 3) := by decide +kernel
theorem dX10_bring_26 : decode cX10_bring 26 = .ok (.invokestatic 60, 3) := by decide +kernel
theorem dX10_bring_29 : decode cX10_bring 29 = .ok (.ifCond .eq 16, 3) := by decide +kernel
theorem dX10_bring_32 : decode cX10_bring 32 = .ok (.iload 4, 2) := by decide +kernel
theorem dX10_bring_34 : decode cX10_bring 34 = .ok (.i2l, 1) := by decide +kernel
theorem dX10_bring_35 : decode cX10_bring 35 = .ok (.lconst 0, 1) := by decide +kernel
theorem dX10_bring_36 : decode cX10_bring 36 = .ok (.ldc2_w 131, 3) := by decide +kernel
theorem dX10_bring_39 : decode cX10_bring 39 = .ok (.invokestatic 60, 3) := by decide +kernel
theorem dX10_bring_42 : decode cX10_bring 42 = .ok (.ifCond .ne 5, 3) := by decide +kernel
theorem dX10_bring_45 : decode cX10_bring 45 = .ok (.iconst (-1), 1) := by decide +kernel
theorem dX10_bring_46 : decode cX10_bring 46 = .ok (.ireturn, 1) := by decide +kernel
theorem dX10_bring_47 : decode cX10_bring 47 = .ok (.iconst 1, 1) := by decide +kernel
theorem dX10_bring_48 : decode cX10_bring 48 = .ok (.istore 5, 2) := by decide +kernel
theorem dX10_bring_50 : decode cX10_bring 50 = .ok (.iconst 0, 1) := by decide +kernel
theorem dX10_bring_51 : decode cX10_bring 51 = .ok (.istore 6, 2) := by decide +kernel
theorem dX10_bring_53 : decode cX10_bring 53 = .ok (.iload 6, 2) := by decide +kernel
theorem dX10_bring_55 : decode cX10_bring 55 = .ok (.iconst 3, 1) := by decide +kernel
theorem dX10_bring_56 : decode cX10_bring 56 = .ok (.if_icmp .gt 128, 3) := by decide +kernel
theorem dX10_bring_59 : decode cX10_bring 59 = .ok (.iconst 0, 1) := by decide +kernel
theorem dX10_bring_60 : decode cX10_bring 60 = .ok (.istore 7, 2) := by decide +kernel
theorem dX10_bring_62 : decode cX10_bring 62 = .ok (.iload 7, 2) := by decide +kernel
theorem dX10_bring_64 : decode cX10_bring 64 = .ok (.iload 5, 2) := by decide +kernel
theorem dX10_bring_66 : decode cX10_bring 66 = .ok (.if_icmp .ge 105, 3) := by decide +kernel
theorem dX10_bring_69 : decode cX10_bring 69 = .ok (.aload_n 0, 1) := by decide +kernel
theorem dX10_bring_70 : decode cX10_bring 70 = .ok (.iload_n 1, 1) := by decide +kernel
theorem dX10_bring_71 : decode cX10_bring 71 = .ok (.iload 7, 2) := by decide +kernel
theorem dX10_bring_73 : decode cX10_bring 73 = .ok (.iload 6, 2) := by decide +kernel
theorem dX10_bring_75 : decode cX10_bring 75 = .ok (.iload_n 2, 1) := by decide +kernel
theorem dX10_bring_76 : decode cX10_bring 76 = .ok (.iload_n 3, 1) := by decide +kernel
theorem dX10_bring_77 : decode cX10_bring 77 = .ok (.invokevirtual 186, 3) := by decide +kernel
theorem dX10_bring_80 : decode cX10_bring 80 = .ok (.ifCond .eq 85, 3) := by decide +kernel
theorem dX10_bring_83 : decode cX10_bring 83 = .ok (.iload 6, 2) := by decide +kernel
theorem dX10_bring_85 : decode cX10_bring 85 = .ok (.iload 4, 2) := by decide +kernel
theorem dX10_bring_87 : decode cX10_bring 87 = .ok (.isub, 1) := by decide +kernel
theorem dX10_bring_88 : decode cX10_bring 88 = .ok (.iconst 2, 1) := by decide +kernel
theorem dX10_bring_89 : decode cX10_bring 89 = .ok (.if_icmp .ne 12, 3) := by decide +kernel
theorem dX10_bring_92 : decode cX10_bring 92 = .ok (.iload 7, 2) := by decide +kernel
theorem dX10_bring_94 : decode cX10_bring 94 = .ok (.sipush 576, 3) := by decide +kernel
theorem dX10_bring_97 : decode cX10_bring 97 = .ok (.idiv, 1) := by decide +kernel
theorem dX10_bring_98 : decode cX10_bring 98 = .ok (.goto 28, 3) := by decide +kernel
theorem dX10_bring_101 : decode cX10_bring 101 = .ok (.iload 6, 2) := by decide +kernel
theorem dX10_bring_103 : decode cX10_bring 103 = .ok (.iload 4, 2) := by decide +kernel
theorem dX10_bring_105 : decode cX10_bring 105 = .ok (.isub, 1) := by decide +kernel
theorem dX10_bring_106 : decode cX10_bring 106 = .ok (.iconst 1, 1) := by decide +kernel
theorem dX10_bring_107 : decode cX10_bring 107 = .ok (.if_icmp .ne 14, 3) := by decide +kernel
theorem dX10_bring_110 : decode cX10_bring 110 = .ok (.iload 7, 2) := by decide +kernel
theorem dX10_bring_112 : decode cX10_bring 112 = .ok (.bipush 24, 2) := by decide +kernel
theorem dX10_bring_114 : decode cX10_bring 114 = .ok (.idiv, 1) := by decide +kernel
theorem dX10_bring_115 : decode cX10_bring 115 = .ok (.bipush 24, 2) := by decide +kernel
theorem dX10_bring_117 : decode cX10_bring 117 = .ok (.irem, 1) := by decide +kernel
theorem dX10_bring_118 : decode cX10_bring 118 = .ok (.goto 8, 3) := by decide +kernel
theorem dX10_bring_121 : decode cX10_bring 121 = .ok (.iload 7, 2) := by decide +kernel
theorem dX10_bring_123 : decode cX10_bring 123 = .ok (.bipush 24, 2) := by decide +kernel
theorem dX10_bring_125 : decode cX10_bring 125 = .ok (.irem, 1) := by decide +kernel
theorem dX10_bring_126 : decode cX10_bring 126 = .ok (.istore 8, 2) := by decide +kernel
theorem dX10_bring_128 : decode cX10_bring 128 = .ok (.iload 4, 2) := by decide +kernel
theorem dX10_bring_130 : decode cX10_bring 130 = .ok (.ifCond .ne 8, 3) := by decide +kernel
theorem dX10_bring_133 : decode cX10_bring 133 = .ok (.iload 6, 2) := by decide +kernel
theorem dX10_bring_135 : decode cX10_bring 135 = .ok (.goto 29, 3) := by decide +kernel
theorem dX10_bring_138 : decode cX10_bring 138 = .ok (.iload 4, 2) := by decide +kernel
theorem dX10_bring_140 : decode cX10_bring 140 = .ok (.iload 6, 2) := by decide +kernel
theorem dX10_bring_142 : decode cX10_bring 142 = .ok (.if_icmp .le 8, 3) := by decide +kernel
theorem dX10_bring_145 : decode cX10_bring 145 = .ok (.bipush (-4), 2) := by decide +kernel
theorem dX10_bring_147 : decode cX10_bring 147 = .ok (.goto 17, 3) := by decide +kernel
theorem dX10_bring_150 : decode cX10_bring 150 = .ok (.bipush 10, 2) := by decide +kernel
theorem dX10_bring_152 : decode cX10_bring 152 = .ok (.iload 8, 2) := by decide +kernel
theorem dX10_bring_154 : decode cX10_bring 154 = .ok (.iconst 3, 1) := by decide +kernel
theorem dX10_bring_155 : decode cX10_bring 155 = .ok (.idiv, 1) := by decide +kernel
theorem dX10_bring_156 : decode cX10_bring 156 = .ok (.imul, 1) := by decide +kernel
theorem dX10_bring_157 : decode cX10_bring 157 = .ok (.iload 8, 2) := by decide +kernel
theorem dX10_bring_159 : decode cX10_bring 159 = .ok (.iconst 3, 1) := by decide +kernel
theorem dX10_bring_160 : decode cX10_bring 160 = .ok (.irem, 1) := by decide +kernel
theorem dX10_bring_161 : decode cX10_bring 161 = .ok (.iadd, 1) := by decide +kernel
theorem dX10_bring_162 : decode cX10_bring 162 = .ok (.iconst 1, 1) := by decide +kernel
theorem dX10_bring_163 : decode cX10_bring 163 = .ok (.iadd, 1) := by decide +kernel
theorem dX10_bring_164 : decode cX10_bring 164 = .ok (.ireturn, 1) := by decide +kernel
theorem dX10_bring_165 : decode cX10_bring 165 = .ok (.iinc 7 1, 3) := by decide +kernel
theorem dX10_bring_168 : decode cX10_bring 168 = .ok (.goto (-106), 3) := by decide +kernel
theorem dX10_bring_171 : decode cX10_bring 171 = .ok (.iload 5, 2) := by decide +kernel
theorem dX10_bring_173 : decode cX10_bring 173 = .ok (.bipush 24, 2) := by decide +kernel
theorem dX10_bring_175 : decode cX10_bring 175 = .ok (.imul, 1) := by decide +kernel
theorem dX10_bring_176 : decode cX10_bring 176 = .ok (.istore 5, 2) := by decide +kernel
theorem dX10_bring_178 : decode cX10_bring 178 = .ok (.iinc 6 1, 3) := by decide +kernel
theorem dX10_bring_181 : decode cX10_bring 181 = .ok (.goto (-128), 3) := by decide +kernel
theorem dX10_bring_184 : decode cX10_bring 184 = .ok (.bipush (-4), 2) := by decide +kernel
theorem dX10_bring_186 : decode cX10_bring 186 = .ok (.ireturn, 1) := by decide +kernel
def s_Mod_bring_b45  (g : z_G) : Option (Int32 × z_G) := (some ((-1), g))
def s_Mod_bring_b126 (x4 : Int32) (x6 : Int32) (s0 : Int32) (g : z_G) : Option (Int32 × z_G) := (if x4 = 0 then (some (x6, g)) else (if x4 ≤ x6 then (some ((((10 * (s0 / 3)) + (z_rem s0 3)) + 1), g)) else (some ((-4), g))))
def s_Mod_bring_L62 (k53 : Int32 → Int32 → Int32 → Int32 → Int32 → Int32 → z_G → Option (Int32 × z_G)) : Nat → Int32 → Int32 → Int32 → Int32 → Int32 → Int32 → Int32 → z_G → Option (Int32 × z_G)
  | 0, _, _, _, _, _, _, _, _ => none
  | n + 1, x1, x2, x3, x4, x5, x6, x7, g => (if x5 ≤ x7 then (k53 x1 x2 x3 x4 (x5 * 24) (x6 + 1) g) else (Option.bind (s_Mod_brings x1 x7 x6 x2 x3 g) fun r16q => (if r16q.1 = 0 then ((s_Mod_bring_L62 k53 n) x1 x2 x3 x4 x5 x6 (x7 + 1) r16q.2) else (if (x6 - x4) = 2 then (s_Mod_bring_b126 x4 x6 (x7 / 576) r16q.2) else (if (x6 - x4) = 1 then (s_Mod_bring_b126 x4 x6 (z_rem (x7 / 24) 24) r16q.2) else (s_Mod_bring_b126 x4 x6 (z_rem x7 24) r16q.2))))))
def s_Mod_bring_L53 : Nat → Int32 → Int32 → Int32 → Int32 → Int32 → Int32 → z_G → Option (Int32 × z_G)
  | 0, _, _, _, _, _, _, _ => none
  | n + 1, x1, x2, x3, x4, x5, x6, g => (if 3 < x6 then (some ((-4), g)) else (s_Mod_bring_L62 (s_Mod_bring_L53 n) z_F x1 x2 x3 x4 x5 x6 0 g))
def s_Mod_bring (x1 : Int32) (x2 : Int32) (x3 : Int32) (x4 : Int32) (g : z_G) : Option (Int32 × z_G) := (if (s_Mod_isMan x1 g) = 0 then (s_Mod_bring_b45 g) else (if (s_Mod_in (Int32.toInt64 x2) 0 15) = 0 then (s_Mod_bring_b45 g) else (if (s_Mod_in (Int32.toInt64 x3) 0 15) = 0 then (s_Mod_bring_b45 g) else (if (s_Mod_in (Int32.toInt64 x4) 0 3) = 0 then (s_Mod_bring_b45 g) else (s_Mod_bring_L53 z_F x1 x2 x3 x4 1 0 g)))))
set_option maxHeartbeats 1000000 in
set_option maxRecDepth 20000 in
theorem b_Mod_bring_b45 {X : z_X} {E : z_ET} {o : z_G} (hE : z_EV X E cX10_bring 9 RX10 5 128 80) {r : Int32 × z_G} (hret : ∀ (pc : Nat) (lv : List (Nat × Value)), decode cX10_bring pc = .ok (.ireturn, 1) → z_V X E 9 o r.2 pc lv [.int r.1])  (g : z_G)  (h : s_Mod_bring_b45 g = some r) : z_V X E 9 o g 45 [] [] := by
  unfold s_Mod_bring_b45 at h
  refine z_iconst (v := (-1)) hE dX10_bring_45 rfl ?_
  obtain rfl := Option.some.inj h
  exact hret _ _ dX10_bring_46
set_option maxHeartbeats 1000000 in
set_option maxRecDepth 20000 in
theorem b_Mod_bring_b126 {X : z_X} {E : z_ET} {o : z_G} (hE : z_EV X E cX10_bring 9 RX10 5 128 80) {r : Int32 × z_G} (hret : ∀ (pc : Nat) (lv : List (Nat × Value)), decode cX10_bring pc = .ok (.ireturn, 1) → z_V X E 9 o r.2 pc lv [.int r.1]) (x4 : Int32) (x6 : Int32) (s0 : Int32) (g : z_G)  (h : s_Mod_bring_b126 x4 x6 s0 g = some r) : z_V X E 9 o g 126 [(4, .int x4), (6, .int x6)] [.int s0] := by
  unfold s_Mod_bring_b126 at h
  refine z_istore hE [(8, .int s0), (4, .int x4), (6, .int x6)] dX10_bring_126 (by decide) rfl ?_
  refine z_iload hE 1 dX10_bring_128 rfl ?_
  refine z_if_ne hE 138 dX10_bring_130 rfl (fun c13q => ?_) (fun c13q => ?_)
  · replace h := z_f c13q h
    refine z_iload hE 1 dX10_bring_138 rfl ?_
    refine z_iload hE 2 dX10_bring_140 rfl ?_
    refine z_icmp_le hE 150 dX10_bring_142 rfl (fun c14q => ?_) (fun c14q => ?_)
    · replace h := z_t c14q h
      refine z_bipush (v := 10) hE dX10_bring_150 rfl ?_
      refine z_iload hE 0 dX10_bring_152 rfl ?_
      refine z_iconst (v := 3) hE dX10_bring_154 rfl ?_
      refine z_idiv hE dX10_bring_155 (by decide) ?_
      refine z_imul hE dX10_bring_156 ?_
      refine z_iload hE 0 dX10_bring_157 rfl ?_
      refine z_iconst (v := 3) hE dX10_bring_159 rfl ?_
      refine z_irem hE dX10_bring_160 (by decide) ?_
      refine z_iadd hE dX10_bring_161 ?_
      refine z_iconst (v := 1) hE dX10_bring_162 rfl ?_
      refine z_iadd hE dX10_bring_163 ?_
      obtain rfl := Option.some.inj h
      exact hret _ _ dX10_bring_164
    · replace h := z_f c14q h
      refine z_bipush (v := (-4)) hE dX10_bring_145 rfl ?_
      refine z_goto hE 164 dX10_bring_147 rfl ?_
      obtain rfl := Option.some.inj h
      exact hret _ _ dX10_bring_164
  · replace h := z_t c13q h
    refine z_iload hE 2 dX10_bring_133 rfl ?_
    refine z_goto hE 164 dX10_bring_135 rfl ?_
    obtain rfl := Option.some.inj h
    exact hret _ _ dX10_bring_164
set_option maxHeartbeats 1000000 in
set_option maxRecDepth 20000 in
theorem b_Mod_bring_L62 {X : z_X} {E : z_ET} {o : z_G} (hE : z_EV X E cX10_bring 9 RX10 5 128 80) {r : Int32 × z_G} (hret : ∀ (pc : Nat) (lv : List (Nat × Value)), decode cX10_bring pc = .ok (.ireturn, 1) → z_V X E 9 o r.2 pc lv [.int r.1]) (k53 : Int32 → Int32 → Int32 → Int32 → Int32 → Int32 → z_G → Option (Int32 × z_G)) (hk53 : ∀ (x1 : Int32) (x2 : Int32) (x3 : Int32) (x4 : Int32) (x5 : Int32) (x6 : Int32) (g : z_G), k53 x1 x2 x3 x4 x5 x6 g = some r → z_V X E 9 o g 53 [(0, .ref (z_ad X 71)), (1, .int x1), (2, .int x2), (3, .int x3), (4, .int x4), (5, .int x5), (6, .int x6)] []) : ∀ (n : Nat) (x1 : Int32) (x2 : Int32) (x3 : Int32) (x4 : Int32) (x5 : Int32) (x6 : Int32) (x7 : Int32) (g : z_G), s_Mod_bring_L62 k53 n x1 x2 x3 x4 x5 x6 x7 g = some r → z_V X E 9 o g 62 [(0, .ref (z_ad X 71)), (1, .int x1), (2, .int x2), (3, .int x3), (4, .int x4), (5, .int x5), (6, .int x6), (7, .int x7)] [] := by
  intro n
  induction n with
  | zero => intro x1 x2 x3 x4 x5 x6 x7 g h; exact z_none h
  | succ n ih =>
    intro x1 x2 x3 x4 x5 x6 x7 g h
    rw [s_Mod_bring_L62] at h
    refine z_iload hE 7 dX10_bring_62 rfl ?_
    refine z_iload hE 5 dX10_bring_64 rfl ?_
    refine z_icmp_ge hE 171 dX10_bring_66 rfl (fun c15q => ?_) (fun c15q => ?_)
    · replace h := z_t c15q h
      refine z_iload hE 5 dX10_bring_171 rfl ?_
      refine z_bipush (v := 24) hE dX10_bring_173 rfl ?_
      refine z_imul hE dX10_bring_175 ?_
      refine z_istore hE [(5, .int (x5 * 24)), (0, .ref (z_ad X 71)), (1, .int x1), (2, .int x2), (3, .int x3), (4, .int x4), (6, .int x6), (7, .int x7)] dX10_bring_176 (by decide) rfl ?_
      refine z_iinc (v := x6 + 1) hE 6 [(6, .int (x6 + 1)), (5, .int (x5 * 24)), (0, .ref (z_ad X 71)), (1, .int x1), (2, .int x2), (3, .int x3), (4, .int x4), (7, .int x7)] dX10_bring_178 rfl rfl (by decide) rfl ?_
      refine z_goto hE 53 dX10_bring_181 rfl ?_
      refine z_sub [(0, .ref (z_ad X 71)), (1, .int x1), (2, .int x2), (3, .int x3), (4, .int x4), (5, .int (x5 * 24)), (6, .int (x6 + 1))] [2, 3, 4, 5, 6, 1, 0] rfl ?_
      exact hk53 x1 x2 x3 x4 (x5 * 24) (x6 + 1) g h
    · replace h := z_f c15q h
      refine z_aload_n hE 0 dX10_bring_69 rfl ?_
      refine z_iload_n hE 1 dX10_bring_70 rfl ?_
      refine z_iload hE 7 dX10_bring_71 rfl ?_
      refine z_iload hE 6 dX10_bring_73 rfl ?_
      refine z_iload_n hE 2 dX10_bring_75 rfl ?_
      refine z_iload_n hE 3 dX10_bring_76 rfl ?_
      obtain ⟨r16q, hr16q, h⟩ := z_bind_some h
      refine z_iV (rest := []) (av := [.int x1, .int x7, .int x6, .int x2, .int x3]) hE (c_Mod_brings x1 x7 x6 x2 x3 g r16q hr16q) l_RX10_186 (by decide) (by decide) e_71 rfl ⟨by decide, by decide⟩ dX10_bring_77 rfl (Nat.le_of_ble_eq_true rfl) ?_
      refine z_if_eq hE 165 dX10_bring_80 rfl (fun c17q => ?_) (fun c17q => ?_)
      · replace h := z_t c17q h
        refine z_iinc (v := x7 + 1) hE 7 [(7, .int (x7 + 1)), (0, .ref (z_ad X 71)), (1, .int x1), (2, .int x2), (3, .int x3), (4, .int x4), (5, .int x5), (6, .int x6)] dX10_bring_165 rfl rfl (by decide) rfl ?_
        refine z_goto hE 62 dX10_bring_168 rfl ?_
        refine z_sub [(0, .ref (z_ad X 71)), (1, .int x1), (2, .int x2), (3, .int x3), (4, .int x4), (5, .int x5), (6, .int x6), (7, .int (x7 + 1))] [1, 2, 3, 4, 5, 6, 7, 0] rfl ?_
        exact ih x1 x2 x3 x4 x5 x6 (x7 + 1) r16q.2 h
      · replace h := z_f c17q h
        refine z_iload hE 6 dX10_bring_83 rfl ?_
        refine z_iload hE 4 dX10_bring_85 rfl ?_
        refine z_isub hE dX10_bring_87 ?_
        refine z_iconst (v := 2) hE dX10_bring_88 rfl ?_
        refine z_icmp_ne hE 101 dX10_bring_89 rfl (fun c18q => ?_) (fun c18q => ?_)
        · replace h := z_f c18q h
          refine z_iload hE 6 dX10_bring_101 rfl ?_
          refine z_iload hE 4 dX10_bring_103 rfl ?_
          refine z_isub hE dX10_bring_105 ?_
          refine z_iconst (v := 1) hE dX10_bring_106 rfl ?_
          refine z_icmp_ne hE 121 dX10_bring_107 rfl (fun c19q => ?_) (fun c19q => ?_)
          · replace h := z_f c19q h
            refine z_iload hE 7 dX10_bring_121 rfl ?_
            refine z_bipush (v := 24) hE dX10_bring_123 rfl ?_
            refine z_irem hE dX10_bring_125 (by decide) ?_
            refine z_sub [(4, .int x4), (6, .int x6)] [4, 6] rfl ?_
            exact b_Mod_bring_b126 hE hret x4 x6 (z_rem x7 24) r16q.2 h
          · replace h := z_t c19q h
            refine z_iload hE 7 dX10_bring_110 rfl ?_
            refine z_bipush (v := 24) hE dX10_bring_112 rfl ?_
            refine z_idiv hE dX10_bring_114 (by decide) ?_
            refine z_bipush (v := 24) hE dX10_bring_115 rfl ?_
            refine z_irem hE dX10_bring_117 (by decide) ?_
            refine z_goto hE 126 dX10_bring_118 rfl ?_
            refine z_sub [(4, .int x4), (6, .int x6)] [4, 6] rfl ?_
            exact b_Mod_bring_b126 hE hret x4 x6 (z_rem (x7 / 24) 24) r16q.2 h
        · replace h := z_t c18q h
          refine z_iload hE 7 dX10_bring_92 rfl ?_
          refine z_sipush (v := 576) hE dX10_bring_94 rfl ?_
          refine z_idiv hE dX10_bring_97 (by decide) ?_
          refine z_goto hE 126 dX10_bring_98 rfl ?_
          refine z_sub [(4, .int x4), (6, .int x6)] [4, 6] rfl ?_
          exact b_Mod_bring_b126 hE hret x4 x6 (x7 / 576) r16q.2 h
set_option maxHeartbeats 1000000 in
set_option maxRecDepth 20000 in
theorem b_Mod_bring_L53 {X : z_X} {E : z_ET} {o : z_G} (hE : z_EV X E cX10_bring 9 RX10 5 128 80) {r : Int32 × z_G} (hret : ∀ (pc : Nat) (lv : List (Nat × Value)), decode cX10_bring pc = .ok (.ireturn, 1) → z_V X E 9 o r.2 pc lv [.int r.1]) : ∀ (n : Nat) (x1 : Int32) (x2 : Int32) (x3 : Int32) (x4 : Int32) (x5 : Int32) (x6 : Int32) (g : z_G), s_Mod_bring_L53 n x1 x2 x3 x4 x5 x6 g = some r → z_V X E 9 o g 53 [(0, .ref (z_ad X 71)), (1, .int x1), (2, .int x2), (3, .int x3), (4, .int x4), (5, .int x5), (6, .int x6)] [] := by
  intro n
  induction n with
  | zero => intro x1 x2 x3 x4 x5 x6 g h; exact z_none h
  | succ n ih =>
    intro x1 x2 x3 x4 x5 x6 g h
    rw [s_Mod_bring_L53] at h
    refine z_iload hE 6 dX10_bring_53 rfl ?_
    refine z_iconst (v := 3) hE dX10_bring_55 rfl ?_
    refine z_icmp_gt hE 184 dX10_bring_56 rfl (fun c20q => ?_) (fun c20q => ?_)
    · replace h := z_t c20q h
      refine z_bipush (v := (-4)) hE dX10_bring_184 rfl ?_
      obtain rfl := Option.some.inj h
      exact hret _ _ dX10_bring_186
    · replace h := z_f c20q h
      refine z_iconst (v := 0) hE dX10_bring_59 rfl ?_
      refine z_istore hE [(7, .int 0), (0, .ref (z_ad X 71)), (1, .int x1), (2, .int x2), (3, .int x3), (4, .int x4), (5, .int x5), (6, .int x6)] dX10_bring_60 (by decide) rfl ?_
      refine z_sub [(0, .ref (z_ad X 71)), (1, .int x1), (2, .int x2), (3, .int x3), (4, .int x4), (5, .int x5), (6, .int x6), (7, .int 0)] [1, 2, 3, 4, 5, 6, 7, 0] rfl ?_
      exact b_Mod_bring_L62 hE hret (s_Mod_bring_L53 n) ih z_F x1 x2 x3 x4 x5 x6 0 g h
set_option maxHeartbeats 1000000 in
set_option maxRecDepth 20000 in
theorem c_Mod_bring {X : z_X} {l : Launch} {o : z_G} (x1 : Int32) (x2 : Int32) (x3 : Int32) (x4 : Int32) (g : z_G) (r : Int32 × z_G) (h : s_Mod_bring x1 x2 x3 x4 g = some r) : z_MI X l 80 yX10_bring cX10_bring 9 (some .int) 5 128 [.ref (z_ad X 71), .int x1, .int x2, .int x3, .int x4] o g o r.2 r.1 := by
  unfold s_Mod_bring at h
  refine z_meti (ty := .int) rfl rfl (by decide) (Nat.le_of_ble_eq_true rfl) (fun E hl hE hret => ?_)
  subst hl
  refine z_aload_n hE 0 dX10_bring_0 rfl ?_
  refine z_iload_n hE 1 dX10_bring_1 rfl ?_
  refine z_iV (rest := []) (av := [.int x1]) hE (c_Mod_isMan x1 g) l_RX10_113 (by decide) (by decide) e_71 rfl ⟨by decide, by decide⟩ dX10_bring_2 rfl (Nat.le_of_ble_eq_true rfl) ?_
  refine z_if_eq hE 45 dX10_bring_5 rfl (fun c21q => ?_) (fun c21q => ?_)
  · replace h := z_t c21q h
    refine z_sub [] [] rfl ?_
    exact b_Mod_bring_b45 hE hret g h
  · replace h := z_f c21q h
    refine z_iload_n hE 2 dX10_bring_8 rfl ?_
    refine z_i2l hE dX10_bring_9 ?_
    refine z_lconst (v := 0) hE dX10_bring_10 rfl ?_
    refine z_ldc2 hE dX10_bring_11 w_470 ?_
    refine z_iS (rest := []) (av := [.long (Int32.toInt64 x2), .long 0, .long 15]) hE (c_Mod_in (Int32.toInt64 x2) 0 15 g) l_RX10_60 (by decide) ⟨by decide, by decide⟩ dX10_bring_14 rfl (Nat.le_of_ble_eq_true rfl) ?_
    refine z_if_eq hE 45 dX10_bring_17 rfl (fun c22q => ?_) (fun c22q => ?_)
    · replace h := z_t c22q h
      refine z_sub [] [] rfl ?_
      exact b_Mod_bring_b45 hE hret g h
    · replace h := z_f c22q h
      refine z_iload_n hE 3 dX10_bring_20 rfl ?_
      refine z_i2l hE dX10_bring_21 ?_
      refine z_lconst (v := 0) hE dX10_bring_22 rfl ?_
      refine z_ldc2 hE dX10_bring_23 w_470 ?_
      refine z_iS (rest := []) (av := [.long (Int32.toInt64 x3), .long 0, .long 15]) hE (c_Mod_in (Int32.toInt64 x3) 0 15 g) l_RX10_60 (by decide) ⟨by decide, by decide⟩ dX10_bring_26 rfl (Nat.le_of_ble_eq_true rfl) ?_
      refine z_if_eq hE 45 dX10_bring_29 rfl (fun c23q => ?_) (fun c23q => ?_)
      · replace h := z_t c23q h
        refine z_sub [] [] rfl ?_
        exact b_Mod_bring_b45 hE hret g h
      · replace h := z_f c23q h
        refine z_iload hE 4 dX10_bring_32 rfl ?_
        refine z_i2l hE dX10_bring_34 ?_
        refine z_lconst (v := 0) hE dX10_bring_35 rfl ?_
        refine z_ldc2 hE dX10_bring_36 w_495 ?_
        refine z_iS (rest := []) (av := [.long (Int32.toInt64 x4), .long 0, .long 3]) hE (c_Mod_in (Int32.toInt64 x4) 0 3 g) l_RX10_60 (by decide) ⟨by decide, by decide⟩ dX10_bring_39 rfl (Nat.le_of_ble_eq_true rfl) ?_
        refine z_if_ne hE 47 dX10_bring_42 rfl (fun c24q => ?_) (fun c24q => ?_)
        · replace h := z_f c24q h
          refine z_iconst (v := 1) hE dX10_bring_47 rfl ?_
          refine z_istore hE [(5, .int 1), (0, .ref (z_ad X 71)), (1, .int x1), (2, .int x2), (3, .int x3), (4, .int x4)] dX10_bring_48 (by decide) rfl ?_
          refine z_iconst (v := 0) hE dX10_bring_50 rfl ?_
          refine z_istore hE [(6, .int 0), (5, .int 1), (0, .ref (z_ad X 71)), (1, .int x1), (2, .int x2), (3, .int x3), (4, .int x4)] dX10_bring_51 (by decide) rfl ?_
          refine z_sub [(0, .ref (z_ad X 71)), (1, .int x1), (2, .int x2), (3, .int x3), (4, .int x4), (5, .int 1), (6, .int 0)] [2, 3, 4, 5, 6, 1, 0] rfl ?_
          exact b_Mod_bring_L53 hE hret z_F x1 x2 x3 x4 1 0 g h
        · replace h := z_t c24q h
          refine z_sub [] [] rfl ?_
          exact b_Mod_bring_b45 hE hret g h
theorem dX10_gives_0 : decode cX10_gives 0 = .ok (.aload_n 0, 1) := by decide +kernel
theorem dX10_gives_1 : decode cX10_gives 1 = .ok (.invokevirtual 56, 3) := by decide +kernel
theorem dX10_gives_4 : decode cX10_gives 4 = .ok (.istore_n 1, 1) := by decide +kernel
theorem dX10_gives_5 : decode cX10_gives 5 = .ok (.iload_n 1, 1) := by decide +kernel
theorem dX10_gives_6 : decode cX10_gives 6 = .ok (.iconst 2, 1) := by decide +kernel
theorem dX10_gives_7 : decode cX10_gives 7 = .ok (.isub, 1) := by decide +kernel
theorem dX10_gives_8 : decode cX10_gives 8 = .ok (.istore_n 2, 1) := by decide +kernel
theorem dX10_gives_9 : decode cX10_gives 9 = .ok (.iload_n 2, 1) := by decide +kernel
theorem dX10_gives_10 : decode cX10_gives 10 = .ok (.ifCond .lt 26, 3) := by decide +kernel
theorem dX10_gives_13 : decode cX10_gives 13 = .ok (.aload_n 0, 1) := by decide +kernel
theorem dX10_gives_14 : decode cX10_gives 14 = .ok (.getfield 29, 3) := by decide +kernel
theorem dX10_gives_17 : decode cX10_gives 17 = .ok (.iload_n 2, 1) := by decide +kernel
theorem dX10_gives_18 : decode cX10_gives 18 = .ok (.iaload, 1) := by decide +kernel
theorem dX10_gives_19 : decode cX10_gives 19 = .ok (.aload_n 0, 1) := by decide +kernel
theorem dX10_gives_20 : decode cX10_gives 20 = .ok (.getfield 29, 3) := by decide +kernel
theorem dX10_gives_23 : decode cX10_gives 23 = .ok (.iload_n 2, 1) := by decide +kernel
theorem dX10_gives_24 : decode cX10_gives 24 = .ok (.iconst 1, 1) := by decide +kernel
theorem dX10_gives_25 : decode cX10_gives 25 = .ok (.iadd, 1) := by decide +kernel
theorem dX10_gives_26 : decode cX10_gives 26 = .ok (.iaload, 1) := by decide +kernel
theorem dX10_gives_27 : decode cX10_gives 27 = .ok (.if_icmp .le 9, 3) := by decide +kernel
theorem dX10_gives_30 : decode cX10_gives 30 = .ok (.iinc 2 (-1), 3) := by decide +kernel
theorem dX10_gives_33 : decode cX10_gives 33 = .ok (.goto (-24), 3) := by decide +kernel
theorem dX10_gives_36 : decode cX10_gives 36 = .ok (.iload_n 2, 1) := by decide +kernel
theorem dX10_gives_37 : decode cX10_gives 37 = .ok (.ifCond .ge 5, 3) := by decide +kernel
theorem dX10_gives_40 : decode cX10_gives 40 = .ok (.iconst 0, 1) := by decide +kernel
theorem dX10_gives_41 : decode cX10_gives 41 = .ok (.ireturn, 1) := by decide +kernel
theorem dX10_gives_42 : decode cX10_gives 42 = .ok (.iload_n 1, 1) := by decide +kernel
theorem dX10_gives_43 : decode cX10_gives 43 = .ok (.iconst 1, 1) := by decide +kernel
theorem dX10_gives_44 : decode cX10_gives 44 = .ok (.isub, 1) := by decide +kernel
theorem dX10_gives_45 : decode cX10_gives 45 = .ok (.istore_n 3, 1) := by decide +kernel
theorem dX10_gives_46 : decode cX10_gives 46 = .ok (.aload_n 0, 1) := by decide +kernel
theorem dX10_gives_47 : decode cX10_gives 47 = .ok (.getfield 29, 3) := by decide +kernel
theorem dX10_gives_50 : decode cX10_gives 50 = .ok (.iload_n 3, 1) := by decide +kernel
theorem dX10_gives_51 : decode cX10_gives 51 = .ok (.iaload, 1) := by decide +kernel
theorem dX10_gives_52 : decode cX10_gives 52 = .ok (.aload_n 0, 1) := by decide +kernel
theorem dX10_gives_53 : decode cX10_gives 53 = .ok (.getfield 29, 3) := by decide +kernel
theorem dX10_gives_56 : decode cX10_gives 56 = .ok (.iload_n 2, 1) := by decide +kernel
theorem dX10_gives_57 : decode cX10_gives 57 = .ok (.iaload, 1) := by decide +kernel
theorem dX10_gives_58 : decode cX10_gives 58 = .ok (.if_icmp .ge 9, 3) := by decide +kernel
theorem dX10_gives_61 : decode cX10_gives 61 = .ok (.iinc 3 (-1), 3) := by decide +kernel
theorem dX10_gives_64 : decode cX10_gives 64 = .ok (.goto (-18), 3) := by decide +kernel
theorem dX10_gives_67 : decode cX10_gives 67 = .ok (.aload_n 0, 1) := by decide +kernel
theorem dX10_gives_68 : decode cX10_gives 68 = .ok (.getfield 29, 3) := by decide +kernel
theorem dX10_gives_71 : decode cX10_gives 71 = .ok (.iload_n 2, 1) := by decide +kernel
theorem dX10_gives_72 : decode cX10_gives 72 = .ok (.iaload, 1) := by decide +kernel
theorem dX10_gives_73 : decode cX10_gives 73 = .ok (.istore 4, 2) := by decide +kernel
theorem dX10_gives_75 : decode cX10_gives 75 = .ok (.aload_n 0, 1) := by decide +kernel
theorem dX10_gives_76 : decode cX10_gives 76 = .ok (.getfield 29, 3) := by decide +kernel
theorem dX10_gives_79 : decode cX10_gives 79 = .ok (.iload_n 2, 1) := by decide +kernel
theorem dX10_gives_80 : decode cX10_gives 80 = .ok (.aload_n 0, 1) := by decide +kernel
theorem dX10_gives_81 : decode cX10_gives 81 = .ok (.getfield 29, 3) := by decide +kernel
theorem dX10_gives_84 : decode cX10_gives 84 = .ok (.iload_n 3, 1) := by decide +kernel
theorem dX10_gives_85 : decode cX10_gives 85 = .ok (.iaload, 1) := by decide +kernel
theorem dX10_gives_86 : decode cX10_gives 86 = .ok (.iastore, 1) := by decide +kernel
theorem dX10_gives_87 : decode cX10_gives 87 = .ok (.aload_n 0, 1) := by decide +kernel
theorem dX10_gives_88 : decode cX10_gives 88 = .ok (.getfield 29, 3) := by decide +kernel
theorem dX10_gives_91 : decode cX10_gives 91 = .ok (.iload_n 3, 1) := by decide +kernel
theorem dX10_gives_92 : decode cX10_gives 92 = .ok (.iload 4, 2) := by decide +kernel
theorem dX10_gives_94 : decode cX10_gives 94 = .ok (.iastore, 1) := by decide +kernel
theorem dX10_gives_95 : decode cX10_gives 95 = .ok (.iload_n 2, 1) := by decide +kernel
theorem dX10_gives_96 : decode cX10_gives 96 = .ok (.iconst 1, 1) := by decide +kernel
theorem dX10_gives_97 : decode cX10_gives 97 = .ok (.iadd, 1) := by decide +kernel
theorem dX10_gives_98 : decode cX10_gives 98 = .ok (.istore 5, 2) := by decide +kernel
theorem dX10_gives_100 : decode cX10_gives 100 = .ok (.iload_n 1, 1) := by decide +kernel
theorem dX10_gives_101 : decode cX10_gives 101 = .ok (.iconst 1, 1) := by decide +kernel
theorem dX10_gives_102 : decode cX10_gives 102 = .ok (.isub, 1) := by decide +kernel
theorem dX10_gives_103 : decode cX10_gives 103 = .ok (.istore 6, 2) := by decide +kernel
theorem dX10_gives_105 : decode cX10_gives 105 = .ok (.iload 5, 2) := by decide +kernel
theorem dX10_gives_107 : decode cX10_gives 107 = .ok (.iload 6, 2) := by decide +kernel
theorem dX10_gives_109 : decode cX10_gives 109 = .ok (.if_icmp .ge 44, 3) := by decide +kernel
theorem dX10_gives_112 : decode cX10_gives 112 = .ok (.aload_n 0, 1) := by decide +kernel
theorem dX10_gives_113 : decode cX10_gives 113 = .ok (.getfield 29, 3) := by decide +kernel
theorem dX10_gives_116 : decode cX10_gives 116 = .ok (.iload 5, 2) := by decide +kernel
theorem dX10_gives_118 : decode cX10_gives 118 = .ok (.iaload, 1) := by decide +kernel
theorem dX10_gives_119 : decode cX10_gives 119 = .ok (.istore 4, 2) := by decide +kernel
theorem dX10_gives_121 : decode cX10_gives 121 = .ok (.aload_n 0, 1) := by decide +kernel
theorem dX10_gives_122 : decode cX10_gives 122 = .ok (.getfield 29, 3) := by decide +kernel
theorem dX10_gives_125 : decode cX10_gives 125 = .ok (.iload 5, 2) := by decide +kernel
theorem dX10_gives_127 : decode cX10_gives 127 = .ok (.aload_n 0, 1) := by decide +kernel
theorem dX10_gives_128 : decode cX10_gives 128 = .ok (.getfield 29, 3) := by decide +kernel
theorem dX10_gives_131 : decode cX10_gives 131 = .ok (.iload 6, 2) := by decide +kernel
theorem dX10_gives_133 : decode cX10_gives 133 = .ok (.iaload, 1) := by decide +kernel
theorem dX10_gives_134 : decode cX10_gives 134 = .ok (.iastore, 1) := by decide +kernel
theorem dX10_gives_135 : decode cX10_gives 135 = .ok (.aload_n 0, 1) := by decide +kernel
theorem dX10_gives_136 : decode cX10_gives 136 = .ok (.getfield 29, 3) := by decide +kernel
theorem dX10_gives_139 : decode cX10_gives 139 = .ok (.iload 6, 2) := by decide +kernel
theorem dX10_gives_141 : decode cX10_gives 141 = .ok (.iload 4, 2) := by decide +kernel
theorem dX10_gives_143 : decode cX10_gives 143 = .ok (.iastore, 1) := by decide +kernel
theorem dX10_gives_144 : decode cX10_gives 144 = .ok (.iinc 5 1, 3) := by decide +kernel
theorem dX10_gives_147 : decode cX10_gives 147 = .ok (.iinc 6 (-1), 3) := by decide +kernel
theorem dX10_gives_150 : decode cX10_gives 150 = .ok (.goto (-45), 3) := by decide +kernel
theorem dX10_gives_153 : decode cX10_gives 153 = .ok (.iconst 1, 1) := by decide +kernel
theorem dX10_gives_154 : decode cX10_gives 154 = .ok (.ireturn, 1) := by decide +kernel
def s_Mod_gives_L105 : Nat → Int32 → Int32 → z_G → Option (Int32 × z_G)
  | 0, _, _, _ => none
  | n + 1, x5, x6, g => (if x6 ≤ x5 then (some (1, g)) else (z_ck (z_inb x5 6) (z_ck (z_inb x6 6) (z_ck (z_inb x5 6) (z_let (α := z_G) (z_wr g 7 x5 (z_rd g 7 x6)) fun g27q => (z_ck (z_inb x6 6) (z_let (α := z_G) (z_wr g27q 7 x6 (z_rd g 7 x5)) fun g29q => ((s_Mod_gives_L105 n) (x5 + 1) (x6 + (-1)) g29q))))))))
def s_Mod_gives_L46 : Nat → Int32 → Int32 → Int32 → z_G → Option (Int32 × z_G)
  | 0, _, _, _, _ => none
  | n + 1, x1, x2, x3, g => (z_ck (z_inb x3 6) (z_ck (z_inb x2 6) (if (z_rd g 7 x2) ≤ (z_rd g 7 x3) then (z_ck (z_inb x2 6) (z_ck (z_inb x3 6) (z_ck (z_inb x2 6) (z_let (α := z_G) (z_wr g 7 x2 (z_rd g 7 x3)) fun g36q => (z_ck (z_inb x3 6) (z_let (α := z_G) (z_wr g36q 7 x3 (z_rd g 7 x2)) fun g38q => (s_Mod_gives_L105 z_F (x2 + 1) (x1 - 1) g38q))))))) else ((s_Mod_gives_L46 n) x1 x2 (x3 + (-1)) g))))
def s_Mod_gives_b36 (x1 : Int32) (x2 : Int32) (g : z_G) : Option (Int32 × z_G) := (if (0 : Int32) ≤ x2 then (s_Mod_gives_L46 z_F x1 x2 (x1 - 1) g) else (some (0, g)))
def s_Mod_gives_L9 : Nat → Int32 → Int32 → z_G → Option (Int32 × z_G)
  | 0, _, _, _ => none
  | n + 1, x1, x2, g => (if x2 < 0 then (s_Mod_gives_b36 x1 x2 g) else (z_ck (z_inb x2 6) (z_ck (z_inb (x2 + 1) 6) (if (z_rd g 7 x2) ≤ (z_rd g 7 (x2 + 1)) then (s_Mod_gives_b36 x1 x2 g) else ((s_Mod_gives_L9 n) x1 (x2 + (-1)) g)))))
def s_Mod_gives (g : z_G) : Option (Int32 × z_G) := (z_let (α := Int32) (((s_Mod_men g) - 2)) fun v44q => (s_Mod_gives_L9 z_F (s_Mod_men g) v44q g))
set_option maxHeartbeats 1000000 in
set_option maxRecDepth 20000 in
theorem b_Mod_gives_L105 {X : z_X} {E : z_ET} {o : z_G} (hE : z_EV X E cX10_gives 7 RX10 1 20 80) {r : Int32 × z_G} (hret : ∀ (pc : Nat) (lv : List (Nat × Value)), z_bit r.1 = true → decode cX10_gives pc = .ok (.ireturn, 1) → z_V X E 7 o r.2 pc lv [.int r.1]) : ∀ (n : Nat) (x5 : Int32) (x6 : Int32) (g : z_G), s_Mod_gives_L105 n x5 x6 g = some r → z_V X E 7 o g 105 [(0, .ref (z_ad X 71)), (5, .int x5), (6, .int x6)] [] := by
  intro n
  induction n with
  | zero => intro x5 x6 g h; exact z_none h
  | succ n ih =>
    intro x5 x6 g h
    rw [s_Mod_gives_L105] at h
    refine z_iload hE 1 dX10_gives_105 rfl ?_
    refine z_iload hE 2 dX10_gives_107 rfl ?_
    refine z_icmp_ge hE 153 dX10_gives_109 rfl (fun c23q => ?_) (fun c23q => ?_)
    · replace h := z_t c23q h
      refine z_iconst (v := 1) hE dX10_gives_153 rfl ?_
      obtain rfl := Option.some.inj h
      exact hret _ _ z_b1 dX10_gives_154
    · replace h := z_f c23q h
      refine z_aload_n hE 0 dX10_gives_112 rfl ?_
      refine z_get hE f_RX10_29 (by decide) e_71 rfl dX10_gives_113 ?_
      refine z_iload hE 1 dX10_gives_116 rfl ?_
      obtain ⟨k24q, h⟩ := z_ck_some h
      refine z_iald hE (by decide) e_78 k24q dX10_gives_118 ?_
      refine z_istore hE [(4, .int (z_rd g 7 x5)), (0, .ref (z_ad X 71)), (5, .int x5), (6, .int x6)] dX10_gives_119 (by decide) rfl ?_
      refine z_aload_n hE 1 dX10_gives_121 rfl ?_
      refine z_get hE f_RX10_29 (by decide) e_71 rfl dX10_gives_122 ?_
      refine z_iload hE 2 dX10_gives_125 rfl ?_
      refine z_aload_n hE 1 dX10_gives_127 rfl ?_
      refine z_get hE f_RX10_29 (by decide) e_71 rfl dX10_gives_128 ?_
      refine z_iload hE 3 dX10_gives_131 rfl ?_
      obtain ⟨k25q, h⟩ := z_ck_some h
      refine z_iald hE (by decide) e_78 k25q dX10_gives_133 ?_
      obtain ⟨k26q, h⟩ := z_ck_some h
      obtain ⟨g27q, eg27q, h⟩ := z_let_eq h
      refine z_iast hE (by decide) e_78 k26q (ua_78 eg27q) dX10_gives_134 ?_
      refine z_aload_n hE 1 dX10_gives_135 rfl ?_
      refine z_get hE f_RX10_29 (by decide) e_71 rfl dX10_gives_136 ?_
      refine z_iload hE 3 dX10_gives_139 rfl ?_
      refine z_iload hE 0 dX10_gives_141 rfl ?_
      obtain ⟨k28q, h⟩ := z_ck_some h
      obtain ⟨g29q, eg29q, h⟩ := z_let_eq h
      refine z_iast hE (by decide) e_78 k28q (ua_78 eg29q) dX10_gives_143 ?_
      refine z_iinc (v := x5 + 1) hE 2 [(5, .int (x5 + 1)), (4, .int (z_rd g 7 x5)), (0, .ref (z_ad X 71)), (6, .int x6)] dX10_gives_144 rfl rfl (by decide) rfl ?_
      refine z_iinc (v := x6 + (-1)) hE 3 [(6, .int (x6 + (-1))), (5, .int (x5 + 1)), (4, .int (z_rd g 7 x5)), (0, .ref (z_ad X 71))] dX10_gives_147 rfl rfl (by decide) rfl ?_
      refine z_goto hE 105 dX10_gives_150 rfl ?_
      refine z_sub [(0, .ref (z_ad X 71)), (5, .int (x5 + 1)), (6, .int (x6 + (-1)))] [3, 1, 0] rfl ?_
      exact ih (x5 + 1) (x6 + (-1)) g29q h
set_option maxHeartbeats 1000000 in
set_option maxRecDepth 20000 in
theorem b_Mod_gives_L46 {X : z_X} {E : z_ET} {o : z_G} (hE : z_EV X E cX10_gives 7 RX10 1 20 80) {r : Int32 × z_G} (hret : ∀ (pc : Nat) (lv : List (Nat × Value)), z_bit r.1 = true → decode cX10_gives pc = .ok (.ireturn, 1) → z_V X E 7 o r.2 pc lv [.int r.1]) : ∀ (n : Nat) (x1 : Int32) (x2 : Int32) (x3 : Int32) (g : z_G), s_Mod_gives_L46 n x1 x2 x3 g = some r → z_V X E 7 o g 46 [(0, .ref (z_ad X 71)), (1, .int x1), (2, .int x2), (3, .int x3)] [] := by
  intro n
  induction n with
  | zero => intro x1 x2 x3 g h; exact z_none h
  | succ n ih =>
    intro x1 x2 x3 g h
    rw [s_Mod_gives_L46] at h
    refine z_aload_n hE 0 dX10_gives_46 rfl ?_
    refine z_get hE f_RX10_29 (by decide) e_71 rfl dX10_gives_47 ?_
    refine z_iload_n hE 3 dX10_gives_50 rfl ?_
    obtain ⟨k30q, h⟩ := z_ck_some h
    refine z_iald hE (by decide) e_78 k30q dX10_gives_51 ?_
    refine z_aload_n hE 0 dX10_gives_52 rfl ?_
    refine z_get hE f_RX10_29 (by decide) e_71 rfl dX10_gives_53 ?_
    refine z_iload_n hE 2 dX10_gives_56 rfl ?_
    obtain ⟨k31q, h⟩ := z_ck_some h
    refine z_iald hE (by decide) e_78 k31q dX10_gives_57 ?_
    refine z_icmp_ge hE 67 dX10_gives_58 rfl (fun c32q => ?_) (fun c32q => ?_)
    · replace h := z_t c32q h
      refine z_aload_n hE 0 dX10_gives_67 rfl ?_
      refine z_get hE f_RX10_29 (by decide) e_71 rfl dX10_gives_68 ?_
      refine z_iload_n hE 2 dX10_gives_71 rfl ?_
      obtain ⟨k33q, h⟩ := z_ck_some h
      refine z_iald hE (by decide) e_78 k33q dX10_gives_72 ?_
      refine z_istore hE [(4, .int (z_rd g 7 x2)), (0, .ref (z_ad X 71)), (1, .int x1), (2, .int x2), (3, .int x3)] dX10_gives_73 (by decide) rfl ?_
      refine z_aload_n hE 1 dX10_gives_75 rfl ?_
      refine z_get hE f_RX10_29 (by decide) e_71 rfl dX10_gives_76 ?_
      refine z_iload_n hE 3 dX10_gives_79 rfl ?_
      refine z_aload_n hE 1 dX10_gives_80 rfl ?_
      refine z_get hE f_RX10_29 (by decide) e_71 rfl dX10_gives_81 ?_
      refine z_iload_n hE 4 dX10_gives_84 rfl ?_
      obtain ⟨k34q, h⟩ := z_ck_some h
      refine z_iald hE (by decide) e_78 k34q dX10_gives_85 ?_
      obtain ⟨k35q, h⟩ := z_ck_some h
      obtain ⟨g36q, eg36q, h⟩ := z_let_eq h
      refine z_iast hE (by decide) e_78 k35q (ua_78 eg36q) dX10_gives_86 ?_
      refine z_aload_n hE 1 dX10_gives_87 rfl ?_
      refine z_get hE f_RX10_29 (by decide) e_71 rfl dX10_gives_88 ?_
      refine z_iload_n hE 4 dX10_gives_91 rfl ?_
      refine z_iload hE 0 dX10_gives_92 rfl ?_
      obtain ⟨k37q, h⟩ := z_ck_some h
      obtain ⟨g38q, eg38q, h⟩ := z_let_eq h
      refine z_iast hE (by decide) e_78 k37q (ua_78 eg38q) dX10_gives_94 ?_
      refine z_iload_n hE 3 dX10_gives_95 rfl ?_
      refine z_iconst (v := 1) hE dX10_gives_96 rfl ?_
      refine z_iadd hE dX10_gives_97 ?_
      refine z_istore hE [(5, .int (x2 + 1)), (4, .int (z_rd g 7 x2)), (0, .ref (z_ad X 71)), (1, .int x1), (2, .int x2), (3, .int x3)] dX10_gives_98 (by decide) rfl ?_
      refine z_iload_n hE 3 dX10_gives_100 rfl ?_
      refine z_iconst (v := 1) hE dX10_gives_101 rfl ?_
      refine z_isub hE dX10_gives_102 ?_
      refine z_istore hE [(6, .int (x1 - 1)), (5, .int (x2 + 1)), (4, .int (z_rd g 7 x2)), (0, .ref (z_ad X 71)), (1, .int x1), (2, .int x2), (3, .int x3)] dX10_gives_103 (by decide) rfl ?_
      refine z_sub [(0, .ref (z_ad X 71)), (5, .int (x2 + 1)), (6, .int (x1 - 1))] [3, 1, 0] rfl ?_
      exact b_Mod_gives_L105 hE hret z_F (x2 + 1) (x1 - 1) g38q h
    · replace h := z_f c32q h
      refine z_iinc (v := x3 + (-1)) hE 3 [(3, .int (x3 + (-1))), (0, .ref (z_ad X 71)), (1, .int x1), (2, .int x2)] dX10_gives_61 rfl rfl (by decide) rfl ?_
      refine z_goto hE 46 dX10_gives_64 rfl ?_
      refine z_sub [(0, .ref (z_ad X 71)), (1, .int x1), (2, .int x2), (3, .int (x3 + (-1)))] [1, 2, 3, 0] rfl ?_
      exact ih x1 x2 (x3 + (-1)) g h
set_option maxHeartbeats 1000000 in
set_option maxRecDepth 20000 in
theorem b_Mod_gives_b36 {X : z_X} {E : z_ET} {o : z_G} (hE : z_EV X E cX10_gives 7 RX10 1 20 80) {r : Int32 × z_G} (hret : ∀ (pc : Nat) (lv : List (Nat × Value)), z_bit r.1 = true → decode cX10_gives pc = .ok (.ireturn, 1) → z_V X E 7 o r.2 pc lv [.int r.1]) (x1 : Int32) (x2 : Int32) (g : z_G)  (h : s_Mod_gives_b36 x1 x2 g = some r) : z_V X E 7 o g 36 [(0, .ref (z_ad X 71)), (1, .int x1), (2, .int x2)] [] := by
  unfold s_Mod_gives_b36 at h
  refine z_iload_n hE 2 dX10_gives_36 rfl ?_
  refine z_if_ge hE 42 dX10_gives_37 rfl (fun c39q => ?_) (fun c39q => ?_)
  · replace h := z_t c39q h
    refine z_iload_n hE 1 dX10_gives_42 rfl ?_
    refine z_iconst (v := 1) hE dX10_gives_43 rfl ?_
    refine z_isub hE dX10_gives_44 ?_
    refine z_istore_n hE [(3, .int (x1 - 1)), (0, .ref (z_ad X 71)), (1, .int x1), (2, .int x2)] dX10_gives_45 rfl (by decide) rfl ?_
    refine z_sub [(0, .ref (z_ad X 71)), (1, .int x1), (2, .int x2), (3, .int (x1 - 1))] [1, 2, 3, 0] rfl ?_
    exact b_Mod_gives_L46 hE hret z_F x1 x2 (x1 - 1) g h
  · replace h := z_f c39q h
    refine z_iconst (v := 0) hE dX10_gives_40 rfl ?_
    obtain rfl := Option.some.inj h
    exact hret _ _ z_b0 dX10_gives_41
set_option maxHeartbeats 1000000 in
set_option maxRecDepth 20000 in
theorem b_Mod_gives_L9 {X : z_X} {E : z_ET} {o : z_G} (hE : z_EV X E cX10_gives 7 RX10 1 20 80) {r : Int32 × z_G} (hret : ∀ (pc : Nat) (lv : List (Nat × Value)), z_bit r.1 = true → decode cX10_gives pc = .ok (.ireturn, 1) → z_V X E 7 o r.2 pc lv [.int r.1]) : ∀ (n : Nat) (x1 : Int32) (x2 : Int32) (g : z_G), s_Mod_gives_L9 n x1 x2 g = some r → z_V X E 7 o g 9 [(0, .ref (z_ad X 71)), (1, .int x1), (2, .int x2)] [] := by
  intro n
  induction n with
  | zero => intro x1 x2 g h; exact z_none h
  | succ n ih =>
    intro x1 x2 g h
    rw [s_Mod_gives_L9] at h
    refine z_iload_n hE 2 dX10_gives_9 rfl ?_
    refine z_if_lt hE 36 dX10_gives_10 rfl (fun c40q => ?_) (fun c40q => ?_)
    · replace h := z_t c40q h
      exact b_Mod_gives_b36 hE hret x1 x2 g h
    · replace h := z_f c40q h
      refine z_aload_n hE 0 dX10_gives_13 rfl ?_
      refine z_get hE f_RX10_29 (by decide) e_71 rfl dX10_gives_14 ?_
      refine z_iload_n hE 2 dX10_gives_17 rfl ?_
      obtain ⟨k41q, h⟩ := z_ck_some h
      refine z_iald hE (by decide) e_78 k41q dX10_gives_18 ?_
      refine z_aload_n hE 0 dX10_gives_19 rfl ?_
      refine z_get hE f_RX10_29 (by decide) e_71 rfl dX10_gives_20 ?_
      refine z_iload_n hE 2 dX10_gives_23 rfl ?_
      refine z_iconst (v := 1) hE dX10_gives_24 rfl ?_
      refine z_iadd hE dX10_gives_25 ?_
      obtain ⟨k42q, h⟩ := z_ck_some h
      refine z_iald hE (by decide) e_78 k42q dX10_gives_26 ?_
      refine z_icmp_le hE 36 dX10_gives_27 rfl (fun c43q => ?_) (fun c43q => ?_)
      · replace h := z_t c43q h
        exact b_Mod_gives_b36 hE hret x1 x2 g h
      · replace h := z_f c43q h
        refine z_iinc (v := x2 + (-1)) hE 2 [(2, .int (x2 + (-1))), (0, .ref (z_ad X 71)), (1, .int x1)] dX10_gives_30 rfl rfl (by decide) rfl ?_
        refine z_goto hE 9 dX10_gives_33 rfl ?_
        refine z_sub [(0, .ref (z_ad X 71)), (1, .int x1), (2, .int (x2 + (-1)))] [1, 2, 0] rfl ?_
        exact ih x1 (x2 + (-1)) g h
set_option maxHeartbeats 1000000 in
set_option maxRecDepth 20000 in
theorem c_Mod_gives {X : z_X} {l : Launch} {o : z_G} (g : z_G) (r : Int32 × z_G) (h : s_Mod_gives g = some r) : z_MI X l 80 yX10_gives cX10_gives 7 (some .boolean) 1 20 [.ref (z_ad X 71)] o g o r.2 r.1 := by
  unfold s_Mod_gives at h
  refine z_metz (by decide) (Nat.le_of_ble_eq_true rfl) (fun E hl hE hret => ?_)
  subst hl
  refine z_aload_n hE 0 dX10_gives_0 rfl ?_
  refine z_iV (rest := []) (av := []) hE (c_Mod_men g) l_RX10_56 (by decide) (by decide) e_71 rfl ⟨by decide, by decide⟩ dX10_gives_1 rfl (Nat.le_of_ble_eq_true rfl) ?_
  refine z_istore_n hE [(1, .int (s_Mod_men g)), (0, .ref (z_ad X 71))] dX10_gives_4 rfl (by decide) rfl ?_
  refine z_iload_n hE 0 dX10_gives_5 rfl ?_
  refine z_iconst (v := 2) hE dX10_gives_6 rfl ?_
  refine z_isub hE dX10_gives_7 ?_
  obtain ⟨v44q, ev44q, h⟩ := z_let_eq h
  refine z_topi ev44q ?_
  refine z_istore_n hE [(2, .int v44q), (1, .int (s_Mod_men g)), (0, .ref (z_ad X 71))] dX10_gives_8 rfl (by decide) rfl ?_
  refine z_sub [(0, .ref (z_ad X 71)), (1, .int (s_Mod_men g)), (2, .int v44q)] [2, 1, 0] rfl ?_
  exact b_Mod_gives_L9 hE hret z_F (s_Mod_men g) v44q g h
theorem dX10_pairs_0 : decode cX10_pairs 0 = .ok (.iload_n 1, 1) := by decide +kernel
theorem dX10_pairs_1 : decode cX10_pairs 1 = .ok (.i2l, 1) := by decide +kernel
theorem dX10_pairs_2 : decode cX10_pairs 2 = .ok (.ldc2_w 190, 3) := by decide +kernel
theorem dX10_pairs_5 : decode cX10_pairs 5 = .ok (.aload_n 0, 1) := by decide +kernel
theorem dX10_pairs_6 : decode cX10_pairs 6 = .ok (.invokevirtual 56, 3) := by decide +kernel
theorem dX10_pairs_9 : decode cX10_pairs 9 = .ok (.iconst 1, 1) := by decide +kernel
theorem dX10_pairs_10 : decode cX10_pairs 10 = .ok (.isub, 1) := by decide +kernel
theorem dX10_pairs_11 : decode cX10_pairs 11 = .ok (.i2l, 1) := by decide +kernel
theorem dX10_pairs_12 : decode cX10_pairs 12 = .ok (.invokestatic 60, 3) := by decide +kernel
theorem dX10_pairs_15 : decode cX10_pairs 15 = .ok (.ifCond .ne 5, 3) := by decide +kernel
theorem dX10_pairs_18 : decode cX10_pairs 18 = .ok (.iconst (-1), 1) := by decide +kernel
theorem dX10_pairs_19 : decode cX10_pairs 19 = .ok (.ireturn, 1) := by decide +kernel
theorem dX10_pairs_20 : decode cX10_pairs 20 = .ok (.iconst 0, 1) := by decide +kernel
theorem dX10_pairs_21 : decode cX10_pairs 21 = .ok (.istore_n 2, 1) := by decide +kernel
theorem dX10_pairs_22 : decode cX10_pairs 22 = .ok (.iload_n 2, 1) := by decide +kernel
theorem dX10_pairs_23 : decode cX10_pairs 23 = .ok (.bipush 6, 2) := by decide +kernel
theorem dX10_pairs_25 : decode cX10_pairs 25 = .ok (.if_icmp .ge 16, 3) := by decide +kernel
theorem dX10_pairs_28 : decode cX10_pairs 28 = .ok (.aload_n 0, 1) := by decide +kernel
theorem dX10_pairs_29 : decode cX10_pairs 29 = .ok (.getfield 29, 3) := by decide +kernel
theorem dX10_pairs_32 : decode cX10_pairs 32 = .ok (.iload_n 2, 1) := by decide +kernel
theorem dX10_pairs_33 : decode cX10_pairs 33 = .ok (.iload_n 2, 1) := by decide +kernel
theorem dX10_pairs_34 : decode cX10_pairs 34 = .ok (.iastore, 1) := by decide +kernel
theorem dX10_pairs_35 : decode cX10_pairs 35 = .ok (.iinc 2 1, 3) := by decide +kernel
theorem dX10_pairs_38 : decode cX10_pairs 38 = .ok (.goto (-16), 3) := by decide +kernel
theorem dX10_pairs_41 : decode cX10_pairs 41 = .ok (.iconst (-1), 1) := by decide +kernel
theorem dX10_pairs_42 : decode cX10_pairs 42 = .ok (.istore_n 2, 1) := by decide +kernel
theorem dX10_pairs_43 : decode cX10_pairs 43 = .ok (.iconst 1, 1) := by decide +kernel
theorem dX10_pairs_44 : decode cX10_pairs 44 = .ok (.istore_n 3, 1) := by decide +kernel
theorem dX10_pairs_45 : decode cX10_pairs 45 = .ok (.iload_n 3, 1) := by decide +kernel
theorem dX10_pairs_46 : decode cX10_pairs 46 = .ok (.ifCond .eq 113, 3) := by decide +kernel
theorem dX10_pairs_49 : decode cX10_pairs 49 = .ok (.iconst 0, 1) := by decide +kernel
theorem dX10_pairs_50 : decode cX10_pairs 50 = .ok (.istore 4, 2) := by decide +kernel
theorem dX10_pairs_52 : decode cX10_pairs 52 = .ok (.iconst 0, 1) := by decide +kernel
theorem dX10_pairs_53 : decode cX10_pairs 53 = .ok (.istore 5, 2) := by decide +kernel
theorem dX10_pairs_55 : decode cX10_pairs 55 = .ok (.iload 5, 2) := by decide +kernel
theorem dX10_pairs_57 : decode cX10_pairs 57 = .ok (.aload_n 0, 1) := by decide +kernel
theorem dX10_pairs_58 : decode cX10_pairs 58 = .ok (.invokevirtual 56, 3) := by decide +kernel
theorem dX10_pairs_61 : decode cX10_pairs 61 = .ok (.if_icmp .ge 47, 3) := by decide +kernel
theorem dX10_pairs_64 : decode cX10_pairs 64 = .ok (.iload 4, 2) := by decide +kernel
theorem dX10_pairs_66 : decode cX10_pairs 66 = .ok (.aload_n 0, 1) := by decide +kernel
theorem dX10_pairs_67 : decode cX10_pairs 67 = .ok (.getfield 13, 3) := by decide +kernel
theorem dX10_pairs_70 : decode cX10_pairs 70 = .ok (.bipush 18, 2) := by decide +kernel
theorem dX10_pairs_72 : decode cX10_pairs 72 = .ok (.aload_n 0, 1) := by decide +kernel
theorem dX10_pairs_73 : decode cX10_pairs 73 = .ok (.getfield 29, 3) := by decide +kernel
theorem dX10_pairs_76 : decode cX10_pairs 76 = .ok (.iload 5, 2) := by decide +kernel
theorem dX10_pairs_78 : decode cX10_pairs 78 = .ok (.iaload, 1) := by decide +kernel
theorem dX10_pairs_79 : decode cX10_pairs 79 = .ok (.iadd, 1) := by decide +kernel
theorem dX10_pairs_80 : decode cX10_pairs 80 = .ok (.iaload, 1) := by decide +kernel
theorem dX10_pairs_81 : decode cX10_pairs 81 = .ok (.aload_n 0, 1) := by decide +kernel
theorem dX10_pairs_82 : decode cX10_pairs 82 = .ok (.getfield 7, 3) := by decide +kernel
theorem dX10_pairs_85 : decode cX10_pairs 85 = .ok (.bipush 11, 2) := by decide +kernel
theorem dX10_pairs_87 : decode cX10_pairs 87 = .ok (.iload 5, 2) := by decide +kernel
theorem dX10_pairs_89 : decode cX10_pairs 89 = .ok (.iadd, 1) := by decide +kernel
theorem dX10_pairs_90 : decode cX10_pairs 90 = .ok (.iaload, 1) := by decide +kernel
theorem dX10_pairs_91 : decode cX10_pairs 91 = .ok (.if_icmp .eq 7, 3) := by decide +kernel
theorem dX10_pairs_94 : decode cX10_pairs 94 = .ok (.iconst 1, 1) := by decide +kernel
theorem dX10_pairs_95 : decode cX10_pairs 95 = .ok (.goto 4, 3) := by decide +kernel
theorem dX10_pairs_98 : decode cX10_pairs 98 = .ok (.iconst 0, 1) := by decide +kernel
theorem dX10_pairs_99 : decode cX10_pairs 99 = .ok (.iadd, 1) := by decide +kernel
theorem dX10_pairs_100 : decode cX10_pairs 100 = .ok (.istore 4, 2) := by decide +kernel
theorem dX10_pairs_102 : decode cX10_pairs 102 = .ok (.iinc 5 1, 3) := by decide +kernel
theorem dX10_pairs_105 : decode cX10_pairs 105 = .ok (.goto (-50), 3) := by decide +kernel
theorem dX10_pairs_108 : decode cX10_pairs 108 = .ok (.iconst 0, 1) := by decide +kernel
theorem dX10_pairs_109 : decode cX10_pairs 109 = .ok (.istore 5, 2) := by decide +kernel
theorem dX10_pairs_111 : decode cX10_pairs 111 = .ok (.iload 5, 2) := by decide +kernel
theorem dX10_pairs_113 : decode cX10_pairs 113 = .ok (.bipush 6, 2) := by decide +kernel
theorem dX10_pairs_115 : decode cX10_pairs 115 = .ok (.if_icmp .ge 29, 3) := by decide +kernel
theorem dX10_pairs_118 : decode cX10_pairs 118 = .ok (.iload 4, 2) := by decide +kernel
theorem dX10_pairs_120 : decode cX10_pairs 120 = .ok (.iload_n 2, 1) := by decide +kernel
theorem dX10_pairs_121 : decode cX10_pairs 121 = .ok (.if_icmp .le 23, 3) := by decide +kernel
theorem dX10_pairs_124 : decode cX10_pairs 124 = .ok (.aload_n 0, 1) := by decide +kernel
theorem dX10_pairs_125 : decode cX10_pairs 125 = .ok (.getfield 32, 3) := by decide +kernel
theorem dX10_pairs_128 : decode cX10_pairs 128 = .ok (.iload 5, 2) := by decide +kernel
theorem dX10_pairs_130 : decode cX10_pairs 130 = .ok (.aload_n 0, 1) := by decide +kernel
theorem dX10_pairs_131 : decode cX10_pairs 131 = .ok (.getfield 29, 3) := by decide +kernel
theorem dX10_pairs_134 : decode cX10_pairs 134 = .ok (.iload 5, 2) := by decide +kernel
theorem dX10_pairs_136 : decode cX10_pairs 136 = .ok (.iaload, 1) := by decide +kernel
theorem dX10_pairs_137 : decode cX10_pairs 137 = .ok (.iastore, 1) := by decide +kernel
theorem dX10_pairs_138 : decode cX10_pairs 138 = .ok (.iinc 5 1, 3) := by decide +kernel
theorem dX10_pairs_141 : decode cX10_pairs 141 = .ok (.goto (-30), 3) := by decide +kernel
theorem dX10_pairs_144 : decode cX10_pairs 144 = .ok (.iload_n 2, 1) := by decide +kernel
theorem dX10_pairs_145 : decode cX10_pairs 145 = .ok (.iload 4, 2) := by decide +kernel
theorem dX10_pairs_147 : decode cX10_pairs 147 = .ok (.invokestatic 106, 3) := by decide +kernel
theorem dX10_pairs_150 : decode cX10_pairs 150 = .ok (.istore_n 2, 1) := by decide +kernel
theorem dX10_pairs_151 : decode cX10_pairs 151 = .ok (.aload_n 0, 1) := by decide +kernel
theorem dX10_pairs_152 : decode cX10_pairs 152 = .ok (.invokevirtual 192, 3) := by decide +kernel
theorem dX10_pairs_155 : decode cX10_pairs 155 = .ok (.istore_n 3, 1) := by decide +kernel
theorem dX10_pairs_156 : decode cX10_pairs 156 = .ok (.goto (-111), 3) := by decide +kernel
theorem dX10_pairs_159 : decode cX10_pairs 159 = .ok (.iload_n 1, 1) := by decide +kernel
theorem dX10_pairs_160 : decode cX10_pairs 160 = .ok (.ifCond .ge 7, 3) := by decide +kernel
theorem dX10_pairs_163 : decode cX10_pairs 163 = .ok (.iload_n 2, 1) := by decide +kernel
theorem dX10_pairs_164 : decode cX10_pairs 164 = .ok (.goto 9, 3) := by decide +kernel
theorem dX10_pairs_167 : decode cX10_pairs 167 = .ok (.aload_n 0, 1) := by decide +kernel
theorem dX10_pairs_168 : decode cX10_pairs 168 = .ok (.getfield 32, 3) := by decide +kernel
theorem dX10_pairs_171 : decode cX10_pairs 171 = .ok (.iload_n 1, 1) := by decide +kernel
theorem dX10_pairs_172 : decode cX10_pairs 172 = .ok (.iaload, 1) := by decide +kernel
theorem dX10_pairs_173 : decode cX10_pairs 173 = .ok (.ireturn, 1) := by decide +kernel
def s_Mod_pairs_b144 (k45 : Int32 → Int32 → Int32 → z_G → Option (Int32 × z_G)) (x1 : Int32) (x2 : Int32) (x4 : Int32) (g : z_G) : Option (Int32 × z_G) := (z_let (α := Int32) ((s_Mod_larger x2 x4)) fun v20q => (Option.bind (s_Mod_gives g) fun r21q => (k45 x1 v20q r21q.1 r21q.2)))
def s_Mod_pairs_L111 (k45 : Int32 → Int32 → Int32 → z_G → Option (Int32 × z_G)) : Nat → Int32 → Int32 → Int32 → Int32 → z_G → Option (Int32 × z_G)
  | 0, _, _, _, _, _ => none
  | n + 1, x1, x2, x4, x5, g => (if 6 ≤ x5 then (s_Mod_pairs_b144 k45 x1 x2 x4 g) else (if x4 ≤ x2 then (s_Mod_pairs_b144 k45 x1 x2 x4 g) else (z_ck (z_inb x5 6) (z_ck (z_inb x5 6) (z_let (α := z_G) (z_wr g 8 x5 (z_rd g 7 x5)) fun g26q => ((s_Mod_pairs_L111 k45 n) x1 x2 x4 (x5 + 1) g26q))))))
def s_Mod_pairs_b99 (k45 : Int32 → Int32 → Int32 → z_G → Option (Int32 × z_G)) (k55 : Int32 → Int32 → Int32 → Int32 → z_G → Option (Int32 × z_G)) (x1 : Int32) (x2 : Int32) (x5 : Int32) (s1 : Int32) (s0 : Int32) (g : z_G) : Option (Int32 × z_G) := (k55 x1 x2 (s0 + s1) (x5 + 1) g)
def s_Mod_pairs_L55 (k45 : Int32 → Int32 → Int32 → z_G → Option (Int32 × z_G)) : Nat → Int32 → Int32 → Int32 → Int32 → z_G → Option (Int32 × z_G)
  | 0, _, _, _, _, _ => none
  | n + 1, x1, x2, x4, x5, g => (if (s_Mod_men g) ≤ x5 then (s_Mod_pairs_L111 k45 z_F x1 x2 x4 0 g) else (z_ck (z_inb x5 6) (z_ck (z_inb (18 + (z_rd g 7 x5)) 312) (z_ck (z_inb (11 + x5) 120) (if (z_rd g 2 (18 + (z_rd g 7 x5))) = (z_rd g 1 (11 + x5)) then (s_Mod_pairs_b99 k45 (s_Mod_pairs_L55 k45 n) x1 x2 x5 0 x4 g) else (s_Mod_pairs_b99 k45 (s_Mod_pairs_L55 k45 n) x1 x2 x5 1 x4 g))))))
def s_Mod_pairs_L45 : Nat → Int32 → Int32 → Int32 → z_G → Option (Int32 × z_G)
  | 0, _, _, _, _ => none
  | n + 1, x1, x2, x3, g => (if x3 = 0 then (if (0 : Int32) ≤ x1 then (z_ck (z_inb x1 6) (some ((z_rd g 8 x1), g))) else (some (x2, g))) else (s_Mod_pairs_L55 (s_Mod_pairs_L45 n) z_F x1 x2 0 0 g))
def s_Mod_pairs_L22 : Nat → Int32 → Int32 → z_G → Option (Int32 × z_G)
  | 0, _, _, _ => none
  | n + 1, x1, x2, g => (if 6 ≤ x2 then (s_Mod_pairs_L45 z_F x1 (-1) 1 g) else (z_ck (z_inb x2 6) (z_let (α := z_G) (z_wr g 7 x2 x2) fun g37q => ((s_Mod_pairs_L22 n) x1 (x2 + 1) g37q))))
def s_Mod_pairs (x1 : Int32) (g : z_G) : Option (Int32 × z_G) := (if (s_Mod_in (Int32.toInt64 x1) (-1) (Int32.toInt64 ((s_Mod_men g) - 1))) = 0 then (some ((-1), g)) else (s_Mod_pairs_L22 z_F x1 0 g))
set_option maxHeartbeats 1000000 in
set_option maxRecDepth 20000 in
theorem b_Mod_pairs_b144 {X : z_X} {E : z_ET} {o : z_G} (hE : z_EV X E cX10_pairs 6 RX10 2 46 80) {r : Int32 × z_G} (hret : ∀ (pc : Nat) (lv : List (Nat × Value)), decode cX10_pairs pc = .ok (.ireturn, 1) → z_V X E 6 o r.2 pc lv [.int r.1]) (k45 : Int32 → Int32 → Int32 → z_G → Option (Int32 × z_G)) (hk45 : ∀ (x1 : Int32) (x2 : Int32) (x3 : Int32) (g : z_G), k45 x1 x2 x3 g = some r → z_V X E 6 o g 45 [(0, .ref (z_ad X 71)), (1, .int x1), (2, .int x2), (3, .int x3)] []) (x1 : Int32) (x2 : Int32) (x4 : Int32) (g : z_G)  (h : s_Mod_pairs_b144 k45 x1 x2 x4 g = some r) : z_V X E 6 o g 144 [(0, .ref (z_ad X 71)), (1, .int x1), (2, .int x2), (4, .int x4)] [] := by
  unfold s_Mod_pairs_b144 at h
  refine z_iload_n hE 2 dX10_pairs_144 rfl ?_
  refine z_iload hE 3 dX10_pairs_145 rfl ?_
  refine z_iS (rest := []) (av := [.int x2, .int x4]) hE (c_Mod_larger x2 x4 g) l_RX10_106 (by decide) ⟨by decide, by decide⟩ dX10_pairs_147 rfl (Nat.le_of_ble_eq_true rfl) ?_
  obtain ⟨v20q, ev20q, h⟩ := z_let_eq h
  refine z_topi ev20q ?_
  refine z_istore_n hE [(2, .int v20q), (0, .ref (z_ad X 71)), (1, .int x1), (4, .int x4)] dX10_pairs_150 rfl (by decide) rfl ?_
  refine z_aload_n hE 1 dX10_pairs_151 rfl ?_
  obtain ⟨r21q, hr21q, h⟩ := z_bind_some h
  refine z_iV (rest := []) (av := []) hE (c_Mod_gives g r21q hr21q) l_RX10_192 (by decide) (by decide) e_71 rfl ⟨by decide, by decide⟩ dX10_pairs_152 rfl (Nat.le_of_ble_eq_true rfl) ?_
  refine z_istore_n hE [(3, .int r21q.1), (2, .int v20q), (0, .ref (z_ad X 71)), (1, .int x1), (4, .int x4)] dX10_pairs_155 rfl (by decide) rfl ?_
  refine z_goto hE 45 dX10_pairs_156 rfl ?_
  refine z_sub [(0, .ref (z_ad X 71)), (1, .int x1), (2, .int v20q), (3, .int r21q.1)] [2, 3, 1, 0] rfl ?_
  exact hk45 x1 v20q r21q.1 r21q.2 h
set_option maxHeartbeats 1000000 in
set_option maxRecDepth 20000 in
theorem b_Mod_pairs_L111 {X : z_X} {E : z_ET} {o : z_G} (hE : z_EV X E cX10_pairs 6 RX10 2 46 80) {r : Int32 × z_G} (hret : ∀ (pc : Nat) (lv : List (Nat × Value)), decode cX10_pairs pc = .ok (.ireturn, 1) → z_V X E 6 o r.2 pc lv [.int r.1]) (k45 : Int32 → Int32 → Int32 → z_G → Option (Int32 × z_G)) (hk45 : ∀ (x1 : Int32) (x2 : Int32) (x3 : Int32) (g : z_G), k45 x1 x2 x3 g = some r → z_V X E 6 o g 45 [(0, .ref (z_ad X 71)), (1, .int x1), (2, .int x2), (3, .int x3)] []) : ∀ (n : Nat) (x1 : Int32) (x2 : Int32) (x4 : Int32) (x5 : Int32) (g : z_G), s_Mod_pairs_L111 k45 n x1 x2 x4 x5 g = some r → z_V X E 6 o g 111 [(0, .ref (z_ad X 71)), (1, .int x1), (2, .int x2), (4, .int x4), (5, .int x5)] [] := by
  intro n
  induction n with
  | zero => intro x1 x2 x4 x5 g h; exact z_none h
  | succ n ih =>
    intro x1 x2 x4 x5 g h
    rw [s_Mod_pairs_L111] at h
    refine z_iload hE 4 dX10_pairs_111 rfl ?_
    refine z_bipush (v := 6) hE dX10_pairs_113 rfl ?_
    refine z_icmp_ge hE 144 dX10_pairs_115 rfl (fun c22q => ?_) (fun c22q => ?_)
    · replace h := z_t c22q h
      refine z_sub [(0, .ref (z_ad X 71)), (1, .int x1), (2, .int x2), (4, .int x4)] [0, 1, 2, 3] rfl ?_
      exact b_Mod_pairs_b144 hE hret k45 hk45 x1 x2 x4 g h
    · replace h := z_f c22q h
      refine z_iload hE 3 dX10_pairs_118 rfl ?_
      refine z_iload_n hE 2 dX10_pairs_120 rfl ?_
      refine z_icmp_le hE 144 dX10_pairs_121 rfl (fun c23q => ?_) (fun c23q => ?_)
      · replace h := z_t c23q h
        refine z_sub [(0, .ref (z_ad X 71)), (1, .int x1), (2, .int x2), (4, .int x4)] [0, 1, 2, 3] rfl ?_
        exact b_Mod_pairs_b144 hE hret k45 hk45 x1 x2 x4 g h
      · replace h := z_f c23q h
        refine z_aload_n hE 0 dX10_pairs_124 rfl ?_
        refine z_get hE f_RX10_32 (by decide) e_71 rfl dX10_pairs_125 ?_
        refine z_iload hE 4 dX10_pairs_128 rfl ?_
        refine z_aload_n hE 0 dX10_pairs_130 rfl ?_
        refine z_get hE f_RX10_29 (by decide) e_71 rfl dX10_pairs_131 ?_
        refine z_iload hE 4 dX10_pairs_134 rfl ?_
        obtain ⟨k24q, h⟩ := z_ck_some h
        refine z_iald hE (by decide) e_78 k24q dX10_pairs_136 ?_
        obtain ⟨k25q, h⟩ := z_ck_some h
        obtain ⟨g26q, eg26q, h⟩ := z_let_eq h
        refine z_iast hE (by decide) e_79 k25q (ua_79 eg26q) dX10_pairs_137 ?_
        refine z_iinc (v := x5 + 1) hE 4 [(5, .int (x5 + 1)), (0, .ref (z_ad X 71)), (1, .int x1), (2, .int x2), (4, .int x4)] dX10_pairs_138 rfl rfl (by decide) rfl ?_
        refine z_goto hE 111 dX10_pairs_141 rfl ?_
        refine z_sub [(0, .ref (z_ad X 71)), (1, .int x1), (2, .int x2), (4, .int x4), (5, .int (x5 + 1))] [1, 2, 3, 4, 0] rfl ?_
        exact ih x1 x2 x4 (x5 + 1) g26q h
set_option maxHeartbeats 1000000 in
set_option maxRecDepth 20000 in
theorem b_Mod_pairs_b99 {X : z_X} {E : z_ET} {o : z_G} (hE : z_EV X E cX10_pairs 6 RX10 2 46 80) {r : Int32 × z_G} (hret : ∀ (pc : Nat) (lv : List (Nat × Value)), decode cX10_pairs pc = .ok (.ireturn, 1) → z_V X E 6 o r.2 pc lv [.int r.1]) (k45 : Int32 → Int32 → Int32 → z_G → Option (Int32 × z_G)) (hk45 : ∀ (x1 : Int32) (x2 : Int32) (x3 : Int32) (g : z_G), k45 x1 x2 x3 g = some r → z_V X E 6 o g 45 [(0, .ref (z_ad X 71)), (1, .int x1), (2, .int x2), (3, .int x3)] []) (k55 : Int32 → Int32 → Int32 → Int32 → z_G → Option (Int32 × z_G)) (hk55 : ∀ (x1 : Int32) (x2 : Int32) (x4 : Int32) (x5 : Int32) (g : z_G), k55 x1 x2 x4 x5 g = some r → z_V X E 6 o g 55 [(0, .ref (z_ad X 71)), (1, .int x1), (2, .int x2), (4, .int x4), (5, .int x5)] []) (x1 : Int32) (x2 : Int32) (x5 : Int32) (s1 : Int32) (s0 : Int32) (g : z_G)  (h : s_Mod_pairs_b99 k45 k55 x1 x2 x5 s1 s0 g = some r) : z_V X E 6 o g 99 [(0, .ref (z_ad X 71)), (1, .int x1), (2, .int x2), (5, .int x5)] [.int s1, .int s0] := by
  unfold s_Mod_pairs_b99 at h
  refine z_iadd hE dX10_pairs_99 ?_
  refine z_istore hE [(4, .int (s0 + s1)), (0, .ref (z_ad X 71)), (1, .int x1), (2, .int x2), (5, .int x5)] dX10_pairs_100 (by decide) rfl ?_
  refine z_iinc (v := x5 + 1) hE 4 [(5, .int (x5 + 1)), (4, .int (s0 + s1)), (0, .ref (z_ad X 71)), (1, .int x1), (2, .int x2)] dX10_pairs_102 rfl rfl (by decide) rfl ?_
  refine z_goto hE 55 dX10_pairs_105 rfl ?_
  refine z_sub [(0, .ref (z_ad X 71)), (1, .int x1), (2, .int x2), (4, .int (s0 + s1)), (5, .int (x5 + 1))] [2, 3, 4, 1, 0] rfl ?_
  exact hk55 x1 x2 (s0 + s1) (x5 + 1) g h
set_option maxHeartbeats 1000000 in
set_option maxRecDepth 20000 in
theorem b_Mod_pairs_L55 {X : z_X} {E : z_ET} {o : z_G} (hE : z_EV X E cX10_pairs 6 RX10 2 46 80) {r : Int32 × z_G} (hret : ∀ (pc : Nat) (lv : List (Nat × Value)), decode cX10_pairs pc = .ok (.ireturn, 1) → z_V X E 6 o r.2 pc lv [.int r.1]) (k45 : Int32 → Int32 → Int32 → z_G → Option (Int32 × z_G)) (hk45 : ∀ (x1 : Int32) (x2 : Int32) (x3 : Int32) (g : z_G), k45 x1 x2 x3 g = some r → z_V X E 6 o g 45 [(0, .ref (z_ad X 71)), (1, .int x1), (2, .int x2), (3, .int x3)] []) : ∀ (n : Nat) (x1 : Int32) (x2 : Int32) (x4 : Int32) (x5 : Int32) (g : z_G), s_Mod_pairs_L55 k45 n x1 x2 x4 x5 g = some r → z_V X E 6 o g 55 [(0, .ref (z_ad X 71)), (1, .int x1), (2, .int x2), (4, .int x4), (5, .int x5)] [] := by
  intro n
  induction n with
  | zero => intro x1 x2 x4 x5 g h; exact z_none h
  | succ n ih =>
    intro x1 x2 x4 x5 g h
    rw [s_Mod_pairs_L55] at h
    refine z_iload hE 4 dX10_pairs_55 rfl ?_
    refine z_aload_n hE 0 dX10_pairs_57 rfl ?_
    refine z_iV (rest := [.int x5]) (av := []) hE (c_Mod_men g) l_RX10_56 (by decide) (by decide) e_71 rfl ⟨by decide, by decide⟩ dX10_pairs_58 rfl (Nat.le_of_ble_eq_true rfl) ?_
    refine z_icmp_ge hE 108 dX10_pairs_61 rfl (fun c27q => ?_) (fun c27q => ?_)
    · replace h := z_t c27q h
      refine z_iconst (v := 0) hE dX10_pairs_108 rfl ?_
      refine z_istore hE [(5, .int 0), (0, .ref (z_ad X 71)), (1, .int x1), (2, .int x2), (4, .int x4)] dX10_pairs_109 (by decide) rfl ?_
      refine z_sub [(0, .ref (z_ad X 71)), (1, .int x1), (2, .int x2), (4, .int x4), (5, .int 0)] [1, 2, 3, 4, 0] rfl ?_
      exact b_Mod_pairs_L111 hE hret k45 hk45 z_F x1 x2 x4 0 g h
    · replace h := z_f c27q h
      refine z_iload hE 3 dX10_pairs_64 rfl ?_
      refine z_aload_n hE 0 dX10_pairs_66 rfl ?_
      refine z_get hE f_RX10_13 (by decide) e_71 rfl dX10_pairs_67 ?_
      refine z_bipush (v := 18) hE dX10_pairs_70 rfl ?_
      refine z_aload_n hE 0 dX10_pairs_72 rfl ?_
      refine z_get hE f_RX10_29 (by decide) e_71 rfl dX10_pairs_73 ?_
      refine z_iload hE 4 dX10_pairs_76 rfl ?_
      obtain ⟨k28q, h⟩ := z_ck_some h
      refine z_iald hE (by decide) e_78 k28q dX10_pairs_78 ?_
      refine z_iadd hE dX10_pairs_79 ?_
      obtain ⟨k29q, h⟩ := z_ck_some h
      refine z_iald hE (by decide) e_73 k29q dX10_pairs_80 ?_
      refine z_aload_n hE 0 dX10_pairs_81 rfl ?_
      refine z_get hE f_RX10_7 (by decide) e_71 rfl dX10_pairs_82 ?_
      refine z_bipush (v := 11) hE dX10_pairs_85 rfl ?_
      refine z_iload hE 4 dX10_pairs_87 rfl ?_
      refine z_iadd hE dX10_pairs_89 ?_
      obtain ⟨k30q, h⟩ := z_ck_some h
      refine z_iald hE (by decide) e_72 k30q dX10_pairs_90 ?_
      refine z_icmp_eq hE 98 dX10_pairs_91 rfl (fun c31q => ?_) (fun c31q => ?_)
      · replace h := z_t c31q h
        refine z_iconst (v := 0) hE dX10_pairs_98 rfl ?_
        refine z_sub [(0, .ref (z_ad X 71)), (1, .int x1), (2, .int x2), (5, .int x5)] [0, 1, 2, 4] rfl ?_
        exact b_Mod_pairs_b99 hE hret k45 hk45 (s_Mod_pairs_L55 k45 n) ih x1 x2 x5 0 x4 g h
      · replace h := z_f c31q h
        refine z_iconst (v := 1) hE dX10_pairs_94 rfl ?_
        refine z_goto hE 99 dX10_pairs_95 rfl ?_
        refine z_sub [(0, .ref (z_ad X 71)), (1, .int x1), (2, .int x2), (5, .int x5)] [0, 1, 2, 4] rfl ?_
        exact b_Mod_pairs_b99 hE hret k45 hk45 (s_Mod_pairs_L55 k45 n) ih x1 x2 x5 1 x4 g h
set_option maxHeartbeats 1000000 in
set_option maxRecDepth 20000 in
theorem b_Mod_pairs_L45 {X : z_X} {E : z_ET} {o : z_G} (hE : z_EV X E cX10_pairs 6 RX10 2 46 80) {r : Int32 × z_G} (hret : ∀ (pc : Nat) (lv : List (Nat × Value)), decode cX10_pairs pc = .ok (.ireturn, 1) → z_V X E 6 o r.2 pc lv [.int r.1]) : ∀ (n : Nat) (x1 : Int32) (x2 : Int32) (x3 : Int32) (g : z_G), s_Mod_pairs_L45 n x1 x2 x3 g = some r → z_V X E 6 o g 45 [(0, .ref (z_ad X 71)), (1, .int x1), (2, .int x2), (3, .int x3)] [] := by
  intro n
  induction n with
  | zero => intro x1 x2 x3 g h; exact z_none h
  | succ n ih =>
    intro x1 x2 x3 g h
    rw [s_Mod_pairs_L45] at h
    refine z_iload_n hE 3 dX10_pairs_45 rfl ?_
    refine z_if_eq hE 159 dX10_pairs_46 rfl (fun c32q => ?_) (fun c32q => ?_)
    · replace h := z_t c32q h
      refine z_iload_n hE 1 dX10_pairs_159 rfl ?_
      refine z_if_ge hE 167 dX10_pairs_160 rfl (fun c33q => ?_) (fun c33q => ?_)
      · replace h := z_t c33q h
        refine z_aload_n hE 0 dX10_pairs_167 rfl ?_
        refine z_get hE f_RX10_32 (by decide) e_71 rfl dX10_pairs_168 ?_
        refine z_iload_n hE 1 dX10_pairs_171 rfl ?_
        obtain ⟨k34q, h⟩ := z_ck_some h
        refine z_iald hE (by decide) e_79 k34q dX10_pairs_172 ?_
        obtain rfl := Option.some.inj h
        exact hret _ _ dX10_pairs_173
      · replace h := z_f c33q h
        refine z_iload_n hE 2 dX10_pairs_163 rfl ?_
        refine z_goto hE 173 dX10_pairs_164 rfl ?_
        obtain rfl := Option.some.inj h
        exact hret _ _ dX10_pairs_173
    · replace h := z_f c32q h
      refine z_iconst (v := 0) hE dX10_pairs_49 rfl ?_
      refine z_istore hE [(4, .int 0), (0, .ref (z_ad X 71)), (1, .int x1), (2, .int x2), (3, .int x3)] dX10_pairs_50 (by decide) rfl ?_
      refine z_iconst (v := 0) hE dX10_pairs_52 rfl ?_
      refine z_istore hE [(5, .int 0), (4, .int 0), (0, .ref (z_ad X 71)), (1, .int x1), (2, .int x2), (3, .int x3)] dX10_pairs_53 (by decide) rfl ?_
      refine z_sub [(0, .ref (z_ad X 71)), (1, .int x1), (2, .int x2), (4, .int 0), (5, .int 0)] [2, 3, 4, 1, 0] rfl ?_
      exact b_Mod_pairs_L55 hE hret (s_Mod_pairs_L45 n) ih z_F x1 x2 0 0 g h
set_option maxHeartbeats 1000000 in
set_option maxRecDepth 20000 in
theorem b_Mod_pairs_L22 {X : z_X} {E : z_ET} {o : z_G} (hE : z_EV X E cX10_pairs 6 RX10 2 46 80) {r : Int32 × z_G} (hret : ∀ (pc : Nat) (lv : List (Nat × Value)), decode cX10_pairs pc = .ok (.ireturn, 1) → z_V X E 6 o r.2 pc lv [.int r.1]) : ∀ (n : Nat) (x1 : Int32) (x2 : Int32) (g : z_G), s_Mod_pairs_L22 n x1 x2 g = some r → z_V X E 6 o g 22 [(0, .ref (z_ad X 71)), (1, .int x1), (2, .int x2)] [] := by
  intro n
  induction n with
  | zero => intro x1 x2 g h; exact z_none h
  | succ n ih =>
    intro x1 x2 g h
    rw [s_Mod_pairs_L22] at h
    refine z_iload_n hE 2 dX10_pairs_22 rfl ?_
    refine z_bipush (v := 6) hE dX10_pairs_23 rfl ?_
    refine z_icmp_ge hE 41 dX10_pairs_25 rfl (fun c35q => ?_) (fun c35q => ?_)
    · replace h := z_t c35q h
      refine z_iconst (v := (-1)) hE dX10_pairs_41 rfl ?_
      refine z_istore_n hE [(2, .int (-1)), (0, .ref (z_ad X 71)), (1, .int x1)] dX10_pairs_42 rfl (by decide) rfl ?_
      refine z_iconst (v := 1) hE dX10_pairs_43 rfl ?_
      refine z_istore_n hE [(3, .int 1), (2, .int (-1)), (0, .ref (z_ad X 71)), (1, .int x1)] dX10_pairs_44 rfl (by decide) rfl ?_
      refine z_sub [(0, .ref (z_ad X 71)), (1, .int x1), (2, .int (-1)), (3, .int 1)] [2, 3, 1, 0] rfl ?_
      exact b_Mod_pairs_L45 hE hret z_F x1 (-1) 1 g h
    · replace h := z_f c35q h
      refine z_aload_n hE 0 dX10_pairs_28 rfl ?_
      refine z_get hE f_RX10_29 (by decide) e_71 rfl dX10_pairs_29 ?_
      refine z_iload_n hE 2 dX10_pairs_32 rfl ?_
      refine z_iload_n hE 2 dX10_pairs_33 rfl ?_
      obtain ⟨k36q, h⟩ := z_ck_some h
      obtain ⟨g37q, eg37q, h⟩ := z_let_eq h
      refine z_iast hE (by decide) e_78 k36q (ua_78 eg37q) dX10_pairs_34 ?_
      refine z_iinc (v := x2 + 1) hE 2 [(2, .int (x2 + 1)), (0, .ref (z_ad X 71)), (1, .int x1)] dX10_pairs_35 rfl rfl (by decide) rfl ?_
      refine z_goto hE 22 dX10_pairs_38 rfl ?_
      refine z_sub [(0, .ref (z_ad X 71)), (1, .int x1), (2, .int (x2 + 1))] [1, 2, 0] rfl ?_
      exact ih x1 (x2 + 1) g37q h
set_option maxHeartbeats 1000000 in
set_option maxRecDepth 20000 in
theorem c_Mod_pairs {X : z_X} {l : Launch} {o : z_G} (x1 : Int32) (g : z_G) (r : Int32 × z_G) (h : s_Mod_pairs x1 g = some r) : z_MI X l 80 yX10_pairs cX10_pairs 6 (some .int) 2 46 [.ref (z_ad X 71), .int x1] o g o r.2 r.1 := by
  unfold s_Mod_pairs at h
  refine z_meti (ty := .int) rfl rfl (by decide) (Nat.le_of_ble_eq_true rfl) (fun E hl hE hret => ?_)
  subst hl
  refine z_iload_n hE 1 dX10_pairs_0 rfl ?_
  refine z_i2l hE dX10_pairs_1 ?_
  refine z_ldc2 hE dX10_pairs_2 w_528 ?_
  refine z_aload_n hE 0 dX10_pairs_5 rfl ?_
  refine z_iV (rest := [.long (-1), .long (Int32.toInt64 x1)]) (av := []) hE (c_Mod_men g) l_RX10_56 (by decide) (by decide) e_71 rfl ⟨by decide, by decide⟩ dX10_pairs_6 rfl (Nat.le_of_ble_eq_true rfl) ?_
  refine z_iconst (v := 1) hE dX10_pairs_9 rfl ?_
  refine z_isub hE dX10_pairs_10 ?_
  refine z_i2l hE dX10_pairs_11 ?_
  refine z_iS (rest := []) (av := [.long (Int32.toInt64 x1), .long (-1), .long (Int32.toInt64 ((s_Mod_men g) - 1))]) hE (c_Mod_in (Int32.toInt64 x1) (-1) (Int32.toInt64 ((s_Mod_men g) - 1)) g) l_RX10_60 (by decide) ⟨by decide, by decide⟩ dX10_pairs_12 rfl (Nat.le_of_ble_eq_true rfl) ?_
  refine z_if_ne hE 20 dX10_pairs_15 rfl (fun c38q => ?_) (fun c38q => ?_)
  · replace h := z_f c38q h
    refine z_iconst (v := 0) hE dX10_pairs_20 rfl ?_
    refine z_istore_n hE [(2, .int 0), (0, .ref (z_ad X 71)), (1, .int x1)] dX10_pairs_21 rfl (by decide) rfl ?_
    refine z_sub [(0, .ref (z_ad X 71)), (1, .int x1), (2, .int 0)] [1, 2, 0] rfl ?_
    exact b_Mod_pairs_L22 hE hret z_F x1 0 g h
  · replace h := z_t c38q h
    refine z_iconst (v := (-1)) hE dX10_pairs_18 rfl ?_
    obtain rfl := Option.some.inj h
    exact hret _ _ dX10_pairs_19
