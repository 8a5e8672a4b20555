theorem dX10_homeward_0 : decode cX10_homeward 0 = .ok (.aload_n 0, 1) := by decide +kernel
theorem dX10_homeward_1 : decode cX10_homeward 1 = .ok (.iload_n 1, 1) := by decide +kernel
theorem dX10_homeward_2 : decode cX10_homeward 2 = .ok (.invokevirtual 113, 3) := by decide +kernel
theorem dX10_homeward_5 : decode cX10_homeward 5 = .ok (.ifCond .ne 5, 3) := by decide +kernel
theorem dX10_homeward_8 : decode cX10_homeward 8 = .ok (.iconst (-1), 1) := by decide +kernel
theorem dX10_homeward_9 : decode cX10_homeward 9 = .ok (.ireturn, 1) := by decide +kernel
theorem dX10_homeward_10 : decode cX10_homeward 10 = .ok (.aload_n 0, 1) := by decide +kernel
theorem dX10_homeward_11 : decode cX10_homeward 11 = .ok (.getfield 7, 3) := by decide +kernel
theorem dX10_homeward_14 : decode cX10_homeward 14 = .ok (.bipush 11, 2) := by decide +kernel
theorem dX10_homeward_16 : decode cX10_homeward 16 = .ok (.iload_n 1, 1) := by decide +kernel
theorem dX10_homeward_17 : decode cX10_homeward 17 = .ok (.iadd, 1) := by decide +kernel
theorem dX10_homeward_18 : decode cX10_homeward 18 = .ok (.iaload, 1) := by decide +kernel
theorem dX10_homeward_19 : decode cX10_homeward 19 = .ok (.istore_n 2, 1) := by decide +kernel
theorem dX10_homeward_20 : decode cX10_homeward 20 = .ok (.aload_n 0, 1) := by decide +kernel
theorem dX10_homeward_21 : decode cX10_homeward 21 = .ok (.iconst 0, 1) := by decide +kernel
theorem dX10_homeward_22 : decode cX10_homeward 22 = .ok (.iload_n 1, 1) := by decide +kernel
theorem dX10_homeward_23 : decode cX10_homeward 23 = .ok (.invokevirtual 155, 3) := by decide +kernel
theorem dX10_homeward_26 : decode cX10_homeward 26 = .ok (.iconst 0, 1) := by decide +kernel
theorem dX10_homeward_27 : decode cX10_homeward 27 = .ok (.istore_n 3, 1) := by decide +kernel
theorem dX10_homeward_28 : decode cX10_homeward 28 = .ok (.iload_n 3, 1) := by decide +kernel
theorem dX10_homeward_29 : decode cX10_homeward 29 = .ok (.bipush 60, 2) := by decide +kernel
theorem dX10_homeward_31 : decode cX10_homeward 31 = .ok (.if_icmp .gt 47, 3) := by decide +kernel
theorem dX10_homeward_34 : decode cX10_homeward 34 = .ok (.aload_n 0, 1) := by decide +kernel
theorem dX10_homeward_35 : decode cX10_homeward 35 = .ok (.getfield 135, 3) := by decide +kernel
theorem dX10_homeward_38 : decode cX10_homeward 38 = .ok (.aload_n 0, 1) := by decide +kernel
theorem dX10_homeward_39 : decode cX10_homeward 39 = .ok (.getfield 7, 3) := by decide +kernel
theorem dX10_homeward_42 : decode cX10_homeward 42 = .ok (.iload_n 2, 1) := by decide +kernel
theorem dX10_homeward_43 : decode cX10_homeward 43 = .ok (.iaload, 1) := by decide +kernel
theorem dX10_homeward_44 : decode cX10_homeward 44 = .ok (.if_icmp .ne 20, 3) := by decide +kernel
theorem dX10_homeward_47 : decode cX10_homeward 47 = .ok (.aload_n 0, 1) := by decide +kernel
theorem dX10_homeward_48 : decode cX10_homeward 48 = .ok (.getfield 138, 3) := by decide +kernel
theorem dX10_homeward_51 : decode cX10_homeward 51 = .ok (.aload_n 0, 1) := by decide +kernel
theorem dX10_homeward_52 : decode cX10_homeward 52 = .ok (.getfield 7, 3) := by decide +kernel
theorem dX10_homeward_55 : decode cX10_homeward 55 = .ok (.iconst 4, 1) := by decide +kernel
theorem dX10_homeward_56 : decode cX10_homeward 56 = .ok (.iload_n 2, 1) := by decide +kernel
theorem dX10_homeward_57 : decode cX10_homeward 57 = .ok (.iadd, 1) := by decide +kernel
theorem dX10_homeward_58 : decode cX10_homeward 58 = .ok (.iaload, 1) := by decide +kernel
theorem dX10_homeward_59 : decode cX10_homeward 59 = .ok (.if_icmp .ne 5, 3) := by decide +kernel
theorem dX10_homeward_62 : decode cX10_homeward 62 = .ok (.iload_n 3, 1) := by decide +kernel
theorem dX10_homeward_63 : decode cX10_homeward 63 = .ok (.ireturn, 1) := by decide +kernel
theorem dX10_homeward_64 : decode cX10_homeward 64 = .ok (.aload_n 0, 1) := by decide +kernel
theorem dX10_homeward_65 : decode cX10_homeward 65 = .ok (.iconst 0, 1) := by decide +kernel
theorem dX10_homeward_66 : decode cX10_homeward 66 = .ok (.iload_n 1, 1) := by decide +kernel
theorem dX10_homeward_67 : decode cX10_homeward 67 = .ok (.iconst 0, 1) := by decide +kernel
theorem dX10_homeward_68 : decode cX10_homeward 68 = .ok (.iconst 1, 1) := by decide +kernel
theorem dX10_homeward_69 : decode cX10_homeward 69 = .ok (.invokevirtual 158, 3) := by decide +kernel
theorem dX10_homeward_72 : decode cX10_homeward 72 = .ok (.iinc 3 1, 3) := by decide +kernel
theorem dX10_homeward_75 : decode cX10_homeward 75 = .ok (.goto (-47), 3) := by decide +kernel
theorem dX10_homeward_78 : decode cX10_homeward 78 = .ok (.bipush (-4), 2) := by decide +kernel
theorem dX10_homeward_80 : decode cX10_homeward 80 = .ok (.ireturn, 1) := by decide +kernel
def s_Mod_homeward_b64 (k28 : Int32 → Int32 → Int32 → z_G → Option (Int32 × z_G)) (x1 : Int32) (x2 : Int32) (x3 : Int32) (g : z_G) : Option (Int32 × z_G) := (Option.bind (s_Mod_goes 0 x1 0 1 g) fun r11q => (k28 x1 x2 (x3 + 1) r11q))
def s_Mod_homeward_L28 : Nat → Int32 → Int32 → Int32 → z_G → Option (Int32 × z_G)
  | 0, _, _, _, _ => none
  | n + 1, x1, x2, x3, g => (if 60 < x3 then (some ((-4), g)) else (z_ck (z_inb x2 120) (if (g 0 13) = (z_rd g 1 x2) then (z_ck (z_inb (4 + x2) 120) (if (g 0 14) = (z_rd g 1 (4 + x2)) then (some (x3, g)) else (s_Mod_homeward_b64 (s_Mod_homeward_L28 n) x1 x2 x3 g))) else (s_Mod_homeward_b64 (s_Mod_homeward_L28 n) x1 x2 x3 g))))
def s_Mod_homeward (x1 : Int32) (g : z_G) : Option (Int32 × z_G) := (if (s_Mod_isMan x1 g) = 0 then (some ((-1), g)) else (z_ck (z_inb (11 + x1) 120) (z_let (α := Int32) ((z_rd g 1 (11 + x1))) fun v19q => (Option.bind (s_Mod_picks 0 x1 g) fun r20q => (s_Mod_homeward_L28 z_F x1 v19q 0 r20q)))))
set_option maxHeartbeats 1000000 in
set_option maxRecDepth 20000 in
theorem b_Mod_homeward_b64 {X : z_X} {E : z_ET} {o : z_G} (hE : z_EV X E cX10_homeward 4 RX10 4 99 80) {r : Int32 × z_G} (hret : ∀ (pc : Nat) (lv : List (Nat × Value)), decode cX10_homeward pc = .ok (.ireturn, 1) → z_V X E 4 o r.2 pc lv [.int r.1]) (k28 : Int32 → Int32 → Int32 → z_G → Option (Int32 × z_G)) (hk28 : ∀ (x1 : Int32) (x2 : Int32) (x3 : Int32) (g : z_G), k28 x1 x2 x3 g = some r → z_V X E 4 o g 28 [(0, .ref (z_ad X 71)), (1, .int x1), (2, .int x2), (3, .int x3)] []) (x1 : Int32) (x2 : Int32) (x3 : Int32) (g : z_G)  (h : s_Mod_homeward_b64 k28 x1 x2 x3 g = some r) : z_V X E 4 o g 64 [(0, .ref (z_ad X 71)), (1, .int x1), (2, .int x2), (3, .int x3)] [] := by
  unfold s_Mod_homeward_b64 at h
  refine z_aload_n hE 0 dX10_homeward_64 rfl ?_
  refine z_iconst (v := 0) hE dX10_homeward_65 rfl ?_
  refine z_iload_n hE 1 dX10_homeward_66 rfl ?_
  refine z_iconst (v := 0) hE dX10_homeward_67 rfl ?_
  refine z_iconst (v := 1) hE dX10_homeward_68 rfl ?_
  obtain ⟨r11q, hr11q, h⟩ := z_bind_some h
  refine z_vV (rest := []) (av := [.int 0, .int x1, .int 0, .int 1]) hE (c_Mod_goes 0 x1 0 1 g r11q hr11q) l_RX10_158 (by decide) (by decide) e_71 rfl ⟨by decide, by decide⟩ dX10_homeward_69 rfl (Nat.le_of_ble_eq_true rfl) ?_
  refine z_iinc (v := x3 + 1) hE 3 [(3, .int (x3 + 1)), (0, .ref (z_ad X 71)), (1, .int x1), (2, .int x2)] dX10_homeward_72 rfl rfl (by decide) rfl ?_
  refine z_goto hE 28 dX10_homeward_75 rfl ?_
  refine z_sub [(0, .ref (z_ad X 71)), (1, .int x1), (2, .int x2), (3, .int (x3 + 1))] [1, 2, 3, 0] rfl ?_
  exact hk28 x1 x2 (x3 + 1) r11q h
set_option maxHeartbeats 1000000 in
set_option maxRecDepth 20000 in
theorem b_Mod_homeward_L28 {X : z_X} {E : z_ET} {o : z_G} (hE : z_EV X E cX10_homeward 4 RX10 4 99 80) {r : Int32 × z_G} (hret : ∀ (pc : Nat) (lv : List (Nat × Value)), decode cX10_homeward pc = .ok (.ireturn, 1) → z_V X E 4 o r.2 pc lv [.int r.1]) : ∀ (n : Nat) (x1 : Int32) (x2 : Int32) (x3 : Int32) (g : z_G), s_Mod_homeward_L28 n x1 x2 x3 g = some r → z_V X E 4 o g 28 [(0, .ref (z_ad X 71)), (1, .int x1), (2, .int x2), (3, .int x3)] [] := by
  intro n
  induction n with
  | zero => intro x1 x2 x3 g h; exact z_none h
  | succ n ih =>
    intro x1 x2 x3 g h
    rw [s_Mod_homeward_L28] at h
    refine z_iload_n hE 3 dX10_homeward_28 rfl ?_
    refine z_bipush (v := 60) hE dX10_homeward_29 rfl ?_
    refine z_icmp_gt hE 78 dX10_homeward_31 rfl (fun c12q => ?_) (fun c12q => ?_)
    · replace h := z_t c12q h
      refine z_bipush (v := (-4)) hE dX10_homeward_78 rfl ?_
      obtain rfl := Option.some.inj h
      exact hret _ _ dX10_homeward_80
    · replace h := z_f c12q h
      refine z_aload_n hE 0 dX10_homeward_34 rfl ?_
      refine z_get hE f_RX10_135 (by decide) e_71 rfl dX10_homeward_35 ?_
      refine z_aload_n hE 0 dX10_homeward_38 rfl ?_
      refine z_get hE f_RX10_7 (by decide) e_71 rfl dX10_homeward_39 ?_
      refine z_iload_n hE 2 dX10_homeward_42 rfl ?_
      obtain ⟨k13q, h⟩ := z_ck_some h
      refine z_iald hE (by decide) e_72 k13q dX10_homeward_43 ?_
      refine z_icmp_ne hE 64 dX10_homeward_44 rfl (fun c14q => ?_) (fun c14q => ?_)
      · replace h := z_f c14q h
        exact b_Mod_homeward_b64 hE hret (s_Mod_homeward_L28 n) ih x1 x2 x3 g h
      · replace h := z_t c14q h
        refine z_aload_n hE 0 dX10_homeward_47 rfl ?_
        refine z_get hE f_RX10_138 (by decide) e_71 rfl dX10_homeward_48 ?_
        refine z_aload_n hE 0 dX10_homeward_51 rfl ?_
        refine z_get hE f_RX10_7 (by decide) e_71 rfl dX10_homeward_52 ?_
        refine z_iconst (v := 4) hE dX10_homeward_55 rfl ?_
        refine z_iload_n hE 2 dX10_homeward_56 rfl ?_
        refine z_iadd hE dX10_homeward_57 ?_
        obtain ⟨k15q, h⟩ := z_ck_some h
        refine z_iald hE (by decide) e_72 k15q dX10_homeward_58 ?_
        refine z_icmp_ne hE 64 dX10_homeward_59 rfl (fun c16q => ?_) (fun c16q => ?_)
        · replace h := z_f c16q h
          exact b_Mod_homeward_b64 hE hret (s_Mod_homeward_L28 n) ih x1 x2 x3 g h
        · replace h := z_t c16q h
          refine z_iload_n hE 3 dX10_homeward_62 rfl ?_
          obtain rfl := Option.some.inj h
          exact hret _ _ dX10_homeward_63
set_option maxHeartbeats 1000000 in
set_option maxRecDepth 20000 in
theorem c_Mod_homeward {X : z_X} {l : Launch} {o : z_G} (x1 : Int32) (g : z_G) (r : Int32 × z_G) (h : s_Mod_homeward x1 g = some r) : z_MI X l 80 yX10_homeward cX10_homeward 4 (some .int) 4 99 [.ref (z_ad X 71), .int x1] o g o r.2 r.1 := by
  unfold s_Mod_homeward at h
  refine z_meti (ty := .int) rfl rfl (by decide) (Nat.le_of_ble_eq_true rfl) (fun E hl hE hret => ?_)
  subst hl
  refine z_aload_n hE 0 dX10_homeward_0 rfl ?_
  refine z_iload_n hE 1 dX10_homeward_1 rfl ?_
  refine z_iV (rest := []) (av := [.int x1]) hE (c_Mod_isMan x1 g) l_RX10_113 (by decide) (by decide) e_71 rfl ⟨by decide, by decide⟩ dX10_homeward_2 rfl (Nat.le_of_ble_eq_true rfl) ?_
  refine z_if_ne hE 10 dX10_homeward_5 rfl (fun c17q => ?_) (fun c17q => ?_)
  · replace h := z_f c17q h
    refine z_aload_n hE 0 dX10_homeward_10 rfl ?_
    refine z_get hE f_RX10_7 (by decide) e_71 rfl dX10_homeward_11 ?_
    refine z_bipush (v := 11) hE dX10_homeward_14 rfl ?_
    refine z_iload_n hE 1 dX10_homeward_16 rfl ?_
    refine z_iadd hE dX10_homeward_17 ?_
    obtain ⟨k18q, h⟩ := z_ck_some h
    refine z_iald hE (by decide) e_72 k18q dX10_homeward_18 ?_
    obtain ⟨v19q, ev19q, h⟩ := z_let_eq h
    refine z_topi ev19q ?_
    refine z_istore_n hE [(2, .int v19q), (0, .ref (z_ad X 71)), (1, .int x1)] dX10_homeward_19 rfl (by decide) rfl ?_
    refine z_aload_n hE 1 dX10_homeward_20 rfl ?_
    refine z_iconst (v := 0) hE dX10_homeward_21 rfl ?_
    refine z_iload_n hE 2 dX10_homeward_22 rfl ?_
    obtain ⟨r20q, hr20q, h⟩ := z_bind_some h
    refine z_vV (rest := []) (av := [.int 0, .int x1]) hE (c_Mod_picks 0 x1 g r20q hr20q) l_RX10_155 (by decide) (by decide) e_71 rfl ⟨by decide, by decide⟩ dX10_homeward_23 rfl (Nat.le_of_ble_eq_true rfl) ?_
    refine z_iconst (v := 0) hE dX10_homeward_26 rfl ?_
    refine z_istore_n hE [(3, .int 0), (2, .int v19q), (0, .ref (z_ad X 71)), (1, .int x1)] dX10_homeward_27 rfl (by decide) rfl ?_
    refine z_sub [(0, .ref (z_ad X 71)), (1, .int x1), (2, .int v19q), (3, .int 0)] [2, 3, 1, 0] rfl ?_
    exact b_Mod_homeward_L28 hE hret z_F x1 v19q 0 r20q h
  · replace h := z_t c17q h
    refine z_iconst (v := (-1)) hE dX10_homeward_8 rfl ?_
    obtain rfl := Option.some.inj h
    exact hret _ _ dX10_homeward_9
theorem dX10_seen_0 : decode cX10_seen 0 = .ok (.aload_n 0, 1) := by decide +kernel
theorem dX10_seen_1 : decode cX10_seen 1 = .ok (.iload_n 1, 1) := by decide +kernel
theorem dX10_seen_2 : decode cX10_seen 2 = .ok (.invokevirtual 113, 3) := by decide +kernel
theorem dX10_seen_5 : decode cX10_seen 5 = .ok (.ifCond .eq 32, 3) := by decide +kernel
theorem dX10_seen_8 : decode cX10_seen 8 = .ok (.iload_n 2, 1) := by decide +kernel
theorem dX10_seen_9 : decode cX10_seen 9 = .ok (.i2l, 1) := by decide +kernel
theorem dX10_seen_10 : decode cX10_seen 10 = .ok (.lconst 1, 1) := by decide +kernel
theorem dX10_seen_11 : decode cX10_seen 11 = .ok (.aload_n 0, 1) := by decide +kernel
theorem dX10_seen_12 : decode cX10_seen 12 = .ok (.getfield 7, 3) := by decide +kernel
theorem dX10_seen_15 : decode cX10_seen 15 = .ok (.bipush 47, 2) := by decide +kernel
theorem dX10_seen_17 : decode cX10_seen 17 = .ok (.iaload, 1) := by decide +kernel
theorem dX10_seen_18 : decode cX10_seen 18 = .ok (.i2l, 1) := by decide +kernel
theorem dX10_seen_19 : decode cX10_seen 19 = .ok (.invokestatic 60, 3) := by decide +kernel
theorem dX10_seen_22 : decode cX10_seen 22 = .ok (.ifCond .eq 15, 3) := by decide +kernel
theorem dX10_seen_25 : decode cX10_seen 25 = .ok (.iload_n 3, 1) := by decide +kernel
theorem dX10_seen_26 : decode cX10_seen 26 = .ok (.i2l, 1) := by decide +kernel
theorem dX10_seen_27 : decode cX10_seen 27 = .ok (.lconst 0, 1) := by decide +kernel
theorem dX10_seen_28 : decode cX10_seen 28 = .ok (.ldc2_w 164, 3) := by decide +kernel
theorem dX10_seen_31 : decode cX10_seen 31 = .ok (.invokestatic 60, 3) := by decide +kernel
theorem dX10_seen_34 : decode cX10_seen 34 = .ok (.ifCond .ne 5, 3) := by decide +kernel
theorem dX10_seen_37 : decode cX10_seen 37 = .ok (.iconst (-1), 1) := by decide +kernel
theorem dX10_seen_38 : decode cX10_seen 38 = .ok (.ireturn, 1) := by decide +kernel
theorem dX10_seen_39 : decode cX10_seen 39 = .ok (.aload_n 0, 1) := by decide +kernel
theorem dX10_seen_40 : decode cX10_seen 40 = .ok (.getfield 53, 3) := by decide +kernel
theorem dX10_seen_43 : decode cX10_seen 43 = .ok (.bipush 6, 2) := by decide +kernel
theorem dX10_seen_45 : decode cX10_seen 45 = .ok (.if_icmp .ne 6, 3) := by decide +kernel
theorem dX10_seen_48 : decode cX10_seen 48 = .ok (.bipush (-3), 2) := by decide +kernel
theorem dX10_seen_50 : decode cX10_seen 50 = .ok (.ireturn, 1) := by decide +kernel
theorem dX10_seen_51 : decode cX10_seen 51 = .ok (.aload_n 0, 1) := by decide +kernel
theorem dX10_seen_52 : decode cX10_seen 52 = .ok (.getfield 20, 3) := by decide +kernel
theorem dX10_seen_55 : decode cX10_seen 55 = .ok (.aload_n 0, 1) := by decide +kernel
theorem dX10_seen_56 : decode cX10_seen 56 = .ok (.getfield 53, 3) := by decide +kernel
theorem dX10_seen_59 : decode cX10_seen 59 = .ok (.iload_n 1, 1) := by decide +kernel
theorem dX10_seen_60 : decode cX10_seen 60 = .ok (.iastore, 1) := by decide +kernel
theorem dX10_seen_61 : decode cX10_seen 61 = .ok (.aload_n 0, 1) := by decide +kernel
theorem dX10_seen_62 : decode cX10_seen 62 = .ok (.getfield 23, 3) := by decide +kernel
theorem dX10_seen_65 : decode cX10_seen 65 = .ok (.aload_n 0, 1) := by decide +kernel
theorem dX10_seen_66 : decode cX10_seen 66 = .ok (.getfield 53, 3) := by decide +kernel
theorem dX10_seen_69 : decode cX10_seen 69 = .ok (.iload_n 2, 1) := by decide +kernel
theorem dX10_seen_70 : decode cX10_seen 70 = .ok (.iastore, 1) := by decide +kernel
theorem dX10_seen_71 : decode cX10_seen 71 = .ok (.aload_n 0, 1) := by decide +kernel
theorem dX10_seen_72 : decode cX10_seen 72 = .ok (.getfield 26, 3) := by decide +kernel
theorem dX10_seen_75 : decode cX10_seen 75 = .ok (.aload_n 0, 1) := by decide +kernel
theorem dX10_seen_76 : decode cX10_seen 76 = .ok (.getfield 53, 3) := by decide +kernel
theorem dX10_seen_79 : decode cX10_seen 79 = .ok (.iload_n 3, 1) := by decide +kernel
theorem dX10_seen_80 : decode cX10_seen 80 = .ok (.iastore, 1) := by decide +kernel
theorem dX10_seen_81 : decode cX10_seen 81 = .ok (.aload_n 0, 1) := by decide +kernel
theorem dX10_seen_82 : decode cX10_seen 82 = .ok (.dup, 1) := by decide +kernel
theorem dX10_seen_83 : decode cX10_seen 83 = .ok (.getfield 53, 3) := by decide +kernel
theorem dX10_seen_86 : decode cX10_seen 86 = .ok (.iconst 1, 1) := by decide +kernel
theorem dX10_seen_87 : decode cX10_seen 87 = .ok (.iadd, 1) := by decide +kernel
theorem dX10_seen_88 : decode cX10_seen 88 = .ok (.putfield 53, 3) := by decide +kernel
theorem dX10_seen_91 : decode cX10_seen 91 = .ok (.aload_n 0, 1) := by decide +kernel
theorem dX10_seen_92 : decode cX10_seen 92 = .ok (.getfield 53, 3) := by decide +kernel
theorem dX10_seen_95 : decode cX10_seen 95 = .ok (.ireturn, 1) := by decide +kernel
def s_Mod_seen_b37  (g : z_G) : Option (Int32 × z_G) := (some ((-1), g))
def s_Mod_seen (x1 : Int32) (x2 : Int32) (x3 : Int32) (g : z_G) : Option (Int32 × z_G) := (if (s_Mod_isMan x1 g) = 0 then (s_Mod_seen_b37 g) else (if (s_Mod_in (Int32.toInt64 x2) 1 (Int32.toInt64 (z_rd g 1 47))) = 0 then (s_Mod_seen_b37 g) else (if (s_Mod_in (Int32.toInt64 x3) 0 7) = 0 then (s_Mod_seen_b37 g) else (if (g 0 9) = 6 then (some ((-3), g)) else (z_ck (z_inb (g 0 9) 6) (z_let (α := z_G) (z_wr g 4 (g 0 9) x1) fun g17q => (z_ck (z_inb (g17q 0 9) 6) (z_let (α := z_G) (z_wr g17q 5 (g17q 0 9) x2) fun g19q => (z_ck (z_inb (g19q 0 9) 6) (z_let (α := z_G) (z_wr g19q 6 (g19q 0 9) x3) fun g21q => (z_let (α := z_G) (z_up g21q 0 9 ((g21q 0 9) + 1)) fun g22q => (some ((g22q 0 9), g22q)))))))))))))
set_option maxHeartbeats 1000000 in
set_option maxRecDepth 20000 in
theorem b_Mod_seen_b37 {X : z_X} {E : z_ET} {o : z_G} (hE : z_EV X E cX10_seen 4 RX10 2 46 80) {r : Int32 × z_G} (hret : ∀ (pc : Nat) (lv : List (Nat × Value)), decode cX10_seen pc = .ok (.ireturn, 1) → z_V X E 4 o r.2 pc lv [.int r.1])  (g : z_G)  (h : s_Mod_seen_b37 g = some r) : z_V X E 4 o g 37 [] [] := by
  unfold s_Mod_seen_b37 at h
  refine z_iconst (v := (-1)) hE dX10_seen_37 rfl ?_
  obtain rfl := Option.some.inj h
  exact hret _ _ dX10_seen_38
set_option maxHeartbeats 1000000 in
set_option maxRecDepth 20000 in
theorem c_Mod_seen {X : z_X} {l : Launch} {o : z_G} (x1 : Int32) (x2 : Int32) (x3 : Int32) (g : z_G) (r : Int32 × z_G) (h : s_Mod_seen x1 x2 x3 g = some r) : z_MI X l 80 yX10_seen cX10_seen 4 (some .int) 2 46 [.ref (z_ad X 71), .int x1, .int x2, .int x3] o g o r.2 r.1 := by
  unfold s_Mod_seen at h
  refine z_meti (ty := .int) rfl rfl (by decide) (Nat.le_of_ble_eq_true rfl) (fun E hl hE hret => ?_)
  subst hl
  refine z_aload_n hE 0 dX10_seen_0 rfl ?_
  refine z_iload_n hE 1 dX10_seen_1 rfl ?_
  refine z_iV (rest := []) (av := [.int x1]) hE (c_Mod_isMan x1 g) l_RX10_113 (by decide) (by decide) e_71 rfl ⟨by decide, by decide⟩ dX10_seen_2 rfl (Nat.le_of_ble_eq_true rfl) ?_
  refine z_if_eq hE 37 dX10_seen_5 rfl (fun c12q => ?_) (fun c12q => ?_)
  · replace h := z_t c12q h
    refine z_sub [] [] rfl ?_
    exact b_Mod_seen_b37 hE hret g h
  · replace h := z_f c12q h
    refine z_iload_n hE 2 dX10_seen_8 rfl ?_
    refine z_i2l hE dX10_seen_9 ?_
    refine z_lconst (v := 1) hE dX10_seen_10 rfl ?_
    refine z_aload_n hE 0 dX10_seen_11 rfl ?_
    refine z_get hE f_RX10_7 (by decide) e_71 rfl dX10_seen_12 ?_
    refine z_bipush (v := 47) hE dX10_seen_15 rfl ?_
    refine z_iald hE (by decide) e_72 (by decide) dX10_seen_17 ?_
    refine z_i2l hE dX10_seen_18 ?_
    refine z_iS (rest := []) (av := [.long (Int32.toInt64 x2), .long 1, .long (Int32.toInt64 (z_rd g 1 47))]) hE (c_Mod_in (Int32.toInt64 x2) 1 (Int32.toInt64 (z_rd g 1 47)) g) l_RX10_60 (by decide) ⟨by decide, by decide⟩ dX10_seen_19 rfl (Nat.le_of_ble_eq_true rfl) ?_
    refine z_if_eq hE 37 dX10_seen_22 rfl (fun c13q => ?_) (fun c13q => ?_)
    · replace h := z_t c13q h
      refine z_sub [] [] rfl ?_
      exact b_Mod_seen_b37 hE hret g h
    · replace h := z_f c13q h
      refine z_iload_n hE 3 dX10_seen_25 rfl ?_
      refine z_i2l hE dX10_seen_26 ?_
      refine z_lconst (v := 0) hE dX10_seen_27 rfl ?_
      refine z_ldc2 hE dX10_seen_28 w_474 ?_
      refine z_iS (rest := []) (av := [.long (Int32.toInt64 x3), .long 0, .long 7]) hE (c_Mod_in (Int32.toInt64 x3) 0 7 g) l_RX10_60 (by decide) ⟨by decide, by decide⟩ dX10_seen_31 rfl (Nat.le_of_ble_eq_true rfl) ?_
      refine z_if_ne hE 39 dX10_seen_34 rfl (fun c14q => ?_) (fun c14q => ?_)
      · replace h := z_f c14q h
        refine z_aload_n hE 0 dX10_seen_39 rfl ?_
        refine z_get hE f_RX10_53 (by decide) e_71 rfl dX10_seen_40 ?_
        refine z_bipush (v := 6) hE dX10_seen_43 rfl ?_
        refine z_icmp_ne hE 51 dX10_seen_45 rfl (fun c15q => ?_) (fun c15q => ?_)
        · replace h := z_f c15q h
          refine z_aload_n hE 0 dX10_seen_51 rfl ?_
          refine z_get hE f_RX10_20 (by decide) e_71 rfl dX10_seen_52 ?_
          refine z_aload_n hE 0 dX10_seen_55 rfl ?_
          refine z_get hE f_RX10_53 (by decide) e_71 rfl dX10_seen_56 ?_
          refine z_iload_n hE 1 dX10_seen_59 rfl ?_
          obtain ⟨k16q, h⟩ := z_ck_some h
          obtain ⟨g17q, eg17q, h⟩ := z_let_eq h
          refine z_iast hE (by decide) e_75 k16q (ua_75 eg17q) dX10_seen_60 ?_
          refine z_aload_n hE 0 dX10_seen_61 rfl ?_
          refine z_get hE f_RX10_23 (by decide) e_71 rfl dX10_seen_62 ?_
          refine z_aload_n hE 0 dX10_seen_65 rfl ?_
          refine z_get hE f_RX10_53 (by decide) e_71 rfl dX10_seen_66 ?_
          refine z_iload_n hE 2 dX10_seen_69 rfl ?_
          obtain ⟨k18q, h⟩ := z_ck_some h
          obtain ⟨g19q, eg19q, h⟩ := z_let_eq h
          refine z_iast hE (by decide) e_76 k18q (ua_76 eg19q) dX10_seen_70 ?_
          refine z_aload_n hE 0 dX10_seen_71 rfl ?_
          refine z_get hE f_RX10_26 (by decide) e_71 rfl dX10_seen_72 ?_
          refine z_aload_n hE 0 dX10_seen_75 rfl ?_
          refine z_get hE f_RX10_53 (by decide) e_71 rfl dX10_seen_76 ?_
          refine z_iload_n hE 3 dX10_seen_79 rfl ?_
          obtain ⟨k20q, h⟩ := z_ck_some h
          obtain ⟨g21q, eg21q, h⟩ := z_let_eq h
          refine z_iast hE (by decide) e_77 k20q (ua_77 eg21q) dX10_seen_80 ?_
          refine z_aload_n hE 0 dX10_seen_81 rfl ?_
          refine z_dup hE dX10_seen_82 rfl ?_
          refine z_get hE f_RX10_53 (by decide) e_71 rfl dX10_seen_83 ?_
          refine z_iconst (v := 1) hE dX10_seen_86 rfl ?_
          refine z_iadd hE dX10_seen_87 ?_
          obtain ⟨g22q, eg22q, h⟩ := z_let_eq h
          refine z_put hE f_RX10_53 ft_10 (by decide) e_71 rfl (tyX10_ok 9 (by decide)) rfl rfl (Nat.le_of_ble_eq_true rfl) (u_71_9 eg22q) dX10_seen_88 ?_
          refine z_aload_n hE 0 dX10_seen_91 rfl ?_
          refine z_get hE f_RX10_53 (by decide) e_71 rfl dX10_seen_92 ?_
          obtain rfl := Option.some.inj h
          exact hret _ _ dX10_seen_95
        · replace h := z_t c15q h
          refine z_bipush (v := (-3)) hE dX10_seen_48 rfl ?_
          obtain rfl := Option.some.inj h
          exact hret _ _ dX10_seen_50
      · replace h := z_t c14q h
        refine z_sub [] [] rfl ?_
        exact b_Mod_seen_b37 hE hret g h
theorem dX10_forget_0 : decode cX10_forget 0 = .ok (.aload_n 0, 1) := by decide +kernel
theorem dX10_forget_1 : decode cX10_forget 1 = .ok (.getfield 53, 3) := by decide +kernel
theorem dX10_forget_4 : decode cX10_forget 4 = .ok (.istore_n 1, 1) := by decide +kernel
theorem dX10_forget_5 : decode cX10_forget 5 = .ok (.aload_n 0, 1) := by decide +kernel
theorem dX10_forget_6 : decode cX10_forget 6 = .ok (.iconst 0, 1) := by decide +kernel
theorem dX10_forget_7 : decode cX10_forget 7 = .ok (.putfield 53, 3) := by decide +kernel
theorem dX10_forget_10 : decode cX10_forget 10 = .ok (.iload_n 1, 1) := by decide +kernel
theorem dX10_forget_11 : decode cX10_forget 11 = .ok (.ireturn, 1) := by decide +kernel
def s_Mod_forget (g : z_G) : Int32 × z_G := (z_let (α := z_G) (z_up g 0 9 0) fun g2q => ((g 0 9), g2q))
set_option maxHeartbeats 1000000 in
set_option maxRecDepth 20000 in
theorem c_Mod_forget {X : z_X} {l : Launch} {o : z_G} (g : z_G) : z_MI X l 80 yX10_forget cX10_forget 2 (some .int) 0 0 [.ref (z_ad X 71)] o g o (s_Mod_forget g).2 (s_Mod_forget g).1 := by
  obtain ⟨r, h⟩ : ∃ r, s_Mod_forget g = r := ⟨_, rfl⟩
  rw [h]
  unfold s_Mod_forget at h
  refine z_meti (ty := .int) rfl rfl (by decide) (Nat.le_of_ble_eq_true rfl) (fun E hl hE hret => ?_)
  subst hl
  refine z_aload_n hE 0 dX10_forget_0 rfl ?_
  refine z_get hE f_RX10_53 (by decide) e_71 rfl dX10_forget_1 ?_
  refine z_istore_n hE [(1, .int (g 0 9)), (0, .ref (z_ad X 71))] dX10_forget_4 rfl (by decide) rfl ?_
  refine z_aload_n hE 1 dX10_forget_5 rfl ?_
  refine z_iconst (v := 0) hE dX10_forget_6 rfl ?_
  obtain ⟨g2q, eg2q, h⟩ := z_let_eq h
  refine z_put hE f_RX10_53 ft_10 (by decide) e_71 rfl (tyX10_ok 9 (by decide)) rfl rfl (Nat.le_of_ble_eq_true rfl) (u_71_9 eg2q) dX10_forget_7 ?_
  refine z_iload_n hE 0 dX10_forget_10 rfl ?_
  subst h
  exact hret _ _ dX10_forget_11
theorem dX10_isSo_0 : decode cX10_isSo 0 = .ok (.iconst 1, 1) := by decide +kernel
theorem dX10_isSo_1 : decode cX10_isSo 1 = .ok (.istore 4, 2) := by decide +kernel
theorem dX10_isSo_3 : decode cX10_isSo 3 = .ok (.aload_n 0, 1) := by decide +kernel
theorem dX10_isSo_4 : decode cX10_isSo 4 = .ok (.iconst 0, 1) := by decide +kernel
theorem dX10_isSo_5 : decode cX10_isSo 5 = .ok (.iload_n 1, 1) := by decide +kernel
theorem dX10_isSo_6 : decode cX10_isSo 6 = .ok (.invokevirtual 155, 3) := by decide +kernel
theorem dX10_isSo_9 : decode cX10_isSo 9 = .ok (.iconst 0, 1) := by decide +kernel
theorem dX10_isSo_10 : decode cX10_isSo 10 = .ok (.istore 5, 2) := by decide +kernel
theorem dX10_isSo_12 : decode cX10_isSo 12 = .ok (.iload 5, 2) := by decide +kernel
theorem dX10_isSo_14 : decode cX10_isSo 14 = .ok (.aload_n 0, 1) := by decide +kernel
theorem dX10_isSo_15 : decode cX10_isSo 15 = .ok (.getfield 7, 3) := by decide +kernel
theorem dX10_isSo_18 : decode cX10_isSo 18 = .ok (.bipush 47, 2) := by decide +kernel
theorem dX10_isSo_20 : decode cX10_isSo 20 = .ok (.iaload, 1) := by decide +kernel
theorem dX10_isSo_21 : decode cX10_isSo 21 = .ok (.if_icmp .ge 123, 3) := by decide +kernel
theorem dX10_isSo_24 : decode cX10_isSo 24 = .ok (.aload_n 0, 1) := by decide +kernel
theorem dX10_isSo_25 : decode cX10_isSo 25 = .ok (.aload_n 0, 1) := by decide +kernel
theorem dX10_isSo_26 : decode cX10_isSo 26 = .ok (.getfield 7, 3) := by decide +kernel
theorem dX10_isSo_29 : decode cX10_isSo 29 = .ok (.bipush 48, 2) := by decide +kernel
theorem dX10_isSo_31 : decode cX10_isSo 31 = .ok (.iload 5, 2) := by decide +kernel
theorem dX10_isSo_33 : decode cX10_isSo 33 = .ok (.iadd, 1) := by decide +kernel
theorem dX10_isSo_34 : decode cX10_isSo 34 = .ok (.iaload, 1) := by decide +kernel
theorem dX10_isSo_35 : decode cX10_isSo 35 = .ok (.aload_n 0, 1) := by decide +kernel
theorem dX10_isSo_36 : decode cX10_isSo 36 = .ok (.getfield 7, 3) := by decide +kernel
theorem dX10_isSo_39 : decode cX10_isSo 39 = .ok (.bipush 54, 2) := by decide +kernel
theorem dX10_isSo_41 : decode cX10_isSo 41 = .ok (.iload 5, 2) := by decide +kernel
theorem dX10_isSo_43 : decode cX10_isSo 43 = .ok (.iadd, 1) := by decide +kernel
theorem dX10_isSo_44 : decode cX10_isSo 44 = .ok (.iaload, 1) := by decide +kernel
theorem dX10_isSo_45 : decode cX10_isSo 45 = .ok (.invokevirtual 144, 3) := by decide +kernel
theorem dX10_isSo_48 : decode cX10_isSo 48 = .ok (.aload_n 0, 1) := by decide +kernel
theorem dX10_isSo_49 : decode cX10_isSo 49 = .ok (.dup, 1) := by decide +kernel
theorem dX10_isSo_50 : decode cX10_isSo 50 = .ok (.getfield 141, 3) := by decide +kernel
theorem dX10_isSo_53 : decode cX10_isSo 53 = .ok (.iconst 1, 1) := by decide +kernel
theorem dX10_isSo_54 : decode cX10_isSo 54 = .ok (.iadd, 1) := by decide +kernel
theorem dX10_isSo_55 : decode cX10_isSo 55 = .ok (.putfield 141, 3) := by decide +kernel
theorem dX10_isSo_58 : decode cX10_isSo 58 = .ok (.aload_n 0, 1) := by decide +kernel
theorem dX10_isSo_59 : decode cX10_isSo 59 = .ok (.aload_n 0, 1) := by decide +kernel
theorem dX10_isSo_60 : decode cX10_isSo 60 = .ok (.getfield 141, 3) := by decide +kernel
theorem dX10_isSo_63 : decode cX10_isSo 63 = .ok (.iconst 0, 1) := by decide +kernel
theorem dX10_isSo_64 : decode cX10_isSo 64 = .ok (.iload_n 2, 1) := by decide +kernel
theorem dX10_isSo_65 : decode cX10_isSo 65 = .ok (.iload_n 3, 1) := by decide +kernel
theorem dX10_isSo_66 : decode cX10_isSo 66 = .ok (.invokevirtual 151, 3) := by decide +kernel
theorem dX10_isSo_69 : decode cX10_isSo 69 = .ok (.iconst 0, 1) := by decide +kernel
theorem dX10_isSo_70 : decode cX10_isSo 70 = .ok (.istore 6, 2) := by decide +kernel
theorem dX10_isSo_72 : decode cX10_isSo 72 = .ok (.iload 6, 2) := by decide +kernel
theorem dX10_isSo_74 : decode cX10_isSo 74 = .ok (.aload_n 0, 1) := by decide +kernel
theorem dX10_isSo_75 : decode cX10_isSo 75 = .ok (.getfield 53, 3) := by decide +kernel
theorem dX10_isSo_78 : decode cX10_isSo 78 = .ok (.if_icmp .ge 60, 3) := by decide +kernel
theorem dX10_isSo_81 : decode cX10_isSo 81 = .ok (.iload 4, 2) := by decide +kernel
theorem dX10_isSo_83 : decode cX10_isSo 83 = .ok (.ifCond .eq 46, 3) := by decide +kernel
theorem dX10_isSo_86 : decode cX10_isSo 86 = .ok (.aload_n 0, 1) := by decide +kernel
theorem dX10_isSo_87 : decode cX10_isSo 87 = .ok (.getfield 20, 3) := by decide +kernel
theorem dX10_isSo_90 : decode cX10_isSo 90 = .ok (.iload 6, 2) := by decide +kernel
theorem dX10_isSo_92 : decode cX10_isSo 92 = .ok (.iaload, 1) := by decide +kernel
theorem dX10_isSo_93 : decode cX10_isSo 93 = .ok (.iload_n 1, 1) := by decide +kernel
theorem dX10_isSo_94 : decode cX10_isSo 94 = .ok (.if_icmp .ne 31, 3) := by decide +kernel
theorem dX10_isSo_97 : decode cX10_isSo 97 = .ok (.aload_n 0, 1) := by decide +kernel
theorem dX10_isSo_98 : decode cX10_isSo 98 = .ok (.getfield 23, 3) := by decide +kernel
theorem dX10_isSo_101 : decode cX10_isSo 101 = .ok (.iload 6, 2) := by decide +kernel
theorem dX10_isSo_103 : decode cX10_isSo 103 = .ok (.iaload, 1) := by decide +kernel
theorem dX10_isSo_104 : decode cX10_isSo 104 = .ok (.iload 5, 2) := by decide +kernel
theorem dX10_isSo_106 : decode cX10_isSo 106 = .ok (.iconst 1, 1) := by decide +kernel
theorem dX10_isSo_107 : decode cX10_isSo 107 = .ok (.iadd, 1) := by decide +kernel
theorem dX10_isSo_108 : decode cX10_isSo 108 = .ok (.if_icmp .ne 17, 3) := by decide +kernel
theorem dX10_isSo_111 : decode cX10_isSo 111 = .ok (.aload_n 0, 1) := by decide +kernel
theorem dX10_isSo_112 : decode cX10_isSo 112 = .ok (.getfield 26, 3) := by decide +kernel
theorem dX10_isSo_115 : decode cX10_isSo 115 = .ok (.iload 6, 2) := by decide +kernel
theorem dX10_isSo_117 : decode cX10_isSo 117 = .ok (.iaload, 1) := by decide +kernel
theorem dX10_isSo_118 : decode cX10_isSo 118 = .ok (.aload_n 0, 1) := by decide +kernel
theorem dX10_isSo_119 : decode cX10_isSo 119 = .ok (.getfield 128, 3) := by decide +kernel
theorem dX10_isSo_122 : decode cX10_isSo 122 = .ok (.if_icmp .ne 7, 3) := by decide +kernel
theorem dX10_isSo_125 : decode cX10_isSo 125 = .ok (.iconst 1, 1) := by decide +kernel
theorem dX10_isSo_126 : decode cX10_isSo 126 = .ok (.goto 4, 3) := by decide +kernel
theorem dX10_isSo_129 : decode cX10_isSo 129 = .ok (.iconst 0, 1) := by decide +kernel
theorem dX10_isSo_130 : decode cX10_isSo 130 = .ok (.istore 4, 2) := by decide +kernel
theorem dX10_isSo_132 : decode cX10_isSo 132 = .ok (.iinc 6 1, 3) := by decide +kernel
theorem dX10_isSo_135 : decode cX10_isSo 135 = .ok (.goto (-63), 3) := by decide +kernel
theorem dX10_isSo_138 : decode cX10_isSo 138 = .ok (.iinc 5 1, 3) := by decide +kernel
theorem dX10_isSo_141 : decode cX10_isSo 141 = .ok (.goto (-129), 3) := by decide +kernel
theorem dX10_isSo_144 : decode cX10_isSo 144 = .ok (.iload 4, 2) := by decide +kernel
theorem dX10_isSo_146 : decode cX10_isSo 146 = .ok (.ireturn, 1) := by decide +kernel
def s_Mod_isSo_b130 (k12 : Int32 → Int32 → Int32 → Int32 → Int32 → z_G → Option (Int32 × z_G)) (k72 : Int32 → Int32 → Int32 → Int32 → Int32 → Int32 → z_G → Option (Int32 × z_G)) (x1 : Int32) (x2 : Int32) (x3 : Int32) (x5 : Int32) (x6 : Int32) (s0 : Int32) (g : z_G) : Option (Int32 × z_G) := (k72 x1 x2 x3 s0 x5 (x6 + 1) g)
def s_Mod_isSo_b129 (k12 : Int32 → Int32 → Int32 → Int32 → Int32 → z_G → Option (Int32 × z_G)) (k72 : Int32 → Int32 → Int32 → Int32 → Int32 → Int32 → z_G → Option (Int32 × z_G)) (x1 : Int32) (x2 : Int32) (x3 : Int32) (x5 : Int32) (x6 : Int32) (g : z_G) : Option (Int32 × z_G) := (s_Mod_isSo_b130 k12 k72 x1 x2 x3 x5 x6 0 g)
def s_Mod_isSo_b125 (k12 : Int32 → Int32 → Int32 → Int32 → Int32 → z_G → Option (Int32 × z_G)) (k72 : Int32 → Int32 → Int32 → Int32 → Int32 → Int32 → z_G → Option (Int32 × z_G)) (x1 : Int32) (x2 : Int32) (x3 : Int32) (x5 : Int32) (x6 : Int32) (g : z_G) : Option (Int32 × z_G) := (s_Mod_isSo_b130 k12 k72 x1 x2 x3 x5 x6 1 g)
def s_Mod_isSo_L72 (k12 : Int32 → Int32 → Int32 → Int32 → Int32 → z_G → Option (Int32 × z_G)) : Nat → Int32 → Int32 → Int32 → Int32 → Int32 → Int32 → z_G → Option (Int32 × z_G)
  | 0, _, _, _, _, _, _, _ => none
  | n + 1, x1, x2, x3, x4, x5, x6, g => (if (g 0 9) ≤ x6 then (k12 x1 x2 x3 x4 (x5 + 1) g) else (if x4 = 0 then (s_Mod_isSo_b129 k12 (s_Mod_isSo_L72 k12 n) x1 x2 x3 x5 x6 g) else (z_ck (z_inb x6 6) (if (z_rd g 4 x6) = x1 then (z_ck (z_inb x6 6) (if (z_rd g 5 x6) = (x5 + 1) then (z_ck (z_inb x6 6) (if (z_rd g 6 x6) = (g 0 15) then (s_Mod_isSo_b125 k12 (s_Mod_isSo_L72 k12 n) x1 x2 x3 x5 x6 g) else (s_Mod_isSo_b129 k12 (s_Mod_isSo_L72 k12 n) x1 x2 x3 x5 x6 g))) else (s_Mod_isSo_b125 k12 (s_Mod_isSo_L72 k12 n) x1 x2 x3 x5 x6 g))) else (s_Mod_isSo_b125 k12 (s_Mod_isSo_L72 k12 n) x1 x2 x3 x5 x6 g)))))
def s_Mod_isSo_L12 : Nat → Int32 → Int32 → Int32 → Int32 → Int32 → z_G → Option (Int32 × z_G)
  | 0, _, _, _, _, _, _ => none
  | n + 1, x1, x2, x3, x4, x5, g => (if (z_rd g 1 47) ≤ x5 then (z_ck (z_bit x4) (some (x4, g))) else (z_ck (z_inb (48 + x5) 120) (z_ck (z_inb (54 + x5) 120) (Option.bind (s_Mod_marches (z_rd g 1 (48 + x5)) (z_rd g 1 (54 + x5)) g) fun r28q => (z_let (α := z_G) (z_up r28q 0 16 ((r28q 0 16) + 1)) fun g29q => (s_Mod_isSo_L72 (s_Mod_isSo_L12 n) z_F x1 x2 x3 x4 x5 0 (s_Mod_halts (g29q 0 16) 0 x2 x3 g29q)))))))
def s_Mod_isSo (x1 : Int32) (x2 : Int32) (x3 : Int32) (g : z_G) : Option (Int32 × z_G) := (Option.bind (s_Mod_picks 0 x1 g) fun r30q => (s_Mod_isSo_L12 z_F x1 x2 x3 1 0 r30q))
set_option maxHeartbeats 1000000 in
set_option maxRecDepth 20000 in
theorem b_Mod_isSo_b130 {X : z_X} {E : z_ET} {o : z_G} (hE : z_EV X E cX10_isSo 7 RX10 3 74 80) {r : Int32 × z_G} (hret : ∀ (pc : Nat) (lv : List (Nat × Value)), z_bit r.1 = true → decode cX10_isSo pc = .ok (.ireturn, 1) → z_V X E 7 o r.2 pc lv [.int r.1]) (k12 : Int32 → Int32 → Int32 → Int32 → Int32 → z_G → Option (Int32 × z_G)) (hk12 : ∀ (x1 : Int32) (x2 : Int32) (x3 : Int32) (x4 : Int32) (x5 : Int32) (g : z_G), k12 x1 x2 x3 x4 x5 g = some r → z_V X E 7 o g 12 [(0, .ref (z_ad X 71)), (1, .int x1), (2, .int x2), (3, .int x3), (4, .int x4), (5, .int x5)] []) (k72 : Int32 → Int32 → Int32 → Int32 → Int32 → Int32 → z_G → Option (Int32 × z_G)) (hk72 : ∀ (x1 : Int32) (x2 : Int32) (x3 : Int32) (x4 : Int32) (x5 : Int32) (x6 : Int32) (g : z_G), k72 x1 x2 x3 x4 x5 x6 g = some r → z_V X E 7 o g 72 [(0, .ref (z_ad X 71)), (1, .int x1), (2, .int x2), (3, .int x3), (4, .int x4), (5, .int x5), (6, .int x6)] []) (x1 : Int32) (x2 : Int32) (x3 : Int32) (x5 : Int32) (x6 : Int32) (s0 : Int32) (g : z_G)  (h : s_Mod_isSo_b130 k12 k72 x1 x2 x3 x5 x6 s0 g = some r) : z_V X E 7 o g 130 [(0, .ref (z_ad X 71)), (1, .int x1), (2, .int x2), (3, .int x3), (5, .int x5), (6, .int x6)] [.int s0] := by
  unfold s_Mod_isSo_b130 at h
  refine z_istore hE [(4, .int s0), (0, .ref (z_ad X 71)), (1, .int x1), (2, .int x2), (3, .int x3), (5, .int x5), (6, .int x6)] dX10_isSo_130 (by decide) rfl ?_
  refine z_iinc (v := x6 + 1) hE 6 [(6, .int (x6 + 1)), (4, .int s0), (0, .ref (z_ad X 71)), (1, .int x1), (2, .int x2), (3, .int x3), (5, .int x5)] dX10_isSo_132 rfl rfl (by decide) rfl ?_
  refine z_goto hE 72 dX10_isSo_135 rfl ?_
  refine z_sub [(0, .ref (z_ad X 71)), (1, .int x1), (2, .int x2), (3, .int x3), (4, .int s0), (5, .int x5), (6, .int (x6 + 1))] [2, 3, 4, 5, 1, 6, 0] rfl ?_
  exact hk72 x1 x2 x3 s0 x5 (x6 + 1) g h
set_option maxHeartbeats 1000000 in
set_option maxRecDepth 20000 in
theorem b_Mod_isSo_b129 {X : z_X} {E : z_ET} {o : z_G} (hE : z_EV X E cX10_isSo 7 RX10 3 74 80) {r : Int32 × z_G} (hret : ∀ (pc : Nat) (lv : List (Nat × Value)), z_bit r.1 = true → decode cX10_isSo pc = .ok (.ireturn, 1) → z_V X E 7 o r.2 pc lv [.int r.1]) (k12 : Int32 → Int32 → Int32 → Int32 → Int32 → z_G → Option (Int32 × z_G)) (hk12 : ∀ (x1 : Int32) (x2 : Int32) (x3 : Int32) (x4 : Int32) (x5 : Int32) (g : z_G), k12 x1 x2 x3 x4 x5 g = some r → z_V X E 7 o g 12 [(0, .ref (z_ad X 71)), (1, .int x1), (2, .int x2), (3, .int x3), (4, .int x4), (5, .int x5)] []) (k72 : Int32 → Int32 → Int32 → Int32 → Int32 → Int32 → z_G → Option (Int32 × z_G)) (hk72 : ∀ (x1 : Int32) (x2 : Int32) (x3 : Int32) (x4 : Int32) (x5 : Int32) (x6 : Int32) (g : z_G), k72 x1 x2 x3 x4 x5 x6 g = some r → z_V X E 7 o g 72 [(0, .ref (z_ad X 71)), (1, .int x1), (2, .int x2), (3, .int x3), (4, .int x4), (5, .int x5), (6, .int x6)] []) (x1 : Int32) (x2 : Int32) (x3 : Int32) (x5 : Int32) (x6 : Int32) (g : z_G)  (h : s_Mod_isSo_b129 k12 k72 x1 x2 x3 x5 x6 g = some r) : z_V X E 7 o g 129 [(0, .ref (z_ad X 71)), (1, .int x1), (2, .int x2), (3, .int x3), (5, .int x5), (6, .int x6)] [] := by
  unfold s_Mod_isSo_b129 at h
  refine z_iconst (v := 0) hE dX10_isSo_129 rfl ?_
  exact b_Mod_isSo_b130 hE hret k12 hk12 k72 hk72 x1 x2 x3 x5 x6 0 g h
set_option maxHeartbeats 1000000 in
set_option maxRecDepth 20000 in
theorem b_Mod_isSo_b125 {X : z_X} {E : z_ET} {o : z_G} (hE : z_EV X E cX10_isSo 7 RX10 3 74 80) {r : Int32 × z_G} (hret : ∀ (pc : Nat) (lv : List (Nat × Value)), z_bit r.1 = true → decode cX10_isSo pc = .ok (.ireturn, 1) → z_V X E 7 o r.2 pc lv [.int r.1]) (k12 : Int32 → Int32 → Int32 → Int32 → Int32 → z_G → Option (Int32 × z_G)) (hk12 : ∀ (x1 : Int32) (x2 : Int32) (x3 : Int32) (x4 : Int32) (x5 : Int32) (g : z_G), k12 x1 x2 x3 x4 x5 g = some r → z_V X E 7 o g 12 [(0, .ref (z_ad X 71)), (1, .int x1), (2, .int x2), (3, .int x3), (4, .int x4), (5, .int x5)] []) (k72 : Int32 → Int32 → Int32 → Int32 → Int32 → Int32 → z_G → Option (Int32 × z_G)) (hk72 : ∀ (x1 : Int32) (x2 : Int32) (x3 : Int32) (x4 : Int32) (x5 : Int32) (x6 : Int32) (g : z_G), k72 x1 x2 x3 x4 x5 x6 g = some r → z_V X E 7 o g 72 [(0, .ref (z_ad X 71)), (1, .int x1), (2, .int x2), (3, .int x3), (4, .int x4), (5, .int x5), (6, .int x6)] []) (x1 : Int32) (x2 : Int32) (x3 : Int32) (x5 : Int32) (x6 : Int32) (g : z_G)  (h : s_Mod_isSo_b125 k12 k72 x1 x2 x3 x5 x6 g = some r) : z_V X E 7 o g 125 [(0, .ref (z_ad X 71)), (1, .int x1), (2, .int x2), (3, .int x3), (5, .int x5), (6, .int x6)] [] := by
  unfold s_Mod_isSo_b125 at h
  refine z_iconst (v := 1) hE dX10_isSo_125 rfl ?_
  refine z_goto hE 130 dX10_isSo_126 rfl ?_
  exact b_Mod_isSo_b130 hE hret k12 hk12 k72 hk72 x1 x2 x3 x5 x6 1 g h
set_option maxHeartbeats 1000000 in
set_option maxRecDepth 20000 in
theorem b_Mod_isSo_L72 {X : z_X} {E : z_ET} {o : z_G} (hE : z_EV X E cX10_isSo 7 RX10 3 74 80) {r : Int32 × z_G} (hret : ∀ (pc : Nat) (lv : List (Nat × Value)), z_bit r.1 = true → decode cX10_isSo pc = .ok (.ireturn, 1) → z_V X E 7 o r.2 pc lv [.int r.1]) (k12 : Int32 → Int32 → Int32 → Int32 → Int32 → z_G → Option (Int32 × z_G)) (hk12 : ∀ (x1 : Int32) (x2 : Int32) (x3 : Int32) (x4 : Int32) (x5 : Int32) (g : z_G), k12 x1 x2 x3 x4 x5 g = some r → z_V X E 7 o g 12 [(0, .ref (z_ad X 71)), (1, .int x1), (2, .int x2), (3, .int x3), (4, .int x4), (5, .int x5)] []) : ∀ (n : Nat) (x1 : Int32) (x2 : Int32) (x3 : Int32) (x4 : Int32) (x5 : Int32) (x6 : Int32) (g : z_G), s_Mod_isSo_L72 k12 n x1 x2 x3 x4 x5 x6 g = some r → z_V X E 7 o g 72 [(0, .ref (z_ad X 71)), (1, .int x1), (2, .int x2), (3, .int x3), (4, .int x4), (5, .int x5), (6, .int x6)] [] := by
  intro n
  induction n with
  | zero => intro x1 x2 x3 x4 x5 x6 g h; exact z_none h
  | succ n ih =>
    intro x1 x2 x3 x4 x5 x6 g h
    rw [s_Mod_isSo_L72] at h
    refine z_iload hE 6 dX10_isSo_72 rfl ?_
    refine z_aload_n hE 0 dX10_isSo_74 rfl ?_
    refine z_get hE f_RX10_53 (by decide) e_71 rfl dX10_isSo_75 ?_
    refine z_icmp_ge hE 138 dX10_isSo_78 rfl (fun c16q => ?_) (fun c16q => ?_)
    · replace h := z_t c16q h
      refine z_iinc (v := x5 + 1) hE 5 [(5, .int (x5 + 1)), (0, .ref (z_ad X 71)), (1, .int x1), (2, .int x2), (3, .int x3), (4, .int x4), (6, .int x6)] dX10_isSo_138 rfl rfl (by decide) rfl ?_
      refine z_goto hE 12 dX10_isSo_141 rfl ?_
      refine z_sub [(0, .ref (z_ad X 71)), (1, .int x1), (2, .int x2), (3, .int x3), (4, .int x4), (5, .int (x5 + 1))] [1, 2, 3, 4, 5, 0] rfl ?_
      exact hk12 x1 x2 x3 x4 (x5 + 1) g h
    · replace h := z_f c16q h
      refine z_iload hE 4 dX10_isSo_81 rfl ?_
      refine z_if_eq hE 129 dX10_isSo_83 rfl (fun c17q => ?_) (fun c17q => ?_)
      · replace h := z_t c17q h
        refine z_sub [(0, .ref (z_ad X 71)), (1, .int x1), (2, .int x2), (3, .int x3), (5, .int x5), (6, .int x6)] [0, 1, 2, 3, 5, 6] rfl ?_
        exact b_Mod_isSo_b129 hE hret k12 hk12 (s_Mod_isSo_L72 k12 n) ih x1 x2 x3 x5 x6 g h
      · replace h := z_f c17q h
        refine z_aload_n hE 0 dX10_isSo_86 rfl ?_
        refine z_get hE f_RX10_20 (by decide) e_71 rfl dX10_isSo_87 ?_
        refine z_iload hE 6 dX10_isSo_90 rfl ?_
        obtain ⟨k18q, h⟩ := z_ck_some h
        refine z_iald hE (by decide) e_75 k18q dX10_isSo_92 ?_
        refine z_iload_n hE 1 dX10_isSo_93 rfl ?_
        refine z_icmp_ne hE 125 dX10_isSo_94 rfl (fun c19q => ?_) (fun c19q => ?_)
        · replace h := z_f c19q h
          refine z_sub [(0, .ref (z_ad X 71)), (1, .int x1), (2, .int x2), (3, .int x3), (5, .int x5), (6, .int x6)] [0, 1, 2, 3, 5, 6] rfl ?_
          exact b_Mod_isSo_b125 hE hret k12 hk12 (s_Mod_isSo_L72 k12 n) ih x1 x2 x3 x5 x6 g h
        · replace h := z_t c19q h
          refine z_aload_n hE 0 dX10_isSo_97 rfl ?_
          refine z_get hE f_RX10_23 (by decide) e_71 rfl dX10_isSo_98 ?_
          refine z_iload hE 6 dX10_isSo_101 rfl ?_
          obtain ⟨k20q, h⟩ := z_ck_some h
          refine z_iald hE (by decide) e_76 k20q dX10_isSo_103 ?_
          refine z_iload hE 5 dX10_isSo_104 rfl ?_
          refine z_iconst (v := 1) hE dX10_isSo_106 rfl ?_
          refine z_iadd hE dX10_isSo_107 ?_
          refine z_icmp_ne hE 125 dX10_isSo_108 rfl (fun c21q => ?_) (fun c21q => ?_)
          · replace h := z_f c21q h
            refine z_sub [(0, .ref (z_ad X 71)), (1, .int x1), (2, .int x2), (3, .int x3), (5, .int x5), (6, .int x6)] [0, 1, 2, 3, 5, 6] rfl ?_
            exact b_Mod_isSo_b125 hE hret k12 hk12 (s_Mod_isSo_L72 k12 n) ih x1 x2 x3 x5 x6 g h
          · replace h := z_t c21q h
            refine z_aload_n hE 0 dX10_isSo_111 rfl ?_
            refine z_get hE f_RX10_26 (by decide) e_71 rfl dX10_isSo_112 ?_
            refine z_iload hE 6 dX10_isSo_115 rfl ?_
            obtain ⟨k22q, h⟩ := z_ck_some h
            refine z_iald hE (by decide) e_77 k22q dX10_isSo_117 ?_
            refine z_aload_n hE 0 dX10_isSo_118 rfl ?_
            refine z_get hE f_RX10_128 (by decide) e_71 rfl dX10_isSo_119 ?_
            refine z_icmp_ne hE 129 dX10_isSo_122 rfl (fun c23q => ?_) (fun c23q => ?_)
            · replace h := z_f c23q h
              refine z_sub [(0, .ref (z_ad X 71)), (1, .int x1), (2, .int x2), (3, .int x3), (5, .int x5), (6, .int x6)] [0, 1, 2, 3, 5, 6] rfl ?_
              exact b_Mod_isSo_b129 hE hret k12 hk12 (s_Mod_isSo_L72 k12 n) ih x1 x2 x3 x5 x6 g h
            · replace h := z_t c23q h
              refine z_sub [(0, .ref (z_ad X 71)), (1, .int x1), (2, .int x2), (3, .int x3), (5, .int x5), (6, .int x6)] [0, 1, 2, 3, 5, 6] rfl ?_
              exact b_Mod_isSo_b125 hE hret k12 hk12 (s_Mod_isSo_L72 k12 n) ih x1 x2 x3 x5 x6 g h
set_option maxHeartbeats 1000000 in
set_option maxRecDepth 20000 in
theorem b_Mod_isSo_L12 {X : z_X} {E : z_ET} {o : z_G} (hE : z_EV X E cX10_isSo 7 RX10 3 74 80) {r : Int32 × z_G} (hret : ∀ (pc : Nat) (lv : List (Nat × Value)), z_bit r.1 = true → decode cX10_isSo pc = .ok (.ireturn, 1) → z_V X E 7 o r.2 pc lv [.int r.1]) : ∀ (n : Nat) (x1 : Int32) (x2 : Int32) (x3 : Int32) (x4 : Int32) (x5 : Int32) (g : z_G), s_Mod_isSo_L12 n x1 x2 x3 x4 x5 g = some r → z_V X E 7 o g 12 [(0, .ref (z_ad X 71)), (1, .int x1), (2, .int x2), (3, .int x3), (4, .int x4), (5, .int x5)] [] := by
  intro n
  induction n with
  | zero => intro x1 x2 x3 x4 x5 g h; exact z_none h
  | succ n ih =>
    intro x1 x2 x3 x4 x5 g h
    rw [s_Mod_isSo_L12] at h
    refine z_iload hE 5 dX10_isSo_12 rfl ?_
    refine z_aload_n hE 0 dX10_isSo_14 rfl ?_
    refine z_get hE f_RX10_7 (by decide) e_71 rfl dX10_isSo_15 ?_
    refine z_bipush (v := 47) hE dX10_isSo_18 rfl ?_
    refine z_iald hE (by decide) e_72 (by decide) dX10_isSo_20 ?_
    refine z_icmp_ge hE 144 dX10_isSo_21 rfl (fun c24q => ?_) (fun c24q => ?_)
    · replace h := z_t c24q h
      refine z_iload hE 4 dX10_isSo_144 rfl ?_
      obtain ⟨k25q, h⟩ := z_ck_some h
      obtain rfl := Option.some.inj h
      exact hret _ _ k25q dX10_isSo_146
    · replace h := z_f c24q h
      refine z_aload_n hE 0 dX10_isSo_24 rfl ?_
      refine z_aload_n hE 0 dX10_isSo_25 rfl ?_
      refine z_get hE f_RX10_7 (by decide) e_71 rfl dX10_isSo_26 ?_
      refine z_bipush (v := 48) hE dX10_isSo_29 rfl ?_
      refine z_iload hE 5 dX10_isSo_31 rfl ?_
      refine z_iadd hE dX10_isSo_33 ?_
      obtain ⟨k26q, h⟩ := z_ck_some h
      refine z_iald hE (by decide) e_72 k26q dX10_isSo_34 ?_
      refine z_aload_n hE 0 dX10_isSo_35 rfl ?_
      refine z_get hE f_RX10_7 (by decide) e_71 rfl dX10_isSo_36 ?_
      refine z_bipush (v := 54) hE dX10_isSo_39 rfl ?_
      refine z_iload hE 5 dX10_isSo_41 rfl ?_
      refine z_iadd hE dX10_isSo_43 ?_
      obtain ⟨k27q, h⟩ := z_ck_some h
      refine z_iald hE (by decide) e_72 k27q dX10_isSo_44 ?_
      obtain ⟨r28q, hr28q, h⟩ := z_bind_some h
      refine z_vV (rest := []) (av := [.int (z_rd g 1 (48 + x5)), .int (z_rd g 1 (54 + x5))]) hE (c_Mod_marches (z_rd g 1 (48 + x5)) (z_rd g 1 (54 + x5)) g r28q hr28q) l_RX10_144 (by decide) (by decide) e_71 rfl ⟨by decide, by decide⟩ dX10_isSo_45 rfl (Nat.le_of_ble_eq_true rfl) ?_
      refine z_aload_n hE 0 dX10_isSo_48 rfl ?_
      refine z_dup hE dX10_isSo_49 rfl ?_
      refine z_get hE f_RX10_141 (by decide) e_71 rfl dX10_isSo_50 ?_
      refine z_iconst (v := 1) hE dX10_isSo_53 rfl ?_
      refine z_iadd hE dX10_isSo_54 ?_
      obtain ⟨g29q, eg29q, h⟩ := z_let_eq h
      refine z_put hE f_RX10_141 ft_10 (by decide) e_71 rfl (tyX10_ok 16 (by decide)) rfl rfl (Nat.le_of_ble_eq_true rfl) (u_71_16 eg29q) dX10_isSo_55 ?_
      refine z_aload_n hE 0 dX10_isSo_58 rfl ?_
      refine z_aload_n hE 0 dX10_isSo_59 rfl ?_
      refine z_get hE f_RX10_141 (by decide) e_71 rfl dX10_isSo_60 ?_
      refine z_iconst (v := 0) hE dX10_isSo_63 rfl ?_
      refine z_iload_n hE 2 dX10_isSo_64 rfl ?_
      refine z_iload_n hE 3 dX10_isSo_65 rfl ?_
      refine z_vV (rest := []) (av := [.int (g29q 0 16), .int 0, .int x2, .int x3]) hE (c_Mod_halts (g29q 0 16) 0 x2 x3 g29q) l_RX10_151 (by decide) (by decide) e_71 rfl ⟨by decide, by decide⟩ dX10_isSo_66 rfl (Nat.le_of_ble_eq_true rfl) ?_
      refine z_iconst (v := 0) hE dX10_isSo_69 rfl ?_
      refine z_istore hE [(6, .int 0), (0, .ref (z_ad X 71)), (1, .int x1), (2, .int x2), (3, .int x3), (4, .int x4), (5, .int x5)] dX10_isSo_70 (by decide) rfl ?_
      refine z_sub [(0, .ref (z_ad X 71)), (1, .int x1), (2, .int x2), (3, .int x3), (4, .int x4), (5, .int x5), (6, .int 0)] [1, 2, 3, 4, 5, 6, 0] rfl ?_
      exact b_Mod_isSo_L72 hE hret (s_Mod_isSo_L12 n) ih z_F x1 x2 x3 x4 x5 0 (s_Mod_halts (g29q 0 16) 0 x2 x3 g29q) h
set_option maxHeartbeats 1000000 in
set_option maxRecDepth 20000 in
theorem c_Mod_isSo {X : z_X} {l : Launch} {o : z_G} (x1 : Int32) (x2 : Int32) (x3 : Int32) (g : z_G) (r : Int32 × z_G) (h : s_Mod_isSo x1 x2 x3 g = some r) : z_MI X l 80 yX10_isSo cX10_isSo 7 (some .boolean) 3 74 [.ref (z_ad X 71), .int x1, .int x2, .int x3] o g o r.2 r.1 := by
  unfold s_Mod_isSo at h
  refine z_metz (by decide) (Nat.le_of_ble_eq_true rfl) (fun E hl hE hret => ?_)
  subst hl
  refine z_iconst (v := 1) hE dX10_isSo_0 rfl ?_
  refine z_istore hE [(4, .int 1), (0, .ref (z_ad X 71)), (1, .int x1), (2, .int x2), (3, .int x3)] dX10_isSo_1 (by decide) rfl ?_
  refine z_aload_n hE 1 dX10_isSo_3 rfl ?_
  refine z_iconst (v := 0) hE dX10_isSo_4 rfl ?_
  refine z_iload_n hE 2 dX10_isSo_5 rfl ?_
  obtain ⟨r30q, hr30q, h⟩ := z_bind_some h
  refine z_vV (rest := []) (av := [.int 0, .int x1]) hE (c_Mod_picks 0 x1 g r30q hr30q) l_RX10_155 (by decide) (by decide) e_71 rfl ⟨by decide, by decide⟩ dX10_isSo_6 rfl (Nat.le_of_ble_eq_true rfl) ?_
  refine z_iconst (v := 0) hE dX10_isSo_9 rfl ?_
  refine z_istore hE [(5, .int 0), (4, .int 1), (0, .ref (z_ad X 71)), (1, .int x1), (2, .int x2), (3, .int x3)] dX10_isSo_10 (by decide) rfl ?_
  refine z_sub [(0, .ref (z_ad X 71)), (1, .int x1), (2, .int x2), (3, .int x3), (4, .int 1), (5, .int 0)] [2, 3, 4, 5, 1, 0] rfl ?_
  exact b_Mod_isSo_L12 hE hret z_F x1 x2 x3 1 0 r30q h
theorem dX10_villages_0 : decode cX10_villages 0 = .ok (.aload_n 0, 1) := by decide +kernel
theorem dX10_villages_1 : decode cX10_villages 1 = .ok (.iload_n 1, 1) := by decide +kernel
theorem dX10_villages_2 : decode cX10_villages 2 = .ok (.invokevirtual 113, 3) := by decide +kernel
theorem dX10_villages_5 : decode cX10_villages 5 = .ok (.ifCond .eq 13, 3) := by decide +kernel
theorem dX10_villages_8 : decode cX10_villages 8 = .ok (.iload_n 2, 1) := by decide +kernel
theorem dX10_villages_9 : decode cX10_villages 9 = .ok (.i2l, 1) := by decide +kernel
theorem dX10_villages_10 : decode cX10_villages 10 = .ok (.lconst 0, 1) := by decide +kernel
theorem dX10_villages_11 : decode cX10_villages 11 = .ok (.lconst 1, 1) := by decide +kernel
theorem dX10_villages_12 : decode cX10_villages 12 = .ok (.invokestatic 60, 3) := by decide +kernel
theorem dX10_villages_15 : decode cX10_villages 15 = .ok (.ifCond .ne 5, 3) := by decide +kernel
theorem dX10_villages_18 : decode cX10_villages 18 = .ok (.iconst (-1), 1) := by decide +kernel
theorem dX10_villages_19 : decode cX10_villages 19 = .ok (.ireturn, 1) := by decide +kernel
theorem dX10_villages_20 : decode cX10_villages 20 = .ok (.iconst 0, 1) := by decide +kernel
theorem dX10_villages_21 : decode cX10_villages 21 = .ok (.istore_n 3, 1) := by decide +kernel
theorem dX10_villages_22 : decode cX10_villages 22 = .ok (.bipush (-4), 2) := by decide +kernel
theorem dX10_villages_24 : decode cX10_villages 24 = .ok (.istore 4, 2) := by decide +kernel
theorem dX10_villages_26 : decode cX10_villages 26 = .ok (.iconst 0, 1) := by decide +kernel
theorem dX10_villages_27 : decode cX10_villages 27 = .ok (.istore 5, 2) := by decide +kernel
theorem dX10_villages_29 : decode cX10_villages 29 = .ok (.iload 5, 2) := by decide +kernel
theorem dX10_villages_31 : decode cX10_villages 31 = .ok (.sipush 256, 3) := by decide +kernel
theorem dX10_villages_34 : decode cX10_villages 34 = .ok (.if_icmp .ge 43, 3) := by decide +kernel
theorem dX10_villages_37 : decode cX10_villages 37 = .ok (.aload_n 0, 1) := by decide +kernel
theorem dX10_villages_38 : decode cX10_villages 38 = .ok (.iload_n 1, 1) := by decide +kernel
theorem dX10_villages_39 : decode cX10_villages 39 = .ok (.iload 5, 2) := by decide +kernel
theorem dX10_villages_41 : decode cX10_villages 41 = .ok (.bipush 16, 2) := by decide +kernel
theorem dX10_villages_43 : decode cX10_villages 43 = .ok (.irem, 1) := by decide +kernel
theorem dX10_villages_44 : decode cX10_villages 44 = .ok (.iload 5, 2) := by decide +kernel
theorem dX10_villages_46 : decode cX10_villages 46 = .ok (.bipush 16, 2) := by decide +kernel
theorem dX10_villages_48 : decode cX10_villages 48 = .ok (.idiv, 1) := by decide +kernel
theorem dX10_villages_49 : decode cX10_villages 49 = .ok (.invokevirtual 195, 3) := by decide +kernel
theorem dX10_villages_52 : decode cX10_villages 52 = .ok (.ifCond .eq 19, 3) := by decide +kernel
theorem dX10_villages_55 : decode cX10_villages 55 = .ok (.iload_n 3, 1) := by decide +kernel
theorem dX10_villages_56 : decode cX10_villages 56 = .ok (.ifCond .ne 8, 3) := by decide +kernel
theorem dX10_villages_59 : decode cX10_villages 59 = .ok (.iload 5, 2) := by decide +kernel
theorem dX10_villages_61 : decode cX10_villages 61 = .ok (.goto 5, 3) := by decide +kernel
theorem dX10_villages_64 : decode cX10_villages 64 = .ok (.iload 4, 2) := by decide +kernel
theorem dX10_villages_66 : decode cX10_villages 66 = .ok (.istore 4, 2) := by decide +kernel
theorem dX10_villages_68 : decode cX10_villages 68 = .ok (.iinc 3 1, 3) := by decide +kernel
theorem dX10_villages_71 : decode cX10_villages 71 = .ok (.iinc 5 1, 3) := by decide +kernel
theorem dX10_villages_74 : decode cX10_villages 74 = .ok (.goto (-45), 3) := by decide +kernel
theorem dX10_villages_77 : decode cX10_villages 77 = .ok (.iload_n 2, 1) := by decide +kernel
theorem dX10_villages_78 : decode cX10_villages 78 = .ok (.ifCond .ne 7, 3) := by decide +kernel
theorem dX10_villages_81 : decode cX10_villages 81 = .ok (.iload_n 3, 1) := by decide +kernel
theorem dX10_villages_82 : decode cX10_villages 82 = .ok (.goto 5, 3) := by decide +kernel
theorem dX10_villages_85 : decode cX10_villages 85 = .ok (.iload 4, 2) := by decide +kernel
theorem dX10_villages_87 : decode cX10_villages 87 = .ok (.ireturn, 1) := by decide +kernel
def s_Mod_villages_b18  (g : z_G) : Option (Int32 × z_G) := (some ((-1), g))
def s_Mod_villages_b71 (k29 : Int32 → Int32 → Int32 → Int32 → Int32 → z_G → Option (Int32 × z_G)) (x1 : Int32) (x2 : Int32) (x3 : Int32) (x4 : Int32) (x5 : Int32) (g : z_G) : Option (Int32 × z_G) := (k29 x1 x2 x3 x4 (x5 + 1) g)
def s_Mod_villages_b66 (k29 : Int32 → Int32 → Int32 → Int32 → Int32 → z_G → Option (Int32 × z_G)) (x1 : Int32) (x2 : Int32) (x3 : Int32) (x5 : Int32) (s0 : Int32) (g : z_G) : Option (Int32 × z_G) := (s_Mod_villages_b71 k29 x1 x2 (x3 + 1) s0 x5 g)
def s_Mod_villages_L29 : Nat → Int32 → Int32 → Int32 → Int32 → Int32 → z_G → Option (Int32 × z_G)
  | 0, _, _, _, _, _, _ => none
  | n + 1, x1, x2, x3, x4, x5, g => (if 256 ≤ x5 then (if x2 = 0 then (some (x3, g)) else (some (x4, g))) else (Option.bind (s_Mod_isSo x1 (z_rem x5 16) (x5 / 16) g) fun r10q => (if r10q.1 = 0 then (s_Mod_villages_b71 (s_Mod_villages_L29 n) x1 x2 x3 x4 x5 r10q.2) else (if x3 = 0 then (s_Mod_villages_b66 (s_Mod_villages_L29 n) x1 x2 x3 x5 x5 r10q.2) else (s_Mod_villages_b66 (s_Mod_villages_L29 n) x1 x2 x3 x5 x4 r10q.2)))))
def s_Mod_villages (x1 : Int32) (x2 : Int32) (g : z_G) : Option (Int32 × z_G) := (if (s_Mod_isMan x1 g) = 0 then (s_Mod_villages_b18 g) else (if (s_Mod_in (Int32.toInt64 x2) 0 1) = 0 then (s_Mod_villages_b18 g) else (s_Mod_villages_L29 z_F x1 x2 0 (-4) 0 g)))
set_option maxHeartbeats 1000000 in
set_option maxRecDepth 20000 in
theorem b_Mod_villages_b18 {X : z_X} {E : z_ET} {o : z_G} (hE : z_EV X E cX10_villages 6 RX10 4 100 80) {r : Int32 × z_G} (hret : ∀ (pc : Nat) (lv : List (Nat × Value)), decode cX10_villages pc = .ok (.ireturn, 1) → z_V X E 6 o r.2 pc lv [.int r.1])  (g : z_G)  (h : s_Mod_villages_b18 g = some r) : z_V X E 6 o g 18 [] [] := by
  unfold s_Mod_villages_b18 at h
  refine z_iconst (v := (-1)) hE dX10_villages_18 rfl ?_
  obtain rfl := Option.some.inj h
  exact hret _ _ dX10_villages_19
set_option maxHeartbeats 1000000 in
set_option maxRecDepth 20000 in
theorem b_Mod_villages_b71 {X : z_X} {E : z_ET} {o : z_G} (hE : z_EV X E cX10_villages 6 RX10 4 100 80) {r : Int32 × z_G} (hret : ∀ (pc : Nat) (lv : List (Nat × Value)), decode cX10_villages pc = .ok (.ireturn, 1) → z_V X E 6 o r.2 pc lv [.int r.1]) (k29 : Int32 → Int32 → Int32 → Int32 → Int32 → z_G → Option (Int32 × z_G)) (hk29 : ∀ (x1 : Int32) (x2 : Int32) (x3 : Int32) (x4 : Int32) (x5 : Int32) (g : z_G), k29 x1 x2 x3 x4 x5 g = some r → z_V X E 6 o g 29 [(0, .ref (z_ad X 71)), (1, .int x1), (2, .int x2), (3, .int x3), (4, .int x4), (5, .int x5)] []) (x1 : Int32) (x2 : Int32) (x3 : Int32) (x4 : Int32) (x5 : Int32) (g : z_G)  (h : s_Mod_villages_b71 k29 x1 x2 x3 x4 x5 g = some r) : z_V X E 6 o g 71 [(0, .ref (z_ad X 71)), (1, .int x1), (2, .int x2), (3, .int x3), (4, .int x4), (5, .int x5)] [] := by
  unfold s_Mod_villages_b71 at h
  refine z_iinc (v := x5 + 1) hE 5 [(5, .int (x5 + 1)), (0, .ref (z_ad X 71)), (1, .int x1), (2, .int x2), (3, .int x3), (4, .int x4)] dX10_villages_71 rfl rfl (by decide) rfl ?_
  refine z_goto hE 29 dX10_villages_74 rfl ?_
  refine z_sub [(0, .ref (z_ad X 71)), (1, .int x1), (2, .int x2), (3, .int x3), (4, .int x4), (5, .int (x5 + 1))] [1, 2, 3, 4, 5, 0] rfl ?_
  exact hk29 x1 x2 x3 x4 (x5 + 1) g h
set_option maxHeartbeats 1000000 in
set_option maxRecDepth 20000 in
theorem b_Mod_villages_b66 {X : z_X} {E : z_ET} {o : z_G} (hE : z_EV X E cX10_villages 6 RX10 4 100 80) {r : Int32 × z_G} (hret : ∀ (pc : Nat) (lv : List (Nat × Value)), decode cX10_villages pc = .ok (.ireturn, 1) → z_V X E 6 o r.2 pc lv [.int r.1]) (k29 : Int32 → Int32 → Int32 → Int32 → Int32 → z_G → Option (Int32 × z_G)) (hk29 : ∀ (x1 : Int32) (x2 : Int32) (x3 : Int32) (x4 : Int32) (x5 : Int32) (g : z_G), k29 x1 x2 x3 x4 x5 g = some r → z_V X E 6 o g 29 [(0, .ref (z_ad X 71)), (1, .int x1), (2, .int x2), (3, .int x3), (4, .int x4), (5, .int x5)] []) (x1 : Int32) (x2 : Int32) (x3 : Int32) (x5 : Int32) (s0 : Int32) (g : z_G)  (h : s_Mod_villages_b66 k29 x1 x2 x3 x5 s0 g = some r) : z_V X E 6 o g 66 [(0, .ref (z_ad X 71)), (1, .int x1), (2, .int x2), (3, .int x3), (5, .int x5)] [.int s0] := by
  unfold s_Mod_villages_b66 at h
  refine z_istore hE [(4, .int s0), (0, .ref (z_ad X 71)), (1, .int x1), (2, .int x2), (3, .int x3), (5, .int x5)] dX10_villages_66 (by decide) rfl ?_
  refine z_iinc (v := x3 + 1) hE 4 [(3, .int (x3 + 1)), (4, .int s0), (0, .ref (z_ad X 71)), (1, .int x1), (2, .int x2), (5, .int x5)] dX10_villages_68 rfl rfl (by decide) rfl ?_
  refine z_sub [(0, .ref (z_ad X 71)), (1, .int x1), (2, .int x2), (3, .int (x3 + 1)), (4, .int s0), (5, .int x5)] [2, 3, 4, 0, 1, 5] rfl ?_
  exact b_Mod_villages_b71 hE hret k29 hk29 x1 x2 (x3 + 1) s0 x5 g h
set_option maxHeartbeats 1000000 in
set_option maxRecDepth 20000 in
theorem b_Mod_villages_L29 {X : z_X} {E : z_ET} {o : z_G} (hE : z_EV X E cX10_villages 6 RX10 4 100 80) {r : Int32 × z_G} (hret : ∀ (pc : Nat) (lv : List (Nat × Value)), decode cX10_villages pc = .ok (.ireturn, 1) → z_V X E 6 o r.2 pc lv [.int r.1]) : ∀ (n : Nat) (x1 : Int32) (x2 : Int32) (x3 : Int32) (x4 : Int32) (x5 : Int32) (g : z_G), s_Mod_villages_L29 n x1 x2 x3 x4 x5 g = some r → z_V X E 6 o g 29 [(0, .ref (z_ad X 71)), (1, .int x1), (2, .int x2), (3, .int x3), (4, .int x4), (5, .int x5)] [] := by
  intro n
  induction n with
  | zero => intro x1 x2 x3 x4 x5 g h; exact z_none h
  | succ n ih =>
    intro x1 x2 x3 x4 x5 g h
    rw [s_Mod_villages_L29] at h
    refine z_iload hE 5 dX10_villages_29 rfl ?_
    refine z_sipush (v := 256) hE dX10_villages_31 rfl ?_
    refine z_icmp_ge hE 77 dX10_villages_34 rfl (fun c8q => ?_) (fun c8q => ?_)
    · replace h := z_t c8q h
      refine z_iload_n hE 2 dX10_villages_77 rfl ?_
      refine z_if_ne hE 85 dX10_villages_78 rfl (fun c9q => ?_) (fun c9q => ?_)
      · replace h := z_f c9q h
        refine z_iload hE 4 dX10_villages_85 rfl ?_
        obtain rfl := Option.some.inj h
        exact hret _ _ dX10_villages_87
      · replace h := z_t c9q h
        refine z_iload_n hE 3 dX10_villages_81 rfl ?_
        refine z_goto hE 87 dX10_villages_82 rfl ?_
        obtain rfl := Option.some.inj h
        exact hret _ _ dX10_villages_87
    · replace h := z_f c8q h
      refine z_aload_n hE 0 dX10_villages_37 rfl ?_
      refine z_iload_n hE 1 dX10_villages_38 rfl ?_
      refine z_iload hE 5 dX10_villages_39 rfl ?_
      refine z_bipush (v := 16) hE dX10_villages_41 rfl ?_
      refine z_irem hE dX10_villages_43 (by decide) ?_
      refine z_iload hE 5 dX10_villages_44 rfl ?_
      refine z_bipush (v := 16) hE dX10_villages_46 rfl ?_
      refine z_idiv hE dX10_villages_48 (by decide) ?_
      obtain ⟨r10q, hr10q, h⟩ := z_bind_some h
      refine z_iV (rest := []) (av := [.int x1, .int (z_rem x5 16), .int (x5 / 16)]) hE (c_Mod_isSo x1 (z_rem x5 16) (x5 / 16) g r10q hr10q) l_RX10_195 (by decide) (by decide) e_71 rfl ⟨by decide, by decide⟩ dX10_villages_49 rfl (Nat.le_of_ble_eq_true rfl) ?_
      refine z_if_eq hE 71 dX10_villages_52 rfl (fun c11q => ?_) (fun c11q => ?_)
      · replace h := z_t c11q h
        exact b_Mod_villages_b71 hE hret (s_Mod_villages_L29 n) ih x1 x2 x3 x4 x5 r10q.2 h
      · replace h := z_f c11q h
        refine z_iload_n hE 3 dX10_villages_55 rfl ?_
        refine z_if_ne hE 64 dX10_villages_56 rfl (fun c12q => ?_) (fun c12q => ?_)
        · replace h := z_f c12q h
          refine z_iload hE 4 dX10_villages_64 rfl ?_
          refine z_sub [(0, .ref (z_ad X 71)), (1, .int x1), (2, .int x2), (3, .int x3), (5, .int x5)] [0, 1, 2, 3, 5] rfl ?_
          exact b_Mod_villages_b66 hE hret (s_Mod_villages_L29 n) ih x1 x2 x3 x5 x4 r10q.2 h
        · replace h := z_t c12q h
          refine z_iload hE 5 dX10_villages_59 rfl ?_
          refine z_goto hE 66 dX10_villages_61 rfl ?_
          refine z_sub [(0, .ref (z_ad X 71)), (1, .int x1), (2, .int x2), (3, .int x3), (5, .int x5)] [0, 1, 2, 3, 5] rfl ?_
          exact b_Mod_villages_b66 hE hret (s_Mod_villages_L29 n) ih x1 x2 x3 x5 x5 r10q.2 h
set_option maxHeartbeats 1000000 in
set_option maxRecDepth 20000 in
theorem c_Mod_villages {X : z_X} {l : Launch} {o : z_G} (x1 : Int32) (x2 : Int32) (g : z_G) (r : Int32 × z_G) (h : s_Mod_villages x1 x2 g = some r) : z_MI X l 80 yX10_villages cX10_villages 6 (some .int) 4 100 [.ref (z_ad X 71), .int x1, .int x2] o g o r.2 r.1 := by
  unfold s_Mod_villages at h
  refine z_meti (ty := .int) rfl rfl (by decide) (Nat.le_of_ble_eq_true rfl) (fun E hl hE hret => ?_)
  subst hl
  refine z_aload_n hE 0 dX10_villages_0 rfl ?_
  refine z_iload_n hE 1 dX10_villages_1 rfl ?_
  refine z_iV (rest := []) (av := [.int x1]) hE (c_Mod_isMan x1 g) l_RX10_113 (by decide) (by decide) e_71 rfl ⟨by decide, by decide⟩ dX10_villages_2 rfl (Nat.le_of_ble_eq_true rfl) ?_
  refine z_if_eq hE 18 dX10_villages_5 rfl (fun c13q => ?_) (fun c13q => ?_)
  · replace h := z_t c13q h
    refine z_sub [] [] rfl ?_
    exact b_Mod_villages_b18 hE hret g h
  · replace h := z_f c13q h
    refine z_iload_n hE 2 dX10_villages_8 rfl ?_
    refine z_i2l hE dX10_villages_9 ?_
    refine z_lconst (v := 0) hE dX10_villages_10 rfl ?_
    refine z_lconst (v := 1) hE dX10_villages_11 rfl ?_
    refine z_iS (rest := []) (av := [.long (Int32.toInt64 x2), .long 0, .long 1]) hE (c_Mod_in (Int32.toInt64 x2) 0 1 g) l_RX10_60 (by decide) ⟨by decide, by decide⟩ dX10_villages_12 rfl (Nat.le_of_ble_eq_true rfl) ?_
    refine z_if_ne hE 20 dX10_villages_15 rfl (fun c14q => ?_) (fun c14q => ?_)
    · replace h := z_f c14q h
      refine z_iconst (v := 0) hE dX10_villages_20 rfl ?_
      refine z_istore_n hE [(3, .int 0), (0, .ref (z_ad X 71)), (1, .int x1), (2, .int x2)] dX10_villages_21 rfl (by decide) rfl ?_
      refine z_bipush (v := (-4)) hE dX10_villages_22 rfl ?_
      refine z_istore hE [(4, .int (-4)), (3, .int 0), (0, .ref (z_ad X 71)), (1, .int x1), (2, .int x2)] dX10_villages_24 (by decide) rfl ?_
      refine z_iconst (v := 0) hE dX10_villages_26 rfl ?_
      refine z_istore hE [(5, .int 0), (4, .int (-4)), (3, .int 0), (0, .ref (z_ad X 71)), (1, .int x1), (2, .int x2)] dX10_villages_27 (by decide) rfl ?_
      refine z_sub [(0, .ref (z_ad X 71)), (1, .int x1), (2, .int x2), (3, .int 0), (4, .int (-4)), (5, .int 0)] [3, 4, 5, 2, 1, 0] rfl ?_
      exact b_Mod_villages_L29 hE hret z_F x1 x2 0 (-4) 0 g h
    · replace h := z_t c14q h
      refine z_sub [] [] rfl ?_
      exact b_Mod_villages_b18 hE hret g h
theorem dX10_strays_0 : decode cX10_strays 0 = .ok (.iload_n 1, 1) := by decide +kernel
theorem dX10_strays_1 : decode cX10_strays 1 = .ok (.i2l, 1) := by decide +kernel
theorem dX10_strays_2 : decode cX10_strays 2 = .ok (.lconst 0, 1) := by decide +kernel
theorem dX10_strays_3 : decode cX10_strays 3 = .ok (.lconst 1, 1) := by decide +kernel
theorem dX10_strays_4 : decode cX10_strays 4 = .ok (.invokestatic 60, 3) := by decide +kernel
theorem dX10_strays_7 : decode cX10_strays 7 = .ok (.ifCond .ne 5, 3) := by decide +kernel
theorem dX10_strays_10 : decode cX10_strays 10 = .ok (.iconst (-1), 1) := by decide +kernel
theorem dX10_strays_11 : decode cX10_strays 11 = .ok (.ireturn, 1) := by decide +kernel
theorem dX10_strays_12 : decode cX10_strays 12 = .ok (.iconst 0, 1) := by decide +kernel
theorem dX10_strays_13 : decode cX10_strays 13 = .ok (.istore_n 2, 1) := by decide +kernel
theorem dX10_strays_14 : decode cX10_strays 14 = .ok (.iconst 0, 1) := by decide +kernel
theorem dX10_strays_15 : decode cX10_strays 15 = .ok (.istore_n 3, 1) := by decide +kernel
theorem dX10_strays_16 : decode cX10_strays 16 = .ok (.iload_n 3, 1) := by decide +kernel
theorem dX10_strays_17 : decode cX10_strays 17 = .ok (.aload_n 0, 1) := by decide +kernel
theorem dX10_strays_18 : decode cX10_strays 18 = .ok (.invokevirtual 56, 3) := by decide +kernel
theorem dX10_strays_21 : decode cX10_strays 21 = .ok (.if_icmp .ge 49, 3) := by decide +kernel
theorem dX10_strays_24 : decode cX10_strays 24 = .ok (.aload_n 0, 1) := by decide +kernel
theorem dX10_strays_25 : decode cX10_strays 25 = .ok (.iconst 0, 1) := by decide +kernel
theorem dX10_strays_26 : decode cX10_strays 26 = .ok (.iload_n 3, 1) := by decide +kernel
theorem dX10_strays_27 : decode cX10_strays 27 = .ok (.invokevirtual 155, 3) := by decide +kernel
theorem dX10_strays_30 : decode cX10_strays 30 = .ok (.aload_n 0, 1) := by decide +kernel
theorem dX10_strays_31 : decode cX10_strays 31 = .ok (.iconst 0, 1) := by decide +kernel
theorem dX10_strays_32 : decode cX10_strays 32 = .ok (.iload_n 3, 1) := by decide +kernel
theorem dX10_strays_33 : decode cX10_strays 33 = .ok (.iconst 0, 1) := by decide +kernel
theorem dX10_strays_34 : decode cX10_strays 34 = .ok (.iconst 0, 1) := by decide +kernel
theorem dX10_strays_35 : decode cX10_strays 35 = .ok (.invokevirtual 158, 3) := by decide +kernel
theorem dX10_strays_38 : decode cX10_strays 38 = .ok (.iload_n 2, 1) := by decide +kernel
theorem dX10_strays_39 : decode cX10_strays 39 = .ok (.aload_n 0, 1) := by decide +kernel
theorem dX10_strays_40 : decode cX10_strays 40 = .ok (.getfield 128, 3) := by decide +kernel
theorem dX10_strays_43 : decode cX10_strays 43 = .ok (.aload_n 0, 1) := by decide +kernel
theorem dX10_strays_44 : decode cX10_strays 44 = .ok (.getfield 13, 3) := by decide +kernel
theorem dX10_strays_47 : decode cX10_strays 47 = .ok (.bipush 12, 2) := by decide +kernel
theorem dX10_strays_49 : decode cX10_strays 49 = .ok (.iload_n 3, 1) := by decide +kernel
theorem dX10_strays_50 : decode cX10_strays 50 = .ok (.iadd, 1) := by decide +kernel
theorem dX10_strays_51 : decode cX10_strays 51 = .ok (.iaload, 1) := by decide +kernel
theorem dX10_strays_52 : decode cX10_strays 52 = .ok (.if_icmp .ne 7, 3) := by decide +kernel
theorem dX10_strays_55 : decode cX10_strays 55 = .ok (.iconst 0, 1) := by decide +kernel
theorem dX10_strays_56 : decode cX10_strays 56 = .ok (.goto 6, 3) := by decide +kernel
theorem dX10_strays_59 : decode cX10_strays 59 = .ok (.iconst 1, 1) := by decide +kernel
theorem dX10_strays_60 : decode cX10_strays 60 = .ok (.iload_n 3, 1) := by decide +kernel
theorem dX10_strays_61 : decode cX10_strays 61 = .ok (.ishl, 1) := by decide +kernel
theorem dX10_strays_62 : decode cX10_strays 62 = .ok (.ior, 1) := by decide +kernel
theorem dX10_strays_63 : decode cX10_strays 63 = .ok (.istore_n 2, 1) := by decide +kernel
theorem dX10_strays_64 : decode cX10_strays 64 = .ok (.iinc 3 1, 3) := by decide +kernel
theorem dX10_strays_67 : decode cX10_strays 67 = .ok (.goto (-51), 3) := by decide +kernel
theorem dX10_strays_70 : decode cX10_strays 70 = .ok (.iload_n 1, 1) := by decide +kernel
theorem dX10_strays_71 : decode cX10_strays 71 = .ok (.ifCond .ne 10, 3) := by decide +kernel
theorem dX10_strays_74 : decode cX10_strays 74 = .ok (.iload_n 2, 1) := by decide +kernel
theorem dX10_strays_75 : decode cX10_strays 75 = .ok (.invokestatic 181, 3) := by decide +kernel
theorem dX10_strays_78 : decode cX10_strays 78 = .ok (.goto 4, 3) := by decide +kernel
theorem dX10_strays_81 : decode cX10_strays 81 = .ok (.iload_n 2, 1) := by decide +kernel
theorem dX10_strays_82 : decode cX10_strays 82 = .ok (.ireturn, 1) := by decide +kernel
def s_Mod_strays_b62 (k16 : Int32 → Int32 → Int32 → z_G → Option (Int32 × z_G)) (x1 : Int32) (x3 : Int32) (s1 : Int32) (s0 : Int32) (g : z_G) : Option (Int32 × z_G) := (k16 x1 (s0 ||| s1) (x3 + 1) g)
def s_Mod_strays_L16 : Nat → Int32 → Int32 → Int32 → z_G → Option (Int32 × z_G)
  | 0, _, _, _, _ => none
  | n + 1, x1, x2, x3, g => (if (s_Mod_men g) ≤ x3 then (if x1 = 0 then (Option.bind (s_Mod_bits x2) fun r11q => (some (r11q, g))) else (some (x2, g))) else (Option.bind (s_Mod_picks 0 x3 g) fun r12q => (Option.bind (s_Mod_goes 0 x3 0 0 r12q) fun r13q => (z_ck (z_inb (12 + x3) 312) (if (r13q 0 15) = (z_rd r13q 2 (12 + x3)) then (s_Mod_strays_b62 (s_Mod_strays_L16 n) x1 x3 0 x2 r13q) else (s_Mod_strays_b62 (s_Mod_strays_L16 n) x1 x3 (1 <<< (x3 &&& 31)) x2 r13q))))))
def s_Mod_strays (x1 : Int32) (g : z_G) : Option (Int32 × z_G) := (if (s_Mod_in (Int32.toInt64 x1) 0 1) = 0 then (some ((-1), g)) else (s_Mod_strays_L16 z_F x1 0 0 g))
set_option maxHeartbeats 1000000 in
set_option maxRecDepth 20000 in
theorem b_Mod_strays_b62 {X : z_X} {E : z_ET} {o : z_G} (hE : z_EV X E cX10_strays 4 RX10 4 99 80) {r : Int32 × z_G} (hret : ∀ (pc : Nat) (lv : List (Nat × Value)), decode cX10_strays pc = .ok (.ireturn, 1) → z_V X E 4 o r.2 pc lv [.int r.1]) (k16 : Int32 → Int32 → Int32 → z_G → Option (Int32 × z_G)) (hk16 : ∀ (x1 : Int32) (x2 : Int32) (x3 : Int32) (g : z_G), k16 x1 x2 x3 g = some r → z_V X E 4 o g 16 [(0, .ref (z_ad X 71)), (1, .int x1), (2, .int x2), (3, .int x3)] []) (x1 : Int32) (x3 : Int32) (s1 : Int32) (s0 : Int32) (g : z_G)  (h : s_Mod_strays_b62 k16 x1 x3 s1 s0 g = some r) : z_V X E 4 o g 62 [(0, .ref (z_ad X 71)), (1, .int x1), (3, .int x3)] [.int s1, .int s0] := by
  unfold s_Mod_strays_b62 at h
  refine z_ior hE dX10_strays_62 ?_
  refine z_istore_n hE [(2, .int (s0 ||| s1)), (0, .ref (z_ad X 71)), (1, .int x1), (3, .int x3)] dX10_strays_63 rfl (by decide) rfl ?_
  refine z_iinc (v := x3 + 1) hE 3 [(3, .int (x3 + 1)), (2, .int (s0 ||| s1)), (0, .ref (z_ad X 71)), (1, .int x1)] dX10_strays_64 rfl rfl (by decide) rfl ?_
  refine z_goto hE 16 dX10_strays_67 rfl ?_
  refine z_sub [(0, .ref (z_ad X 71)), (1, .int x1), (2, .int (s0 ||| s1)), (3, .int (x3 + 1))] [2, 3, 1, 0] rfl ?_
  exact hk16 x1 (s0 ||| s1) (x3 + 1) g h
set_option maxHeartbeats 1000000 in
set_option maxRecDepth 20000 in
theorem b_Mod_strays_L16 {X : z_X} {E : z_ET} {o : z_G} (hE : z_EV X E cX10_strays 4 RX10 4 99 80) {r : Int32 × z_G} (hret : ∀ (pc : Nat) (lv : List (Nat × Value)), decode cX10_strays pc = .ok (.ireturn, 1) → z_V X E 4 o r.2 pc lv [.int r.1]) : ∀ (n : Nat) (x1 : Int32) (x2 : Int32) (x3 : Int32) (g : z_G), s_Mod_strays_L16 n x1 x2 x3 g = some r → z_V X E 4 o g 16 [(0, .ref (z_ad X 71)), (1, .int x1), (2, .int x2), (3, .int x3)] [] := by
  intro n
  induction n with
  | zero => intro x1 x2 x3 g h; exact z_none h
  | succ n ih =>
    intro x1 x2 x3 g h
    rw [s_Mod_strays_L16] at h
    refine z_iload_n hE 3 dX10_strays_16 rfl ?_
    refine z_aload_n hE 0 dX10_strays_17 rfl ?_
    refine z_iV (rest := [.int x3]) (av := []) hE (c_Mod_men g) l_RX10_56 (by decide) (by decide) e_71 rfl ⟨by decide, by decide⟩ dX10_strays_18 rfl (Nat.le_of_ble_eq_true rfl) ?_
    refine z_icmp_ge hE 70 dX10_strays_21 rfl (fun c9q => ?_) (fun c9q => ?_)
    · replace h := z_t c9q h
      refine z_iload_n hE 1 dX10_strays_70 rfl ?_
      refine z_if_ne hE 81 dX10_strays_71 rfl (fun c10q => ?_) (fun c10q => ?_)
      · replace h := z_f c10q h
        refine z_iload_n hE 2 dX10_strays_81 rfl ?_
        obtain rfl := Option.some.inj h
        exact hret _ _ dX10_strays_82
      · replace h := z_t c10q h
        refine z_iload_n hE 2 dX10_strays_74 rfl ?_
        obtain ⟨r11q, hr11q, h⟩ := z_bind_some h
        refine z_iS (rest := []) (av := [.int x2]) hE (c_Mod_bits x2 g r11q hr11q) l_RX10_181 (by decide) ⟨by decide, by decide⟩ dX10_strays_75 rfl (Nat.le_of_ble_eq_true rfl) ?_
        refine z_goto hE 82 dX10_strays_78 rfl ?_
        obtain rfl := Option.some.inj h
        exact hret _ _ dX10_strays_82
    · replace h := z_f c9q h
      refine z_aload_n hE 0 dX10_strays_24 rfl ?_
      refine z_iconst (v := 0) hE dX10_strays_25 rfl ?_
      refine z_iload_n hE 3 dX10_strays_26 rfl ?_
      obtain ⟨r12q, hr12q, h⟩ := z_bind_some h
      refine z_vV (rest := []) (av := [.int 0, .int x3]) hE (c_Mod_picks 0 x3 g r12q hr12q) l_RX10_155 (by decide) (by decide) e_71 rfl ⟨by decide, by decide⟩ dX10_strays_27 rfl (Nat.le_of_ble_eq_true rfl) ?_
      refine z_aload_n hE 0 dX10_strays_30 rfl ?_
      refine z_iconst (v := 0) hE dX10_strays_31 rfl ?_
      refine z_iload_n hE 3 dX10_strays_32 rfl ?_
      refine z_iconst (v := 0) hE dX10_strays_33 rfl ?_
      refine z_iconst (v := 0) hE dX10_strays_34 rfl ?_
      obtain ⟨r13q, hr13q, h⟩ := z_bind_some h
      refine z_vV (rest := []) (av := [.int 0, .int x3, .int 0, .int 0]) hE (c_Mod_goes 0 x3 0 0 r12q r13q hr13q) l_RX10_158 (by decide) (by decide) e_71 rfl ⟨by decide, by decide⟩ dX10_strays_35 rfl (Nat.le_of_ble_eq_true rfl) ?_
      refine z_iload_n hE 2 dX10_strays_38 rfl ?_
      refine z_aload_n hE 0 dX10_strays_39 rfl ?_
      refine z_get hE f_RX10_128 (by decide) e_71 rfl dX10_strays_40 ?_
      refine z_aload_n hE 0 dX10_strays_43 rfl ?_
      refine z_get hE f_RX10_13 (by decide) e_71 rfl dX10_strays_44 ?_
      refine z_bipush (v := 12) hE dX10_strays_47 rfl ?_
      refine z_iload_n hE 3 dX10_strays_49 rfl ?_
      refine z_iadd hE dX10_strays_50 ?_
      obtain ⟨k14q, h⟩ := z_ck_some h
      refine z_iald hE (by decide) e_73 k14q dX10_strays_51 ?_
      refine z_icmp_ne hE 59 dX10_strays_52 rfl (fun c15q => ?_) (fun c15q => ?_)
      · replace h := z_f c15q h
        refine z_iconst (v := 1) hE dX10_strays_59 rfl ?_
        refine z_iload_n hE 3 dX10_strays_60 rfl ?_
        refine z_ishl hE dX10_strays_61 ?_
        refine z_sub [(0, .ref (z_ad X 71)), (1, .int x1), (3, .int x3)] [0, 1, 3] rfl ?_
        exact b_Mod_strays_b62 hE hret (s_Mod_strays_L16 n) ih x1 x3 (1 <<< (x3 &&& 31)) x2 r13q h
      · replace h := z_t c15q h
        refine z_iconst (v := 0) hE dX10_strays_55 rfl ?_
        refine z_goto hE 62 dX10_strays_56 rfl ?_
        refine z_sub [(0, .ref (z_ad X 71)), (1, .int x1), (3, .int x3)] [0, 1, 3] rfl ?_
        exact b_Mod_strays_b62 hE hret (s_Mod_strays_L16 n) ih x1 x3 0 x2 r13q h
set_option maxHeartbeats 1000000 in
set_option maxRecDepth 20000 in
theorem c_Mod_strays {X : z_X} {l : Launch} {o : z_G} (x1 : Int32) (g : z_G) (r : Int32 × z_G) (h : s_Mod_strays x1 g = some r) : z_MI X l 80 yX10_strays cX10_strays 4 (some .int) 4 99 [.ref (z_ad X 71), .int x1] o g o r.2 r.1 := by
  unfold s_Mod_strays at h
  refine z_meti (ty := .int) rfl rfl (by decide) (Nat.le_of_ble_eq_true rfl) (fun E hl hE hret => ?_)
  subst hl
  refine z_iload_n hE 1 dX10_strays_0 rfl ?_
  refine z_i2l hE dX10_strays_1 ?_
  refine z_lconst (v := 0) hE dX10_strays_2 rfl ?_
  refine z_lconst (v := 1) hE dX10_strays_3 rfl ?_
  refine z_iS (rest := []) (av := [.long (Int32.toInt64 x1), .long 0, .long 1]) hE (c_Mod_in (Int32.toInt64 x1) 0 1 g) l_RX10_60 (by decide) ⟨by decide, by decide⟩ dX10_strays_4 rfl (Nat.le_of_ble_eq_true rfl) ?_
  refine z_if_ne hE 12 dX10_strays_7 rfl (fun c16q => ?_) (fun c16q => ?_)
  · replace h := z_f c16q h
    refine z_iconst (v := 0) hE dX10_strays_12 rfl ?_
    refine z_istore_n hE [(2, .int 0), (0, .ref (z_ad X 71)), (1, .int x1)] dX10_strays_13 rfl (by decide) rfl ?_
    refine z_iconst (v := 0) hE dX10_strays_14 rfl ?_
    refine z_istore_n hE [(3, .int 0), (2, .int 0), (0, .ref (z_ad X 71)), (1, .int x1)] dX10_strays_15 rfl (by decide) rfl ?_
    refine z_sub [(0, .ref (z_ad X 71)), (1, .int x1), (2, .int 0), (3, .int 0)] [2, 3, 1, 0] rfl ?_
    exact b_Mod_strays_L16 hE hret z_F x1 0 0 g h
  · replace h := z_t c16q h
    refine z_iconst (v := (-1)) hE dX10_strays_10 rfl ?_
    obtain rfl := Option.some.inj h
    exact hret _ _ dX10_strays_11
theorem dX10_lean_0 : decode cX10_lean 0 = .ok (.iload_n 1, 1) := by decide +kernel
theorem dX10_lean_1 : decode cX10_lean 1 = .ok (.i2l, 1) := by decide +kernel
theorem dX10_lean_2 : decode cX10_lean 2 = .ok (.lconst 0, 1) := by decide +kernel
theorem dX10_lean_3 : decode cX10_lean 3 = .ok (.lconst 1, 1) := by decide +kernel
theorem dX10_lean_4 : decode cX10_lean 4 = .ok (.invokestatic 60, 3) := by decide +kernel
theorem dX10_lean_7 : decode cX10_lean 7 = .ok (.ifCond .ne 5, 3) := by decide +kernel
theorem dX10_lean_10 : decode cX10_lean 10 = .ok (.iconst (-1), 1) := by decide +kernel
theorem dX10_lean_11 : decode cX10_lean 11 = .ok (.ireturn, 1) := by decide +kernel
theorem dX10_lean_12 : decode cX10_lean 12 = .ok (.iconst 0, 1) := by decide +kernel
theorem dX10_lean_13 : decode cX10_lean 13 = .ok (.istore_n 2, 1) := by decide +kernel
theorem dX10_lean_14 : decode cX10_lean 14 = .ok (.iconst 0, 1) := by decide +kernel
theorem dX10_lean_15 : decode cX10_lean 15 = .ok (.istore_n 3, 1) := by decide +kernel
theorem dX10_lean_16 : decode cX10_lean 16 = .ok (.iconst 0, 1) := by decide +kernel
theorem dX10_lean_17 : decode cX10_lean 17 = .ok (.istore 4, 2) := by decide +kernel
theorem dX10_lean_19 : decode cX10_lean 19 = .ok (.iload 4, 2) := by decide +kernel
theorem dX10_lean_21 : decode cX10_lean 21 = .ok (.bipush 8, 2) := by decide +kernel
theorem dX10_lean_23 : decode cX10_lean 23 = .ok (.if_icmp .ge 75, 3) := by decide +kernel
theorem dX10_lean_26 : decode cX10_lean 26 = .ok (.iconst 0, 1) := by decide +kernel
theorem dX10_lean_27 : decode cX10_lean 27 = .ok (.istore 5, 2) := by decide +kernel
theorem dX10_lean_29 : decode cX10_lean 29 = .ok (.iconst 0, 1) := by decide +kernel
theorem dX10_lean_30 : decode cX10_lean 30 = .ok (.istore 6, 2) := by decide +kernel
theorem dX10_lean_32 : decode cX10_lean 32 = .ok (.iload 6, 2) := by decide +kernel
theorem dX10_lean_34 : decode cX10_lean 34 = .ok (.aload_n 0, 1) := by decide +kernel
theorem dX10_lean_35 : decode cX10_lean 35 = .ok (.invokevirtual 56, 3) := by decide +kernel
theorem dX10_lean_38 : decode cX10_lean 38 = .ok (.if_icmp .ge 34, 3) := by decide +kernel
theorem dX10_lean_41 : decode cX10_lean 41 = .ok (.iload 5, 2) := by decide +kernel
theorem dX10_lean_43 : decode cX10_lean 43 = .ok (.aload_n 0, 1) := by decide +kernel
theorem dX10_lean_44 : decode cX10_lean 44 = .ok (.getfield 13, 3) := by decide +kernel
theorem dX10_lean_47 : decode cX10_lean 47 = .ok (.bipush 12, 2) := by decide +kernel
theorem dX10_lean_49 : decode cX10_lean 49 = .ok (.iload 6, 2) := by decide +kernel
theorem dX10_lean_51 : decode cX10_lean 51 = .ok (.iadd, 1) := by decide +kernel
theorem dX10_lean_52 : decode cX10_lean 52 = .ok (.iaload, 1) := by decide +kernel
theorem dX10_lean_53 : decode cX10_lean 53 = .ok (.iload 4, 2) := by decide +kernel
theorem dX10_lean_55 : decode cX10_lean 55 = .ok (.if_icmp .ne 7, 3) := by decide +kernel
theorem dX10_lean_58 : decode cX10_lean 58 = .ok (.iconst 1, 1) := by decide +kernel
theorem dX10_lean_59 : decode cX10_lean 59 = .ok (.goto 4, 3) := by decide +kernel
theorem dX10_lean_62 : decode cX10_lean 62 = .ok (.iconst 0, 1) := by decide +kernel
theorem dX10_lean_63 : decode cX10_lean 63 = .ok (.iadd, 1) := by decide +kernel
theorem dX10_lean_64 : decode cX10_lean 64 = .ok (.istore 5, 2) := by decide +kernel
theorem dX10_lean_66 : decode cX10_lean 66 = .ok (.iinc 6 1, 3) := by decide +kernel
theorem dX10_lean_69 : decode cX10_lean 69 = .ok (.goto (-37), 3) := by decide +kernel
theorem dX10_lean_72 : decode cX10_lean 72 = .ok (.iload 5, 2) := by decide +kernel
theorem dX10_lean_74 : decode cX10_lean 74 = .ok (.iload_n 3, 1) := by decide +kernel
theorem dX10_lean_75 : decode cX10_lean 75 = .ok (.if_icmp .le 8, 3) := by decide +kernel
theorem dX10_lean_78 : decode cX10_lean 78 = .ok (.iload 4, 2) := by decide +kernel
theorem dX10_lean_80 : decode cX10_lean 80 = .ok (.goto 4, 3) := by decide +kernel
theorem dX10_lean_83 : decode cX10_lean 83 = .ok (.iload_n 2, 1) := by decide +kernel
theorem dX10_lean_84 : decode cX10_lean 84 = .ok (.istore_n 2, 1) := by decide +kernel
theorem dX10_lean_85 : decode cX10_lean 85 = .ok (.iload_n 3, 1) := by decide +kernel
theorem dX10_lean_86 : decode cX10_lean 86 = .ok (.iload 5, 2) := by decide +kernel
theorem dX10_lean_88 : decode cX10_lean 88 = .ok (.invokestatic 106, 3) := by decide +kernel
theorem dX10_lean_91 : decode cX10_lean 91 = .ok (.istore_n 3, 1) := by decide +kernel
theorem dX10_lean_92 : decode cX10_lean 92 = .ok (.iinc 4 1, 3) := by decide +kernel
theorem dX10_lean_95 : decode cX10_lean 95 = .ok (.goto (-76), 3) := by decide +kernel
theorem dX10_lean_98 : decode cX10_lean 98 = .ok (.iload_n 1, 1) := by decide +kernel
theorem dX10_lean_99 : decode cX10_lean 99 = .ok (.ifCond .ne 7, 3) := by decide +kernel
theorem dX10_lean_102 : decode cX10_lean 102 = .ok (.iload_n 2, 1) := by decide +kernel
theorem dX10_lean_103 : decode cX10_lean 103 = .ok (.goto 4, 3) := by decide +kernel
theorem dX10_lean_106 : decode cX10_lean 106 = .ok (.iload_n 3, 1) := by decide +kernel
theorem dX10_lean_107 : decode cX10_lean 107 = .ok (.ireturn, 1) := by decide +kernel
def s_Mod_lean_b84 (g : z_G) (k19 : Int32 → Int32 → Int32 → Int32 → Option (Int32)) (x1 : Int32) (x3 : Int32) (x4 : Int32) (x5 : Int32) (s0 : Int32) : Option (Int32) := (z_let (α := Int32) ((s_Mod_larger x3 x5)) fun v9q => (k19 x1 s0 v9q (x4 + 1)))
def s_Mod_lean_b63 (g : z_G) (k19 : Int32 → Int32 → Int32 → Int32 → Option (Int32)) (k32 : Int32 → Int32 → Int32 → Int32 → Int32 → Int32 → Option (Int32)) (x1 : Int32) (x2 : Int32) (x3 : Int32) (x4 : Int32) (x6 : Int32) (s1 : Int32) (s0 : Int32) : Option (Int32) := (k32 x1 x2 x3 x4 (s0 + s1) (x6 + 1))
def s_Mod_lean_L32 (g : z_G) (k19 : Int32 → Int32 → Int32 → Int32 → Option (Int32)) : Nat → Int32 → Int32 → Int32 → Int32 → Int32 → Int32 → Option (Int32)
  | 0, _, _, _, _, _, _ => none
  | n + 1, x1, x2, x3, x4, x5, x6 => (if (s_Mod_men g) ≤ x6 then (if x5 ≤ x3 then (s_Mod_lean_b84 g k19 x1 x3 x4 x5 x2) else (s_Mod_lean_b84 g k19 x1 x3 x4 x5 x4)) else (z_ck (z_inb (12 + x6) 312) (if (z_rd g 2 (12 + x6)) = x4 then (s_Mod_lean_b63 g k19 (s_Mod_lean_L32 g k19 n) x1 x2 x3 x4 x6 1 x5) else (s_Mod_lean_b63 g k19 (s_Mod_lean_L32 g k19 n) x1 x2 x3 x4 x6 0 x5))))
def s_Mod_lean_L19 (g : z_G) : Nat → Int32 → Int32 → Int32 → Int32 → Option (Int32)
  | 0, _, _, _, _ => none
  | n + 1, x1, x2, x3, x4 => (if 8 ≤ x4 then (if x1 = 0 then (some x2) else (some x3)) else (s_Mod_lean_L32 g (s_Mod_lean_L19 g n) z_F x1 x2 x3 x4 0 0))
def s_Mod_lean (x1 : Int32) (g : z_G) : Option (Int32) := (if (s_Mod_in (Int32.toInt64 x1) 0 1) = 0 then (some (-1)) else (s_Mod_lean_L19 g z_F x1 0 0 0))
set_option maxHeartbeats 1000000 in
set_option maxRecDepth 20000 in
theorem b_Mod_lean_b84 {X : z_X} {E : z_ET} {o : z_G} (hE : z_EV X E cX10_lean 7 RX10 1 25 80) {g : z_G} {r : Int32} (hret : ∀ (pc : Nat) (lv : List (Nat × Value)), decode cX10_lean pc = .ok (.ireturn, 1) → z_V X E 7 o g pc lv [.int r]) (k19 : Int32 → Int32 → Int32 → Int32 → Option (Int32)) (hk19 : ∀ (x1 : Int32) (x2 : Int32) (x3 : Int32) (x4 : Int32), k19 x1 x2 x3 x4 = some r → z_V X E 7 o g 19 [(0, .ref (z_ad X 71)), (1, .int x1), (2, .int x2), (3, .int x3), (4, .int x4)] []) (x1 : Int32) (x3 : Int32) (x4 : Int32) (x5 : Int32) (s0 : Int32)  (h : s_Mod_lean_b84 g k19 x1 x3 x4 x5 s0 = some r) : z_V X E 7 o g 84 [(0, .ref (z_ad X 71)), (1, .int x1), (3, .int x3), (4, .int x4), (5, .int x5)] [.int s0] := by
  unfold s_Mod_lean_b84 at h
  refine z_istore_n hE [(2, .int s0), (0, .ref (z_ad X 71)), (1, .int x1), (3, .int x3), (4, .int x4), (5, .int x5)] dX10_lean_84 rfl (by decide) rfl ?_
  refine z_iload_n hE 3 dX10_lean_85 rfl ?_
  refine z_iload hE 5 dX10_lean_86 rfl ?_
  refine z_iS (rest := []) (av := [.int x3, .int x5]) hE (c_Mod_larger x3 x5 g) l_RX10_106 (by decide) ⟨by decide, by decide⟩ dX10_lean_88 rfl (Nat.le_of_ble_eq_true rfl) ?_
  obtain ⟨v9q, ev9q, h⟩ := z_let_eq h
  refine z_topi ev9q ?_
  refine z_istore_n hE [(3, .int v9q), (2, .int s0), (0, .ref (z_ad X 71)), (1, .int x1), (4, .int x4), (5, .int x5)] dX10_lean_91 rfl (by decide) rfl ?_
  refine z_iinc (v := x4 + 1) hE 4 [(4, .int (x4 + 1)), (3, .int v9q), (2, .int s0), (0, .ref (z_ad X 71)), (1, .int x1), (5, .int x5)] dX10_lean_92 rfl rfl (by decide) rfl ?_
  refine z_goto hE 19 dX10_lean_95 rfl ?_
  refine z_sub [(0, .ref (z_ad X 71)), (1, .int x1), (2, .int s0), (3, .int v9q), (4, .int (x4 + 1))] [3, 4, 2, 1, 0] rfl ?_
  exact hk19 x1 s0 v9q (x4 + 1) h
set_option maxHeartbeats 1000000 in
set_option maxRecDepth 20000 in
theorem b_Mod_lean_b63 {X : z_X} {E : z_ET} {o : z_G} (hE : z_EV X E cX10_lean 7 RX10 1 25 80) {g : z_G} {r : Int32} (hret : ∀ (pc : Nat) (lv : List (Nat × Value)), decode cX10_lean pc = .ok (.ireturn, 1) → z_V X E 7 o g pc lv [.int r]) (k19 : Int32 → Int32 → Int32 → Int32 → Option (Int32)) (hk19 : ∀ (x1 : Int32) (x2 : Int32) (x3 : Int32) (x4 : Int32), k19 x1 x2 x3 x4 = some r → z_V X E 7 o g 19 [(0, .ref (z_ad X 71)), (1, .int x1), (2, .int x2), (3, .int x3), (4, .int x4)] []) (k32 : Int32 → Int32 → Int32 → Int32 → Int32 → Int32 → Option (Int32)) (hk32 : ∀ (x1 : Int32) (x2 : Int32) (x3 : Int32) (x4 : Int32) (x5 : Int32) (x6 : Int32), k32 x1 x2 x3 x4 x5 x6 = some r → z_V X E 7 o g 32 [(0, .ref (z_ad X 71)), (1, .int x1), (2, .int x2), (3, .int x3), (4, .int x4), (5, .int x5), (6, .int x6)] []) (x1 : Int32) (x2 : Int32) (x3 : Int32) (x4 : Int32) (x6 : Int32) (s1 : Int32) (s0 : Int32)  (h : s_Mod_lean_b63 g k19 k32 x1 x2 x3 x4 x6 s1 s0 = some r) : z_V X E 7 o g 63 [(0, .ref (z_ad X 71)), (1, .int x1), (2, .int x2), (3, .int x3), (4, .int x4), (6, .int x6)] [.int s1, .int s0] := by
  unfold s_Mod_lean_b63 at h
  refine z_iadd hE dX10_lean_63 ?_
  refine z_istore hE [(5, .int (s0 + s1)), (0, .ref (z_ad X 71)), (1, .int x1), (2, .int x2), (3, .int x3), (4, .int x4), (6, .int x6)] dX10_lean_64 (by decide) rfl ?_
  refine z_iinc (v := x6 + 1) hE 6 [(6, .int (x6 + 1)), (5, .int (s0 + s1)), (0, .ref (z_ad X 71)), (1, .int x1), (2, .int x2), (3, .int x3), (4, .int x4)] dX10_lean_66 rfl rfl (by decide) rfl ?_
  refine z_goto hE 32 dX10_lean_69 rfl ?_
  refine z_sub [(0, .ref (z_ad X 71)), (1, .int x1), (2, .int x2), (3, .int x3), (4, .int x4), (5, .int (s0 + s1)), (6, .int (x6 + 1))] [2, 3, 4, 5, 6, 1, 0] rfl ?_
  exact hk32 x1 x2 x3 x4 (s0 + s1) (x6 + 1) h
set_option maxHeartbeats 1000000 in
set_option maxRecDepth 20000 in
theorem b_Mod_lean_L32 {X : z_X} {E : z_ET} {o : z_G} (hE : z_EV X E cX10_lean 7 RX10 1 25 80) {g : z_G} {r : Int32} (hret : ∀ (pc : Nat) (lv : List (Nat × Value)), decode cX10_lean pc = .ok (.ireturn, 1) → z_V X E 7 o g pc lv [.int r]) (k19 : Int32 → Int32 → Int32 → Int32 → Option (Int32)) (hk19 : ∀ (x1 : Int32) (x2 : Int32) (x3 : Int32) (x4 : Int32), k19 x1 x2 x3 x4 = some r → z_V X E 7 o g 19 [(0, .ref (z_ad X 71)), (1, .int x1), (2, .int x2), (3, .int x3), (4, .int x4)] []) : ∀ (n : Nat) (x1 : Int32) (x2 : Int32) (x3 : Int32) (x4 : Int32) (x5 : Int32) (x6 : Int32), s_Mod_lean_L32 g k19 n x1 x2 x3 x4 x5 x6 = some r → z_V X E 7 o g 32 [(0, .ref (z_ad X 71)), (1, .int x1), (2, .int x2), (3, .int x3), (4, .int x4), (5, .int x5), (6, .int x6)] [] := by
  intro n
  induction n with
  | zero => intro x1 x2 x3 x4 x5 x6 h; exact z_none h
  | succ n ih =>
    intro x1 x2 x3 x4 x5 x6 h
    rw [s_Mod_lean_L32] at h
    refine z_iload hE 6 dX10_lean_32 rfl ?_
    refine z_aload_n hE 0 dX10_lean_34 rfl ?_
    refine z_iV (rest := [.int x6]) (av := []) hE (c_Mod_men g) l_RX10_56 (by decide) (by decide) e_71 rfl ⟨by decide, by decide⟩ dX10_lean_35 rfl (Nat.le_of_ble_eq_true rfl) ?_
    refine z_icmp_ge hE 72 dX10_lean_38 rfl (fun c10q => ?_) (fun c10q => ?_)
    · replace h := z_t c10q h
      refine z_iload hE 5 dX10_lean_72 rfl ?_
      refine z_iload_n hE 3 dX10_lean_74 rfl ?_
      refine z_icmp_le hE 83 dX10_lean_75 rfl (fun c11q => ?_) (fun c11q => ?_)
      · replace h := z_t c11q h
        refine z_iload_n hE 2 dX10_lean_83 rfl ?_
        refine z_sub [(0, .ref (z_ad X 71)), (1, .int x1), (3, .int x3), (4, .int x4), (5, .int x5)] [0, 1, 3, 4, 5] rfl ?_
        exact b_Mod_lean_b84 hE hret k19 hk19 x1 x3 x4 x5 x2 h
      · replace h := z_f c11q h
        refine z_iload hE 4 dX10_lean_78 rfl ?_
        refine z_goto hE 84 dX10_lean_80 rfl ?_
        refine z_sub [(0, .ref (z_ad X 71)), (1, .int x1), (3, .int x3), (4, .int x4), (5, .int x5)] [0, 1, 3, 4, 5] rfl ?_
        exact b_Mod_lean_b84 hE hret k19 hk19 x1 x3 x4 x5 x4 h
    · replace h := z_f c10q h
      refine z_iload hE 5 dX10_lean_41 rfl ?_
      refine z_aload_n hE 0 dX10_lean_43 rfl ?_
      refine z_get hE f_RX10_13 (by decide) e_71 rfl dX10_lean_44 ?_
      refine z_bipush (v := 12) hE dX10_lean_47 rfl ?_
      refine z_iload hE 6 dX10_lean_49 rfl ?_
      refine z_iadd hE dX10_lean_51 ?_
      obtain ⟨k12q, h⟩ := z_ck_some h
      refine z_iald hE (by decide) e_73 k12q dX10_lean_52 ?_
      refine z_iload hE 4 dX10_lean_53 rfl ?_
      refine z_icmp_ne hE 62 dX10_lean_55 rfl (fun c13q => ?_) (fun c13q => ?_)
      · replace h := z_f c13q h
        refine z_iconst (v := 0) hE dX10_lean_62 rfl ?_
        refine z_sub [(0, .ref (z_ad X 71)), (1, .int x1), (2, .int x2), (3, .int x3), (4, .int x4), (6, .int x6)] [0, 1, 2, 3, 4, 6] rfl ?_
        exact b_Mod_lean_b63 hE hret k19 hk19 (s_Mod_lean_L32 g k19 n) ih x1 x2 x3 x4 x6 0 x5 h
      · replace h := z_t c13q h
        refine z_iconst (v := 1) hE dX10_lean_58 rfl ?_
        refine z_goto hE 63 dX10_lean_59 rfl ?_
        refine z_sub [(0, .ref (z_ad X 71)), (1, .int x1), (2, .int x2), (3, .int x3), (4, .int x4), (6, .int x6)] [0, 1, 2, 3, 4, 6] rfl ?_
        exact b_Mod_lean_b63 hE hret k19 hk19 (s_Mod_lean_L32 g k19 n) ih x1 x2 x3 x4 x6 1 x5 h
set_option maxHeartbeats 1000000 in
set_option maxRecDepth 20000 in
theorem b_Mod_lean_L19 {X : z_X} {E : z_ET} {o : z_G} (hE : z_EV X E cX10_lean 7 RX10 1 25 80) {g : z_G} {r : Int32} (hret : ∀ (pc : Nat) (lv : List (Nat × Value)), decode cX10_lean pc = .ok (.ireturn, 1) → z_V X E 7 o g pc lv [.int r]) : ∀ (n : Nat) (x1 : Int32) (x2 : Int32) (x3 : Int32) (x4 : Int32), s_Mod_lean_L19 g n x1 x2 x3 x4 = some r → z_V X E 7 o g 19 [(0, .ref (z_ad X 71)), (1, .int x1), (2, .int x2), (3, .int x3), (4, .int x4)] [] := by
  intro n
  induction n with
  | zero => intro x1 x2 x3 x4 h; exact z_none h
  | succ n ih =>
    intro x1 x2 x3 x4 h
    rw [s_Mod_lean_L19] at h
    refine z_iload hE 4 dX10_lean_19 rfl ?_
    refine z_bipush (v := 8) hE dX10_lean_21 rfl ?_
    refine z_icmp_ge hE 98 dX10_lean_23 rfl (fun c14q => ?_) (fun c14q => ?_)
    · replace h := z_t c14q h
      refine z_iload_n hE 1 dX10_lean_98 rfl ?_
      refine z_if_ne hE 106 dX10_lean_99 rfl (fun c15q => ?_) (fun c15q => ?_)
      · replace h := z_f c15q h
        refine z_iload_n hE 3 dX10_lean_106 rfl ?_
        obtain rfl := Option.some.inj h
        exact hret _ _ dX10_lean_107
      · replace h := z_t c15q h
        refine z_iload_n hE 2 dX10_lean_102 rfl ?_
        refine z_goto hE 107 dX10_lean_103 rfl ?_
        obtain rfl := Option.some.inj h
        exact hret _ _ dX10_lean_107
    · replace h := z_f c14q h
      refine z_iconst (v := 0) hE dX10_lean_26 rfl ?_
      refine z_istore hE [(5, .int 0), (0, .ref (z_ad X 71)), (1, .int x1), (2, .int x2), (3, .int x3), (4, .int x4)] dX10_lean_27 (by decide) rfl ?_
      refine z_iconst (v := 0) hE dX10_lean_29 rfl ?_
      refine z_istore hE [(6, .int 0), (5, .int 0), (0, .ref (z_ad X 71)), (1, .int x1), (2, .int x2), (3, .int x3), (4, .int x4)] dX10_lean_30 (by decide) rfl ?_
      refine z_sub [(0, .ref (z_ad X 71)), (1, .int x1), (2, .int x2), (3, .int x3), (4, .int x4), (5, .int 0), (6, .int 0)] [2, 3, 4, 5, 6, 1, 0] rfl ?_
      exact b_Mod_lean_L32 hE hret (s_Mod_lean_L19 g n) ih z_F x1 x2 x3 x4 0 0 h
set_option maxHeartbeats 1000000 in
set_option maxRecDepth 20000 in
theorem c_Mod_lean {X : z_X} {l : Launch} {o : z_G} (x1 : Int32) (g : z_G) (r : Int32) (h : s_Mod_lean x1 g = some r) : z_MI X l 80 yX10_lean cX10_lean 7 (some .int) 1 25 [.ref (z_ad X 71), .int x1] o g o g r := by
  unfold s_Mod_lean at h
  refine z_meti (ty := .int) rfl rfl (by decide) (Nat.le_of_ble_eq_true rfl) (fun E hl hE hret => ?_)
  subst hl
  refine z_iload_n hE 1 dX10_lean_0 rfl ?_
  refine z_i2l hE dX10_lean_1 ?_
  refine z_lconst (v := 0) hE dX10_lean_2 rfl ?_
  refine z_lconst (v := 1) hE dX10_lean_3 rfl ?_
  refine z_iS (rest := []) (av := [.long (Int32.toInt64 x1), .long 0, .long 1]) hE (c_Mod_in (Int32.toInt64 x1) 0 1 g) l_RX10_60 (by decide) ⟨by decide, by decide⟩ dX10_lean_4 rfl (Nat.le_of_ble_eq_true rfl) ?_
  refine z_if_ne hE 12 dX10_lean_7 rfl (fun c16q => ?_) (fun c16q => ?_)
  · replace h := z_f c16q h
    refine z_iconst (v := 0) hE dX10_lean_12 rfl ?_
    refine z_istore_n hE [(2, .int 0), (0, .ref (z_ad X 71)), (1, .int x1)] dX10_lean_13 rfl (by decide) rfl ?_
    refine z_iconst (v := 0) hE dX10_lean_14 rfl ?_
    refine z_istore_n hE [(3, .int 0), (2, .int 0), (0, .ref (z_ad X 71)), (1, .int x1)] dX10_lean_15 rfl (by decide) rfl ?_
    refine z_iconst (v := 0) hE dX10_lean_16 rfl ?_
    refine z_istore hE [(4, .int 0), (3, .int 0), (2, .int 0), (0, .ref (z_ad X 71)), (1, .int x1)] dX10_lean_17 (by decide) rfl ?_
    refine z_sub [(0, .ref (z_ad X 71)), (1, .int x1), (2, .int 0), (3, .int 0), (4, .int 0)] [3, 4, 2, 1, 0] rfl ?_
    exact b_Mod_lean_L19 hE hret z_F x1 0 0 0 h
  · replace h := z_t c16q h
    refine z_iconst (v := (-1)) hE dX10_lean_10 rfl ?_
    obtain rfl := Option.some.inj h
    exact hret _ _ dX10_lean_11
