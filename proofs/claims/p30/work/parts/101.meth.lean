theorem dX5_numberAt_0 : decode cX5_numberAt 0 = .ok (.iconst 0, 1) := by decide +kernel
theorem dX5_numberAt_1 : decode cX5_numberAt 1 = .ok (.istore_n 3, 1) := by decide +kernel
theorem dX5_numberAt_2 : decode cX5_numberAt 2 = .ok (.iload_n 1, 1) := by decide +kernel
theorem dX5_numberAt_3 : decode cX5_numberAt 3 = .ok (.istore 4, 2) := by decide +kernel
theorem dX5_numberAt_5 : decode cX5_numberAt 5 = .ok (.iload 4, 2) := by decide +kernel
theorem dX5_numberAt_7 : decode cX5_numberAt 7 = .ok (.iload_n 2, 1) := by decide +kernel
theorem dX5_numberAt_8 : decode cX5_numberAt 8 = .ok (.if_icmp .ge 22, 3) := by decide +kernel
theorem dX5_numberAt_11 : decode cX5_numberAt 11 = .ok (.bipush 10, 2) := by decide +kernel
theorem dX5_numberAt_13 : decode cX5_numberAt 13 = .ok (.iload_n 3, 1) := by decide +kernel
theorem dX5_numberAt_14 : decode cX5_numberAt 14 = .ok (.imul, 1) := by decide +kernel
theorem dX5_numberAt_15 : decode cX5_numberAt 15 = .ok (.aload_n 0, 1) := by decide +kernel
theorem dX5_numberAt_16 : decode cX5_numberAt 16 = .ok (.iload 4, 2) := by decide +kernel
theorem dX5_numberAt_18 : decode cX5_numberAt 18 = .ok (.caload, 1) := by decide +kernel
theorem dX5_numberAt_19 : decode cX5_numberAt 19 = .ok (.iadd, 1) := by decide +kernel
theorem dX5_numberAt_20 : decode cX5_numberAt 20 = .ok (.bipush 48, 2) := by decide +kernel
theorem dX5_numberAt_22 : decode cX5_numberAt 22 = .ok (.isub, 1) := by decide +kernel
theorem dX5_numberAt_23 : decode cX5_numberAt 23 = .ok (.istore_n 3, 1) := by decide +kernel
theorem dX5_numberAt_24 : decode cX5_numberAt 24 = .ok (.iinc 4 1, 3) := by decide +kernel
theorem dX5_numberAt_27 : decode cX5_numberAt 27 = .ok (.goto (-22), 3) := by decide +kernel
theorem dX5_numberAt_30 : decode cX5_numberAt 30 = .ok (.iload_n 3, 1) := by decide +kernel
theorem dX5_numberAt_31 : decode cX5_numberAt 31 = .ok (.ireturn, 1) := by decide +kernel
def s_Read_numberAt_40_L5 (g : z_G) : Nat → Int32 → Int32 → Int32 → Option (Int32)
  | 0, _, _, _ => none
  | n + 1, x2, x3, x4 => (if x2 ≤ x4 then (some x3) else (z_ck (z_inb x4 200) (z_let (α := Int32) ((((10 * x3) + (z_rd g 40 x4)) - 48)) fun v6q => ((s_Read_numberAt_40_L5 g n) x2 v6q (x4 + 1)))))
def s_Read_numberAt_40 (x1 : Int32) (x2 : Int32) (g : z_G) : Option (Int32) := (s_Read_numberAt_40_L5 g z_F x2 0 x1)
set_option maxHeartbeats 1000000 in
set_option maxRecDepth 20000 in
theorem b_Read_numberAt_40_L5 {X : z_X} {E : z_ET} {o : z_G} (hE : z_EV X E cX5_numberAt 5 RX5 0 0 71) {g : z_G} {r : Int32} (hret : ∀ (pc : Nat) (lv : List (Nat × Value)), decode cX5_numberAt pc = .ok (.ireturn, 1) → z_V X E 5 g o pc lv [.int r]) : ∀ (n : Nat) (x2 : Int32) (x3 : Int32) (x4 : Int32), s_Read_numberAt_40_L5 g n x2 x3 x4 = some r → z_V X E 5 g o 5 [(0, .ref (z_ad X 40)), (2, .int x2), (3, .int x3), (4, .int x4)] [] := by
  intro n
  induction n with
  | zero => intro x2 x3 x4 h; exact z_none h
  | succ n ih =>
    intro x2 x3 x4 h
    rw [s_Read_numberAt_40_L5] at h
    refine z_iload hE 3 dX5_numberAt_5 rfl ?_
    refine z_iload_n hE 1 dX5_numberAt_7 rfl ?_
    refine z_icmp_ge hE 30 dX5_numberAt_8 rfl (fun c4q => ?_) (fun c4q => ?_)
    · replace h := z_t c4q h
      refine z_iload_n hE 2 dX5_numberAt_30 rfl ?_
      obtain rfl := Option.some.inj h
      exact hret _ _ dX5_numberAt_31
    · replace h := z_f c4q h
      refine z_bipush (v := 10) hE dX5_numberAt_11 rfl ?_
      refine z_iload_n hE 2 dX5_numberAt_13 rfl ?_
      refine z_imul hE dX5_numberAt_14 ?_
      refine z_aload_n hE 0 dX5_numberAt_15 rfl ?_
      refine z_iload hE 3 dX5_numberAt_16 rfl ?_
      obtain ⟨k5q, h⟩ := z_ck_some h
      refine z_cald hE (by decide) e_40 k5q dX5_numberAt_18 ?_
      refine z_iadd hE dX5_numberAt_19 ?_
      refine z_bipush (v := 48) hE dX5_numberAt_20 rfl ?_
      refine z_isub hE dX5_numberAt_22 ?_
      obtain ⟨v6q, ev6q, h⟩ := z_let_eq h
      refine z_topi ev6q ?_
      refine z_istore_n hE [(3, .int v6q), (0, .ref (z_ad X 40)), (2, .int x2), (4, .int x4)] dX5_numberAt_23 rfl (by decide) rfl ?_
      refine z_iinc (v := x4 + 1) hE 3 [(4, .int (x4 + 1)), (3, .int v6q), (0, .ref (z_ad X 40)), (2, .int x2)] dX5_numberAt_24 rfl rfl (by decide) rfl ?_
      refine z_goto hE 5 dX5_numberAt_27 rfl ?_
      refine z_sub [(0, .ref (z_ad X 40)), (2, .int x2), (3, .int v6q), (4, .int (x4 + 1))] [2, 3, 1, 0] rfl ?_
      exact ih x2 v6q (x4 + 1) h
set_option maxHeartbeats 1000000 in
set_option maxRecDepth 20000 in
theorem c_Read_numberAt_40 {X : z_X} {l : Launch} {o : z_G} (x1 : Int32) (x2 : Int32) (g : z_G) (r : Int32) (h : s_Read_numberAt_40 x1 x2 g = some r) : z_MI X l 71 yX5_numberAt cX5_numberAt 5 (some .int) 0 0 [.ref (z_ad X 40), .int x1, .int x2] g o g o r := by
  unfold s_Read_numberAt_40 at h
  refine z_meti (ty := .int) rfl rfl (by decide) (Nat.le_of_ble_eq_true rfl) (fun E hl hE hret => ?_)
  subst hl
  refine z_iconst (v := 0) hE dX5_numberAt_0 rfl ?_
  refine z_istore_n hE [(3, .int 0), (0, .ref (z_ad X 40)), (1, .int x1), (2, .int x2)] dX5_numberAt_1 rfl (by decide) rfl ?_
  refine z_iload_n hE 2 dX5_numberAt_2 rfl ?_
  refine z_istore hE [(4, .int x1), (3, .int 0), (0, .ref (z_ad X 40)), (1, .int x1), (2, .int x2)] dX5_numberAt_3 (by decide) rfl ?_
  refine z_sub [(0, .ref (z_ad X 40)), (2, .int x2), (3, .int 0), (4, .int x1)] [2, 4, 1, 0] rfl ?_
  exact b_Read_numberAt_40_L5 hE hret z_F x2 0 x1 h
theorem dX5_readItem_0 : decode cX5_readItem 0 = .ok (.aload_n 1, 1) := by decide +kernel
theorem dX5_readItem_1 : decode cX5_readItem 1 = .ok (.iload_n 3, 1) := by decide +kernel
theorem dX5_readItem_2 : decode cX5_readItem 2 = .ok (.caload, 1) := by decide +kernel
theorem dX5_readItem_3 : decode cX5_readItem 3 = .ok (.invokestatic 53, 3) := by decide +kernel
theorem dX5_readItem_6 : decode cX5_readItem 6 = .ok (.istore 4, 2) := by decide +kernel
theorem dX5_readItem_8 : decode cX5_readItem 8 = .ok (.iload_n 3, 1) := by decide +kernel
theorem dX5_readItem_9 : decode cX5_readItem 9 = .ok (.iconst 1, 1) := by decide +kernel
theorem dX5_readItem_10 : decode cX5_readItem 10 = .ok (.iadd, 1) := by decide +kernel
theorem dX5_readItem_11 : decode cX5_readItem 11 = .ok (.istore 5, 2) := by decide +kernel
theorem dX5_readItem_13 : decode cX5_readItem 13 = .ok (.iconst 0, 1) := by decide +kernel
theorem dX5_readItem_14 : decode cX5_readItem 14 = .ok (.istore 6, 2) := by decide +kernel
theorem dX5_readItem_16 : decode cX5_readItem 16 = .ok (.iload 6, 2) := by decide +kernel
theorem dX5_readItem_18 : decode cX5_readItem 18 = .ok (.iload 4, 2) := by decide +kernel
theorem dX5_readItem_20 : decode cX5_readItem 20 = .ok (.if_icmp .ge 82, 3) := by decide +kernel
theorem dX5_readItem_23 : decode cX5_readItem 23 = .ok (.aload_n 1, 1) := by decide +kernel
theorem dX5_readItem_24 : decode cX5_readItem 24 = .ok (.iload_n 2, 1) := by decide +kernel
theorem dX5_readItem_25 : decode cX5_readItem 25 = .ok (.iload 5, 2) := by decide +kernel
theorem dX5_readItem_27 : decode cX5_readItem 27 = .ok (.invokestatic 57, 3) := by decide +kernel
theorem dX5_readItem_30 : decode cX5_readItem 30 = .ok (.istore 7, 2) := by decide +kernel
theorem dX5_readItem_32 : decode cX5_readItem 32 = .ok (.iload 5, 2) := by decide +kernel
theorem dX5_readItem_34 : decode cX5_readItem 34 = .ok (.iload 7, 2) := by decide +kernel
theorem dX5_readItem_36 : decode cX5_readItem 36 = .ok (.iadd, 1) := by decide +kernel
theorem dX5_readItem_37 : decode cX5_readItem 37 = .ok (.istore 8, 2) := by decide +kernel
theorem dX5_readItem_39 : decode cX5_readItem 39 = .ok (.iload 7, 2) := by decide +kernel
theorem dX5_readItem_41 : decode cX5_readItem 41 = .ok (.ifCond .eq 32, 3) := by decide +kernel
theorem dX5_readItem_44 : decode cX5_readItem 44 = .ok (.iload 8, 2) := by decide +kernel
theorem dX5_readItem_46 : decode cX5_readItem 46 = .ok (.iload_n 2, 1) := by decide +kernel
theorem dX5_readItem_47 : decode cX5_readItem 47 = .ok (.if_icmp .ge 26, 3) := by decide +kernel
theorem dX5_readItem_50 : decode cX5_readItem 50 = .ok (.aload_n 1, 1) := by decide +kernel
theorem dX5_readItem_51 : decode cX5_readItem 51 = .ok (.iload 8, 2) := by decide +kernel
theorem dX5_readItem_53 : decode cX5_readItem 53 = .ok (.caload, 1) := by decide +kernel
theorem dX5_readItem_54 : decode cX5_readItem 54 = .ok (.iload 6, 2) := by decide +kernel
theorem dX5_readItem_56 : decode cX5_readItem 56 = .ok (.iconst 1, 1) := by decide +kernel
theorem dX5_readItem_57 : decode cX5_readItem 57 = .ok (.iadd, 1) := by decide +kernel
theorem dX5_readItem_58 : decode cX5_readItem 58 = .ok (.iload 4, 2) := by decide +kernel
theorem dX5_readItem_60 : decode cX5_readItem 60 = .ok (.if_icmp .ge 8, 3) := by decide +kernel
theorem dX5_readItem_63 : decode cX5_readItem 63 = .ok (.bipush 44, 2) := by decide +kernel
theorem dX5_readItem_65 : decode cX5_readItem 65 = .ok (.goto 5, 3) := by decide +kernel
theorem dX5_readItem_68 : decode cX5_readItem 68 = .ok (.bipush 59, 2) := by decide +kernel
theorem dX5_readItem_70 : decode cX5_readItem 70 = .ok (.if_icmp .eq 5, 3) := by decide +kernel
theorem dX5_readItem_73 : decode cX5_readItem 73 = .ok (.iconst (-1), 1) := by decide +kernel
theorem dX5_readItem_74 : decode cX5_readItem 74 = .ok (.ireturn, 1) := by decide +kernel
theorem dX5_readItem_75 : decode cX5_readItem 75 = .ok (.aload_n 0, 1) := by decide +kernel
theorem dX5_readItem_76 : decode cX5_readItem 76 = .ok (.getfield 32, 3) := by decide +kernel
theorem dX5_readItem_79 : decode cX5_readItem 79 = .ok (.iload 6, 2) := by decide +kernel
theorem dX5_readItem_81 : decode cX5_readItem 81 = .ok (.aload_n 1, 1) := by decide +kernel
theorem dX5_readItem_82 : decode cX5_readItem 82 = .ok (.iload 5, 2) := by decide +kernel
theorem dX5_readItem_84 : decode cX5_readItem 84 = .ok (.iload 8, 2) := by decide +kernel
theorem dX5_readItem_86 : decode cX5_readItem 86 = .ok (.invokestatic 60, 3) := by decide +kernel
theorem dX5_readItem_89 : decode cX5_readItem 89 = .ok (.iastore, 1) := by decide +kernel
theorem dX5_readItem_90 : decode cX5_readItem 90 = .ok (.iload 8, 2) := by decide +kernel
theorem dX5_readItem_92 : decode cX5_readItem 92 = .ok (.iconst 1, 1) := by decide +kernel
theorem dX5_readItem_93 : decode cX5_readItem 93 = .ok (.iadd, 1) := by decide +kernel
theorem dX5_readItem_94 : decode cX5_readItem 94 = .ok (.istore 5, 2) := by decide +kernel
theorem dX5_readItem_96 : decode cX5_readItem 96 = .ok (.iinc 6 1, 3) := by decide +kernel
theorem dX5_readItem_99 : decode cX5_readItem 99 = .ok (.goto (-83), 3) := by decide +kernel
theorem dX5_readItem_102 : decode cX5_readItem 102 = .ok (.aload_n 0, 1) := by decide +kernel
theorem dX5_readItem_103 : decode cX5_readItem 103 = .ok (.aload_n 1, 1) := by decide +kernel
theorem dX5_readItem_104 : decode cX5_readItem 104 = .ok (.iload_n 3, 1) := by decide +kernel
theorem dX5_readItem_105 : decode cX5_readItem 105 = .ok (.caload, 1) := by decide +kernel
theorem dX5_readItem_106 : decode cX5_readItem 106 = .ok (.invokevirtual 63, 3) := by decide +kernel
theorem dX5_readItem_109 : decode cX5_readItem 109 = .ok (.ifCond .eq 8, 3) := by decide +kernel
theorem dX5_readItem_112 : decode cX5_readItem 112 = .ok (.iload 5, 2) := by decide +kernel
theorem dX5_readItem_114 : decode cX5_readItem 114 = .ok (.goto 4, 3) := by decide +kernel
theorem dX5_readItem_117 : decode cX5_readItem 117 = .ok (.iconst (-1), 1) := by decide +kernel
theorem dX5_readItem_118 : decode cX5_readItem 118 = .ok (.ireturn, 1) := by decide +kernel
def s_Read_readItem_40_b73  (g : z_G) : Option (Int32 × z_G) := (some ((-1), g))
def s_Read_readItem_40_b70 (k16 : Int32 → Int32 → Int32 → Int32 → Int32 → z_G → Option (Int32 × z_G)) (x2 : Int32) (x3 : Int32) (x4 : Int32) (x5 : Int32) (x6 : Int32) (x8 : Int32) (s1 : Int32) (s0 : Int32) (g : z_G) : Option (Int32 × z_G) := (if s0 = s1 then (Option.bind (s_Read_numberAt_40 x5 x8 g) fun r17q => (z_ck (z_inb x6 6) (z_let (α := z_G) (z_wr g 42 x6 r17q) fun g19q => (k16 x2 x3 x4 (x8 + 1) (x6 + 1) g19q)))) else (s_Read_readItem_40_b73 g))
def s_Read_readItem_40_L16 : Nat → Int32 → Int32 → Int32 → Int32 → Int32 → z_G → Option (Int32 × z_G)
  | 0, _, _, _, _, _, _ => none
  | n + 1, x2, x3, x4, x5, x6, g => (if x4 ≤ x6 then (z_ck (z_inb x3 200) (Option.bind (s_Read_takeItem (z_rd g 40 x3) g) fun r22q => (if r22q.1 = 0 then (some ((-1), r22q.2)) else (some (x5, r22q.2))))) else (Option.bind (s_Read_figuresAt_40 x2 x5 g) fun r24q => (if r24q = 0 then (s_Read_readItem_40_b73 g) else (if x2 ≤ (x5 + r24q) then (s_Read_readItem_40_b73 g) else (z_ck (z_inb (x5 + r24q) 200) (if x4 ≤ (x6 + 1) then (s_Read_readItem_40_b70 (s_Read_readItem_40_L16 n) x2 x3 x4 x5 x6 (x5 + r24q) 59 (z_rd g 40 (x5 + r24q)) g) else (s_Read_readItem_40_b70 (s_Read_readItem_40_L16 n) x2 x3 x4 x5 x6 (x5 + r24q) 44 (z_rd g 40 (x5 + r24q)) g)))))))
def s_Read_readItem_40 (x2 : Int32) (x3 : Int32) (g : z_G) : Option (Int32 × z_G) := (z_ck (z_inb x3 200) (z_let (α := Int32) ((s_Read_numbersBehind (z_rd g 40 x3))) fun v30q => (s_Read_readItem_40_L16 z_F x2 x3 v30q (x3 + 1) 0 g)))
set_option maxHeartbeats 1000000 in
set_option maxRecDepth 20000 in
theorem b_Read_readItem_40_b73 {X : z_X} {E : z_ET} {o : z_G} (hE : z_EV X E cX5_readItem 9 RX5 4 84 71) {r : Int32 × z_G} (hret : ∀ (pc : Nat) (lv : List (Nat × Value)), decode cX5_readItem pc = .ok (.ireturn, 1) → z_V X E 9 r.2 o pc lv [.int r.1])  (g : z_G)  (h : s_Read_readItem_40_b73 g = some r) : z_V X E 9 g o 73 [] [] := by
  unfold s_Read_readItem_40_b73 at h
  refine z_iconst (v := (-1)) hE dX5_readItem_73 rfl ?_
  obtain rfl := Option.some.inj h
  exact hret _ _ dX5_readItem_74
set_option maxHeartbeats 1000000 in
set_option maxRecDepth 20000 in
theorem b_Read_readItem_40_b70 {X : z_X} {E : z_ET} {o : z_G} (hE : z_EV X E cX5_readItem 9 RX5 4 84 71) {r : Int32 × z_G} (hret : ∀ (pc : Nat) (lv : List (Nat × Value)), decode cX5_readItem pc = .ok (.ireturn, 1) → z_V X E 9 r.2 o pc lv [.int r.1]) (k16 : Int32 → Int32 → Int32 → Int32 → Int32 → z_G → Option (Int32 × z_G)) (hk16 : ∀ (x2 : Int32) (x3 : Int32) (x4 : Int32) (x5 : Int32) (x6 : Int32) (g : z_G), k16 x2 x3 x4 x5 x6 g = some r → z_V X E 9 g o 16 [(0, .ref (z_ad X 41)), (1, .ref (z_ad X 40)), (2, .int x2), (3, .int x3), (4, .int x4), (5, .int x5), (6, .int x6)] []) (x2 : Int32) (x3 : Int32) (x4 : Int32) (x5 : Int32) (x6 : Int32) (x8 : Int32) (s1 : Int32) (s0 : Int32) (g : z_G)  (h : s_Read_readItem_40_b70 k16 x2 x3 x4 x5 x6 x8 s1 s0 g = some r) : z_V X E 9 g o 70 [(0, .ref (z_ad X 41)), (1, .ref (z_ad X 40)), (2, .int x2), (3, .int x3), (4, .int x4), (5, .int x5), (6, .int x6), (8, .int x8)] [.int s1, .int s0] := by
  unfold s_Read_readItem_40_b70 at h
  refine z_icmp_eq hE 75 dX5_readItem_70 rfl (fun c16q => ?_) (fun c16q => ?_)
  · replace h := z_t c16q h
    refine z_aload_n hE 0 dX5_readItem_75 rfl ?_
    refine z_get hE f_RX5_32 (by decide) e_41 rfl dX5_readItem_76 ?_
    refine z_iload hE 6 dX5_readItem_79 rfl ?_
    refine z_aload_n hE 1 dX5_readItem_81 rfl ?_
    refine z_iload hE 5 dX5_readItem_82 rfl ?_
    refine z_iload hE 7 dX5_readItem_84 rfl ?_
    obtain ⟨r17q, hr17q, h⟩ := z_bind_some h
    refine z_iS (rest := [.int x6, .ref (z_ad X 42)]) (av := [.ref (z_ad X 40), .int x5, .int x8]) hE (c_Read_numberAt_40 x5 x8 g r17q hr17q) l_RX5_60 (by decide) ⟨by decide, by decide⟩ dX5_readItem_86 rfl (Nat.le_of_ble_eq_true rfl) ?_
    obtain ⟨k18q, h⟩ := z_ck_some h
    obtain ⟨g19q, eg19q, h⟩ := z_let_eq h
    refine z_iast hE (by decide) e_42 k18q (ua_42 eg19q) dX5_readItem_89 ?_
    refine z_iload hE 7 dX5_readItem_90 rfl ?_
    refine z_iconst (v := 1) hE dX5_readItem_92 rfl ?_
    refine z_iadd hE dX5_readItem_93 ?_
    refine z_istore hE [(5, .int (x8 + 1)), (0, .ref (z_ad X 41)), (1, .ref (z_ad X 40)), (2, .int x2), (3, .int x3), (4, .int x4), (6, .int x6), (8, .int x8)] dX5_readItem_94 (by decide) rfl ?_
    refine z_iinc (v := x6 + 1) hE 6 [(6, .int (x6 + 1)), (5, .int (x8 + 1)), (0, .ref (z_ad X 41)), (1, .ref (z_ad X 40)), (2, .int x2), (3, .int x3), (4, .int x4), (8, .int x8)] dX5_readItem_96 rfl rfl (by decide) rfl ?_
    refine z_goto hE 16 dX5_readItem_99 rfl ?_
    refine z_sub [(0, .ref (z_ad X 41)), (1, .ref (z_ad X 40)), (2, .int x2), (3, .int x3), (4, .int x4), (5, .int (x8 + 1)), (6, .int (x6 + 1))] [2, 3, 4, 5, 6, 1, 0] rfl ?_
    exact hk16 x2 x3 x4 (x8 + 1) (x6 + 1) g19q h
  · replace h := z_f c16q h
    refine z_sub [] [] rfl ?_
    exact b_Read_readItem_40_b73 hE hret g h
set_option maxHeartbeats 1000000 in
set_option maxRecDepth 20000 in
theorem b_Read_readItem_40_L16 {X : z_X} {E : z_ET} {o : z_G} (hE : z_EV X E cX5_readItem 9 RX5 4 84 71) {r : Int32 × z_G} (hret : ∀ (pc : Nat) (lv : List (Nat × Value)), decode cX5_readItem pc = .ok (.ireturn, 1) → z_V X E 9 r.2 o pc lv [.int r.1]) : ∀ (n : Nat) (x2 : Int32) (x3 : Int32) (x4 : Int32) (x5 : Int32) (x6 : Int32) (g : z_G), s_Read_readItem_40_L16 n x2 x3 x4 x5 x6 g = some r → z_V X E 9 g o 16 [(0, .ref (z_ad X 41)), (1, .ref (z_ad X 40)), (2, .int x2), (3, .int x3), (4, .int x4), (5, .int x5), (6, .int x6)] [] := by
  intro n
  induction n with
  | zero => intro x2 x3 x4 x5 x6 g h; exact z_none h
  | succ n ih =>
    intro x2 x3 x4 x5 x6 g h
    rw [s_Read_readItem_40_L16] at h
    refine z_iload hE 6 dX5_readItem_16 rfl ?_
    refine z_iload hE 4 dX5_readItem_18 rfl ?_
    refine z_icmp_ge hE 102 dX5_readItem_20 rfl (fun c20q => ?_) (fun c20q => ?_)
    · replace h := z_t c20q h
      refine z_aload_n hE 0 dX5_readItem_102 rfl ?_
      refine z_aload_n hE 1 dX5_readItem_103 rfl ?_
      refine z_iload_n hE 3 dX5_readItem_104 rfl ?_
      obtain ⟨k21q, h⟩ := z_ck_some h
      refine z_cald hE (by decide) e_40 k21q dX5_readItem_105 ?_
      obtain ⟨r22q, hr22q, h⟩ := z_bind_some h
      refine z_iV (rest := []) (av := [.int (z_rd g 40 x3)]) hE (c_Read_takeItem (z_rd g 40 x3) g r22q hr22q) l_RX5_63 (by decide) (by decide) e_41 rfl ⟨by decide, by decide⟩ dX5_readItem_106 rfl (Nat.le_of_ble_eq_true rfl) ?_
      refine z_if_eq hE 117 dX5_readItem_109 rfl (fun c23q => ?_) (fun c23q => ?_)
      · replace h := z_t c23q h
        refine z_iconst (v := (-1)) hE dX5_readItem_117 rfl ?_
        obtain rfl := Option.some.inj h
        exact hret _ _ dX5_readItem_118
      · replace h := z_f c23q h
        refine z_iload hE 5 dX5_readItem_112 rfl ?_
        refine z_goto hE 118 dX5_readItem_114 rfl ?_
        obtain rfl := Option.some.inj h
        exact hret _ _ dX5_readItem_118
    · replace h := z_f c20q h
      refine z_aload_n hE 1 dX5_readItem_23 rfl ?_
      refine z_iload_n hE 2 dX5_readItem_24 rfl ?_
      refine z_iload hE 5 dX5_readItem_25 rfl ?_
      obtain ⟨r24q, hr24q, h⟩ := z_bind_some h
      refine z_iS (rest := []) (av := [.ref (z_ad X 40), .int x2, .int x5]) hE (c_Read_figuresAt_40 x2 x5 g r24q hr24q) l_RX5_57 (by decide) ⟨by decide, by decide⟩ dX5_readItem_27 rfl (Nat.le_of_ble_eq_true rfl) ?_
      refine z_istore hE [(7, .int r24q), (0, .ref (z_ad X 41)), (1, .ref (z_ad X 40)), (2, .int x2), (3, .int x3), (4, .int x4), (5, .int x5), (6, .int x6)] dX5_readItem_30 (by decide) rfl ?_
      refine z_iload hE 6 dX5_readItem_32 rfl ?_
      refine z_iload hE 0 dX5_readItem_34 rfl ?_
      refine z_iadd hE dX5_readItem_36 ?_
      refine z_istore hE [(8, .int (x5 + r24q)), (7, .int r24q), (0, .ref (z_ad X 41)), (1, .ref (z_ad X 40)), (2, .int x2), (3, .int x3), (4, .int x4), (5, .int x5), (6, .int x6)] dX5_readItem_37 (by decide) rfl ?_
      refine z_iload hE 1 dX5_readItem_39 rfl ?_
      refine z_if_eq hE 73 dX5_readItem_41 rfl (fun c25q => ?_) (fun c25q => ?_)
      · replace h := z_t c25q h
        refine z_sub [] [] rfl ?_
        exact b_Read_readItem_40_b73 hE hret g h
      · replace h := z_f c25q h
        refine z_iload hE 0 dX5_readItem_44 rfl ?_
        refine z_iload_n hE 4 dX5_readItem_46 rfl ?_
        refine z_icmp_ge hE 73 dX5_readItem_47 rfl (fun c26q => ?_) (fun c26q => ?_)
        · replace h := z_t c26q h
          refine z_sub [] [] rfl ?_
          exact b_Read_readItem_40_b73 hE hret g h
        · replace h := z_f c26q h
          refine z_aload_n hE 3 dX5_readItem_50 rfl ?_
          refine z_iload hE 0 dX5_readItem_51 rfl ?_
          obtain ⟨k27q, h⟩ := z_ck_some h
          refine z_cald hE (by decide) e_40 k27q dX5_readItem_53 ?_
          refine z_iload hE 8 dX5_readItem_54 rfl ?_
          refine z_iconst (v := 1) hE dX5_readItem_56 rfl ?_
          refine z_iadd hE dX5_readItem_57 ?_
          refine z_iload hE 6 dX5_readItem_58 rfl ?_
          refine z_icmp_ge hE 68 dX5_readItem_60 rfl (fun c28q => ?_) (fun c28q => ?_)
          · replace h := z_t c28q h
            refine z_bipush (v := 59) hE dX5_readItem_68 rfl ?_
            refine z_sub [(0, .ref (z_ad X 41)), (1, .ref (z_ad X 40)), (2, .int x2), (3, .int x3), (4, .int x4), (5, .int x5), (6, .int x6), (8, .int (x5 + r24q))] [2, 3, 4, 5, 6, 7, 8, 0] rfl ?_
            exact b_Read_readItem_40_b70 hE hret (s_Read_readItem_40_L16 n) ih x2 x3 x4 x5 x6 (x5 + r24q) 59 (z_rd g 40 (x5 + r24q)) g h
          · replace h := z_f c28q h
            refine z_bipush (v := 44) hE dX5_readItem_63 rfl ?_
            refine z_goto hE 70 dX5_readItem_65 rfl ?_
            refine z_sub [(0, .ref (z_ad X 41)), (1, .ref (z_ad X 40)), (2, .int x2), (3, .int x3), (4, .int x4), (5, .int x5), (6, .int x6), (8, .int (x5 + r24q))] [2, 3, 4, 5, 6, 7, 8, 0] rfl ?_
            exact b_Read_readItem_40_b70 hE hret (s_Read_readItem_40_L16 n) ih x2 x3 x4 x5 x6 (x5 + r24q) 44 (z_rd g 40 (x5 + r24q)) g h
set_option maxHeartbeats 1000000 in
set_option maxRecDepth 20000 in
theorem c_Read_readItem_40 {X : z_X} {l : Launch} {o : z_G} (x2 : Int32) (x3 : Int32) (g : z_G) (r : Int32 × z_G) (h : s_Read_readItem_40 x2 x3 g = some r) : z_MI X l 71 yX5_readItem cX5_readItem 9 (some .int) 4 84 [.ref (z_ad X 41), .ref (z_ad X 40), .int x2, .int x3] g o r.2 o r.1 := by
  unfold s_Read_readItem_40 at h
  refine z_meti (ty := .int) rfl rfl (by decide) (Nat.le_of_ble_eq_true rfl) (fun E hl hE hret => ?_)
  subst hl
  refine z_aload_n hE 1 dX5_readItem_0 rfl ?_
  refine z_iload_n hE 3 dX5_readItem_1 rfl ?_
  obtain ⟨k29q, h⟩ := z_ck_some h
  refine z_cald hE (by decide) e_40 k29q dX5_readItem_2 ?_
  refine z_iS (rest := []) (av := [.int (z_rd g 40 x3)]) hE (c_Read_numbersBehind (z_rd g 40 x3) g) l_RX5_53 (by decide) ⟨by decide, by decide⟩ dX5_readItem_3 rfl (Nat.le_of_ble_eq_true rfl) ?_
  obtain ⟨v30q, ev30q, h⟩ := z_let_eq h
  refine z_topi ev30q ?_
  refine z_istore hE [(4, .int v30q), (0, .ref (z_ad X 41)), (1, .ref (z_ad X 40)), (2, .int x2), (3, .int x3)] dX5_readItem_6 (by decide) rfl ?_
  refine z_iload_n hE 4 dX5_readItem_8 rfl ?_
  refine z_iconst (v := 1) hE dX5_readItem_9 rfl ?_
  refine z_iadd hE dX5_readItem_10 ?_
  refine z_istore hE [(5, .int (x3 + 1)), (4, .int v30q), (0, .ref (z_ad X 41)), (1, .ref (z_ad X 40)), (2, .int x2), (3, .int x3)] dX5_readItem_11 (by decide) rfl ?_
  refine z_iconst (v := 0) hE dX5_readItem_13 rfl ?_
  refine z_istore hE [(6, .int 0), (5, .int (x3 + 1)), (4, .int v30q), (0, .ref (z_ad X 41)), (1, .ref (z_ad X 40)), (2, .int x2), (3, .int x3)] dX5_readItem_14 (by decide) rfl ?_
  refine z_sub [(0, .ref (z_ad X 41)), (1, .ref (z_ad X 40)), (2, .int x2), (3, .int x3), (4, .int v30q), (5, .int (x3 + 1)), (6, .int 0)] [3, 4, 5, 6, 2, 1, 0] rfl ?_
  exact b_Read_readItem_40_L16 hE hret z_F x2 x3 v30q (x3 + 1) 0 g h
theorem dX5_readAll_0 : decode cX5_readAll 0 = .ok (.aload_n 0, 1) := by decide +kernel
theorem dX5_readAll_1 : decode cX5_readAll 1 = .ok (.getfield 12, 3) := by decide +kernel
theorem dX5_readAll_4 : decode cX5_readAll 4 = .ok (.iconst 0, 1) := by decide +kernel
theorem dX5_readAll_5 : decode cX5_readAll 5 = .ok (.putfield 36, 3) := by decide +kernel
theorem dX5_readAll_8 : decode cX5_readAll 8 = .ok (.aload_n 0, 1) := by decide +kernel
theorem dX5_readAll_9 : decode cX5_readAll 9 = .ok (.getfield 12, 3) := by decide +kernel
theorem dX5_readAll_12 : decode cX5_readAll 12 = .ok (.iconst 0, 1) := by decide +kernel
theorem dX5_readAll_13 : decode cX5_readAll 13 = .ok (.putfield 40, 3) := by decide +kernel
theorem dX5_readAll_16 : decode cX5_readAll 16 = .ok (.aload_n 0, 1) := by decide +kernel
theorem dX5_readAll_17 : decode cX5_readAll 17 = .ok (.getfield 12, 3) := by decide +kernel
theorem dX5_readAll_20 : decode cX5_readAll 20 = .ok (.iconst 4, 1) := by decide +kernel
theorem dX5_readAll_21 : decode cX5_readAll 21 = .ok (.putfield 43, 3) := by decide +kernel
theorem dX5_readAll_24 : decode cX5_readAll 24 = .ok (.aload_n 0, 1) := by decide +kernel
theorem dX5_readAll_25 : decode cX5_readAll 25 = .ok (.getfield 28, 3) := by decide +kernel
theorem dX5_readAll_28 : decode cX5_readAll 28 = .ok (.iconst 0, 1) := by decide +kernel
theorem dX5_readAll_29 : decode cX5_readAll 29 = .ok (.putfield 46, 3) := by decide +kernel
theorem dX5_readAll_32 : decode cX5_readAll 32 = .ok (.iconst 0, 1) := by decide +kernel
theorem dX5_readAll_33 : decode cX5_readAll 33 = .ok (.istore_n 3, 1) := by decide +kernel
theorem dX5_readAll_34 : decode cX5_readAll 34 = .ok (.iconst 0, 1) := by decide +kernel
theorem dX5_readAll_35 : decode cX5_readAll 35 = .ok (.istore 4, 2) := by decide +kernel
theorem dX5_readAll_37 : decode cX5_readAll 37 = .ok (.iload 4, 2) := by decide +kernel
theorem dX5_readAll_39 : decode cX5_readAll 39 = .ok (.sipush 200, 3) := by decide +kernel
theorem dX5_readAll_42 : decode cX5_readAll 42 = .ok (.if_icmp .ge 34, 3) := by decide +kernel
theorem dX5_readAll_45 : decode cX5_readAll 45 = .ok (.iload_n 3, 1) := by decide +kernel
theorem dX5_readAll_46 : decode cX5_readAll 46 = .ok (.iload_n 2, 1) := by decide +kernel
theorem dX5_readAll_47 : decode cX5_readAll 47 = .ok (.if_icmp .ge 29, 3) := by decide +kernel
theorem dX5_readAll_50 : decode cX5_readAll 50 = .ok (.aload_n 0, 1) := by decide +kernel
theorem dX5_readAll_51 : decode cX5_readAll 51 = .ok (.aload_n 1, 1) := by decide +kernel
theorem dX5_readAll_52 : decode cX5_readAll 52 = .ok (.iload_n 2, 1) := by decide +kernel
theorem dX5_readAll_53 : decode cX5_readAll 53 = .ok (.iload_n 3, 1) := by decide +kernel
theorem dX5_readAll_54 : decode cX5_readAll 54 = .ok (.invokevirtual 49, 3) := by decide +kernel
theorem dX5_readAll_57 : decode cX5_readAll 57 = .ok (.istore 5, 2) := by decide +kernel
theorem dX5_readAll_59 : decode cX5_readAll 59 = .ok (.iload 5, 2) := by decide +kernel
theorem dX5_readAll_61 : decode cX5_readAll 61 = .ok (.iconst (-1), 1) := by decide +kernel
theorem dX5_readAll_62 : decode cX5_readAll 62 = .ok (.if_icmp .ne 5, 3) := by decide +kernel
theorem dX5_readAll_65 : decode cX5_readAll 65 = .ok (.iload_n 3, 1) := by decide +kernel
theorem dX5_readAll_66 : decode cX5_readAll 66 = .ok (.ireturn, 1) := by decide +kernel
theorem dX5_readAll_67 : decode cX5_readAll 67 = .ok (.iload 5, 2) := by decide +kernel
theorem dX5_readAll_69 : decode cX5_readAll 69 = .ok (.istore_n 3, 1) := by decide +kernel
theorem dX5_readAll_70 : decode cX5_readAll 70 = .ok (.iinc 4 1, 3) := by decide +kernel
theorem dX5_readAll_73 : decode cX5_readAll 73 = .ok (.goto (-36), 3) := by decide +kernel
theorem dX5_readAll_76 : decode cX5_readAll 76 = .ok (.bipush (-4), 2) := by decide +kernel
theorem dX5_readAll_78 : decode cX5_readAll 78 = .ok (.ireturn, 1) := by decide +kernel
def s_Read_readAll_40_b76  (g : z_G) : Option (Int32 × z_G) := (some ((-4), g))
def s_Read_readAll_40_L37 : Nat → Int32 → Int32 → Int32 → z_G → Option (Int32 × z_G)
  | 0, _, _, _, _ => none
  | n + 1, x2, x3, x4, g => (if 200 ≤ x4 then (s_Read_readAll_40_b76 g) else (if x2 ≤ x3 then (s_Read_readAll_40_b76 g) else (Option.bind (s_Read_readItem_40 x2 x3 g) fun r11q => (if r11q.1 = (-1) then (some (x3, r11q.2)) else ((s_Read_readAll_40_L37 n) x2 r11q.1 (x4 + 1) r11q.2)))))
def s_Read_readAll_40 (x2 : Int32) (g : z_G) : Option (Int32 × z_G) := (z_let (α := z_G) (z_up g 47 0 0) fun g13q => (z_let (α := z_G) (z_up g13q 47 1 0) fun g14q => (z_let (α := z_G) (z_up g14q 47 2 4) fun g15q => (z_let (α := z_G) (z_up g15q 54 2 0) fun g16q => (s_Read_readAll_40_L37 z_F x2 0 0 g16q)))))
set_option maxHeartbeats 1000000 in
set_option maxRecDepth 20000 in
theorem b_Read_readAll_40_b76 {X : z_X} {E : z_ET} {o : z_G} (hE : z_EV X E cX5_readAll 6 RX5 5 112 71) {r : Int32 × z_G} (hret : ∀ (pc : Nat) (lv : List (Nat × Value)), decode cX5_readAll pc = .ok (.ireturn, 1) → z_V X E 6 r.2 o pc lv [.int r.1])  (g : z_G)  (h : s_Read_readAll_40_b76 g = some r) : z_V X E 6 g o 76 [] [] := by
  unfold s_Read_readAll_40_b76 at h
  refine z_bipush (v := (-4)) hE dX5_readAll_76 rfl ?_
  obtain rfl := Option.some.inj h
  exact hret _ _ dX5_readAll_78
set_option maxHeartbeats 1000000 in
set_option maxRecDepth 20000 in
theorem b_Read_readAll_40_L37 {X : z_X} {E : z_ET} {o : z_G} (hE : z_EV X E cX5_readAll 6 RX5 5 112 71) {r : Int32 × z_G} (hret : ∀ (pc : Nat) (lv : List (Nat × Value)), decode cX5_readAll pc = .ok (.ireturn, 1) → z_V X E 6 r.2 o pc lv [.int r.1]) : ∀ (n : Nat) (x2 : Int32) (x3 : Int32) (x4 : Int32) (g : z_G), s_Read_readAll_40_L37 n x2 x3 x4 g = some r → z_V X E 6 g o 37 [(0, .ref (z_ad X 41)), (1, .ref (z_ad X 40)), (2, .int x2), (3, .int x3), (4, .int x4)] [] := by
  intro n
  induction n with
  | zero => intro x2 x3 x4 g h; exact z_none h
  | succ n ih =>
    intro x2 x3 x4 g h
    rw [s_Read_readAll_40_L37] at h
    refine z_iload hE 4 dX5_readAll_37 rfl ?_
    refine z_sipush (v := 200) hE dX5_readAll_39 rfl ?_
    refine z_icmp_ge hE 76 dX5_readAll_42 rfl (fun c9q => ?_) (fun c9q => ?_)
    · replace h := z_t c9q h
      refine z_sub [] [] rfl ?_
      exact b_Read_readAll_40_b76 hE hret g h
    · replace h := z_f c9q h
      refine z_iload_n hE 3 dX5_readAll_45 rfl ?_
      refine z_iload_n hE 2 dX5_readAll_46 rfl ?_
      refine z_icmp_ge hE 76 dX5_readAll_47 rfl (fun c10q => ?_) (fun c10q => ?_)
      · replace h := z_t c10q h
        refine z_sub [] [] rfl ?_
        exact b_Read_readAll_40_b76 hE hret g h
      · replace h := z_f c10q h
        refine z_aload_n hE 0 dX5_readAll_50 rfl ?_
        refine z_aload_n hE 1 dX5_readAll_51 rfl ?_
        refine z_iload_n hE 2 dX5_readAll_52 rfl ?_
        refine z_iload_n hE 3 dX5_readAll_53 rfl ?_
        obtain ⟨r11q, hr11q, h⟩ := z_bind_some h
        refine z_iV (rest := []) (av := [.ref (z_ad X 40), .int x2, .int x3]) hE (c_Read_readItem_40 x2 x3 g r11q hr11q) l_RX5_49 (by decide) (by decide) e_41 rfl ⟨by decide, by decide⟩ dX5_readAll_54 rfl (Nat.le_of_ble_eq_true rfl) ?_
        refine z_istore hE [(5, .int r11q.1), (0, .ref (z_ad X 41)), (1, .ref (z_ad X 40)), (2, .int x2), (3, .int x3), (4, .int x4)] dX5_readAll_57 (by decide) rfl ?_
        refine z_iload hE 0 dX5_readAll_59 rfl ?_
        refine z_iconst (v := (-1)) hE dX5_readAll_61 rfl ?_
        refine z_icmp_ne hE 67 dX5_readAll_62 rfl (fun c12q => ?_) (fun c12q => ?_)
        · replace h := z_f c12q h
          refine z_iload hE 0 dX5_readAll_67 rfl ?_
          refine z_istore_n hE [(3, .int r11q.1), (5, .int r11q.1), (0, .ref (z_ad X 41)), (1, .ref (z_ad X 40)), (2, .int x2), (4, .int x4)] dX5_readAll_69 rfl (by decide) rfl ?_
          refine z_iinc (v := x4 + 1) hE 5 [(4, .int (x4 + 1)), (3, .int r11q.1), (5, .int r11q.1), (0, .ref (z_ad X 41)), (1, .ref (z_ad X 40)), (2, .int x2)] dX5_readAll_70 rfl rfl (by decide) rfl ?_
          refine z_goto hE 37 dX5_readAll_73 rfl ?_
          refine z_sub [(0, .ref (z_ad X 41)), (1, .ref (z_ad X 40)), (2, .int x2), (3, .int r11q.1), (4, .int (x4 + 1))] [3, 4, 5, 1, 0] rfl ?_
          exact ih x2 r11q.1 (x4 + 1) r11q.2 h
        · replace h := z_t c12q h
          refine z_iload_n hE 4 dX5_readAll_65 rfl ?_
          obtain rfl := Option.some.inj h
          exact hret _ _ dX5_readAll_66
set_option maxHeartbeats 1000000 in
set_option maxRecDepth 20000 in
theorem c_Read_readAll_40 {X : z_X} {l : Launch} {o : z_G} (x2 : Int32) (g : z_G) (r : Int32 × z_G) (h : s_Read_readAll_40 x2 g = some r) : z_MI X l 71 yX5_readAll cX5_readAll 6 (some .int) 5 112 [.ref (z_ad X 41), .ref (z_ad X 40), .int x2] g o r.2 o r.1 := by
  unfold s_Read_readAll_40 at h
  refine z_meti (ty := .int) rfl rfl (by decide) (Nat.le_of_ble_eq_true rfl) (fun E hl hE hret => ?_)
  subst hl
  refine z_aload_n hE 0 dX5_readAll_0 rfl ?_
  refine z_get hE f_RX5_12 (by decide) e_41 rfl dX5_readAll_1 ?_
  refine z_iconst (v := 0) hE dX5_readAll_4 rfl ?_
  obtain ⟨g13q, eg13q, h⟩ := z_let_eq h
  refine z_put hE f_RX5_36 ft_3 (by decide) e_47 rfl (tyX3_ok 0 (by decide)) rfl rfl (Nat.le_of_ble_eq_true rfl) (u_47_0 eg13q) dX5_readAll_5 ?_
  refine z_aload_n hE 0 dX5_readAll_8 rfl ?_
  refine z_get hE f_RX5_12 (by decide) e_41 rfl dX5_readAll_9 ?_
  refine z_iconst (v := 0) hE dX5_readAll_12 rfl ?_
  obtain ⟨g14q, eg14q, h⟩ := z_let_eq h
  refine z_put hE f_RX5_40 ft_3 (by decide) e_47 rfl (tyX3_ok 1 (by decide)) rfl rfl (Nat.le_of_ble_eq_true rfl) (u_47_1 eg14q) dX5_readAll_13 ?_
  refine z_aload_n hE 0 dX5_readAll_16 rfl ?_
  refine z_get hE f_RX5_12 (by decide) e_41 rfl dX5_readAll_17 ?_
  refine z_iconst (v := 4) hE dX5_readAll_20 rfl ?_
  obtain ⟨g15q, eg15q, h⟩ := z_let_eq h
  refine z_put hE f_RX5_43 ft_3 (by decide) e_47 rfl (tyX3_ok 2 (by decide)) rfl rfl (Nat.le_of_ble_eq_true rfl) (u_47_2 eg15q) dX5_readAll_21 ?_
  refine z_aload_n hE 0 dX5_readAll_24 rfl ?_
  refine z_get hE f_RX5_28 (by decide) e_41 rfl dX5_readAll_25 ?_
  refine z_iconst (v := 0) hE dX5_readAll_28 rfl ?_
  obtain ⟨g16q, eg16q, h⟩ := z_let_eq h
  refine z_put hE f_RX5_46 ft_6 (by decide) e_54 rfl (tyX6_ok 2 (by decide)) rfl rfl (Nat.le_of_ble_eq_true rfl) (u_54_2 eg16q) dX5_readAll_29 ?_
  refine z_iconst (v := 0) hE dX5_readAll_32 rfl ?_
  refine z_istore_n hE [(3, .int 0), (0, .ref (z_ad X 41)), (1, .ref (z_ad X 40)), (2, .int x2)] dX5_readAll_33 rfl (by decide) rfl ?_
  refine z_iconst (v := 0) hE dX5_readAll_34 rfl ?_
  refine z_istore hE [(4, .int 0), (3, .int 0), (0, .ref (z_ad X 41)), (1, .ref (z_ad X 40)), (2, .int x2)] dX5_readAll_35 (by decide) rfl ?_
  refine z_sub [(0, .ref (z_ad X 41)), (1, .ref (z_ad X 40)), (2, .int x2), (3, .int 0), (4, .int 0)] [2, 3, 4, 1, 0] rfl ?_
  exact b_Read_readAll_40_L37 hE hret z_F x2 0 0 g16q h
theorem dX9_fault_0 : decode cX9_fault 0 = .ok (.aload_n 0, 1) := by decide +kernel
theorem dX9_fault_1 : decode cX9_fault 1 = .ok (.getfield 16, 3) := by decide +kernel
theorem dX9_fault_4 : decode cX9_fault 4 = .ok (.aload_n 0, 1) := by decide +kernel
theorem dX9_fault_5 : decode cX9_fault 5 = .ok (.getfield 9, 3) := by decide +kernel
theorem dX9_fault_8 : decode cX9_fault 8 = .ok (.aload_n 0, 1) := by decide +kernel
theorem dX9_fault_9 : decode cX9_fault 9 = .ok (.getfield 96, 3) := by decide +kernel
theorem dX9_fault_12 : decode cX9_fault 12 = .ok (.invokevirtual 85, 3) := by decide +kernel
theorem dX9_fault_15 : decode cX9_fault 15 = .ok (.ireturn, 1) := by decide +kernel
def s_Top_fault (g : z_G) : Option (Int32 × z_G) := (Option.bind (s_Read_readAll_40 (g 39 1) g) fun r2q => (some (r2q.1, r2q.2)))
set_option maxHeartbeats 1000000 in
set_option maxRecDepth 20000 in
theorem c_Top_fault {X : z_X} {l : Launch} {o : z_G} (g : z_G) (r : Int32 × z_G) (h : s_Top_fault g = some r) : z_MI X l 71 yX9_fault cX9_fault 1 (some .int) 6 137 [.ref (z_ad X 39)] g o r.2 o r.1 := by
  unfold s_Top_fault at h
  refine z_meti (ty := .int) rfl rfl (by decide) (Nat.le_of_ble_eq_true rfl) (fun E hl hE hret => ?_)
  subst hl
  refine z_aload_n hE 0 dX9_fault_0 rfl ?_
  refine z_get hE f_RX9_16 (by decide) e_39 rfl dX9_fault_1 ?_
  refine z_aload_n hE 0 dX9_fault_4 rfl ?_
  refine z_get hE f_RX9_9 (by decide) e_39 rfl dX9_fault_5 ?_
  refine z_aload_n hE 0 dX9_fault_8 rfl ?_
  refine z_get hE f_RX9_96 (by decide) e_39 rfl dX9_fault_9 ?_
  obtain ⟨r2q, hr2q, h⟩ := z_bind_some h
  refine z_iV (rest := []) (av := [.ref (z_ad X 40), .int (g 39 1)]) hE (c_Read_readAll_40 (g 39 1) g r2q hr2q) l_RX9_85 (by decide) (by decide) e_41 rfl ⟨by decide, by decide⟩ dX9_fault_12 rfl (Nat.le_of_ble_eq_true rfl) ?_
  obtain rfl := Option.some.inj h
  exact hret _ _ dX9_fault_15
theorem dX5_hasHomeAndMan_0 : decode cX5_hasHomeAndMan 0 = .ok (.aload_n 0, 1) := by decide +kernel
theorem dX5_hasHomeAndMan_1 : decode cX5_hasHomeAndMan 1 = .ok (.getfield 12, 3) := by decide +kernel
theorem dX5_hasHomeAndMan_4 : decode cX5_hasHomeAndMan 4 = .ok (.getfield 36, 3) := by decide +kernel
theorem dX5_hasHomeAndMan_7 : decode cX5_hasHomeAndMan 7 = .ok (.ifCond .le 17, 3) := by decide +kernel
theorem dX5_hasHomeAndMan_10 : decode cX5_hasHomeAndMan 10 = .ok (.aload_n 0, 1) := by decide +kernel
theorem dX5_hasHomeAndMan_11 : decode cX5_hasHomeAndMan 11 = .ok (.getfield 12, 3) := by decide +kernel
theorem dX5_hasHomeAndMan_14 : decode cX5_hasHomeAndMan 14 = .ok (.getfield 40, 3) := by decide +kernel
theorem dX5_hasHomeAndMan_17 : decode cX5_hasHomeAndMan 17 = .ok (.ifCond .le 7, 3) := by decide +kernel
theorem dX5_hasHomeAndMan_20 : decode cX5_hasHomeAndMan 20 = .ok (.iconst 1, 1) := by decide +kernel
theorem dX5_hasHomeAndMan_21 : decode cX5_hasHomeAndMan 21 = .ok (.goto 4, 3) := by decide +kernel
theorem dX5_hasHomeAndMan_24 : decode cX5_hasHomeAndMan 24 = .ok (.iconst 0, 1) := by decide +kernel
theorem dX5_hasHomeAndMan_25 : decode cX5_hasHomeAndMan 25 = .ok (.ireturn, 1) := by decide +kernel
def s_Read_hasHomeAndMan_b24 (g : z_G) : Int32 := 0
def s_Read_hasHomeAndMan (g : z_G) : Int32 := (if (g 47 0) ≤ 0 then (s_Read_hasHomeAndMan_b24 g) else (if (g 47 1) ≤ 0 then (s_Read_hasHomeAndMan_b24 g) else 1))
set_option maxHeartbeats 1000000 in
set_option maxRecDepth 20000 in
theorem b_Read_hasHomeAndMan_b24 {X : z_X} {E : z_ET} {o : z_G} (hE : z_EV X E cX5_hasHomeAndMan 1 RX5 0 0 71) {g : z_G} {r : Int32} (hret : ∀ (pc : Nat) (lv : List (Nat × Value)), z_bit r = true → decode cX5_hasHomeAndMan pc = .ok (.ireturn, 1) → z_V X E 1 g o pc lv [.int r])   (h : s_Read_hasHomeAndMan_b24 g = r) : z_V X E 1 g o 24 [] [] := by
  unfold s_Read_hasHomeAndMan_b24 at h
  refine z_iconst (v := 0) hE dX5_hasHomeAndMan_24 rfl ?_
  subst h
  exact hret _ _ z_b0 dX5_hasHomeAndMan_25
set_option maxHeartbeats 1000000 in
set_option maxRecDepth 20000 in
theorem t_Read_hasHomeAndMan (g : z_G) : z_bit (s_Read_hasHomeAndMan g) = true := by
  unfold s_Read_hasHomeAndMan s_Read_hasHomeAndMan_b24
  repeat' split
  all_goals (first | rfl | decide | rfl)
set_option maxHeartbeats 1000000 in
set_option maxRecDepth 20000 in
theorem c_Read_hasHomeAndMan {X : z_X} {l : Launch} {o : z_G} (g : z_G) : z_MI X l 71 yX5_hasHomeAndMan cX5_hasHomeAndMan 1 (some .boolean) 0 0 [.ref (z_ad X 41)] g o g o (s_Read_hasHomeAndMan g) := by
  obtain ⟨r, h⟩ : ∃ r, s_Read_hasHomeAndMan g = r := ⟨_, rfl⟩
  rw [h]
  unfold s_Read_hasHomeAndMan at h
  refine z_metz (by decide) (Nat.le_of_ble_eq_true rfl) (fun E hl hE hret => ?_)
  subst hl
  refine z_aload_n hE 0 dX5_hasHomeAndMan_0 rfl ?_
  refine z_get hE f_RX5_12 (by decide) e_41 rfl dX5_hasHomeAndMan_1 ?_
  refine z_get hE f_RX5_36 (by decide) e_47 rfl dX5_hasHomeAndMan_4 ?_
  refine z_if_le hE 24 dX5_hasHomeAndMan_7 rfl (fun c3q => ?_) (fun c3q => ?_)
  · replace h := z_t c3q h
    refine z_sub [] [] rfl ?_
    exact b_Read_hasHomeAndMan_b24 hE hret h
  · replace h := z_f c3q h
    refine z_aload_n hE 0 dX5_hasHomeAndMan_10 rfl ?_
    refine z_get hE f_RX5_12 (by decide) e_41 rfl dX5_hasHomeAndMan_11 ?_
    refine z_get hE f_RX5_40 (by decide) e_47 rfl dX5_hasHomeAndMan_14 ?_
    refine z_if_le hE 24 dX5_hasHomeAndMan_17 rfl (fun c4q => ?_) (fun c4q => ?_)
    · replace h := z_t c4q h
      refine z_sub [] [] rfl ?_
      exact b_Read_hasHomeAndMan_b24 hE hret h
    · replace h := z_f c4q h
      refine z_iconst (v := 1) hE dX5_hasHomeAndMan_20 rfl ?_
      refine z_goto hE 25 dX5_hasHomeAndMan_21 rfl ?_
      subst h
      exact hret _ _ z_b1 dX5_hasHomeAndMan_25
theorem dX3_copyFrom_0 : decode cX3_copyFrom 0 = .ok (.aload_n 0, 1) := by decide +kernel
theorem dX3_copyFrom_1 : decode cX3_copyFrom 1 = .ok (.aload_n 1, 1) := by decide +kernel
theorem dX3_copyFrom_2 : decode cX3_copyFrom 2 = .ok (.getfield 21, 3) := by decide +kernel
theorem dX3_copyFrom_5 : decode cX3_copyFrom 5 = .ok (.putfield 21, 3) := by decide +kernel
theorem dX3_copyFrom_8 : decode cX3_copyFrom 8 = .ok (.aload_n 0, 1) := by decide +kernel
theorem dX3_copyFrom_9 : decode cX3_copyFrom 9 = .ok (.aload_n 1, 1) := by decide +kernel
theorem dX3_copyFrom_10 : decode cX3_copyFrom 10 = .ok (.getfield 25, 3) := by decide +kernel
theorem dX3_copyFrom_13 : decode cX3_copyFrom 13 = .ok (.putfield 25, 3) := by decide +kernel
theorem dX3_copyFrom_16 : decode cX3_copyFrom 16 = .ok (.aload_n 0, 1) := by decide +kernel
theorem dX3_copyFrom_17 : decode cX3_copyFrom 17 = .ok (.aload_n 1, 1) := by decide +kernel
theorem dX3_copyFrom_18 : decode cX3_copyFrom 18 = .ok (.getfield 28, 3) := by decide +kernel
theorem dX3_copyFrom_21 : decode cX3_copyFrom 21 = .ok (.putfield 28, 3) := by decide +kernel
theorem dX3_copyFrom_24 : decode cX3_copyFrom 24 = .ok (.aload_n 1, 1) := by decide +kernel
theorem dX3_copyFrom_25 : decode cX3_copyFrom 25 = .ok (.getfield 9, 3) := by decide +kernel
theorem dX3_copyFrom_28 : decode cX3_copyFrom 28 = .ok (.iconst 0, 1) := by decide +kernel
theorem dX3_copyFrom_29 : decode cX3_copyFrom 29 = .ok (.aload_n 0, 1) := by decide +kernel
theorem dX3_copyFrom_30 : decode cX3_copyFrom 30 = .ok (.getfield 9, 3) := by decide +kernel
theorem dX3_copyFrom_33 : decode cX3_copyFrom 33 = .ok (.iconst 0, 1) := by decide +kernel
theorem dX3_copyFrom_34 : decode cX3_copyFrom 34 = .ok (.iconst 4, 1) := by decide +kernel
theorem dX3_copyFrom_35 : decode cX3_copyFrom 35 = .ok (.invokestatic 31, 3) := by decide +kernel
theorem dX3_copyFrom_38 : decode cX3_copyFrom 38 = .ok (.aload_n 1, 1) := by decide +kernel
theorem dX3_copyFrom_39 : decode cX3_copyFrom 39 = .ok (.getfield 15, 3) := by decide +kernel
theorem dX3_copyFrom_42 : decode cX3_copyFrom 42 = .ok (.iconst 0, 1) := by decide +kernel
theorem dX3_copyFrom_43 : decode cX3_copyFrom 43 = .ok (.aload_n 0, 1) := by decide +kernel
theorem dX3_copyFrom_44 : decode cX3_copyFrom 44 = .ok (.getfield 15, 3) := by decide +kernel
theorem dX3_copyFrom_47 : decode cX3_copyFrom 47 = .ok (.iconst 0, 1) := by decide +kernel
theorem dX3_copyFrom_48 : decode cX3_copyFrom 48 = .ok (.bipush 6, 2) := by decide +kernel
theorem dX3_copyFrom_50 : decode cX3_copyFrom 50 = .ok (.invokestatic 31, 3) := by decide +kernel
theorem dX3_copyFrom_53 : decode cX3_copyFrom 53 = .ok (.aload_n 1, 1) := by decide +kernel
theorem dX3_copyFrom_54 : decode cX3_copyFrom 54 = .ok (.getfield 18, 3) := by decide +kernel
theorem dX3_copyFrom_57 : decode cX3_copyFrom 57 = .ok (.iconst 0, 1) := by decide +kernel
theorem dX3_copyFrom_58 : decode cX3_copyFrom 58 = .ok (.aload_n 0, 1) := by decide +kernel
theorem dX3_copyFrom_59 : decode cX3_copyFrom 59 = .ok (.getfield 18, 3) := by decide +kernel
theorem dX3_copyFrom_62 : decode cX3_copyFrom 62 = .ok (.iconst 0, 1) := by decide +kernel
theorem dX3_copyFrom_63 : decode cX3_copyFrom 63 = .ok (.bipush 6, 2) := by decide +kernel
theorem dX3_copyFrom_65 : decode cX3_copyFrom 65 = .ok (.invokestatic 31, 3) := by decide +kernel
theorem dX3_copyFrom_68 : decode cX3_copyFrom 68 = .ok (.return_, 1) := by decide +kernel
def s_Land_copyFrom_47 (g : z_G) : z_G := (z_let (α := z_G) (z_up g 43 0 (g 47 0)) fun g7q => (z_let (α := z_G) (z_up g7q 43 1 (g7q 47 1)) fun g8q => (z_let (α := z_G) (z_up g8q 43 2 (g8q 47 2)) fun g9q => (z_let (α := z_G) (z_cp g9q 48 44 0 0 4) fun g10q => (z_let (α := z_G) (z_cp g10q 49 45 0 0 6) fun g11q => (z_let (α := z_G) (z_cp g11q 50 46 0 0 6) fun g12q => g12q))))))
set_option maxHeartbeats 1000000 in
set_option maxRecDepth 20000 in
theorem c_Land_copyFrom_47 {X : z_X} {l : Launch} {o : z_G} (g : z_G) : z_MV X l 71 yX3_copyFrom cX3_copyFrom 2 none 1 60 [.ref (z_ad X 43), .ref (z_ad X 47)] g o (s_Land_copyFrom_47 g) o := by
  obtain ⟨r, h⟩ : ∃ r, s_Land_copyFrom_47 g = r := ⟨_, rfl⟩
  rw [h]
  unfold s_Land_copyFrom_47 at h
  refine z_metv (by decide) (Nat.le_of_ble_eq_true rfl) (fun E hl hE hret => ?_)
  subst hl
  refine z_aload_n hE 0 dX3_copyFrom_0 rfl ?_
  refine z_aload_n hE 1 dX3_copyFrom_1 rfl ?_
  refine z_get hE f_RX3_21 (by decide) e_47 rfl dX3_copyFrom_2 ?_
  obtain ⟨g7q, eg7q, h⟩ := z_let_eq h
  refine z_put hE f_RX3_21 ft_3 (by decide) e_43 rfl (tyX3_ok 0 (by decide)) rfl rfl (Nat.le_of_ble_eq_true rfl) (u_43_0 eg7q) dX3_copyFrom_5 ?_
  refine z_aload_n hE 0 dX3_copyFrom_8 rfl ?_
  refine z_aload_n hE 1 dX3_copyFrom_9 rfl ?_
  refine z_get hE f_RX3_25 (by decide) e_47 rfl dX3_copyFrom_10 ?_
  obtain ⟨g8q, eg8q, h⟩ := z_let_eq h
  refine z_put hE f_RX3_25 ft_3 (by decide) e_43 rfl (tyX3_ok 1 (by decide)) rfl rfl (Nat.le_of_ble_eq_true rfl) (u_43_1 eg8q) dX3_copyFrom_13 ?_
  refine z_aload_n hE 0 dX3_copyFrom_16 rfl ?_
  refine z_aload_n hE 1 dX3_copyFrom_17 rfl ?_
  refine z_get hE f_RX3_28 (by decide) e_47 rfl dX3_copyFrom_18 ?_
  obtain ⟨g9q, eg9q, h⟩ := z_let_eq h
  refine z_put hE f_RX3_28 ft_3 (by decide) e_43 rfl (tyX3_ok 2 (by decide)) rfl rfl (Nat.le_of_ble_eq_true rfl) (u_43_2 eg9q) dX3_copyFrom_21 ?_
  refine z_aload_n hE 1 dX3_copyFrom_24 rfl ?_
  refine z_get hE f_RX3_9 (by decide) e_47 rfl dX3_copyFrom_25 ?_
  refine z_iconst (v := 0) hE dX3_copyFrom_28 rfl ?_
  refine z_aload_n hE 0 dX3_copyFrom_29 rfl ?_
  refine z_get hE f_RX3_9 (by decide) e_43 rfl dX3_copyFrom_30 ?_
  refine z_iconst (v := 0) hE dX3_copyFrom_33 rfl ?_
  refine z_iconst (v := 4) hE dX3_copyFrom_34 rfl ?_
  obtain ⟨g10q, eg10q, h⟩ := z_let_eq h
  refine z_copy hE l_RX3_31 (by decide) (by decide) e_48 e_44 (by decide) (by decide) (by decide) (by decide) (by decide) (by decide) (Nat.le_of_ble_eq_true rfl) (uc_44 eg10q) dX3_copyFrom_35 ?_
  refine z_aload_n hE 1 dX3_copyFrom_38 rfl ?_
  refine z_get hE f_RX3_15 (by decide) e_47 rfl dX3_copyFrom_39 ?_
  refine z_iconst (v := 0) hE dX3_copyFrom_42 rfl ?_
  refine z_aload_n hE 0 dX3_copyFrom_43 rfl ?_
  refine z_get hE f_RX3_15 (by decide) e_43 rfl dX3_copyFrom_44 ?_
  refine z_iconst (v := 0) hE dX3_copyFrom_47 rfl ?_
  refine z_bipush (v := 6) hE dX3_copyFrom_48 rfl ?_
  obtain ⟨g11q, eg11q, h⟩ := z_let_eq h
  refine z_copy hE l_RX3_31 (by decide) (by decide) e_49 e_45 (by decide) (by decide) (by decide) (by decide) (by decide) (by decide) (Nat.le_of_ble_eq_true rfl) (uc_45 eg11q) dX3_copyFrom_50 ?_
  refine z_aload_n hE 1 dX3_copyFrom_53 rfl ?_
  refine z_get hE f_RX3_18 (by decide) e_47 rfl dX3_copyFrom_54 ?_
  refine z_iconst (v := 0) hE dX3_copyFrom_57 rfl ?_
  refine z_aload_n hE 0 dX3_copyFrom_58 rfl ?_
  refine z_get hE f_RX3_18 (by decide) e_43 rfl dX3_copyFrom_59 ?_
  refine z_iconst (v := 0) hE dX3_copyFrom_62 rfl ?_
  refine z_bipush (v := 6) hE dX3_copyFrom_63 rfl ?_
  obtain ⟨g12q, eg12q, h⟩ := z_let_eq h
  refine z_copy hE l_RX3_31 (by decide) (by decide) e_50 e_46 (by decide) (by decide) (by decide) (by decide) (by decide) (by decide) (Nat.le_of_ble_eq_true rfl) (uc_46 eg12q) dX3_copyFrom_65 ?_
  subst h
  exact hret _ _ dX3_copyFrom_68
theorem dX0_copyFrom_0 : decode cX0_copyFrom 0 = .ok (.aload_n 1, 1) := by decide +kernel
theorem dX0_copyFrom_1 : decode cX0_copyFrom 1 = .ok (.getfield 9, 3) := by decide +kernel
theorem dX0_copyFrom_4 : decode cX0_copyFrom 4 = .ok (.iconst 0, 1) := by decide +kernel
theorem dX0_copyFrom_5 : decode cX0_copyFrom 5 = .ok (.aload_n 0, 1) := by decide +kernel
theorem dX0_copyFrom_6 : decode cX0_copyFrom 6 = .ok (.getfield 9, 3) := by decide +kernel
theorem dX0_copyFrom_9 : decode cX0_copyFrom 9 = .ok (.iconst 0, 1) := by decide +kernel
theorem dX0_copyFrom_10 : decode cX0_copyFrom 10 = .ok (.bipush 6, 2) := by decide +kernel
theorem dX0_copyFrom_12 : decode cX0_copyFrom 12 = .ok (.invokestatic 18, 3) := by decide +kernel
theorem dX0_copyFrom_15 : decode cX0_copyFrom 15 = .ok (.aload_n 1, 1) := by decide +kernel
theorem dX0_copyFrom_16 : decode cX0_copyFrom 16 = .ok (.getfield 15, 3) := by decide +kernel
theorem dX0_copyFrom_19 : decode cX0_copyFrom 19 = .ok (.iconst 0, 1) := by decide +kernel
theorem dX0_copyFrom_20 : decode cX0_copyFrom 20 = .ok (.aload_n 0, 1) := by decide +kernel
theorem dX0_copyFrom_21 : decode cX0_copyFrom 21 = .ok (.getfield 15, 3) := by decide +kernel
theorem dX0_copyFrom_24 : decode cX0_copyFrom 24 = .ok (.iconst 0, 1) := by decide +kernel
theorem dX0_copyFrom_25 : decode cX0_copyFrom 25 = .ok (.bipush 6, 2) := by decide +kernel
theorem dX0_copyFrom_27 : decode cX0_copyFrom 27 = .ok (.invokestatic 18, 3) := by decide +kernel
theorem dX0_copyFrom_30 : decode cX0_copyFrom 30 = .ok (.aload_n 0, 1) := by decide +kernel
theorem dX0_copyFrom_31 : decode cX0_copyFrom 31 = .ok (.aload_n 1, 1) := by decide +kernel
theorem dX0_copyFrom_32 : decode cX0_copyFrom 32 = .ok (.getfield 24, 3) := by decide +kernel
theorem dX0_copyFrom_35 : decode cX0_copyFrom 35 = .ok (.putfield 24, 3) := by decide +kernel
theorem dX0_copyFrom_38 : decode cX0_copyFrom 38 = .ok (.aload_n 0, 1) := by decide +kernel
theorem dX0_copyFrom_39 : decode cX0_copyFrom 39 = .ok (.aload_n 1, 1) := by decide +kernel
theorem dX0_copyFrom_40 : decode cX0_copyFrom 40 = .ok (.getfield 28, 3) := by decide +kernel
theorem dX0_copyFrom_43 : decode cX0_copyFrom 43 = .ok (.putfield 28, 3) := by decide +kernel
theorem dX0_copyFrom_46 : decode cX0_copyFrom 46 = .ok (.return_, 1) := by decide +kernel
def s_Col_copyFrom (c0 : Nat) (c1 : Nat) (g : z_G) : z_G := (z_let (α := z_G) (z_cp g (3 * c1 + 1) (3 * c0 + 1) 0 0 6) fun g5q => (z_let (α := z_G) (z_cp g5q (3 * c1 + 2) (3 * c0 + 2) 0 0 6) fun g6q => (z_let (α := z_G) (z_up g6q (3 * c0) 2 (g6q (3 * c1) 2)) fun g7q => (z_let (α := z_G) (z_up g7q (3 * c0) 3 (g7q (3 * c1) 3)) fun g8q => g8q))))
set_option maxHeartbeats 1000000 in
set_option maxRecDepth 20000 in
theorem c_Col_copyFrom {X : z_X} {l : Launch} {o : z_G} (c0 : Nat) (c1 : Nat) (g : z_G) (hc0 : c0 < 13) (hc1 : c1 < 13) : z_MV X l 71 yX0_copyFrom cX0_copyFrom 2 none 1 60 [.ref (z_ad X (3 * c0)), .ref (z_ad X (3 * c1))] g o (s_Col_copyFrom c0 c1 g) o := by
  obtain ⟨r, h⟩ : ∃ r, s_Col_copyFrom c0 c1 g = r := ⟨_, rfl⟩
  rw [h]
  unfold s_Col_copyFrom at h
  refine z_metv (by decide) (Nat.le_of_ble_eq_true rfl) (fun E hl hE hret => ?_)
  subst hl
  refine z_aload_n hE 1 dX0_copyFrom_0 rfl ?_
  refine z_get hE f_RX0_9 (by omega) (e_col hc1) rfl dX0_copyFrom_1 ?_
  refine z_iconst (v := 0) hE dX0_copyFrom_4 rfl ?_
  refine z_aload_n hE 0 dX0_copyFrom_5 rfl ?_
  refine z_get hE f_RX0_9 (by omega) (e_col hc0) rfl dX0_copyFrom_6 ?_
  refine z_iconst (v := 0) hE dX0_copyFrom_9 rfl ?_
  refine z_bipush (v := 6) hE dX0_copyFrom_10 rfl ?_
  obtain ⟨g5q, eg5q, h⟩ := z_let_eq h
  refine z_copy hE l_RX0_18 (by omega) (by omega) (e_spot hc1) (e_spot hc0) (by decide) (by decide) (by decide) (by decide) (by decide) (by decide) (Nat.le_of_ble_eq_true rfl) (uc_spot hc0 eg5q) dX0_copyFrom_12 ?_
  refine z_aload_n hE 1 dX0_copyFrom_15 rfl ?_
  refine z_get hE f_RX0_15 (by omega) (e_col hc1) rfl dX0_copyFrom_16 ?_
  refine z_iconst (v := 0) hE dX0_copyFrom_19 rfl ?_
  refine z_aload_n hE 0 dX0_copyFrom_20 rfl ?_
  refine z_get hE f_RX0_15 (by omega) (e_col hc0) rfl dX0_copyFrom_21 ?_
  refine z_iconst (v := 0) hE dX0_copyFrom_24 rfl ?_
  refine z_bipush (v := 6) hE dX0_copyFrom_25 rfl ?_
  obtain ⟨g6q, eg6q, h⟩ := z_let_eq h
  refine z_copy hE l_RX0_18 (by omega) (by omega) (e_right hc1) (e_right hc0) (by decide) (by decide) (by decide) (by decide) (by decide) (by decide) (Nat.le_of_ble_eq_true rfl) (uc_right hc0 eg6q) dX0_copyFrom_27 ?_
  refine z_aload_n hE 0 dX0_copyFrom_30 rfl ?_
  refine z_aload_n hE 1 dX0_copyFrom_31 rfl ?_
  refine z_get hE f_RX0_24 (by omega) (e_col hc1) rfl dX0_copyFrom_32 ?_
  obtain ⟨g7q, eg7q, h⟩ := z_let_eq h
  refine z_put hE f_RX0_24 ft_0 (by omega) (e_col hc0) rfl (tyX0_ok 2 (by decide)) rfl rfl (Nat.le_of_ble_eq_true rfl) (u_col_2 hc0 eg7q) dX0_copyFrom_35 ?_
  refine z_aload_n hE 0 dX0_copyFrom_38 rfl ?_
  refine z_aload_n hE 1 dX0_copyFrom_39 rfl ?_
  refine z_get hE f_RX0_28 (by omega) (e_col hc1) rfl dX0_copyFrom_40 ?_
  obtain ⟨g8q, eg8q, h⟩ := z_let_eq h
  refine z_put hE f_RX0_28 ft_0 (by omega) (e_col hc0) rfl (tyX0_ok 3 (by decide)) rfl rfl (Nat.le_of_ble_eq_true rfl) (u_col_3 hc0 eg8q) dX0_copyFrom_43 ?_
  subst h
  exact hret _ _ dX0_copyFrom_46
theorem dX6_copyFrom_0 : decode cX6_copyFrom 0 = .ok (.aload_n 1, 1) := by decide +kernel
theorem dX6_copyFrom_1 : decode cX6_copyFrom 1 = .ok (.getfield 9, 3) := by decide +kernel
theorem dX6_copyFrom_4 : decode cX6_copyFrom 4 = .ok (.iconst 0, 1) := by decide +kernel
theorem dX6_copyFrom_5 : decode cX6_copyFrom 5 = .ok (.aload_n 0, 1) := by decide +kernel
theorem dX6_copyFrom_6 : decode cX6_copyFrom 6 = .ok (.getfield 9, 3) := by decide +kernel
theorem dX6_copyFrom_9 : decode cX6_copyFrom 9 = .ok (.iconst 0, 1) := by decide +kernel
theorem dX6_copyFrom_10 : decode cX6_copyFrom 10 = .ok (.bipush 6, 2) := by decide +kernel
theorem dX6_copyFrom_12 : decode cX6_copyFrom 12 = .ok (.invokestatic 22, 3) := by decide +kernel
theorem dX6_copyFrom_15 : decode cX6_copyFrom 15 = .ok (.aload_n 1, 1) := by decide +kernel
theorem dX6_copyFrom_16 : decode cX6_copyFrom 16 = .ok (.getfield 15, 3) := by decide +kernel
theorem dX6_copyFrom_19 : decode cX6_copyFrom 19 = .ok (.iconst 0, 1) := by decide +kernel
theorem dX6_copyFrom_20 : decode cX6_copyFrom 20 = .ok (.aload_n 0, 1) := by decide +kernel
theorem dX6_copyFrom_21 : decode cX6_copyFrom 21 = .ok (.getfield 15, 3) := by decide +kernel
theorem dX6_copyFrom_24 : decode cX6_copyFrom 24 = .ok (.iconst 0, 1) := by decide +kernel
theorem dX6_copyFrom_25 : decode cX6_copyFrom 25 = .ok (.bipush 6, 2) := by decide +kernel
theorem dX6_copyFrom_27 : decode cX6_copyFrom 27 = .ok (.invokestatic 22, 3) := by decide +kernel
theorem dX6_copyFrom_30 : decode cX6_copyFrom 30 = .ok (.aload_n 0, 1) := by decide +kernel
theorem dX6_copyFrom_31 : decode cX6_copyFrom 31 = .ok (.aload_n 1, 1) := by decide +kernel
theorem dX6_copyFrom_32 : decode cX6_copyFrom 32 = .ok (.getfield 18, 3) := by decide +kernel
theorem dX6_copyFrom_35 : decode cX6_copyFrom 35 = .ok (.putfield 18, 3) := by decide +kernel
theorem dX6_copyFrom_38 : decode cX6_copyFrom 38 = .ok (.return_, 1) := by decide +kernel
def s_Row_copyFrom_51_54 (g : z_G) : z_G := (z_let (α := z_G) (z_cp g 55 52 0 0 6) fun g4q => (z_let (α := z_G) (z_cp g4q 56 53 0 0 6) fun g5q => (z_let (α := z_G) (z_up g5q 51 2 (g5q 54 2)) fun g6q => g6q)))
set_option maxHeartbeats 1000000 in
set_option maxRecDepth 20000 in
theorem c_Row_copyFrom_51_54 {X : z_X} {l : Launch} {o : z_G} (g : z_G) : z_MV X l 71 yX6_copyFrom cX6_copyFrom 2 none 1 60 [.ref (z_ad X 51), .ref (z_ad X 54)] g o (s_Row_copyFrom_51_54 g) o := by
  obtain ⟨r, h⟩ : ∃ r, s_Row_copyFrom_51_54 g = r := ⟨_, rfl⟩
  rw [h]
  unfold s_Row_copyFrom_51_54 at h
  refine z_metv (by decide) (Nat.le_of_ble_eq_true rfl) (fun E hl hE hret => ?_)
  subst hl
  refine z_aload_n hE 1 dX6_copyFrom_0 rfl ?_
  refine z_get hE f_RX6_9 (by decide) e_54 rfl dX6_copyFrom_1 ?_
  refine z_iconst (v := 0) hE dX6_copyFrom_4 rfl ?_
  refine z_aload_n hE 0 dX6_copyFrom_5 rfl ?_
  refine z_get hE f_RX6_9 (by decide) e_51 rfl dX6_copyFrom_6 ?_
  refine z_iconst (v := 0) hE dX6_copyFrom_9 rfl ?_
  refine z_bipush (v := 6) hE dX6_copyFrom_10 rfl ?_
  obtain ⟨g4q, eg4q, h⟩ := z_let_eq h
  refine z_copy hE l_RX6_22 (by decide) (by decide) e_55 e_52 (by decide) (by decide) (by decide) (by decide) (by decide) (by decide) (Nat.le_of_ble_eq_true rfl) (uc_52 eg4q) dX6_copyFrom_12 ?_
  refine z_aload_n hE 1 dX6_copyFrom_15 rfl ?_
  refine z_get hE f_RX6_15 (by decide) e_54 rfl dX6_copyFrom_16 ?_
  refine z_iconst (v := 0) hE dX6_copyFrom_19 rfl ?_
  refine z_aload_n hE 0 dX6_copyFrom_20 rfl ?_
  refine z_get hE f_RX6_15 (by decide) e_51 rfl dX6_copyFrom_21 ?_
  refine z_iconst (v := 0) hE dX6_copyFrom_24 rfl ?_
  refine z_bipush (v := 6) hE dX6_copyFrom_25 rfl ?_
  obtain ⟨g5q, eg5q, h⟩ := z_let_eq h
  refine z_copy hE l_RX6_22 (by decide) (by decide) e_56 e_53 (by decide) (by decide) (by decide) (by decide) (by decide) (by decide) (Nat.le_of_ble_eq_true rfl) (uc_53 eg5q) dX6_copyFrom_27 ?_
  refine z_aload_n hE 0 dX6_copyFrom_30 rfl ?_
  refine z_aload_n hE 1 dX6_copyFrom_31 rfl ?_
  refine z_get hE f_RX6_18 (by decide) e_54 rfl dX6_copyFrom_32 ?_
  obtain ⟨g6q, eg6q, h⟩ := z_let_eq h
  refine z_put hE f_RX6_18 ft_6 (by decide) e_51 rfl (tyX6_ok 2 (by decide)) rfl rfl (Nat.le_of_ble_eq_true rfl) (u_51_2 eg6q) dX6_copyFrom_35 ?_
  subst h
  exact hret _ _ dX6_copyFrom_38
theorem dX9_takeWhatWasRead_0 : decode cX9_takeWhatWasRead 0 = .ok (.aload_n 0, 1) := by decide +kernel
theorem dX9_takeWhatWasRead_1 : decode cX9_takeWhatWasRead 1 = .ok (.getfield 23, 3) := by decide +kernel
theorem dX9_takeWhatWasRead_4 : decode cX9_takeWhatWasRead 4 = .ok (.aload_n 0, 1) := by decide +kernel
theorem dX9_takeWhatWasRead_5 : decode cX9_takeWhatWasRead 5 = .ok (.getfield 16, 3) := by decide +kernel
theorem dX9_takeWhatWasRead_8 : decode cX9_takeWhatWasRead 8 = .ok (.getfield 280, 3) := by decide +kernel
theorem dX9_takeWhatWasRead_11 : decode cX9_takeWhatWasRead 11 = .ok (.invokevirtual 281, 3) := by decide +kernel
theorem dX9_takeWhatWasRead_14 : decode cX9_takeWhatWasRead 14 = .ok (.aload_n 0, 1) := by decide +kernel
theorem dX9_takeWhatWasRead_15 : decode cX9_takeWhatWasRead 15 = .ok (.getfield 30, 3) := by decide +kernel
theorem dX9_takeWhatWasRead_18 : decode cX9_takeWhatWasRead 18 = .ok (.aload_n 0, 1) := by decide +kernel
theorem dX9_takeWhatWasRead_19 : decode cX9_takeWhatWasRead 19 = .ok (.getfield 16, 3) := by decide +kernel
theorem dX9_takeWhatWasRead_22 : decode cX9_takeWhatWasRead 22 = .ok (.getfield 284, 3) := by decide +kernel
theorem dX9_takeWhatWasRead_25 : decode cX9_takeWhatWasRead 25 = .ok (.invokevirtual 213, 3) := by decide +kernel
theorem dX9_takeWhatWasRead_28 : decode cX9_takeWhatWasRead 28 = .ok (.aload_n 0, 1) := by decide +kernel
theorem dX9_takeWhatWasRead_29 : decode cX9_takeWhatWasRead 29 = .ok (.getfield 40, 3) := by decide +kernel
theorem dX9_takeWhatWasRead_32 : decode cX9_takeWhatWasRead 32 = .ok (.aload_n 0, 1) := by decide +kernel
theorem dX9_takeWhatWasRead_33 : decode cX9_takeWhatWasRead 33 = .ok (.getfield 16, 3) := by decide +kernel
theorem dX9_takeWhatWasRead_36 : decode cX9_takeWhatWasRead 36 = .ok (.getfield 285, 3) := by decide +kernel
theorem dX9_takeWhatWasRead_39 : decode cX9_takeWhatWasRead 39 = .ok (.invokevirtual 286, 3) := by decide +kernel
theorem dX9_takeWhatWasRead_42 : decode cX9_takeWhatWasRead 42 = .ok (.aload_n 0, 1) := by decide +kernel
theorem dX9_takeWhatWasRead_43 : decode cX9_takeWhatWasRead 43 = .ok (.getfield 47, 3) := by decide +kernel
theorem dX9_takeWhatWasRead_46 : decode cX9_takeWhatWasRead 46 = .ok (.iconst 0, 1) := by decide +kernel
theorem dX9_takeWhatWasRead_47 : decode cX9_takeWhatWasRead 47 = .ok (.putfield 202, 3) := by decide +kernel
theorem dX9_takeWhatWasRead_50 : decode cX9_takeWhatWasRead 50 = .ok (.aload_n 0, 1) := by decide +kernel
theorem dX9_takeWhatWasRead_51 : decode cX9_takeWhatWasRead 51 = .ok (.getfield 56, 3) := by decide +kernel
theorem dX9_takeWhatWasRead_54 : decode cX9_takeWhatWasRead 54 = .ok (.iconst 0, 1) := by decide +kernel
theorem dX9_takeWhatWasRead_55 : decode cX9_takeWhatWasRead 55 = .ok (.putfield 193, 3) := by decide +kernel
theorem dX9_takeWhatWasRead_58 : decode cX9_takeWhatWasRead 58 = .ok (.aload_n 0, 1) := by decide +kernel
theorem dX9_takeWhatWasRead_59 : decode cX9_takeWhatWasRead 59 = .ok (.getfield 60, 3) := by decide +kernel
theorem dX9_takeWhatWasRead_62 : decode cX9_takeWhatWasRead 62 = .ok (.iconst 0, 1) := by decide +kernel
theorem dX9_takeWhatWasRead_63 : decode cX9_takeWhatWasRead 63 = .ok (.putfield 193, 3) := by decide +kernel
theorem dX9_takeWhatWasRead_66 : decode cX9_takeWhatWasRead 66 = .ok (.return_, 1) := by decide +kernel
def s_Top_takeWhatWasRead (g : z_G) : z_G := (z_let (α := z_G) (z_up (s_Row_copyFrom_51_54 (s_Col_copyFrom 0 2 (s_Land_copyFrom_47 g))) 57 3 0) fun g4q => (z_let (α := z_G) (z_up g4q 61 1 0) fun g5q => (z_let (α := z_G) (z_up g5q 63 1 0) fun g6q => g6q)))
set_option maxHeartbeats 1000000 in
set_option maxRecDepth 20000 in
theorem c_Top_takeWhatWasRead {X : z_X} {l : Launch} {o : z_G} (g : z_G) : z_MV X l 71 yX9_takeWhatWasRead cX9_takeWhatWasRead 1 none 2 81 [.ref (z_ad X 39)] g o (s_Top_takeWhatWasRead g) o := by
  obtain ⟨r, h⟩ : ∃ r, s_Top_takeWhatWasRead g = r := ⟨_, rfl⟩
  rw [h]
  unfold s_Top_takeWhatWasRead at h
  refine z_metv (by decide) (Nat.le_of_ble_eq_true rfl) (fun E hl hE hret => ?_)
  subst hl
  refine z_aload_n hE 0 dX9_takeWhatWasRead_0 rfl ?_
  refine z_get hE f_RX9_23 (by decide) e_39 rfl dX9_takeWhatWasRead_1 ?_
  refine z_aload_n hE 0 dX9_takeWhatWasRead_4 rfl ?_
  refine z_get hE f_RX9_16 (by decide) e_39 rfl dX9_takeWhatWasRead_5 ?_
  refine z_get hE f_RX9_280 (by decide) e_41 rfl dX9_takeWhatWasRead_8 ?_
  refine z_vV (rest := []) (av := [.ref (z_ad X 47)]) hE (c_Land_copyFrom_47 g) l_RX9_281 (by decide) (by decide) e_43 rfl ⟨by decide, by decide⟩ dX9_takeWhatWasRead_11 rfl (Nat.le_of_ble_eq_true rfl) ?_
  refine z_aload_n hE 0 dX9_takeWhatWasRead_14 rfl ?_
  refine z_get hE f_RX9_30 (by decide) e_39 rfl dX9_takeWhatWasRead_15 ?_
  refine z_aload_n hE 0 dX9_takeWhatWasRead_18 rfl ?_
  refine z_get hE f_RX9_16 (by decide) e_39 rfl dX9_takeWhatWasRead_19 ?_
  refine z_get hE f_RX9_284 (by decide) e_41 rfl dX9_takeWhatWasRead_22 ?_
  refine z_vV (rest := []) (av := [.ref (z_ad X 6)]) hE (c_Col_copyFrom 0 2 (s_Land_copyFrom_47 g) (by decide) (by decide)) l_RX9_213 (by decide) (by decide) e_0 rfl ⟨by decide, by decide⟩ dX9_takeWhatWasRead_25 rfl (Nat.le_of_ble_eq_true rfl) ?_
  refine z_aload_n hE 0 dX9_takeWhatWasRead_28 rfl ?_
  refine z_get hE f_RX9_40 (by decide) e_39 rfl dX9_takeWhatWasRead_29 ?_
  refine z_aload_n hE 0 dX9_takeWhatWasRead_32 rfl ?_
  refine z_get hE f_RX9_16 (by decide) e_39 rfl dX9_takeWhatWasRead_33 ?_
  refine z_get hE f_RX9_285 (by decide) e_41 rfl dX9_takeWhatWasRead_36 ?_
  refine z_vV (rest := []) (av := [.ref (z_ad X 54)]) hE (c_Row_copyFrom_51_54 (s_Col_copyFrom 0 2 (s_Land_copyFrom_47 g))) l_RX9_286 (by decide) (by decide) e_51 rfl ⟨by decide, by decide⟩ dX9_takeWhatWasRead_39 rfl (Nat.le_of_ble_eq_true rfl) ?_
  refine z_aload_n hE 0 dX9_takeWhatWasRead_42 rfl ?_
  refine z_get hE f_RX9_47 (by decide) e_39 rfl dX9_takeWhatWasRead_43 ?_
  refine z_iconst (v := 0) hE dX9_takeWhatWasRead_46 rfl ?_
  obtain ⟨g4q, eg4q, h⟩ := z_let_eq h
  refine z_put hE f_RX9_202 ft_7 (by decide) e_57 rfl (tyX7_ok 3 (by decide)) rfl rfl (Nat.le_of_ble_eq_true rfl) (u_57_3 eg4q) dX9_takeWhatWasRead_47 ?_
  refine z_aload_n hE 0 dX9_takeWhatWasRead_50 rfl ?_
  refine z_get hE f_RX9_56 (by decide) e_39 rfl dX9_takeWhatWasRead_51 ?_
  refine z_iconst (v := 0) hE dX9_takeWhatWasRead_54 rfl ?_
  obtain ⟨g5q, eg5q, h⟩ := z_let_eq h
  refine z_put hE f_RX9_193 ft_4 (by decide) e_61 rfl (tyX4_ok 1 (by decide)) rfl rfl (Nat.le_of_ble_eq_true rfl) (u_61_1 eg5q) dX9_takeWhatWasRead_55 ?_
  refine z_aload_n hE 0 dX9_takeWhatWasRead_58 rfl ?_
  refine z_get hE f_RX9_60 (by decide) e_39 rfl dX9_takeWhatWasRead_59 ?_
  refine z_iconst (v := 0) hE dX9_takeWhatWasRead_62 rfl ?_
  obtain ⟨g6q, eg6q, h⟩ := z_let_eq h
  refine z_put hE f_RX9_193 ft_4 (by decide) e_63 rfl (tyX4_ok 1 (by decide)) rfl rfl (Nat.le_of_ble_eq_true rfl) (u_63_1 eg6q) dX9_takeWhatWasRead_63 ?_
  subst h
  exact hret _ _ dX9_takeWhatWasRead_66
theorem dX9_lay_0 : decode cX9_lay 0 = .ok (.aload_n 0, 1) := by decide +kernel
theorem dX9_lay_1 : decode cX9_lay 1 = .ok (.getfield 16, 3) := by decide +kernel
theorem dX9_lay_4 : decode cX9_lay 4 = .ok (.aload_n 0, 1) := by decide +kernel
theorem dX9_lay_5 : decode cX9_lay 5 = .ok (.getfield 9, 3) := by decide +kernel
theorem dX9_lay_8 : decode cX9_lay 8 = .ok (.aload_n 0, 1) := by decide +kernel
theorem dX9_lay_9 : decode cX9_lay 9 = .ok (.getfield 96, 3) := by decide +kernel
theorem dX9_lay_12 : decode cX9_lay 12 = .ok (.invokevirtual 85, 3) := by decide +kernel
theorem dX9_lay_15 : decode cX9_lay 15 = .ok (.bipush (-4), 2) := by decide +kernel
theorem dX9_lay_17 : decode cX9_lay 17 = .ok (.if_icmp .ne 13, 3) := by decide +kernel
theorem dX9_lay_20 : decode cX9_lay 20 = .ok (.aload_n 0, 1) := by decide +kernel
theorem dX9_lay_21 : decode cX9_lay 21 = .ok (.getfield 16, 3) := by decide +kernel
theorem dX9_lay_24 : decode cX9_lay 24 = .ok (.invokevirtual 100, 3) := by decide +kernel
theorem dX9_lay_27 : decode cX9_lay 27 = .ok (.ifCond .ne 6, 3) := by decide +kernel
theorem dX9_lay_30 : decode cX9_lay 30 = .ok (.bipush (-2), 2) := by decide +kernel
theorem dX9_lay_32 : decode cX9_lay 32 = .ok (.ireturn, 1) := by decide +kernel
theorem dX9_lay_33 : decode cX9_lay 33 = .ok (.aload_n 0, 1) := by decide +kernel
theorem dX9_lay_34 : decode cX9_lay 34 = .ok (.invokevirtual 89, 3) := by decide +kernel
theorem dX9_lay_37 : decode cX9_lay 37 = .ok (.aload_n 0, 1) := by decide +kernel
theorem dX9_lay_38 : decode cX9_lay 38 = .ok (.getfield 23, 3) := by decide +kernel
theorem dX9_lay_41 : decode cX9_lay 41 = .ok (.getfield 104, 3) := by decide +kernel
theorem dX9_lay_44 : decode cX9_lay 44 = .ok (.ireturn, 1) := by decide +kernel
def s_Top_lay_b30  (g : z_G) : Option (Int32 × z_G) := (some ((-2), g))
def s_Top_lay (g : z_G) : Option (Int32 × z_G) := (Option.bind (s_Read_readAll_40 (g 39 1) g) fun r4q => (if r4q.1 = (-4) then (if (s_Read_hasHomeAndMan r4q.2) = 0 then (s_Top_lay_b30 r4q.2) else (some (((s_Top_takeWhatWasRead r4q.2) 43 1), (s_Top_takeWhatWasRead r4q.2)))) else (s_Top_lay_b30 r4q.2)))
set_option maxHeartbeats 1000000 in
set_option maxRecDepth 20000 in
theorem b_Top_lay_b30 {X : z_X} {E : z_ET} {o : z_G} (hE : z_EV X E cX9_lay 1 RX9 6 137 71) {r : Int32 × z_G} (hret : ∀ (pc : Nat) (lv : List (Nat × Value)), decode cX9_lay pc = .ok (.ireturn, 1) → z_V X E 1 r.2 o pc lv [.int r.1])  (g : z_G)  (h : s_Top_lay_b30 g = some r) : z_V X E 1 g o 30 [] [] := by
  unfold s_Top_lay_b30 at h
  refine z_bipush (v := (-2)) hE dX9_lay_30 rfl ?_
  obtain rfl := Option.some.inj h
  exact hret _ _ dX9_lay_32
set_option maxHeartbeats 1000000 in
set_option maxRecDepth 20000 in
theorem c_Top_lay {X : z_X} {l : Launch} {o : z_G} (g : z_G) (r : Int32 × z_G) (h : s_Top_lay g = some r) : z_MI X l 71 yX9_lay cX9_lay 1 (some .int) 6 137 [.ref (z_ad X 39)] g o r.2 o r.1 := by
  unfold s_Top_lay at h
  refine z_meti (ty := .int) rfl rfl (by decide) (Nat.le_of_ble_eq_true rfl) (fun E hl hE hret => ?_)
  subst hl
  refine z_aload_n hE 0 dX9_lay_0 rfl ?_
  refine z_get hE f_RX9_16 (by decide) e_39 rfl dX9_lay_1 ?_
  refine z_aload_n hE 0 dX9_lay_4 rfl ?_
  refine z_get hE f_RX9_9 (by decide) e_39 rfl dX9_lay_5 ?_
  refine z_aload_n hE 0 dX9_lay_8 rfl ?_
  refine z_get hE f_RX9_96 (by decide) e_39 rfl dX9_lay_9 ?_
  obtain ⟨r4q, hr4q, h⟩ := z_bind_some h
  refine z_iV (rest := []) (av := [.ref (z_ad X 40), .int (g 39 1)]) hE (c_Read_readAll_40 (g 39 1) g r4q hr4q) l_RX9_85 (by decide) (by decide) e_41 rfl ⟨by decide, by decide⟩ dX9_lay_12 rfl (Nat.le_of_ble_eq_true rfl) ?_
  refine z_bipush (v := (-4)) hE dX9_lay_15 rfl ?_
  refine z_icmp_ne hE 30 dX9_lay_17 rfl (fun c5q => ?_) (fun c5q => ?_)
  · replace h := z_f c5q h
    refine z_sub [] [] rfl ?_
    exact b_Top_lay_b30 hE hret r4q.2 h
  · replace h := z_t c5q h
    refine z_aload_n hE 0 dX9_lay_20 rfl ?_
    refine z_get hE f_RX9_16 (by decide) e_39 rfl dX9_lay_21 ?_
    refine z_iV (rest := []) (av := []) hE (c_Read_hasHomeAndMan r4q.2) l_RX9_100 (by decide) (by decide) e_41 rfl ⟨by decide, by decide⟩ dX9_lay_24 rfl (Nat.le_of_ble_eq_true rfl) ?_
    refine z_if_ne hE 33 dX9_lay_27 rfl (fun c6q => ?_) (fun c6q => ?_)
    · replace h := z_f c6q h
      refine z_aload_n hE 0 dX9_lay_33 rfl ?_
      refine z_vV (rest := []) (av := []) hE (c_Top_takeWhatWasRead r4q.2) l_RX9_89 (by decide) (by decide) e_39 rfl ⟨by decide, by decide⟩ dX9_lay_34 rfl (Nat.le_of_ble_eq_true rfl) ?_
      refine z_aload_n hE 0 dX9_lay_37 rfl ?_
      refine z_get hE f_RX9_23 (by decide) e_39 rfl dX9_lay_38 ?_
      refine z_get hE f_RX9_104 (by decide) e_43 rfl dX9_lay_41 ?_
      obtain rfl := Option.some.inj h
      exact hret _ _ dX9_lay_44
    · replace h := z_t c6q h
      refine z_sub [] [] rfl ?_
      exact b_Top_lay_b30 hE hret r4q.2 h
theorem dX9_isMan_0 : decode cX9_isMan 0 = .ok (.iload_n 1, 1) := by decide +kernel
theorem dX9_isMan_1 : decode cX9_isMan 1 = .ok (.iconst 0, 1) := by decide +kernel
theorem dX9_isMan_2 : decode cX9_isMan 2 = .ok (.aload_n 0, 1) := by decide +kernel
theorem dX9_isMan_3 : decode cX9_isMan 3 = .ok (.getfield 23, 3) := by decide +kernel
theorem dX9_isMan_6 : decode cX9_isMan 6 = .ok (.getfield 104, 3) := by decide +kernel
theorem dX9_isMan_9 : decode cX9_isMan 9 = .ok (.iconst 1, 1) := by decide +kernel
theorem dX9_isMan_10 : decode cX9_isMan 10 = .ok (.isub, 1) := by decide +kernel
theorem dX9_isMan_11 : decode cX9_isMan 11 = .ok (.invokestatic 92, 3) := by decide +kernel
theorem dX9_isMan_14 : decode cX9_isMan 14 = .ok (.ireturn, 1) := by decide +kernel
def s_Top_isMan (x1 : Int32) (g : z_G) : Int32 := (s_Top_isWithin x1 0 ((g 43 1) - 1))
set_option maxHeartbeats 1000000 in
set_option maxRecDepth 20000 in
theorem t_Top_isMan (x1 : Int32) (g : z_G) : z_bit (s_Top_isMan x1 g) = true := by
  unfold s_Top_isMan
  repeat' split
  all_goals (first | rfl | decide | exact (t_Top_isWithin x1 0 ((g 43 1) - 1)) | exact (t_Top_isWithin x1 0 ((g 43 1) - 1)) | exact (t_Top_isWithin x1 0 ((g 43 1) - 1)) | exact (t_Top_isWithin x1 0 ((g 43 1) - 1)))
set_option maxHeartbeats 1000000 in
set_option maxRecDepth 20000 in
theorem c_Top_isMan {X : z_X} {l : Launch} {o : z_G} (x1 : Int32) (g : z_G) : z_MI X l 71 yX9_isMan cX9_isMan 2 (some .boolean) 1 22 [.ref (z_ad X 39), .int x1] g o g o (s_Top_isMan x1 g) := by
  obtain ⟨r, h⟩ : ∃ r, s_Top_isMan x1 g = r := ⟨_, rfl⟩
  rw [h]
  unfold s_Top_isMan at h
  refine z_metz (by decide) (Nat.le_of_ble_eq_true rfl) (fun E hl hE hret => ?_)
  subst hl
  refine z_iload_n hE 1 dX9_isMan_0 rfl ?_
  refine z_iconst (v := 0) hE dX9_isMan_1 rfl ?_
  refine z_aload_n hE 0 dX9_isMan_2 rfl ?_
  refine z_get hE f_RX9_23 (by decide) e_39 rfl dX9_isMan_3 ?_
  refine z_get hE f_RX9_104 (by decide) e_43 rfl dX9_isMan_6 ?_
  refine z_iconst (v := 1) hE dX9_isMan_9 rfl ?_
  refine z_isub hE dX9_isMan_10 ?_
  refine z_iS (rest := []) (av := [.int x1, .int 0, .int ((g 43 1) - 1)]) hE (c_Top_isWithin x1 0 ((g 43 1) - 1) g) l_RX9_92 (by decide) ⟨by decide, by decide⟩ dX9_isMan_11 rfl (Nat.le_of_ble_eq_true rfl) ?_
  subst h
  exact hret _ _ (t_Top_isWithin x1 0 ((g 43 1) - 1)) dX9_isMan_14
theorem dX0_isTied_0 : decode cX0_isTied 0 = .ok (.aload_n 0, 1) := by decide +kernel
theorem dX0_isTied_1 : decode cX0_isTied 1 = .ok (.getfield 24, 3) := by decide +kernel
theorem dX0_isTied_4 : decode cX0_isTied 4 = .ok (.iload_n 1, 1) := by decide +kernel
theorem dX0_isTied_5 : decode cX0_isTied 5 = .ok (.ishr, 1) := by decide +kernel
theorem dX0_isTied_6 : decode cX0_isTied 6 = .ok (.iconst 1, 1) := by decide +kernel
theorem dX0_isTied_7 : decode cX0_isTied 7 = .ok (.iand, 1) := by decide +kernel
theorem dX0_isTied_8 : decode cX0_isTied 8 = .ok (.iconst 1, 1) := by decide +kernel
theorem dX0_isTied_9 : decode cX0_isTied 9 = .ok (.if_icmp .ne 7, 3) := by decide +kernel
theorem dX0_isTied_12 : decode cX0_isTied 12 = .ok (.iconst 1, 1) := by decide +kernel
theorem dX0_isTied_13 : decode cX0_isTied 13 = .ok (.goto 4, 3) := by decide +kernel
theorem dX0_isTied_16 : decode cX0_isTied 16 = .ok (.iconst 0, 1) := by decide +kernel
theorem dX0_isTied_17 : decode cX0_isTied 17 = .ok (.ireturn, 1) := by decide +kernel
def s_Col_isTied (c0 : Nat) (x1 : Int32) (g : z_G) : Int32 := (if (((g (3 * c0) 2) >>> (x1 &&& 31)) &&& 1) = 1 then 1 else 0)
set_option maxHeartbeats 1000000 in
set_option maxRecDepth 20000 in
theorem t_Col_isTied (c0 : Nat) (x1 : Int32) (g : z_G) : z_bit (s_Col_isTied c0 x1 g) = true := by
  unfold s_Col_isTied
  repeat' split
  all_goals (first | rfl | decide | rfl)
set_option maxHeartbeats 1000000 in
set_option maxRecDepth 20000 in
theorem c_Col_isTied {X : z_X} {l : Launch} {o : z_G} (c0 : Nat) (x1 : Int32) (g : z_G) (hc0 : c0 < 13) : z_MI X l 71 yX0_isTied cX0_isTied 2 (some .boolean) 0 0 [.ref (z_ad X (3 * c0)), .int x1] g o g o (s_Col_isTied c0 x1 g) := by
  obtain ⟨r, h⟩ : ∃ r, s_Col_isTied c0 x1 g = r := ⟨_, rfl⟩
  rw [h]
  unfold s_Col_isTied at h
  refine z_metz (by decide) (Nat.le_of_ble_eq_true rfl) (fun E hl hE hret => ?_)
  subst hl
  refine z_aload_n hE 0 dX0_isTied_0 rfl ?_
  refine z_get hE f_RX0_24 (by omega) (e_col hc0) rfl dX0_isTied_1 ?_
  refine z_iload_n hE 1 dX0_isTied_4 rfl ?_
  refine z_ishr hE dX0_isTied_5 ?_
  refine z_iconst (v := 1) hE dX0_isTied_6 rfl ?_
  refine z_iand hE dX0_isTied_7 ?_
  refine z_iconst (v := 1) hE dX0_isTied_8 rfl ?_
  refine z_icmp_ne hE 16 dX0_isTied_9 rfl (fun c2q => ?_) (fun c2q => ?_)
  · replace h := z_f c2q h
    refine z_iconst (v := 0) hE dX0_isTied_16 rfl ?_
    subst h
    exact hret _ _ z_b0 dX0_isTied_17
  · replace h := z_t c2q h
    refine z_iconst (v := 1) hE dX0_isTied_12 rfl ?_
    refine z_goto hE 17 dX0_isTied_13 rfl ?_
    subst h
    exact hret _ _ z_b1 dX0_isTied_17
theorem dX9_asNumber_0 : decode cX9_asNumber 0 = .ok (.iload_n 0, 1) := by decide +kernel
theorem dX9_asNumber_1 : decode cX9_asNumber 1 = .ok (.ifCond .eq 7, 3) := by decide +kernel
theorem dX9_asNumber_4 : decode cX9_asNumber 4 = .ok (.iconst 1, 1) := by decide +kernel
theorem dX9_asNumber_5 : decode cX9_asNumber 5 = .ok (.goto 4, 3) := by decide +kernel
theorem dX9_asNumber_8 : decode cX9_asNumber 8 = .ok (.iconst 0, 1) := by decide +kernel
theorem dX9_asNumber_9 : decode cX9_asNumber 9 = .ok (.ireturn, 1) := by decide +kernel
def s_Top_asNumber (x0 : Int32) : Int32 := (if x0 = 0 then 0 else 1)
set_option maxHeartbeats 1000000 in
set_option maxRecDepth 20000 in
theorem c_Top_asNumber {X : z_X} {l : Launch} {o : z_G} (x0 : Int32) (g : z_G) : z_MI X l 71 yX9_asNumber cX9_asNumber 1 (some .int) 0 0 [.int x0] g o g o (s_Top_asNumber x0) := by
  obtain ⟨r, h⟩ : ∃ r, s_Top_asNumber x0 = r := ⟨_, rfl⟩
  rw [h]
  unfold s_Top_asNumber at h
  refine z_meti (ty := .int) rfl rfl (by decide) (Nat.le_of_ble_eq_true rfl) (fun E hl hE hret => ?_)
  subst hl
  refine z_iload_n hE 0 dX9_asNumber_0 rfl ?_
  refine z_if_eq hE 8 dX9_asNumber_1 rfl (fun c2q => ?_) (fun c2q => ?_)
  · replace h := z_t c2q h
    refine z_iconst (v := 0) hE dX9_asNumber_8 rfl ?_
    subst h
    exact hret _ _ dX9_asNumber_9
  · replace h := z_f c2q h
    refine z_iconst (v := 1) hE dX9_asNumber_4 rfl ?_
    refine z_goto hE 9 dX9_asNumber_5 rfl ?_
    subst h
    exact hret _ _ dX9_asNumber_9
theorem dX8_cellOf_0 : decode cX8_cellOf 0 = .ok (.iload_n 0, 1) := by decide +kernel
theorem dX8_cellOf_1 : decode cX8_cellOf 1 = .ok (.bipush 8, 2) := by decide +kernel
theorem dX8_cellOf_3 : decode cX8_cellOf 3 = .ok (.idiv, 1) := by decide +kernel
theorem dX8_cellOf_4 : decode cX8_cellOf 4 = .ok (.ireturn, 1) := by decide +kernel
def s_Ways_cellOf (x0 : Int32) : Int32 := (x0 / 8)
set_option maxHeartbeats 1000000 in
set_option maxRecDepth 20000 in
theorem c_Ways_cellOf {X : z_X} {l : Launch} {o : z_G} (x0 : Int32) (g : z_G) : z_MI X l 71 yX8_cellOf cX8_cellOf 1 (some .int) 0 0 [.int x0] g o g o (s_Ways_cellOf x0) := by
  obtain ⟨r, h⟩ : ∃ r, s_Ways_cellOf x0 = r := ⟨_, rfl⟩
  rw [h]
  unfold s_Ways_cellOf at h
  refine z_meti (ty := .int) rfl rfl (by decide) (Nat.le_of_ble_eq_true rfl) (fun E hl hE hret => ?_)
  subst hl
  refine z_iload_n hE 0 dX8_cellOf_0 rfl ?_
  refine z_bipush (v := 8) hE dX8_cellOf_1 rfl ?_
  refine z_idiv hE dX8_cellOf_3 (by decide) ?_
  subst h
  exact hret _ _ dX8_cellOf_4
theorem dX8_columnOf_0 : decode cX8_columnOf 0 = .ok (.iload_n 0, 1) := by decide +kernel
theorem dX8_columnOf_1 : decode cX8_columnOf 1 = .ok (.bipush 16, 2) := by decide +kernel
theorem dX8_columnOf_3 : decode cX8_columnOf 3 = .ok (.irem, 1) := by decide +kernel
theorem dX8_columnOf_4 : decode cX8_columnOf 4 = .ok (.ireturn, 1) := by decide +kernel
def s_Ways_columnOf (x0 : Int32) : Int32 := (z_rem x0 16)
set_option maxHeartbeats 1000000 in
set_option maxRecDepth 20000 in
theorem c_Ways_columnOf {X : z_X} {l : Launch} {o : z_G} (x0 : Int32) (g : z_G) : z_MI X l 71 yX8_columnOf cX8_columnOf 1 (some .int) 0 0 [.int x0] g o g o (s_Ways_columnOf x0) := by
  obtain ⟨r, h⟩ : ∃ r, s_Ways_columnOf x0 = r := ⟨_, rfl⟩
  rw [h]
  unfold s_Ways_columnOf at h
  refine z_meti (ty := .int) rfl rfl (by decide) (Nat.le_of_ble_eq_true rfl) (fun E hl hE hret => ?_)
  subst hl
  refine z_iload_n hE 0 dX8_columnOf_0 rfl ?_
  refine z_bipush (v := 16) hE dX8_columnOf_1 rfl ?_
  refine z_irem hE dX8_columnOf_3 (by decide) ?_
  subst h
  exact hret _ _ dX8_columnOf_4
theorem dX8_rowOf_0 : decode cX8_rowOf 0 = .ok (.iload_n 0, 1) := by decide +kernel
theorem dX8_rowOf_1 : decode cX8_rowOf 1 = .ok (.bipush 16, 2) := by decide +kernel
theorem dX8_rowOf_3 : decode cX8_rowOf 3 = .ok (.idiv, 1) := by decide +kernel
theorem dX8_rowOf_4 : decode cX8_rowOf 4 = .ok (.ireturn, 1) := by decide +kernel
def s_Ways_rowOf (x0 : Int32) : Int32 := (x0 / 16)
set_option maxHeartbeats 1000000 in
set_option maxRecDepth 20000 in
theorem c_Ways_rowOf {X : z_X} {l : Launch} {o : z_G} (x0 : Int32) (g : z_G) : z_MI X l 71 yX8_rowOf cX8_rowOf 1 (some .int) 0 0 [.int x0] g o g o (s_Ways_rowOf x0) := by
  obtain ⟨r, h⟩ : ∃ r, s_Ways_rowOf x0 = r := ⟨_, rfl⟩
  rw [h]
  unfold s_Ways_rowOf at h
  refine z_meti (ty := .int) rfl rfl (by decide) (Nat.le_of_ble_eq_true rfl) (fun E hl hE hret => ?_)
  subst hl
  refine z_iload_n hE 0 dX8_rowOf_0 rfl ?_
  refine z_bipush (v := 16) hE dX8_rowOf_1 rfl ?_
  refine z_idiv hE dX8_rowOf_3 (by decide) ?_
  subst h
  exact hret _ _ dX8_rowOf_4
theorem dX8_apart_0 : decode cX8_apart 0 = .ok (.iload_n 0, 1) := by decide +kernel
theorem dX8_apart_1 : decode cX8_apart 1 = .ok (.invokestatic 19, 3) := by decide +kernel
theorem dX8_apart_4 : decode cX8_apart 4 = .ok (.iload_n 1, 1) := by decide +kernel
theorem dX8_apart_5 : decode cX8_apart 5 = .ok (.invokestatic 19, 3) := by decide +kernel
theorem dX8_apart_8 : decode cX8_apart 8 = .ok (.isub, 1) := by decide +kernel
theorem dX8_apart_9 : decode cX8_apart 9 = .ok (.invokestatic 28, 3) := by decide +kernel
theorem dX8_apart_12 : decode cX8_apart 12 = .ok (.iload_n 0, 1) := by decide +kernel
theorem dX8_apart_13 : decode cX8_apart 13 = .ok (.invokestatic 22, 3) := by decide +kernel
theorem dX8_apart_16 : decode cX8_apart 16 = .ok (.iload_n 1, 1) := by decide +kernel
theorem dX8_apart_17 : decode cX8_apart 17 = .ok (.invokestatic 22, 3) := by decide +kernel
theorem dX8_apart_20 : decode cX8_apart 20 = .ok (.isub, 1) := by decide +kernel
theorem dX8_apart_21 : decode cX8_apart 21 = .ok (.invokestatic 28, 3) := by decide +kernel
theorem dX8_apart_24 : decode cX8_apart 24 = .ok (.invokestatic 33, 3) := by decide +kernel
theorem dX8_apart_27 : decode cX8_apart 27 = .ok (.ireturn, 1) := by decide +kernel
def s_Ways_apart (x0 : Int32) (x1 : Int32) : Int32 := (z_max (z_abs ((s_Ways_columnOf x0) - (s_Ways_columnOf x1))) (z_abs ((s_Ways_rowOf x0) - (s_Ways_rowOf x1))))
set_option maxHeartbeats 1000000 in
set_option maxRecDepth 20000 in
theorem c_Ways_apart {X : z_X} {l : Launch} {o : z_G} (x0 : Int32) (x1 : Int32) (g : z_G) : z_MI X l 71 yX8_apart cX8_apart 2 (some .int) 1 30 [.int x0, .int x1] g o g o (s_Ways_apart x0 x1) := by
  obtain ⟨r, h⟩ : ∃ r, s_Ways_apart x0 x1 = r := ⟨_, rfl⟩
  rw [h]
  unfold s_Ways_apart at h
  refine z_meti (ty := .int) rfl rfl (by decide) (Nat.le_of_ble_eq_true rfl) (fun E hl hE hret => ?_)
  subst hl
  refine z_iload_n hE 0 dX8_apart_0 rfl ?_
  refine z_iS (rest := []) (av := [.int x0]) hE (c_Ways_columnOf x0 g) l_RX8_19 (by decide) ⟨by decide, by decide⟩ dX8_apart_1 rfl (Nat.le_of_ble_eq_true rfl) ?_
  refine z_iload_n hE 1 dX8_apart_4 rfl ?_
  refine z_iS (rest := [.int (s_Ways_columnOf x0)]) (av := [.int x1]) hE (c_Ways_columnOf x1 g) l_RX8_19 (by decide) ⟨by decide, by decide⟩ dX8_apart_5 rfl (Nat.le_of_ble_eq_true rfl) ?_
  refine z_isub hE dX8_apart_8 ?_
  refine z_mabs hE l_RX8_28 (by decide) (Nat.le_of_ble_eq_true rfl) dX8_apart_9 ?_
  refine z_iload_n hE 0 dX8_apart_12 rfl ?_
  refine z_iS (rest := [.int (z_abs ((s_Ways_columnOf x0) - (s_Ways_columnOf x1)))]) (av := [.int x0]) hE (c_Ways_rowOf x0 g) l_RX8_22 (by decide) ⟨by decide, by decide⟩ dX8_apart_13 rfl (Nat.le_of_ble_eq_true rfl) ?_
  refine z_iload_n hE 1 dX8_apart_16 rfl ?_
  refine z_iS (rest := [.int (s_Ways_rowOf x0), .int (z_abs ((s_Ways_columnOf x0) - (s_Ways_columnOf x1)))]) (av := [.int x1]) hE (c_Ways_rowOf x1 g) l_RX8_22 (by decide) ⟨by decide, by decide⟩ dX8_apart_17 rfl (Nat.le_of_ble_eq_true rfl) ?_
  refine z_isub hE dX8_apart_20 ?_
  refine z_mabs hE l_RX8_28 (by decide) (Nat.le_of_ble_eq_true rfl) dX8_apart_21 ?_
  refine z_mmax hE l_RX8_33 (by decide) (Nat.le_of_ble_eq_true rfl) dX8_apart_24 ?_
  subst h
  exact hret _ _ dX8_apart_27
theorem dX0_isLost_0 : decode cX0_isLost 0 = .ok (.aload_n 0, 1) := by decide +kernel
theorem dX0_isLost_1 : decode cX0_isLost 1 = .ok (.getfield 9, 3) := by decide +kernel
theorem dX0_isLost_4 : decode cX0_isLost 4 = .ok (.iload_n 1, 1) := by decide +kernel
theorem dX0_isLost_5 : decode cX0_isLost 5 = .ok (.iaload, 1) := by decide +kernel
theorem dX0_isLost_6 : decode cX0_isLost 6 = .ok (.invokestatic 65, 3) := by decide +kernel
theorem dX0_isLost_9 : decode cX0_isLost 9 = .ok (.aload_n 0, 1) := by decide +kernel
theorem dX0_isLost_10 : decode cX0_isLost 10 = .ok (.getfield 9, 3) := by decide +kernel
theorem dX0_isLost_13 : decode cX0_isLost 13 = .ok (.iconst 0, 1) := by decide +kernel
theorem dX0_isLost_14 : decode cX0_isLost 14 = .ok (.iaload, 1) := by decide +kernel
theorem dX0_isLost_15 : decode cX0_isLost 15 = .ok (.invokestatic 65, 3) := by decide +kernel
theorem dX0_isLost_18 : decode cX0_isLost 18 = .ok (.invokestatic 68, 3) := by decide +kernel
theorem dX0_isLost_21 : decode cX0_isLost 21 = .ok (.aload_n 2, 1) := by decide +kernel
theorem dX0_isLost_22 : decode cX0_isLost 22 = .ok (.getfield 72, 3) := by decide +kernel
theorem dX0_isLost_25 : decode cX0_isLost 25 = .ok (.if_icmp .le 7, 3) := by decide +kernel
theorem dX0_isLost_28 : decode cX0_isLost 28 = .ok (.iconst 1, 1) := by decide +kernel
theorem dX0_isLost_29 : decode cX0_isLost 29 = .ok (.goto 4, 3) := by decide +kernel
theorem dX0_isLost_32 : decode cX0_isLost 32 = .ok (.iconst 0, 1) := by decide +kernel
theorem dX0_isLost_33 : decode cX0_isLost 33 = .ok (.ireturn, 1) := by decide +kernel
def s_Col_isLost (c0 : Nat) (x1 : Int32) (g : z_G) : Option (Int32) := (z_ck (z_inb x1 6) (if (s_Ways_apart (s_Ways_cellOf (z_rd g (3 * c0 + 1) x1)) (s_Ways_cellOf (z_rd g (3 * c0 + 1) 0))) ≤ (g 43 2) then (some 0) else (some 1)))
set_option maxHeartbeats 1000000 in
set_option maxRecDepth 20000 in
theorem c_Col_isLost {X : z_X} {l : Launch} {o : z_G} (c0 : Nat) (x1 : Int32) (g : z_G) (hc0 : c0 < 13) (r : Int32) (h : s_Col_isLost c0 x1 g = some r) : z_MI X l 71 yX0_isLost cX0_isLost 3 (some .boolean) 2 51 [.ref (z_ad X (3 * c0)), .int x1, .ref (z_ad X 43)] g o g o r := by
  unfold s_Col_isLost at h
  refine z_metz (by decide) (Nat.le_of_ble_eq_true rfl) (fun E hl hE hret => ?_)
  subst hl
  refine z_aload_n hE 0 dX0_isLost_0 rfl ?_
  refine z_get hE f_RX0_9 (by omega) (e_col hc0) rfl dX0_isLost_1 ?_
  refine z_iload_n hE 1 dX0_isLost_4 rfl ?_
  obtain ⟨k3q, h⟩ := z_ck_some h
  refine z_iald hE (by omega) (e_spot hc0) k3q dX0_isLost_5 ?_
  refine z_iS (rest := []) (av := [.int (z_rd g (3 * c0 + 1) x1)]) hE (c_Ways_cellOf (z_rd g (3 * c0 + 1) x1) g) l_RX0_65 (by decide) ⟨by decide, by decide⟩ dX0_isLost_6 rfl (Nat.le_of_ble_eq_true rfl) ?_
  refine z_aload_n hE 0 dX0_isLost_9 rfl ?_
  refine z_get hE f_RX0_9 (by omega) (e_col hc0) rfl dX0_isLost_10 ?_
  refine z_iconst (v := 0) hE dX0_isLost_13 rfl ?_
  refine z_iald hE (by omega) (e_spot hc0) (by decide) dX0_isLost_14 ?_
  refine z_iS (rest := [.int (s_Ways_cellOf (z_rd g (3 * c0 + 1) x1))]) (av := [.int (z_rd g (3 * c0 + 1) 0)]) hE (c_Ways_cellOf (z_rd g (3 * c0 + 1) 0) g) l_RX0_65 (by decide) ⟨by decide, by decide⟩ dX0_isLost_15 rfl (Nat.le_of_ble_eq_true rfl) ?_
  refine z_iS (rest := []) (av := [.int (s_Ways_cellOf (z_rd g (3 * c0 + 1) x1)), .int (s_Ways_cellOf (z_rd g (3 * c0 + 1) 0))]) hE (c_Ways_apart (s_Ways_cellOf (z_rd g (3 * c0 + 1) x1)) (s_Ways_cellOf (z_rd g (3 * c0 + 1) 0)) g) l_RX0_68 (by decide) ⟨by decide, by decide⟩ dX0_isLost_18 rfl (Nat.le_of_ble_eq_true rfl) ?_
  refine z_aload_n hE 2 dX0_isLost_21 rfl ?_
  refine z_get hE f_RX0_72 (by decide) e_43 rfl dX0_isLost_22 ?_
  refine z_icmp_le hE 32 dX0_isLost_25 rfl (fun c4q => ?_) (fun c4q => ?_)
  · replace h := z_t c4q h
    refine z_iconst (v := 0) hE dX0_isLost_32 rfl ?_
    obtain rfl := Option.some.inj h
    exact hret _ _ z_b0 dX0_isLost_33
  · replace h := z_f c4q h
    refine z_iconst (v := 1) hE dX0_isLost_28 rfl ?_
    refine z_goto hE 33 dX0_isLost_29 rfl ?_
    obtain rfl := Option.some.inj h
    exact hret _ _ z_b1 dX0_isLost_33
