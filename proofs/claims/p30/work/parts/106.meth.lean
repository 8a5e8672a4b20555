theorem dX9_lean_0 : decode cX9_lean 0 = .ok (.iload_n 1, 1) := by decide +kernel
theorem dX9_lean_1 : decode cX9_lean 1 = .ok (.iconst 0, 1) := by decide +kernel
theorem dX9_lean_2 : decode cX9_lean 2 = .ok (.iconst 1, 1) := by decide +kernel
theorem dX9_lean_3 : decode cX9_lean 3 = .ok (.invokestatic 92, 3) := by decide +kernel
theorem dX9_lean_6 : decode cX9_lean 6 = .ok (.ifCond .ne 5, 3) := by decide +kernel
theorem dX9_lean_9 : decode cX9_lean 9 = .ok (.iconst (-1), 1) := by decide +kernel
theorem dX9_lean_10 : decode cX9_lean 10 = .ok (.ireturn, 1) := by decide +kernel
theorem dX9_lean_11 : decode cX9_lean 11 = .ok (.iconst 0, 1) := by decide +kernel
theorem dX9_lean_12 : decode cX9_lean 12 = .ok (.istore_n 2, 1) := by decide +kernel
theorem dX9_lean_13 : decode cX9_lean 13 = .ok (.iconst 0, 1) := by decide +kernel
theorem dX9_lean_14 : decode cX9_lean 14 = .ok (.istore_n 3, 1) := by decide +kernel
theorem dX9_lean_15 : decode cX9_lean 15 = .ok (.iconst 0, 1) := by decide +kernel
theorem dX9_lean_16 : decode cX9_lean 16 = .ok (.istore 4, 2) := by decide +kernel
theorem dX9_lean_18 : decode cX9_lean 18 = .ok (.iload 4, 2) := by decide +kernel
theorem dX9_lean_20 : decode cX9_lean 20 = .ok (.bipush 8, 2) := by decide +kernel
theorem dX9_lean_22 : decode cX9_lean 22 = .ok (.if_icmp .ge 36, 3) := by decide +kernel
theorem dX9_lean_25 : decode cX9_lean 25 = .ok (.aload_n 0, 1) := by decide +kernel
theorem dX9_lean_26 : decode cX9_lean 26 = .ok (.getfield 30, 3) := by decide +kernel
theorem dX9_lean_29 : decode cX9_lean 29 = .ok (.iload 4, 2) := by decide +kernel
theorem dX9_lean_31 : decode cX9_lean 31 = .ok (.aload_n 0, 1) := by decide +kernel
theorem dX9_lean_32 : decode cX9_lean 32 = .ok (.getfield 23, 3) := by decide +kernel
theorem dX9_lean_35 : decode cX9_lean 35 = .ok (.invokevirtual 261, 3) := by decide +kernel
theorem dX9_lean_38 : decode cX9_lean 38 = .ok (.istore 5, 2) := by decide +kernel
theorem dX9_lean_40 : decode cX9_lean 40 = .ok (.iload 5, 2) := by decide +kernel
theorem dX9_lean_42 : decode cX9_lean 42 = .ok (.iload_n 3, 1) := by decide +kernel
theorem dX9_lean_43 : decode cX9_lean 43 = .ok (.if_icmp .le 9, 3) := by decide +kernel
theorem dX9_lean_46 : decode cX9_lean 46 = .ok (.iload 5, 2) := by decide +kernel
theorem dX9_lean_48 : decode cX9_lean 48 = .ok (.istore_n 3, 1) := by decide +kernel
theorem dX9_lean_49 : decode cX9_lean 49 = .ok (.iload 4, 2) := by decide +kernel
theorem dX9_lean_51 : decode cX9_lean 51 = .ok (.istore_n 2, 1) := by decide +kernel
theorem dX9_lean_52 : decode cX9_lean 52 = .ok (.iinc 4 1, 3) := by decide +kernel
theorem dX9_lean_55 : decode cX9_lean 55 = .ok (.goto (-37), 3) := by decide +kernel
theorem dX9_lean_58 : decode cX9_lean 58 = .ok (.iload_n 1, 1) := by decide +kernel
theorem dX9_lean_59 : decode cX9_lean 59 = .ok (.ifCond .ne 7, 3) := by decide +kernel
theorem dX9_lean_62 : decode cX9_lean 62 = .ok (.iload_n 2, 1) := by decide +kernel
theorem dX9_lean_63 : decode cX9_lean 63 = .ok (.goto 4, 3) := by decide +kernel
theorem dX9_lean_66 : decode cX9_lean 66 = .ok (.iload_n 3, 1) := by decide +kernel
theorem dX9_lean_67 : decode cX9_lean 67 = .ok (.ireturn, 1) := by decide +kernel
def s_Top_lean_b52 (g : z_G) (k18 : Int32 → Int32 → Int32 → Int32 → Option (Int32)) (x1 : Int32) (x2 : Int32) (x3 : Int32) (x4 : Int32) : Option (Int32) := (k18 x1 x2 x3 (x4 + 1))
def s_Top_lean_L18 (g : z_G) : Nat → Int32 → Int32 → Int32 → Int32 → Option (Int32)
  | 0, _, _, _, _ => none
  | n + 1, x1, x2, x3, x4 => (if 8 ≤ x4 then (if x1 = 0 then (some x2) else (some x3)) else (Option.bind (s_Col_menLooking 0 x4 g) fun r8q => (if r8q ≤ x3 then (s_Top_lean_b52 g (s_Top_lean_L18 g n) x1 x2 x3 x4) else (s_Top_lean_b52 g (s_Top_lean_L18 g n) x1 x4 r8q x4))))
def s_Top_lean (x1 : Int32) (g : z_G) : Option (Int32) := (if (s_Top_isWithin x1 0 1) = 0 then (some (-1)) else (s_Top_lean_L18 g z_F x1 0 0 0))
set_option maxHeartbeats 1000000 in
set_option maxRecDepth 20000 in
theorem b_Top_lean_b52 {X : z_X} {E : z_ET} {o : z_G} (hE : z_EV X E cX9_lean 6 RX9 2 44 71) {g : z_G} {r : Int32} (hret : ∀ (pc : Nat) (lv : List (Nat × Value)), decode cX9_lean pc = .ok (.ireturn, 1) → z_V X E 6 g o pc lv [.int r]) (k18 : Int32 → Int32 → Int32 → Int32 → Option (Int32)) (hk18 : ∀ (x1 : Int32) (x2 : Int32) (x3 : Int32) (x4 : Int32), k18 x1 x2 x3 x4 = some r → z_V X E 6 g o 18 [(0, .ref (z_ad X 39)), (1, .int x1), (2, .int x2), (3, .int x3), (4, .int x4)] []) (x1 : Int32) (x2 : Int32) (x3 : Int32) (x4 : Int32)  (h : s_Top_lean_b52 g k18 x1 x2 x3 x4 = some r) : z_V X E 6 g o 52 [(0, .ref (z_ad X 39)), (1, .int x1), (2, .int x2), (3, .int x3), (4, .int x4)] [] := by
  unfold s_Top_lean_b52 at h
  refine z_iinc (v := x4 + 1) hE 4 [(4, .int (x4 + 1)), (0, .ref (z_ad X 39)), (1, .int x1), (2, .int x2), (3, .int x3)] dX9_lean_52 rfl rfl (by decide) rfl ?_
  refine z_goto hE 18 dX9_lean_55 rfl ?_
  refine z_sub [(0, .ref (z_ad X 39)), (1, .int x1), (2, .int x2), (3, .int x3), (4, .int (x4 + 1))] [1, 2, 3, 4, 0] rfl ?_
  exact hk18 x1 x2 x3 (x4 + 1) h
set_option maxHeartbeats 1000000 in
set_option maxRecDepth 20000 in
theorem b_Top_lean_L18 {X : z_X} {E : z_ET} {o : z_G} (hE : z_EV X E cX9_lean 6 RX9 2 44 71) {g : z_G} {r : Int32} (hret : ∀ (pc : Nat) (lv : List (Nat × Value)), decode cX9_lean pc = .ok (.ireturn, 1) → z_V X E 6 g o pc lv [.int r]) : ∀ (n : Nat) (x1 : Int32) (x2 : Int32) (x3 : Int32) (x4 : Int32), s_Top_lean_L18 g n x1 x2 x3 x4 = some r → z_V X E 6 g o 18 [(0, .ref (z_ad X 39)), (1, .int x1), (2, .int x2), (3, .int x3), (4, .int x4)] [] := by
  intro n
  induction n with
  | zero => intro x1 x2 x3 x4 h; exact z_none h
  | succ n ih =>
    intro x1 x2 x3 x4 h
    rw [s_Top_lean_L18] at h
    refine z_iload hE 4 dX9_lean_18 rfl ?_
    refine z_bipush (v := 8) hE dX9_lean_20 rfl ?_
    refine z_icmp_ge hE 58 dX9_lean_22 rfl (fun c6q => ?_) (fun c6q => ?_)
    · replace h := z_t c6q h
      refine z_iload_n hE 1 dX9_lean_58 rfl ?_
      refine z_if_ne hE 66 dX9_lean_59 rfl (fun c7q => ?_) (fun c7q => ?_)
      · replace h := z_f c7q h
        refine z_iload_n hE 3 dX9_lean_66 rfl ?_
        obtain rfl := Option.some.inj h
        exact hret _ _ dX9_lean_67
      · replace h := z_t c7q h
        refine z_iload_n hE 2 dX9_lean_62 rfl ?_
        refine z_goto hE 67 dX9_lean_63 rfl ?_
        obtain rfl := Option.some.inj h
        exact hret _ _ dX9_lean_67
    · replace h := z_f c6q h
      refine z_aload_n hE 0 dX9_lean_25 rfl ?_
      refine z_get hE f_RX9_30 (by decide) e_39 rfl dX9_lean_26 ?_
      refine z_iload hE 4 dX9_lean_29 rfl ?_
      refine z_aload_n hE 0 dX9_lean_31 rfl ?_
      refine z_get hE f_RX9_23 (by decide) e_39 rfl dX9_lean_32 ?_
      obtain ⟨r8q, hr8q, h⟩ := z_bind_some h
      refine z_iV (rest := []) (av := [.int x4, .ref (z_ad X 43)]) hE (c_Col_menLooking 0 x4 g (by decide) r8q hr8q) l_RX9_261 (by decide) (by decide) e_0 rfl ⟨by decide, by decide⟩ dX9_lean_35 rfl (Nat.le_of_ble_eq_true rfl) ?_
      refine z_istore hE [(5, .int r8q), (0, .ref (z_ad X 39)), (1, .int x1), (2, .int x2), (3, .int x3), (4, .int x4)] dX9_lean_38 (by decide) rfl ?_
      refine z_iload hE 0 dX9_lean_40 rfl ?_
      refine z_iload_n hE 4 dX9_lean_42 rfl ?_
      refine z_icmp_le hE 52 dX9_lean_43 rfl (fun c9q => ?_) (fun c9q => ?_)
      · replace h := z_t c9q h
        refine z_sub [(0, .ref (z_ad X 39)), (1, .int x1), (2, .int x2), (3, .int x3), (4, .int x4)] [1, 2, 3, 4, 5] rfl ?_
        exact b_Top_lean_b52 hE hret (s_Top_lean_L18 g n) ih x1 x2 x3 x4 h
      · replace h := z_f c9q h
        refine z_iload hE 0 dX9_lean_46 rfl ?_
        refine z_istore_n hE [(3, .int r8q), (5, .int r8q), (0, .ref (z_ad X 39)), (1, .int x1), (2, .int x2), (4, .int x4)] dX9_lean_48 rfl (by decide) rfl ?_
        refine z_iload hE 5 dX9_lean_49 rfl ?_
        refine z_istore_n hE [(2, .int x4), (3, .int r8q), (5, .int r8q), (0, .ref (z_ad X 39)), (1, .int x1), (4, .int x4)] dX9_lean_51 rfl (by decide) rfl ?_
        refine z_sub [(0, .ref (z_ad X 39)), (1, .int x1), (2, .int x4), (3, .int r8q), (4, .int x4)] [3, 4, 0, 1, 5] rfl ?_
        exact b_Top_lean_b52 hE hret (s_Top_lean_L18 g n) ih x1 x4 r8q x4 h
set_option maxHeartbeats 1000000 in
set_option maxRecDepth 20000 in
theorem c_Top_lean {X : z_X} {l : Launch} {o : z_G} (x1 : Int32) (g : z_G) (r : Int32) (h : s_Top_lean x1 g = some r) : z_MI X l 71 yX9_lean cX9_lean 6 (some .int) 2 44 [.ref (z_ad X 39), .int x1] g o g o r := by
  unfold s_Top_lean at h
  refine z_meti (ty := .int) rfl rfl (by decide) (Nat.le_of_ble_eq_true rfl) (fun E hl hE hret => ?_)
  subst hl
  refine z_iload_n hE 1 dX9_lean_0 rfl ?_
  refine z_iconst (v := 0) hE dX9_lean_1 rfl ?_
  refine z_iconst (v := 1) hE dX9_lean_2 rfl ?_
  refine z_iS (rest := []) (av := [.int x1, .int 0, .int 1]) hE (c_Top_isWithin x1 0 1 g) l_RX9_92 (by decide) ⟨by decide, by decide⟩ dX9_lean_3 rfl (Nat.le_of_ble_eq_true rfl) ?_
  refine z_if_ne hE 11 dX9_lean_6 rfl (fun c10q => ?_) (fun c10q => ?_)
  · replace h := z_f c10q h
    refine z_iconst (v := 0) hE dX9_lean_11 rfl ?_
    refine z_istore_n hE [(2, .int 0), (0, .ref (z_ad X 39)), (1, .int x1)] dX9_lean_12 rfl (by decide) rfl ?_
    refine z_iconst (v := 0) hE dX9_lean_13 rfl ?_
    refine z_istore_n hE [(3, .int 0), (2, .int 0), (0, .ref (z_ad X 39)), (1, .int x1)] dX9_lean_14 rfl (by decide) rfl ?_
    refine z_iconst (v := 0) hE dX9_lean_15 rfl ?_
    refine z_istore hE [(4, .int 0), (3, .int 0), (2, .int 0), (0, .ref (z_ad X 39)), (1, .int x1)] dX9_lean_16 (by decide) rfl ?_
    refine z_sub [(0, .ref (z_ad X 39)), (1, .int x1), (2, .int 0), (3, .int 0), (4, .int 0)] [3, 4, 2, 1, 0] rfl ?_
    exact b_Top_lean_L18 hE hret z_F x1 0 0 0 h
  · replace h := z_t c10q h
    refine z_iconst (v := (-1)) hE dX9_lean_9 rfl ?_
    obtain rfl := Option.some.inj h
    exact hret _ _ dX9_lean_10
theorem dX9_spotBehindStorm_0 : decode cX9_spotBehindStorm 0 = .ok (.aload_n 0, 1) := by decide +kernel
theorem dX9_spotBehindStorm_1 : decode cX9_spotBehindStorm 1 = .ok (.getfield 30, 3) := by decide +kernel
theorem dX9_spotBehindStorm_4 : decode cX9_spotBehindStorm 4 = .ok (.getfield 111, 3) := by decide +kernel
theorem dX9_spotBehindStorm_7 : decode cX9_spotBehindStorm 7 = .ok (.iload_n 1, 1) := by decide +kernel
theorem dX9_spotBehindStorm_8 : decode cX9_spotBehindStorm 8 = .ok (.iaload, 1) := by decide +kernel
theorem dX9_spotBehindStorm_9 : decode cX9_spotBehindStorm 9 = .ok (.istore_n 3, 1) := by decide +kernel
theorem dX9_spotBehindStorm_10 : decode cX9_spotBehindStorm 10 = .ok (.iconst 0, 1) := by decide +kernel
theorem dX9_spotBehindStorm_11 : decode cX9_spotBehindStorm 11 = .ok (.istore 4, 2) := by decide +kernel
theorem dX9_spotBehindStorm_13 : decode cX9_spotBehindStorm 13 = .ok (.iload 4, 2) := by decide +kernel
theorem dX9_spotBehindStorm_15 : decode cX9_spotBehindStorm 15 = .ok (.aload_n 0, 1) := by decide +kernel
theorem dX9_spotBehindStorm_16 : decode cX9_spotBehindStorm 16 = .ok (.getfield 40, 3) := by decide +kernel
theorem dX9_spotBehindStorm_19 : decode cX9_spotBehindStorm 19 = .ok (.getfield 157, 3) := by decide +kernel
theorem dX9_spotBehindStorm_22 : decode cX9_spotBehindStorm 22 = .ok (.if_icmp .ge 53, 3) := by decide +kernel
theorem dX9_spotBehindStorm_25 : decode cX9_spotBehindStorm 25 = .ok (.iload_n 2, 1) := by decide +kernel
theorem dX9_spotBehindStorm_26 : decode cX9_spotBehindStorm 26 = .ok (.iload 4, 2) := by decide +kernel
theorem dX9_spotBehindStorm_28 : decode cX9_spotBehindStorm 28 = .ok (.ishr, 1) := by decide +kernel
theorem dX9_spotBehindStorm_29 : decode cX9_spotBehindStorm 29 = .ok (.iconst 1, 1) := by decide +kernel
theorem dX9_spotBehindStorm_30 : decode cX9_spotBehindStorm 30 = .ok (.iand, 1) := by decide +kernel
theorem dX9_spotBehindStorm_31 : decode cX9_spotBehindStorm 31 = .ok (.istore 5, 2) := by decide +kernel
theorem dX9_spotBehindStorm_33 : decode cX9_spotBehindStorm 33 = .ok (.aload_n 0, 1) := by decide +kernel
theorem dX9_spotBehindStorm_34 : decode cX9_spotBehindStorm 34 = .ok (.iload_n 1, 1) := by decide +kernel
theorem dX9_spotBehindStorm_35 : decode cX9_spotBehindStorm 35 = .ok (.iload_n 3, 1) := by decide +kernel
theorem dX9_spotBehindStorm_36 : decode cX9_spotBehindStorm 36 = .ok (.aload_n 0, 1) := by decide +kernel
theorem dX9_spotBehindStorm_37 : decode cX9_spotBehindStorm 37 = .ok (.getfield 40, 3) := by decide +kernel
theorem dX9_spotBehindStorm_40 : decode cX9_spotBehindStorm 40 = .ok (.getfield 203, 3) := by decide +kernel
theorem dX9_spotBehindStorm_43 : decode cX9_spotBehindStorm 43 = .ok (.iload 4, 2) := by decide +kernel
theorem dX9_spotBehindStorm_45 : decode cX9_spotBehindStorm 45 = .ok (.iaload, 1) := by decide +kernel
theorem dX9_spotBehindStorm_46 : decode cX9_spotBehindStorm 46 = .ok (.iconst 0, 1) := by decide +kernel
theorem dX9_spotBehindStorm_47 : decode cX9_spotBehindStorm 47 = .ok (.aload_n 0, 1) := by decide +kernel
theorem dX9_spotBehindStorm_48 : decode cX9_spotBehindStorm 48 = .ok (.getfield 40, 3) := by decide +kernel
theorem dX9_spotBehindStorm_51 : decode cX9_spotBehindStorm 51 = .ok (.getfield 206, 3) := by decide +kernel
theorem dX9_spotBehindStorm_54 : decode cX9_spotBehindStorm 54 = .ok (.iload 4, 2) := by decide +kernel
theorem dX9_spotBehindStorm_56 : decode cX9_spotBehindStorm 56 = .ok (.iaload, 1) := by decide +kernel
theorem dX9_spotBehindStorm_57 : decode cX9_spotBehindStorm 57 = .ok (.iload 5, 2) := by decide +kernel
theorem dX9_spotBehindStorm_59 : decode cX9_spotBehindStorm 59 = .ok (.isub, 1) := by decide +kernel
theorem dX9_spotBehindStorm_60 : decode cX9_spotBehindStorm 60 = .ok (.invokestatic 293, 3) := by decide +kernel
theorem dX9_spotBehindStorm_63 : decode cX9_spotBehindStorm 63 = .ok (.iload 4, 2) := by decide +kernel
theorem dX9_spotBehindStorm_65 : decode cX9_spotBehindStorm 65 = .ok (.invokevirtual 209, 3) := by decide +kernel
theorem dX9_spotBehindStorm_68 : decode cX9_spotBehindStorm 68 = .ok (.istore_n 3, 1) := by decide +kernel
theorem dX9_spotBehindStorm_69 : decode cX9_spotBehindStorm 69 = .ok (.iinc 4 1, 3) := by decide +kernel
theorem dX9_spotBehindStorm_72 : decode cX9_spotBehindStorm 72 = .ok (.goto (-59), 3) := by decide +kernel
theorem dX9_spotBehindStorm_75 : decode cX9_spotBehindStorm 75 = .ok (.iload_n 3, 1) := by decide +kernel
theorem dX9_spotBehindStorm_76 : decode cX9_spotBehindStorm 76 = .ok (.ireturn, 1) := by decide +kernel
def s_Top_spotBehindStorm_L13 (g : z_G) : Nat → Int32 → Int32 → Int32 → Int32 → Option (Int32)
  | 0, _, _, _, _ => none
  | n + 1, x1, x2, x3, x4 => (if (g 51 2) ≤ x4 then (some x3) else (z_let (α := Int32) (((x2 >>> (x4 &&& 31)) &&& 1)) fun v8q => (z_ck (z_inb x4 6) (z_ck (z_inb x4 6) (Option.bind (s_Top_spotAfter x1 x3 (z_rd g 52 x4) (z_max 0 ((z_rd g 53 x4) - v8q)) x4 g) fun r11q => ((s_Top_spotBehindStorm_L13 g n) x1 x2 r11q (x4 + 1)))))))
def s_Top_spotBehindStorm (x1 : Int32) (x2 : Int32) (g : z_G) : Option (Int32) := (z_ck (z_inb x1 6) (s_Top_spotBehindStorm_L13 g z_F x1 x2 (z_rd g 1 x1) 0))
set_option maxHeartbeats 1000000 in
set_option maxRecDepth 20000 in
theorem b_Top_spotBehindStorm_L13 {X : z_X} {E : z_ET} {o : z_G} (hE : z_EV X E cX9_spotBehindStorm 6 RX9 6 149 71) {g : z_G} {r : Int32} (hret : ∀ (pc : Nat) (lv : List (Nat × Value)), decode cX9_spotBehindStorm pc = .ok (.ireturn, 1) → z_V X E 6 g o pc lv [.int r]) : ∀ (n : Nat) (x1 : Int32) (x2 : Int32) (x3 : Int32) (x4 : Int32), s_Top_spotBehindStorm_L13 g n x1 x2 x3 x4 = some r → z_V X E 6 g o 13 [(0, .ref (z_ad X 39)), (1, .int x1), (2, .int x2), (3, .int x3), (4, .int x4)] [] := by
  intro n
  induction n with
  | zero => intro x1 x2 x3 x4 h; exact z_none h
  | succ n ih =>
    intro x1 x2 x3 x4 h
    rw [s_Top_spotBehindStorm_L13] at h
    refine z_iload hE 4 dX9_spotBehindStorm_13 rfl ?_
    refine z_aload_n hE 0 dX9_spotBehindStorm_15 rfl ?_
    refine z_get hE f_RX9_40 (by decide) e_39 rfl dX9_spotBehindStorm_16 ?_
    refine z_get hE f_RX9_157 (by decide) e_51 rfl dX9_spotBehindStorm_19 ?_
    refine z_icmp_ge hE 75 dX9_spotBehindStorm_22 rfl (fun c7q => ?_) (fun c7q => ?_)
    · replace h := z_t c7q h
      refine z_iload_n hE 3 dX9_spotBehindStorm_75 rfl ?_
      obtain rfl := Option.some.inj h
      exact hret _ _ dX9_spotBehindStorm_76
    · replace h := z_f c7q h
      refine z_iload_n hE 2 dX9_spotBehindStorm_25 rfl ?_
      refine z_iload hE 4 dX9_spotBehindStorm_26 rfl ?_
      refine z_ishr hE dX9_spotBehindStorm_28 ?_
      refine z_iconst (v := 1) hE dX9_spotBehindStorm_29 rfl ?_
      refine z_iand hE dX9_spotBehindStorm_30 ?_
      obtain ⟨v8q, ev8q, h⟩ := z_let_eq h
      refine z_topi ev8q ?_
      refine z_istore hE [(5, .int v8q), (0, .ref (z_ad X 39)), (1, .int x1), (2, .int x2), (3, .int x3), (4, .int x4)] dX9_spotBehindStorm_31 (by decide) rfl ?_
      refine z_aload_n hE 1 dX9_spotBehindStorm_33 rfl ?_
      refine z_iload_n hE 2 dX9_spotBehindStorm_34 rfl ?_
      refine z_iload_n hE 4 dX9_spotBehindStorm_35 rfl ?_
      refine z_aload_n hE 1 dX9_spotBehindStorm_36 rfl ?_
      refine z_get hE f_RX9_40 (by decide) e_39 rfl dX9_spotBehindStorm_37 ?_
      refine z_get hE f_RX9_203 (by decide) e_51 rfl dX9_spotBehindStorm_40 ?_
      refine z_iload hE 5 dX9_spotBehindStorm_43 rfl ?_
      obtain ⟨k9q, h⟩ := z_ck_some h
      refine z_iald hE (by decide) e_52 k9q dX9_spotBehindStorm_45 ?_
      refine z_iconst (v := 0) hE dX9_spotBehindStorm_46 rfl ?_
      refine z_aload_n hE 1 dX9_spotBehindStorm_47 rfl ?_
      refine z_get hE f_RX9_40 (by decide) e_39 rfl dX9_spotBehindStorm_48 ?_
      refine z_get hE f_RX9_206 (by decide) e_51 rfl dX9_spotBehindStorm_51 ?_
      refine z_iload hE 5 dX9_spotBehindStorm_54 rfl ?_
      obtain ⟨k10q, h⟩ := z_ck_some h
      refine z_iald hE (by decide) e_53 k10q dX9_spotBehindStorm_56 ?_
      refine z_iload hE 0 dX9_spotBehindStorm_57 rfl ?_
      refine z_isub hE dX9_spotBehindStorm_59 ?_
      refine z_mmax hE l_RX9_293 (by decide) (Nat.le_of_ble_eq_true rfl) dX9_spotBehindStorm_60 ?_
      refine z_iload hE 5 dX9_spotBehindStorm_63 rfl ?_
      obtain ⟨r11q, hr11q, h⟩ := z_bind_some h
      refine z_iV (rest := []) (av := [.int x1, .int x3, .int (z_rd g 52 x4), .int (z_max 0 ((z_rd g 53 x4) - v8q)), .int x4]) hE (c_Top_spotAfter x1 x3 (z_rd g 52 x4) (z_max 0 ((z_rd g 53 x4) - v8q)) x4 g r11q hr11q) l_RX9_209 (by decide) (by decide) e_39 rfl ⟨by decide, by decide⟩ dX9_spotBehindStorm_65 rfl (Nat.le_of_ble_eq_true rfl) ?_
      refine z_istore_n hE [(3, .int r11q), (5, .int v8q), (0, .ref (z_ad X 39)), (1, .int x1), (2, .int x2), (4, .int x4)] dX9_spotBehindStorm_68 rfl (by decide) rfl ?_
      refine z_iinc (v := x4 + 1) hE 5 [(4, .int (x4 + 1)), (3, .int r11q), (5, .int v8q), (0, .ref (z_ad X 39)), (1, .int x1), (2, .int x2)] dX9_spotBehindStorm_69 rfl rfl (by decide) rfl ?_
      refine z_goto hE 13 dX9_spotBehindStorm_72 rfl ?_
      refine z_sub [(0, .ref (z_ad X 39)), (1, .int x1), (2, .int x2), (3, .int r11q), (4, .int (x4 + 1))] [3, 4, 5, 1, 0] rfl ?_
      exact ih x1 x2 r11q (x4 + 1) h
set_option maxHeartbeats 1000000 in
set_option maxRecDepth 20000 in
theorem c_Top_spotBehindStorm {X : z_X} {l : Launch} {o : z_G} (x1 : Int32) (x2 : Int32) (g : z_G) (r : Int32) (h : s_Top_spotBehindStorm x1 x2 g = some r) : z_MI X l 71 yX9_spotBehindStorm cX9_spotBehindStorm 6 (some .int) 6 149 [.ref (z_ad X 39), .int x1, .int x2] g o g o r := by
  unfold s_Top_spotBehindStorm at h
  refine z_meti (ty := .int) rfl rfl (by decide) (Nat.le_of_ble_eq_true rfl) (fun E hl hE hret => ?_)
  subst hl
  refine z_aload_n hE 0 dX9_spotBehindStorm_0 rfl ?_
  refine z_get hE f_RX9_30 (by decide) e_39 rfl dX9_spotBehindStorm_1 ?_
  refine z_get hE f_RX9_111 (by decide) e_0 rfl dX9_spotBehindStorm_4 ?_
  refine z_iload_n hE 1 dX9_spotBehindStorm_7 rfl ?_
  obtain ⟨k12q, h⟩ := z_ck_some h
  refine z_iald hE (by decide) e_1 k12q dX9_spotBehindStorm_8 ?_
  refine z_istore_n hE [(3, .int (z_rd g 1 x1)), (0, .ref (z_ad X 39)), (1, .int x1), (2, .int x2)] dX9_spotBehindStorm_9 rfl (by decide) rfl ?_
  refine z_iconst (v := 0) hE dX9_spotBehindStorm_10 rfl ?_
  refine z_istore hE [(4, .int 0), (3, .int (z_rd g 1 x1)), (0, .ref (z_ad X 39)), (1, .int x1), (2, .int x2)] dX9_spotBehindStorm_11 (by decide) rfl ?_
  refine z_sub [(0, .ref (z_ad X 39)), (1, .int x1), (2, .int x2), (3, .int (z_rd g 1 x1)), (4, .int 0)] [2, 3, 4, 1, 0] rfl ?_
  exact b_Top_spotBehindStorm_L13 hE hret z_F x1 x2 (z_rd g 1 x1) 0 h
theorem dX9_weightOf_0 : decode cX9_weightOf 0 = .ok (.iconst 1, 1) := by decide +kernel
theorem dX9_weightOf_1 : decode cX9_weightOf 1 = .ok (.istore_n 3, 1) := by decide +kernel
theorem dX9_weightOf_2 : decode cX9_weightOf 2 = .ok (.iconst 0, 1) := by decide +kernel
theorem dX9_weightOf_3 : decode cX9_weightOf 3 = .ok (.istore 4, 2) := by decide +kernel
theorem dX9_weightOf_5 : decode cX9_weightOf 5 = .ok (.iload 4, 2) := by decide +kernel
theorem dX9_weightOf_7 : decode cX9_weightOf 7 = .ok (.aload_n 0, 1) := by decide +kernel
theorem dX9_weightOf_8 : decode cX9_weightOf 8 = .ok (.getfield 40, 3) := by decide +kernel
theorem dX9_weightOf_11 : decode cX9_weightOf 11 = .ok (.getfield 157, 3) := by decide +kernel
theorem dX9_weightOf_14 : decode cX9_weightOf 14 = .ok (.if_icmp .ge 30, 3) := by decide +kernel
theorem dX9_weightOf_17 : decode cX9_weightOf 17 = .ok (.iload_n 3, 1) := by decide +kernel
theorem dX9_weightOf_18 : decode cX9_weightOf 18 = .ok (.iload_n 1, 1) := by decide +kernel
theorem dX9_weightOf_19 : decode cX9_weightOf 19 = .ok (.iload 4, 2) := by decide +kernel
theorem dX9_weightOf_21 : decode cX9_weightOf 21 = .ok (.ishr, 1) := by decide +kernel
theorem dX9_weightOf_22 : decode cX9_weightOf 22 = .ok (.iconst 1, 1) := by decide +kernel
theorem dX9_weightOf_23 : decode cX9_weightOf 23 = .ok (.iand, 1) := by decide +kernel
theorem dX9_weightOf_24 : decode cX9_weightOf 24 = .ok (.iconst 1, 1) := by decide +kernel
theorem dX9_weightOf_25 : decode cX9_weightOf 25 = .ok (.if_icmp .ne 7, 3) := by decide +kernel
theorem dX9_weightOf_28 : decode cX9_weightOf 28 = .ok (.iload_n 2, 1) := by decide +kernel
theorem dX9_weightOf_29 : decode cX9_weightOf 29 = .ok (.goto 7, 3) := by decide +kernel
theorem dX9_weightOf_32 : decode cX9_weightOf 32 = .ok (.bipush 10, 2) := by decide +kernel
theorem dX9_weightOf_34 : decode cX9_weightOf 34 = .ok (.iload_n 2, 1) := by decide +kernel
theorem dX9_weightOf_35 : decode cX9_weightOf 35 = .ok (.isub, 1) := by decide +kernel
theorem dX9_weightOf_36 : decode cX9_weightOf 36 = .ok (.imul, 1) := by decide +kernel
theorem dX9_weightOf_37 : decode cX9_weightOf 37 = .ok (.istore_n 3, 1) := by decide +kernel
theorem dX9_weightOf_38 : decode cX9_weightOf 38 = .ok (.iinc 4 1, 3) := by decide +kernel
theorem dX9_weightOf_41 : decode cX9_weightOf 41 = .ok (.goto (-36), 3) := by decide +kernel
theorem dX9_weightOf_44 : decode cX9_weightOf 44 = .ok (.iload_n 3, 1) := by decide +kernel
theorem dX9_weightOf_45 : decode cX9_weightOf 45 = .ok (.ireturn, 1) := by decide +kernel
def s_Top_weightOf_b36 (g : z_G) (k5 : Int32 → Int32 → Int32 → Int32 → Option (Int32)) (x1 : Int32) (x2 : Int32) (x4 : Int32) (s1 : Int32) (s0 : Int32) : Option (Int32) := (k5 x1 x2 (s0 * s1) (x4 + 1))
def s_Top_weightOf_L5 (g : z_G) : Nat → Int32 → Int32 → Int32 → Int32 → Option (Int32)
  | 0, _, _, _, _ => none
  | n + 1, x1, x2, x3, x4 => (if (g 51 2) ≤ x4 then (some x3) else (if ((x1 >>> (x4 &&& 31)) &&& 1) = 1 then (s_Top_weightOf_b36 g (s_Top_weightOf_L5 g n) x1 x2 x4 x2 x3) else (s_Top_weightOf_b36 g (s_Top_weightOf_L5 g n) x1 x2 x4 (10 - x2) x3)))
def s_Top_weightOf (x1 : Int32) (x2 : Int32) (g : z_G) : Option (Int32) := (s_Top_weightOf_L5 g z_F x1 x2 1 0)
set_option maxHeartbeats 1000000 in
set_option maxRecDepth 20000 in
theorem b_Top_weightOf_b36 {X : z_X} {E : z_ET} {o : z_G} (hE : z_EV X E cX9_weightOf 5 RX9 0 0 71) {g : z_G} {r : Int32} (hret : ∀ (pc : Nat) (lv : List (Nat × Value)), decode cX9_weightOf pc = .ok (.ireturn, 1) → z_V X E 5 g o pc lv [.int r]) (k5 : Int32 → Int32 → Int32 → Int32 → Option (Int32)) (hk5 : ∀ (x1 : Int32) (x2 : Int32) (x3 : Int32) (x4 : Int32), k5 x1 x2 x3 x4 = some r → z_V X E 5 g o 5 [(0, .ref (z_ad X 39)), (1, .int x1), (2, .int x2), (3, .int x3), (4, .int x4)] []) (x1 : Int32) (x2 : Int32) (x4 : Int32) (s1 : Int32) (s0 : Int32)  (h : s_Top_weightOf_b36 g k5 x1 x2 x4 s1 s0 = some r) : z_V X E 5 g o 36 [(0, .ref (z_ad X 39)), (1, .int x1), (2, .int x2), (4, .int x4)] [.int s1, .int s0] := by
  unfold s_Top_weightOf_b36 at h
  refine z_imul hE dX9_weightOf_36 ?_
  refine z_istore_n hE [(3, .int (s0 * s1)), (0, .ref (z_ad X 39)), (1, .int x1), (2, .int x2), (4, .int x4)] dX9_weightOf_37 rfl (by decide) rfl ?_
  refine z_iinc (v := x4 + 1) hE 4 [(4, .int (x4 + 1)), (3, .int (s0 * s1)), (0, .ref (z_ad X 39)), (1, .int x1), (2, .int x2)] dX9_weightOf_38 rfl rfl (by decide) rfl ?_
  refine z_goto hE 5 dX9_weightOf_41 rfl ?_
  refine z_sub [(0, .ref (z_ad X 39)), (1, .int x1), (2, .int x2), (3, .int (s0 * s1)), (4, .int (x4 + 1))] [2, 3, 4, 1, 0] rfl ?_
  exact hk5 x1 x2 (s0 * s1) (x4 + 1) h
set_option maxHeartbeats 1000000 in
set_option maxRecDepth 20000 in
theorem b_Top_weightOf_L5 {X : z_X} {E : z_ET} {o : z_G} (hE : z_EV X E cX9_weightOf 5 RX9 0 0 71) {g : z_G} {r : Int32} (hret : ∀ (pc : Nat) (lv : List (Nat × Value)), decode cX9_weightOf pc = .ok (.ireturn, 1) → z_V X E 5 g o pc lv [.int r]) : ∀ (n : Nat) (x1 : Int32) (x2 : Int32) (x3 : Int32) (x4 : Int32), s_Top_weightOf_L5 g n x1 x2 x3 x4 = some r → z_V X E 5 g o 5 [(0, .ref (z_ad X 39)), (1, .int x1), (2, .int x2), (3, .int x3), (4, .int x4)] [] := by
  intro n
  induction n with
  | zero => intro x1 x2 x3 x4 h; exact z_none h
  | succ n ih =>
    intro x1 x2 x3 x4 h
    rw [s_Top_weightOf_L5] at h
    refine z_iload hE 4 dX9_weightOf_5 rfl ?_
    refine z_aload_n hE 0 dX9_weightOf_7 rfl ?_
    refine z_get hE f_RX9_40 (by decide) e_39 rfl dX9_weightOf_8 ?_
    refine z_get hE f_RX9_157 (by decide) e_51 rfl dX9_weightOf_11 ?_
    refine z_icmp_ge hE 44 dX9_weightOf_14 rfl (fun c3q => ?_) (fun c3q => ?_)
    · replace h := z_t c3q h
      refine z_iload_n hE 3 dX9_weightOf_44 rfl ?_
      obtain rfl := Option.some.inj h
      exact hret _ _ dX9_weightOf_45
    · replace h := z_f c3q h
      refine z_iload_n hE 3 dX9_weightOf_17 rfl ?_
      refine z_iload_n hE 1 dX9_weightOf_18 rfl ?_
      refine z_iload hE 4 dX9_weightOf_19 rfl ?_
      refine z_ishr hE dX9_weightOf_21 ?_
      refine z_iconst (v := 1) hE dX9_weightOf_22 rfl ?_
      refine z_iand hE dX9_weightOf_23 ?_
      refine z_iconst (v := 1) hE dX9_weightOf_24 rfl ?_
      refine z_icmp_ne hE 32 dX9_weightOf_25 rfl (fun c4q => ?_) (fun c4q => ?_)
      · replace h := z_f c4q h
        refine z_bipush (v := 10) hE dX9_weightOf_32 rfl ?_
        refine z_iload_n hE 2 dX9_weightOf_34 rfl ?_
        refine z_isub hE dX9_weightOf_35 ?_
        refine z_sub [(0, .ref (z_ad X 39)), (1, .int x1), (2, .int x2), (4, .int x4)] [0, 1, 2, 4] rfl ?_
        exact b_Top_weightOf_b36 hE hret (s_Top_weightOf_L5 g n) ih x1 x2 x4 (10 - x2) x3 h
      · replace h := z_t c4q h
        refine z_iload_n hE 2 dX9_weightOf_28 rfl ?_
        refine z_goto hE 36 dX9_weightOf_29 rfl ?_
        refine z_sub [(0, .ref (z_ad X 39)), (1, .int x1), (2, .int x2), (4, .int x4)] [0, 1, 2, 4] rfl ?_
        exact b_Top_weightOf_b36 hE hret (s_Top_weightOf_L5 g n) ih x1 x2 x4 x2 x3 h
set_option maxHeartbeats 1000000 in
set_option maxRecDepth 20000 in
theorem c_Top_weightOf {X : z_X} {l : Launch} {o : z_G} (x1 : Int32) (x2 : Int32) (g : z_G) (r : Int32) (h : s_Top_weightOf x1 x2 g = some r) : z_MI X l 71 yX9_weightOf cX9_weightOf 5 (some .int) 0 0 [.ref (z_ad X 39), .int x1, .int x2] g o g o r := by
  unfold s_Top_weightOf at h
  refine z_meti (ty := .int) rfl rfl (by decide) (Nat.le_of_ble_eq_true rfl) (fun E hl hE hret => ?_)
  subst hl
  refine z_iconst (v := 1) hE dX9_weightOf_0 rfl ?_
  refine z_istore_n hE [(3, .int 1), (0, .ref (z_ad X 39)), (1, .int x1), (2, .int x2)] dX9_weightOf_1 rfl (by decide) rfl ?_
  refine z_iconst (v := 0) hE dX9_weightOf_2 rfl ?_
  refine z_istore hE [(4, .int 0), (3, .int 1), (0, .ref (z_ad X 39)), (1, .int x1), (2, .int x2)] dX9_weightOf_3 (by decide) rfl ?_
  refine z_sub [(0, .ref (z_ad X 39)), (1, .int x1), (2, .int x2), (3, .int 1), (4, .int 0)] [2, 3, 4, 1, 0] rfl ?_
  exact b_Top_weightOf_L5 hE hret z_F x1 x2 1 0 h
theorem dX9_sharedDivisor_0 : decode cX9_sharedDivisor 0 = .ok (.iload_n 0, 1) := by decide +kernel
theorem dX9_sharedDivisor_1 : decode cX9_sharedDivisor 1 = .ok (.istore_n 2, 1) := by decide +kernel
theorem dX9_sharedDivisor_2 : decode cX9_sharedDivisor 2 = .ok (.iload_n 1, 1) := by decide +kernel
theorem dX9_sharedDivisor_3 : decode cX9_sharedDivisor 3 = .ok (.istore_n 3, 1) := by decide +kernel
theorem dX9_sharedDivisor_4 : decode cX9_sharedDivisor 4 = .ok (.iconst 0, 1) := by decide +kernel
theorem dX9_sharedDivisor_5 : decode cX9_sharedDivisor 5 = .ok (.istore 4, 2) := by decide +kernel
theorem dX9_sharedDivisor_7 : decode cX9_sharedDivisor 7 = .ok (.iload 4, 2) := by decide +kernel
theorem dX9_sharedDivisor_9 : decode cX9_sharedDivisor 9 = .ok (.bipush 64, 2) := by decide +kernel
theorem dX9_sharedDivisor_11 : decode cX9_sharedDivisor 11 = .ok (.if_icmp .ge 23, 3) := by decide +kernel
theorem dX9_sharedDivisor_14 : decode cX9_sharedDivisor 14 = .ok (.iload_n 3, 1) := by decide +kernel
theorem dX9_sharedDivisor_15 : decode cX9_sharedDivisor 15 = .ok (.ifCond .le 19, 3) := by decide +kernel
theorem dX9_sharedDivisor_18 : decode cX9_sharedDivisor 18 = .ok (.iload_n 2, 1) := by decide +kernel
theorem dX9_sharedDivisor_19 : decode cX9_sharedDivisor 19 = .ok (.iload_n 3, 1) := by decide +kernel
theorem dX9_sharedDivisor_20 : decode cX9_sharedDivisor 20 = .ok (.irem, 1) := by decide +kernel
theorem dX9_sharedDivisor_21 : decode cX9_sharedDivisor 21 = .ok (.istore 5, 2) := by decide +kernel
theorem dX9_sharedDivisor_23 : decode cX9_sharedDivisor 23 = .ok (.iload_n 3, 1) := by decide +kernel
theorem dX9_sharedDivisor_24 : decode cX9_sharedDivisor 24 = .ok (.istore_n 2, 1) := by decide +kernel
theorem dX9_sharedDivisor_25 : decode cX9_sharedDivisor 25 = .ok (.iload 5, 2) := by decide +kernel
theorem dX9_sharedDivisor_27 : decode cX9_sharedDivisor 27 = .ok (.istore_n 3, 1) := by decide +kernel
theorem dX9_sharedDivisor_28 : decode cX9_sharedDivisor 28 = .ok (.iinc 4 1, 3) := by decide +kernel
theorem dX9_sharedDivisor_31 : decode cX9_sharedDivisor 31 = .ok (.goto (-24), 3) := by decide +kernel
theorem dX9_sharedDivisor_34 : decode cX9_sharedDivisor 34 = .ok (.iconst 1, 1) := by decide +kernel
theorem dX9_sharedDivisor_35 : decode cX9_sharedDivisor 35 = .ok (.iload_n 2, 1) := by decide +kernel
theorem dX9_sharedDivisor_36 : decode cX9_sharedDivisor 36 = .ok (.invokestatic 293, 3) := by decide +kernel
theorem dX9_sharedDivisor_39 : decode cX9_sharedDivisor 39 = .ok (.ireturn, 1) := by decide +kernel
def s_Top_sharedDivisor_b34 (x2 : Int32) : Option (Int32) := (some (z_max 1 x2))
def s_Top_sharedDivisor_L7 : Nat → Int32 → Int32 → Int32 → Option (Int32)
  | 0, _, _, _ => none
  | n + 1, x2, x3, x4 => (if 64 ≤ x4 then (s_Top_sharedDivisor_b34 x2) else (if x3 ≤ 0 then (s_Top_sharedDivisor_b34 x2) else (z_ck (decide (¬ x3 = 0)) ((s_Top_sharedDivisor_L7 n) x3 (z_rem x2 x3) (x4 + 1)))))
def s_Top_sharedDivisor (x0 : Int32) (x1 : Int32) : Option (Int32) := (s_Top_sharedDivisor_L7 z_F x0 x1 0)
set_option maxHeartbeats 1000000 in
set_option maxRecDepth 20000 in
theorem b_Top_sharedDivisor_b34 {X : z_X} {E : z_ET} {o : z_G} {g : z_G} (hE : z_EV X E cX9_sharedDivisor 6 RX9 1 30 71) {r : Int32} (hret : ∀ (pc : Nat) (lv : List (Nat × Value)), decode cX9_sharedDivisor pc = .ok (.ireturn, 1) → z_V X E 6 g o pc lv [.int r]) (x2 : Int32)  (h : s_Top_sharedDivisor_b34 x2 = some r) : z_V X E 6 g o 34 [(2, .int x2)] [] := by
  unfold s_Top_sharedDivisor_b34 at h
  refine z_iconst (v := 1) hE dX9_sharedDivisor_34 rfl ?_
  refine z_iload_n hE 0 dX9_sharedDivisor_35 rfl ?_
  refine z_mmax hE l_RX9_293 (by decide) (Nat.le_of_ble_eq_true rfl) dX9_sharedDivisor_36 ?_
  obtain rfl := Option.some.inj h
  exact hret _ _ dX9_sharedDivisor_39
set_option maxHeartbeats 1000000 in
set_option maxRecDepth 20000 in
theorem b_Top_sharedDivisor_L7 {X : z_X} {E : z_ET} {o : z_G} {g : z_G} (hE : z_EV X E cX9_sharedDivisor 6 RX9 1 30 71) {r : Int32} (hret : ∀ (pc : Nat) (lv : List (Nat × Value)), decode cX9_sharedDivisor pc = .ok (.ireturn, 1) → z_V X E 6 g o pc lv [.int r]) : ∀ (n : Nat) (x2 : Int32) (x3 : Int32) (x4 : Int32), s_Top_sharedDivisor_L7 n x2 x3 x4 = some r → z_V X E 6 g o 7 [(2, .int x2), (3, .int x3), (4, .int x4)] [] := by
  intro n
  induction n with
  | zero => intro x2 x3 x4 h; exact z_none h
  | succ n ih =>
    intro x2 x3 x4 h
    rw [s_Top_sharedDivisor_L7] at h
    refine z_iload hE 2 dX9_sharedDivisor_7 rfl ?_
    refine z_bipush (v := 64) hE dX9_sharedDivisor_9 rfl ?_
    refine z_icmp_ge hE 34 dX9_sharedDivisor_11 rfl (fun c4q => ?_) (fun c4q => ?_)
    · replace h := z_t c4q h
      refine z_sub [(2, .int x2)] [0] rfl ?_
      exact b_Top_sharedDivisor_b34 hE hret x2 h
    · replace h := z_f c4q h
      refine z_iload_n hE 1 dX9_sharedDivisor_14 rfl ?_
      refine z_if_le hE 34 dX9_sharedDivisor_15 rfl (fun c5q => ?_) (fun c5q => ?_)
      · replace h := z_t c5q h
        refine z_sub [(2, .int x2)] [0] rfl ?_
        exact b_Top_sharedDivisor_b34 hE hret x2 h
      · replace h := z_f c5q h
        refine z_iload_n hE 0 dX9_sharedDivisor_18 rfl ?_
        refine z_iload_n hE 1 dX9_sharedDivisor_19 rfl ?_
        obtain ⟨k6q, h⟩ := z_ck_some h
        refine z_irem hE dX9_sharedDivisor_20 (of_decide_eq_true k6q) ?_
        refine z_istore hE [(5, .int (z_rem x2 x3)), (2, .int x2), (3, .int x3), (4, .int x4)] dX9_sharedDivisor_21 (by decide) rfl ?_
        refine z_iload_n hE 2 dX9_sharedDivisor_23 rfl ?_
        refine z_istore_n hE [(2, .int x3), (5, .int (z_rem x2 x3)), (3, .int x3), (4, .int x4)] dX9_sharedDivisor_24 rfl (by decide) rfl ?_
        refine z_iload hE 1 dX9_sharedDivisor_25 rfl ?_
        refine z_istore_n hE [(3, .int (z_rem x2 x3)), (2, .int x3), (5, .int (z_rem x2 x3)), (4, .int x4)] dX9_sharedDivisor_27 rfl (by decide) rfl ?_
        refine z_iinc (v := x4 + 1) hE 3 [(4, .int (x4 + 1)), (3, .int (z_rem x2 x3)), (2, .int x3), (5, .int (z_rem x2 x3))] dX9_sharedDivisor_28 rfl rfl (by decide) rfl ?_
        refine z_goto hE 7 dX9_sharedDivisor_31 rfl ?_
        refine z_sub [(2, .int x3), (3, .int (z_rem x2 x3)), (4, .int (x4 + 1))] [2, 1, 0] rfl ?_
        exact ih x3 (z_rem x2 x3) (x4 + 1) h
set_option maxHeartbeats 1000000 in
set_option maxRecDepth 20000 in
theorem c_Top_sharedDivisor {X : z_X} {l : Launch} {o : z_G} (x0 : Int32) (x1 : Int32) (g : z_G) (r : Int32) (h : s_Top_sharedDivisor x0 x1 = some r) : z_MI X l 71 yX9_sharedDivisor cX9_sharedDivisor 6 (some .int) 1 30 [.int x0, .int x1] g o g o r := by
  unfold s_Top_sharedDivisor at h
  refine z_meti (ty := .int) rfl rfl (by decide) (Nat.le_of_ble_eq_true rfl) (fun E hl hE hret => ?_)
  subst hl
  refine z_iload_n hE 0 dX9_sharedDivisor_0 rfl ?_
  refine z_istore_n hE [(2, .int x0), (0, .int x0), (1, .int x1)] dX9_sharedDivisor_1 rfl (by decide) rfl ?_
  refine z_iload_n hE 2 dX9_sharedDivisor_2 rfl ?_
  refine z_istore_n hE [(3, .int x1), (2, .int x0), (0, .int x0), (1, .int x1)] dX9_sharedDivisor_3 rfl (by decide) rfl ?_
  refine z_iconst (v := 0) hE dX9_sharedDivisor_4 rfl ?_
  refine z_istore hE [(4, .int 0), (3, .int x1), (2, .int x0), (0, .int x0), (1, .int x1)] dX9_sharedDivisor_5 (by decide) rfl ?_
  refine z_sub [(2, .int x0), (3, .int x1), (4, .int 0)] [2, 1, 0] rfl ?_
  exact b_Top_sharedDivisor_L7 hE hret z_F x0 x1 0 h
theorem dX9_storms_0 : decode cX9_storms 0 = .ok (.aload_n 0, 1) := by decide +kernel
theorem dX9_storms_1 : decode cX9_storms 1 = .ok (.iload_n 1, 1) := by decide +kernel
theorem dX9_storms_2 : decode cX9_storms 2 = .ok (.invokevirtual 107, 3) := by decide +kernel
theorem dX9_storms_5 : decode cX9_storms 5 = .ok (.ifCond .eq 32, 3) := by decide +kernel
theorem dX9_storms_8 : decode cX9_storms 8 = .ok (.iload_n 2, 1) := by decide +kernel
theorem dX9_storms_9 : decode cX9_storms 9 = .ok (.iload_n 3, 1) := by decide +kernel
theorem dX9_storms_10 : decode cX9_storms 10 = .ok (.invokestatic 161, 3) := by decide +kernel
theorem dX9_storms_13 : decode cX9_storms 13 = .ok (.ifCond .eq 24, 3) := by decide +kernel
theorem dX9_storms_16 : decode cX9_storms 16 = .ok (.iload 4, 2) := by decide +kernel
theorem dX9_storms_18 : decode cX9_storms 18 = .ok (.iconst 0, 1) := by decide +kernel
theorem dX9_storms_19 : decode cX9_storms 19 = .ok (.bipush 10, 2) := by decide +kernel
theorem dX9_storms_21 : decode cX9_storms 21 = .ok (.invokestatic 92, 3) := by decide +kernel
theorem dX9_storms_24 : decode cX9_storms 24 = .ok (.ifCond .eq 13, 3) := by decide +kernel
theorem dX9_storms_27 : decode cX9_storms 27 = .ok (.iload 5, 2) := by decide +kernel
theorem dX9_storms_29 : decode cX9_storms 29 = .ok (.iconst 0, 1) := by decide +kernel
theorem dX9_storms_30 : decode cX9_storms 30 = .ok (.iconst 1, 1) := by decide +kernel
theorem dX9_storms_31 : decode cX9_storms 31 = .ok (.invokestatic 92, 3) := by decide +kernel
theorem dX9_storms_34 : decode cX9_storms 34 = .ok (.ifCond .ne 5, 3) := by decide +kernel
theorem dX9_storms_37 : decode cX9_storms 37 = .ok (.iconst (-1), 1) := by decide +kernel
theorem dX9_storms_38 : decode cX9_storms 38 = .ok (.ireturn, 1) := by decide +kernel
theorem dX9_storms_39 : decode cX9_storms 39 = .ok (.iload_n 2, 1) := by decide +kernel
theorem dX9_storms_40 : decode cX9_storms 40 = .ok (.iload_n 3, 1) := by decide +kernel
theorem dX9_storms_41 : decode cX9_storms 41 = .ok (.invokestatic 165, 3) := by decide +kernel
theorem dX9_storms_44 : decode cX9_storms 44 = .ok (.istore 6, 2) := by decide +kernel
theorem dX9_storms_46 : decode cX9_storms 46 = .ok (.iconst 0, 1) := by decide +kernel
theorem dX9_storms_47 : decode cX9_storms 47 = .ok (.istore 7, 2) := by decide +kernel
theorem dX9_storms_49 : decode cX9_storms 49 = .ok (.iconst 0, 1) := by decide +kernel
theorem dX9_storms_50 : decode cX9_storms 50 = .ok (.istore 8, 2) := by decide +kernel
theorem dX9_storms_52 : decode cX9_storms 52 = .ok (.iload 8, 2) := by decide +kernel
theorem dX9_storms_54 : decode cX9_storms 54 = .ok (.iconst 1, 1) := by decide +kernel
theorem dX9_storms_55 : decode cX9_storms 55 = .ok (.aload_n 0, 1) := by decide +kernel
theorem dX9_storms_56 : decode cX9_storms 56 = .ok (.getfield 40, 3) := by decide +kernel
theorem dX9_storms_59 : decode cX9_storms 59 = .ok (.getfield 157, 3) := by decide +kernel
theorem dX9_storms_62 : decode cX9_storms 62 = .ok (.ishl, 1) := by decide +kernel
theorem dX9_storms_63 : decode cX9_storms 63 = .ok (.if_icmp .ge 37, 3) := by decide +kernel
theorem dX9_storms_66 : decode cX9_storms 66 = .ok (.aload_n 0, 1) := by decide +kernel
theorem dX9_storms_67 : decode cX9_storms 67 = .ok (.iload_n 1, 1) := by decide +kernel
theorem dX9_storms_68 : decode cX9_storms 68 = .ok (.iload 8, 2) := by decide +kernel
theorem dX9_storms_70 : decode cX9_storms 70 = .ok (.invokevirtual 264, 3) := by decide +kernel
theorem dX9_storms_73 : decode cX9_storms 73 = .ok (.invokestatic 243, 3) := by decide +kernel
theorem dX9_storms_76 : decode cX9_storms 76 = .ok (.iload 6, 2) := by decide +kernel
theorem dX9_storms_78 : decode cX9_storms 78 = .ok (.if_icmp .ne 16, 3) := by decide +kernel
theorem dX9_storms_81 : decode cX9_storms 81 = .ok (.iload 7, 2) := by decide +kernel
theorem dX9_storms_83 : decode cX9_storms 83 = .ok (.aload_n 0, 1) := by decide +kernel
theorem dX9_storms_84 : decode cX9_storms 84 = .ok (.iload 8, 2) := by decide +kernel
theorem dX9_storms_86 : decode cX9_storms 86 = .ok (.iload 4, 2) := by decide +kernel
theorem dX9_storms_88 : decode cX9_storms 88 = .ok (.invokevirtual 267, 3) := by decide +kernel
theorem dX9_storms_91 : decode cX9_storms 91 = .ok (.iadd, 1) := by decide +kernel
theorem dX9_storms_92 : decode cX9_storms 92 = .ok (.istore 7, 2) := by decide +kernel
theorem dX9_storms_94 : decode cX9_storms 94 = .ok (.iinc 8 1, 3) := by decide +kernel
theorem dX9_storms_97 : decode cX9_storms 97 = .ok (.goto (-45), 3) := by decide +kernel
theorem dX9_storms_100 : decode cX9_storms 100 = .ok (.iconst 1, 1) := by decide +kernel
theorem dX9_storms_101 : decode cX9_storms 101 = .ok (.istore 8, 2) := by decide +kernel
theorem dX9_storms_103 : decode cX9_storms 103 = .ok (.iconst 0, 1) := by decide +kernel
theorem dX9_storms_104 : decode cX9_storms 104 = .ok (.istore 9, 2) := by decide +kernel
theorem dX9_storms_106 : decode cX9_storms 106 = .ok (.iload 9, 2) := by decide +kernel
theorem dX9_storms_108 : decode cX9_storms 108 = .ok (.aload_n 0, 1) := by decide +kernel
theorem dX9_storms_109 : decode cX9_storms 109 = .ok (.getfield 40, 3) := by decide +kernel
theorem dX9_storms_112 : decode cX9_storms 112 = .ok (.getfield 157, 3) := by decide +kernel
theorem dX9_storms_115 : decode cX9_storms 115 = .ok (.if_icmp .ge 16, 3) := by decide +kernel
theorem dX9_storms_118 : decode cX9_storms 118 = .ok (.iload 8, 2) := by decide +kernel
theorem dX9_storms_120 : decode cX9_storms 120 = .ok (.bipush 10, 2) := by decide +kernel
theorem dX9_storms_122 : decode cX9_storms 122 = .ok (.imul, 1) := by decide +kernel
theorem dX9_storms_123 : decode cX9_storms 123 = .ok (.istore 8, 2) := by decide +kernel
theorem dX9_storms_125 : decode cX9_storms 125 = .ok (.iinc 9 1, 3) := by decide +kernel
theorem dX9_storms_128 : decode cX9_storms 128 = .ok (.goto (-22), 3) := by decide +kernel
theorem dX9_storms_131 : decode cX9_storms 131 = .ok (.iload 8, 2) := by decide +kernel
theorem dX9_storms_133 : decode cX9_storms 133 = .ok (.iload 7, 2) := by decide +kernel
theorem dX9_storms_135 : decode cX9_storms 135 = .ok (.invokestatic 270, 3) := by decide +kernel
theorem dX9_storms_138 : decode cX9_storms 138 = .ok (.istore 9, 2) := by decide +kernel
theorem dX9_storms_140 : decode cX9_storms 140 = .ok (.iload 5, 2) := by decide +kernel
theorem dX9_storms_142 : decode cX9_storms 142 = .ok (.ifCond .ne 8, 3) := by decide +kernel
theorem dX9_storms_145 : decode cX9_storms 145 = .ok (.iload 7, 2) := by decide +kernel
theorem dX9_storms_147 : decode cX9_storms 147 = .ok (.goto 5, 3) := by decide +kernel
theorem dX9_storms_150 : decode cX9_storms 150 = .ok (.iload 8, 2) := by decide +kernel
theorem dX9_storms_152 : decode cX9_storms 152 = .ok (.iload 9, 2) := by decide +kernel
theorem dX9_storms_154 : decode cX9_storms 154 = .ok (.idiv, 1) := by decide +kernel
theorem dX9_storms_155 : decode cX9_storms 155 = .ok (.ireturn, 1) := by decide +kernel
def s_Top_storms_b37 (g : z_G) : Option (Int32) := (some (-1))
def s_Top_storms_b152 (g : z_G) (x9 : Int32) (s0 : Int32) : Option (Int32) := (z_ck (decide (¬ x9 = 0)) (some (s0 / x9)))
def s_Top_storms_L106 (g : z_G) : Nat → Int32 → Int32 → Int32 → Int32 → Option (Int32)
  | 0, _, _, _, _ => none
  | n + 1, x5, x7, x8, x9 => (if (g 51 2) ≤ x9 then (Option.bind (s_Top_sharedDivisor x8 x7) fun r16q => (if x5 = 0 then (s_Top_storms_b152 g r16q x7) else (s_Top_storms_b152 g r16q x8))) else ((s_Top_storms_L106 g n) x5 x7 (x8 * 10) (x9 + 1)))
def s_Top_storms_b94 (g : z_G) (k52 : Int32 → Int32 → Int32 → Int32 → Int32 → Int32 → Option (Int32)) (x1 : Int32) (x4 : Int32) (x5 : Int32) (x6 : Int32) (x7 : Int32) (x8 : Int32) : Option (Int32) := (k52 x1 x4 x5 x6 x7 (x8 + 1))
def s_Top_storms_L52 (g : z_G) : Nat → Int32 → Int32 → Int32 → Int32 → Int32 → Int32 → Option (Int32)
  | 0, _, _, _, _, _, _ => none
  | n + 1, x1, x4, x5, x6, x7, x8 => (if (1 <<< ((g 51 2) &&& 31)) ≤ x8 then (s_Top_storms_L106 g z_F x5 x7 1 0) else (Option.bind (s_Top_spotBehindStorm x1 x8 g) fun r19q => (if (s_Ways_cellOf r19q) = x6 then (Option.bind (s_Top_weightOf x8 x4 g) fun r21q => (s_Top_storms_b94 g (s_Top_storms_L52 g n) x1 x4 x5 x6 (x7 + r21q) x8)) else (s_Top_storms_b94 g (s_Top_storms_L52 g n) x1 x4 x5 x6 x7 x8))))
def s_Top_storms (x1 : Int32) (x2 : Int32) (x3 : Int32) (x4 : Int32) (x5 : Int32) (g : z_G) : Option (Int32) := (if (s_Top_isMan x1 g) = 0 then (s_Top_storms_b37 g) else (if (s_Top_isCell x2 x3) = 0 then (s_Top_storms_b37 g) else (if (s_Top_isWithin x4 0 10) = 0 then (s_Top_storms_b37 g) else (if (s_Top_isWithin x5 0 1) = 0 then (s_Top_storms_b37 g) else (z_let (α := Int32) ((s_Ways_cellAt x2 x3)) fun v26q => (s_Top_storms_L52 g z_F x1 x4 x5 v26q 0 0))))))
set_option maxHeartbeats 1000000 in
set_option maxRecDepth 20000 in
theorem b_Top_storms_b37 {X : z_X} {E : z_ET} {o : z_G} (hE : z_EV X E cX9_storms 10 RX9 7 174 71) {g : z_G} {r : Int32} (hret : ∀ (pc : Nat) (lv : List (Nat × Value)), decode cX9_storms pc = .ok (.ireturn, 1) → z_V X E 10 g o pc lv [.int r])   (h : s_Top_storms_b37 g = some r) : z_V X E 10 g o 37 [] [] := by
  unfold s_Top_storms_b37 at h
  refine z_iconst (v := (-1)) hE dX9_storms_37 rfl ?_
  obtain rfl := Option.some.inj h
  exact hret _ _ dX9_storms_38
set_option maxHeartbeats 1000000 in
set_option maxRecDepth 20000 in
theorem b_Top_storms_b152 {X : z_X} {E : z_ET} {o : z_G} (hE : z_EV X E cX9_storms 10 RX9 7 174 71) {g : z_G} {r : Int32} (hret : ∀ (pc : Nat) (lv : List (Nat × Value)), decode cX9_storms pc = .ok (.ireturn, 1) → z_V X E 10 g o pc lv [.int r]) (x9 : Int32) (s0 : Int32)  (h : s_Top_storms_b152 g x9 s0 = some r) : z_V X E 10 g o 152 [(9, .int x9)] [.int s0] := by
  unfold s_Top_storms_b152 at h
  refine z_iload hE 0 dX9_storms_152 rfl ?_
  obtain ⟨k14q, h⟩ := z_ck_some h
  refine z_idiv hE dX9_storms_154 (of_decide_eq_true k14q) ?_
  obtain rfl := Option.some.inj h
  exact hret _ _ dX9_storms_155
set_option maxHeartbeats 1000000 in
set_option maxRecDepth 20000 in
theorem b_Top_storms_L106 {X : z_X} {E : z_ET} {o : z_G} (hE : z_EV X E cX9_storms 10 RX9 7 174 71) {g : z_G} {r : Int32} (hret : ∀ (pc : Nat) (lv : List (Nat × Value)), decode cX9_storms pc = .ok (.ireturn, 1) → z_V X E 10 g o pc lv [.int r]) : ∀ (n : Nat) (x5 : Int32) (x7 : Int32) (x8 : Int32) (x9 : Int32), s_Top_storms_L106 g n x5 x7 x8 x9 = some r → z_V X E 10 g o 106 [(0, .ref (z_ad X 39)), (5, .int x5), (7, .int x7), (8, .int x8), (9, .int x9)] [] := by
  intro n
  induction n with
  | zero => intro x5 x7 x8 x9 h; exact z_none h
  | succ n ih =>
    intro x5 x7 x8 x9 h
    rw [s_Top_storms_L106] at h
    refine z_iload hE 4 dX9_storms_106 rfl ?_
    refine z_aload_n hE 0 dX9_storms_108 rfl ?_
    refine z_get hE f_RX9_40 (by decide) e_39 rfl dX9_storms_109 ?_
    refine z_get hE f_RX9_157 (by decide) e_51 rfl dX9_storms_112 ?_
    refine z_icmp_ge hE 131 dX9_storms_115 rfl (fun c15q => ?_) (fun c15q => ?_)
    · replace h := z_t c15q h
      refine z_iload hE 3 dX9_storms_131 rfl ?_
      refine z_iload hE 2 dX9_storms_133 rfl ?_
      obtain ⟨r16q, hr16q, h⟩ := z_bind_some h
      refine z_iS (rest := []) (av := [.int x8, .int x7]) hE (c_Top_sharedDivisor x8 x7 g r16q hr16q) l_RX9_270 (by decide) ⟨by decide, by decide⟩ dX9_storms_135 rfl (Nat.le_of_ble_eq_true rfl) ?_
      refine z_istore hE [(9, .int r16q), (0, .ref (z_ad X 39)), (5, .int x5), (7, .int x7), (8, .int x8)] dX9_storms_138 (by decide) rfl ?_
      refine z_iload hE 2 dX9_storms_140 rfl ?_
      refine z_if_ne hE 150 dX9_storms_142 rfl (fun c17q => ?_) (fun c17q => ?_)
      · replace h := z_f c17q h
        refine z_iload hE 4 dX9_storms_150 rfl ?_
        refine z_sub [(9, .int r16q)] [0] rfl ?_
        exact b_Top_storms_b152 hE hret r16q x8 h
      · replace h := z_t c17q h
        refine z_iload hE 3 dX9_storms_145 rfl ?_
        refine z_goto hE 152 dX9_storms_147 rfl ?_
        refine z_sub [(9, .int r16q)] [0] rfl ?_
        exact b_Top_storms_b152 hE hret r16q x7 h
    · replace h := z_f c15q h
      refine z_iload hE 3 dX9_storms_118 rfl ?_
      refine z_bipush (v := 10) hE dX9_storms_120 rfl ?_
      refine z_imul hE dX9_storms_122 ?_
      refine z_istore hE [(8, .int (x8 * 10)), (0, .ref (z_ad X 39)), (5, .int x5), (7, .int x7), (9, .int x9)] dX9_storms_123 (by decide) rfl ?_
      refine z_iinc (v := x9 + 1) hE 4 [(9, .int (x9 + 1)), (8, .int (x8 * 10)), (0, .ref (z_ad X 39)), (5, .int x5), (7, .int x7)] dX9_storms_125 rfl rfl (by decide) rfl ?_
      refine z_goto hE 106 dX9_storms_128 rfl ?_
      refine z_sub [(0, .ref (z_ad X 39)), (5, .int x5), (7, .int x7), (8, .int (x8 * 10)), (9, .int (x9 + 1))] [2, 3, 4, 1, 0] rfl ?_
      exact ih x5 x7 (x8 * 10) (x9 + 1) h
set_option maxHeartbeats 1000000 in
set_option maxRecDepth 20000 in
theorem b_Top_storms_b94 {X : z_X} {E : z_ET} {o : z_G} (hE : z_EV X E cX9_storms 10 RX9 7 174 71) {g : z_G} {r : Int32} (hret : ∀ (pc : Nat) (lv : List (Nat × Value)), decode cX9_storms pc = .ok (.ireturn, 1) → z_V X E 10 g o pc lv [.int r]) (k52 : Int32 → Int32 → Int32 → Int32 → Int32 → Int32 → Option (Int32)) (hk52 : ∀ (x1 : Int32) (x4 : Int32) (x5 : Int32) (x6 : Int32) (x7 : Int32) (x8 : Int32), k52 x1 x4 x5 x6 x7 x8 = some r → z_V X E 10 g o 52 [(0, .ref (z_ad X 39)), (1, .int x1), (4, .int x4), (5, .int x5), (6, .int x6), (7, .int x7), (8, .int x8)] []) (x1 : Int32) (x4 : Int32) (x5 : Int32) (x6 : Int32) (x7 : Int32) (x8 : Int32)  (h : s_Top_storms_b94 g k52 x1 x4 x5 x6 x7 x8 = some r) : z_V X E 10 g o 94 [(0, .ref (z_ad X 39)), (1, .int x1), (4, .int x4), (5, .int x5), (6, .int x6), (7, .int x7), (8, .int x8)] [] := by
  unfold s_Top_storms_b94 at h
  refine z_iinc (v := x8 + 1) hE 6 [(8, .int (x8 + 1)), (0, .ref (z_ad X 39)), (1, .int x1), (4, .int x4), (5, .int x5), (6, .int x6), (7, .int x7)] dX9_storms_94 rfl rfl (by decide) rfl ?_
  refine z_goto hE 52 dX9_storms_97 rfl ?_
  refine z_sub [(0, .ref (z_ad X 39)), (1, .int x1), (4, .int x4), (5, .int x5), (6, .int x6), (7, .int x7), (8, .int (x8 + 1))] [1, 2, 3, 4, 5, 6, 0] rfl ?_
  exact hk52 x1 x4 x5 x6 x7 (x8 + 1) h
set_option maxHeartbeats 1000000 in
set_option maxRecDepth 20000 in
theorem b_Top_storms_L52 {X : z_X} {E : z_ET} {o : z_G} (hE : z_EV X E cX9_storms 10 RX9 7 174 71) {g : z_G} {r : Int32} (hret : ∀ (pc : Nat) (lv : List (Nat × Value)), decode cX9_storms pc = .ok (.ireturn, 1) → z_V X E 10 g o pc lv [.int r]) : ∀ (n : Nat) (x1 : Int32) (x4 : Int32) (x5 : Int32) (x6 : Int32) (x7 : Int32) (x8 : Int32), s_Top_storms_L52 g n x1 x4 x5 x6 x7 x8 = some r → z_V X E 10 g o 52 [(0, .ref (z_ad X 39)), (1, .int x1), (4, .int x4), (5, .int x5), (6, .int x6), (7, .int x7), (8, .int x8)] [] := by
  intro n
  induction n with
  | zero => intro x1 x4 x5 x6 x7 x8 h; exact z_none h
  | succ n ih =>
    intro x1 x4 x5 x6 x7 x8 h
    rw [s_Top_storms_L52] at h
    refine z_iload hE 6 dX9_storms_52 rfl ?_
    refine z_iconst (v := 1) hE dX9_storms_54 rfl ?_
    refine z_aload_n hE 0 dX9_storms_55 rfl ?_
    refine z_get hE f_RX9_40 (by decide) e_39 rfl dX9_storms_56 ?_
    refine z_get hE f_RX9_157 (by decide) e_51 rfl dX9_storms_59 ?_
    refine z_ishl hE dX9_storms_62 ?_
    refine z_icmp_ge hE 100 dX9_storms_63 rfl (fun c18q => ?_) (fun c18q => ?_)
    · replace h := z_t c18q h
      refine z_iconst (v := 1) hE dX9_storms_100 rfl ?_
      refine z_istore hE [(8, .int 1), (0, .ref (z_ad X 39)), (1, .int x1), (4, .int x4), (5, .int x5), (6, .int x6), (7, .int x7)] dX9_storms_101 (by decide) rfl ?_
      refine z_iconst (v := 0) hE dX9_storms_103 rfl ?_
      refine z_istore hE [(9, .int 0), (8, .int 1), (0, .ref (z_ad X 39)), (1, .int x1), (4, .int x4), (5, .int x5), (6, .int x6), (7, .int x7)] dX9_storms_104 (by decide) rfl ?_
      refine z_sub [(0, .ref (z_ad X 39)), (5, .int x5), (7, .int x7), (8, .int 1), (9, .int 0)] [2, 5, 7, 1, 0] rfl ?_
      exact b_Top_storms_L106 hE hret z_F x5 x7 1 0 h
    · replace h := z_f c18q h
      refine z_aload_n hE 0 dX9_storms_66 rfl ?_
      refine z_iload_n hE 1 dX9_storms_67 rfl ?_
      refine z_iload hE 6 dX9_storms_68 rfl ?_
      obtain ⟨r19q, hr19q, h⟩ := z_bind_some h
      refine z_iV (rest := []) (av := [.int x1, .int x8]) hE (c_Top_spotBehindStorm x1 x8 g r19q hr19q) l_RX9_264 (by decide) (by decide) e_39 rfl ⟨by decide, by decide⟩ dX9_storms_70 rfl (Nat.le_of_ble_eq_true rfl) ?_
      refine z_iS (rest := []) (av := [.int r19q]) hE (c_Ways_cellOf r19q g) l_RX9_243 (by decide) ⟨by decide, by decide⟩ dX9_storms_73 rfl (Nat.le_of_ble_eq_true rfl) ?_
      refine z_iload hE 4 dX9_storms_76 rfl ?_
      refine z_icmp_ne hE 94 dX9_storms_78 rfl (fun c20q => ?_) (fun c20q => ?_)
      · replace h := z_f c20q h
        exact b_Top_storms_b94 hE hret (s_Top_storms_L52 g n) ih x1 x4 x5 x6 x7 x8 h
      · replace h := z_t c20q h
        refine z_iload hE 5 dX9_storms_81 rfl ?_
        refine z_aload_n hE 0 dX9_storms_83 rfl ?_
        refine z_iload hE 6 dX9_storms_84 rfl ?_
        refine z_iload hE 2 dX9_storms_86 rfl ?_
        obtain ⟨r21q, hr21q, h⟩ := z_bind_some h
        refine z_iV (rest := [.int x7]) (av := [.int x8, .int x4]) hE (c_Top_weightOf x8 x4 g r21q hr21q) l_RX9_267 (by decide) (by decide) e_39 rfl ⟨by decide, by decide⟩ dX9_storms_88 rfl (Nat.le_of_ble_eq_true rfl) ?_
        refine z_iadd hE dX9_storms_91 ?_
        refine z_istore hE [(7, .int (x7 + r21q)), (0, .ref (z_ad X 39)), (1, .int x1), (4, .int x4), (5, .int x5), (6, .int x6), (8, .int x8)] dX9_storms_92 (by decide) rfl ?_
        refine z_sub [(0, .ref (z_ad X 39)), (1, .int x1), (4, .int x4), (5, .int x5), (6, .int x6), (7, .int (x7 + r21q)), (8, .int x8)] [1, 2, 3, 4, 5, 0, 6] rfl ?_
        exact b_Top_storms_b94 hE hret (s_Top_storms_L52 g n) ih x1 x4 x5 x6 (x7 + r21q) x8 h
set_option maxHeartbeats 1000000 in
set_option maxRecDepth 20000 in
theorem c_Top_storms {X : z_X} {l : Launch} {o : z_G} (x1 : Int32) (x2 : Int32) (x3 : Int32) (x4 : Int32) (x5 : Int32) (g : z_G) (r : Int32) (h : s_Top_storms x1 x2 x3 x4 x5 g = some r) : z_MI X l 71 yX9_storms cX9_storms 10 (some .int) 7 174 [.ref (z_ad X 39), .int x1, .int x2, .int x3, .int x4, .int x5] g o g o r := by
  unfold s_Top_storms at h
  refine z_meti (ty := .int) rfl rfl (by decide) (Nat.le_of_ble_eq_true rfl) (fun E hl hE hret => ?_)
  subst hl
  refine z_aload_n hE 0 dX9_storms_0 rfl ?_
  refine z_iload_n hE 1 dX9_storms_1 rfl ?_
  refine z_iV (rest := []) (av := [.int x1]) hE (c_Top_isMan x1 g) l_RX9_107 (by decide) (by decide) e_39 rfl ⟨by decide, by decide⟩ dX9_storms_2 rfl (Nat.le_of_ble_eq_true rfl) ?_
  refine z_if_eq hE 37 dX9_storms_5 rfl (fun c22q => ?_) (fun c22q => ?_)
  · replace h := z_t c22q h
    refine z_sub [] [] rfl ?_
    exact b_Top_storms_b37 hE hret h
  · replace h := z_f c22q h
    refine z_iload_n hE 2 dX9_storms_8 rfl ?_
    refine z_iload_n hE 3 dX9_storms_9 rfl ?_
    refine z_iS (rest := []) (av := [.int x2, .int x3]) hE (c_Top_isCell x2 x3 g) l_RX9_161 (by decide) ⟨by decide, by decide⟩ dX9_storms_10 rfl (Nat.le_of_ble_eq_true rfl) ?_
    refine z_if_eq hE 37 dX9_storms_13 rfl (fun c23q => ?_) (fun c23q => ?_)
    · replace h := z_t c23q h
      refine z_sub [] [] rfl ?_
      exact b_Top_storms_b37 hE hret h
    · replace h := z_f c23q h
      refine z_iload hE 4 dX9_storms_16 rfl ?_
      refine z_iconst (v := 0) hE dX9_storms_18 rfl ?_
      refine z_bipush (v := 10) hE dX9_storms_19 rfl ?_
      refine z_iS (rest := []) (av := [.int x4, .int 0, .int 10]) hE (c_Top_isWithin x4 0 10 g) l_RX9_92 (by decide) ⟨by decide, by decide⟩ dX9_storms_21 rfl (Nat.le_of_ble_eq_true rfl) ?_
      refine z_if_eq hE 37 dX9_storms_24 rfl (fun c24q => ?_) (fun c24q => ?_)
      · replace h := z_t c24q h
        refine z_sub [] [] rfl ?_
        exact b_Top_storms_b37 hE hret h
      · replace h := z_f c24q h
        refine z_iload hE 5 dX9_storms_27 rfl ?_
        refine z_iconst (v := 0) hE dX9_storms_29 rfl ?_
        refine z_iconst (v := 1) hE dX9_storms_30 rfl ?_
        refine z_iS (rest := []) (av := [.int x5, .int 0, .int 1]) hE (c_Top_isWithin x5 0 1 g) l_RX9_92 (by decide) ⟨by decide, by decide⟩ dX9_storms_31 rfl (Nat.le_of_ble_eq_true rfl) ?_
        refine z_if_ne hE 39 dX9_storms_34 rfl (fun c25q => ?_) (fun c25q => ?_)
        · replace h := z_f c25q h
          refine z_iload_n hE 2 dX9_storms_39 rfl ?_
          refine z_iload_n hE 3 dX9_storms_40 rfl ?_
          refine z_iS (rest := []) (av := [.int x2, .int x3]) hE (c_Ways_cellAt x2 x3 g) l_RX9_165 (by decide) ⟨by decide, by decide⟩ dX9_storms_41 rfl (Nat.le_of_ble_eq_true rfl) ?_
          obtain ⟨v26q, ev26q, h⟩ := z_let_eq h
          refine z_topi ev26q ?_
          refine z_istore hE [(6, .int v26q), (0, .ref (z_ad X 39)), (1, .int x1), (2, .int x2), (3, .int x3), (4, .int x4), (5, .int x5)] dX9_storms_44 (by decide) rfl ?_
          refine z_iconst (v := 0) hE dX9_storms_46 rfl ?_
          refine z_istore hE [(7, .int 0), (6, .int v26q), (0, .ref (z_ad X 39)), (1, .int x1), (2, .int x2), (3, .int x3), (4, .int x4), (5, .int x5)] dX9_storms_47 (by decide) rfl ?_
          refine z_iconst (v := 0) hE dX9_storms_49 rfl ?_
          refine z_istore hE [(8, .int 0), (7, .int 0), (6, .int v26q), (0, .ref (z_ad X 39)), (1, .int x1), (2, .int x2), (3, .int x3), (4, .int x4), (5, .int x5)] dX9_storms_50 (by decide) rfl ?_
          refine z_sub [(0, .ref (z_ad X 39)), (1, .int x1), (4, .int x4), (5, .int x5), (6, .int v26q), (7, .int 0), (8, .int 0)] [3, 4, 7, 8, 2, 1, 0] rfl ?_
          exact b_Top_storms_L52 hE hret z_F x1 x4 x5 v26q 0 0 h
        · replace h := z_t c25q h
          refine z_sub [] [] rfl ?_
          exact b_Top_storms_b37 hE hret h
theorem dX9_drawOf_0 : decode cX9_drawOf 0 = .ok (.ldc2_w 298, 3) := by decide +kernel
theorem dX9_drawOf_3 : decode cX9_drawOf 3 = .ok (.iload_n 0, 1) := by decide +kernel
theorem dX9_drawOf_4 : decode cX9_drawOf 4 = .ok (.i2l, 1) := by decide +kernel
theorem dX9_drawOf_5 : decode cX9_drawOf 5 = .ok (.lmul, 1) := by decide +kernel
theorem dX9_drawOf_6 : decode cX9_drawOf 6 = .ok (.ldc2_w 300, 3) := by decide +kernel
theorem dX9_drawOf_9 : decode cX9_drawOf 9 = .ok (.iload_n 1, 1) := by decide +kernel
theorem dX9_drawOf_10 : decode cX9_drawOf 10 = .ok (.i2l, 1) := by decide +kernel
theorem dX9_drawOf_11 : decode cX9_drawOf 11 = .ok (.lmul, 1) := by decide +kernel
theorem dX9_drawOf_12 : decode cX9_drawOf 12 = .ok (.ladd, 1) := by decide +kernel
theorem dX9_drawOf_13 : decode cX9_drawOf 13 = .ok (.lconst 1, 1) := by decide +kernel
theorem dX9_drawOf_14 : decode cX9_drawOf 14 = .ok (.ladd, 1) := by decide +kernel
theorem dX9_drawOf_15 : decode cX9_drawOf 15 = .ok (.lstore_n 2, 1) := by decide +kernel
theorem dX9_drawOf_16 : decode cX9_drawOf 16 = .ok (.lload_n 2, 1) := by decide +kernel
theorem dX9_drawOf_17 : decode cX9_drawOf 17 = .ok (.lload_n 2, 1) := by decide +kernel
theorem dX9_drawOf_18 : decode cX9_drawOf 18 = .ok (.lmul, 1) := by decide +kernel
theorem dX9_drawOf_19 : decode cX9_drawOf 19 = .ok (.ldc2_w 302, 3) := by decide +kernel
theorem dX9_drawOf_22 : decode cX9_drawOf 22 = .ok (.lrem, 1) := by decide +kernel
theorem dX9_drawOf_23 : decode cX9_drawOf 23 = .ok (.ldc2_w 304, 3) := by decide +kernel
theorem dX9_drawOf_26 : decode cX9_drawOf 26 = .ok (.ldiv, 1) := by decide +kernel
theorem dX9_drawOf_27 : decode cX9_drawOf 27 = .ok (.l2i, 1) := by decide +kernel
theorem dX9_drawOf_28 : decode cX9_drawOf 28 = .ok (.ireturn, 1) := by decide +kernel
def s_Top_drawOf (x0 : Int32) (x1 : Int32) : Int32 := (z_let (α := Int64) ((((7919 * (Int32.toInt64 x0)) + (6151 * (Int32.toInt64 x1))) + 1)) fun v2q => (Int64.toInt32 ((z_remL (v2q * v2q) 65521) / 8)))
set_option maxHeartbeats 1000000 in
set_option maxRecDepth 20000 in
theorem c_Top_drawOf {X : z_X} {l : Launch} {o : z_G} (x0 : Int32) (x1 : Int32) (g : z_G) : z_MI X l 71 yX9_drawOf cX9_drawOf 4 (some .int) 0 0 [.int x0, .int x1] g o g o (s_Top_drawOf x0 x1) := by
  obtain ⟨r, h⟩ : ∃ r, s_Top_drawOf x0 x1 = r := ⟨_, rfl⟩
  rw [h]
  unfold s_Top_drawOf at h
  refine z_meti (ty := .int) rfl rfl (by decide) (Nat.le_of_ble_eq_true rfl) (fun E hl hE hret => ?_)
  subst hl
  refine z_ldc2 hE dX9_drawOf_0 w_385 ?_
  refine z_iload_n hE 0 dX9_drawOf_3 rfl ?_
  refine z_i2l hE dX9_drawOf_4 ?_
  refine z_lmul hE dX9_drawOf_5 ?_
  refine z_ldc2 hE dX9_drawOf_6 w_386 ?_
  refine z_iload_n hE 1 dX9_drawOf_9 rfl ?_
  refine z_i2l hE dX9_drawOf_10 ?_
  refine z_lmul hE dX9_drawOf_11 ?_
  refine z_ladd hE dX9_drawOf_12 ?_
  refine z_lconst (v := 1) hE dX9_drawOf_13 rfl ?_
  refine z_ladd hE dX9_drawOf_14 ?_
  obtain ⟨v2q, ev2q, h⟩ := z_let_eq h
  refine z_topl ev2q ?_
  refine z_lstore_n hE [(2, .long v2q), (0, .int x0), (1, .int x1)] dX9_drawOf_15 rfl (by decide) rfl ?_
  refine z_lload_n hE 0 dX9_drawOf_16 rfl ?_
  refine z_lload_n hE 0 dX9_drawOf_17 rfl ?_
  refine z_lmul hE dX9_drawOf_18 ?_
  refine z_ldc2 hE dX9_drawOf_19 w_387 ?_
  refine z_lrem hE dX9_drawOf_22 (by decide) ?_
  refine z_ldc2 hE dX9_drawOf_23 w_388 ?_
  refine z_ldiv hE dX9_drawOf_26 (by decide) ?_
  refine z_l2i hE dX9_drawOf_27 ?_
  subst h
  exact hret _ _ dX9_drawOf_28
theorem dX0_isAnybodyAtHome_0 : decode cX0_isAnybodyAtHome 0 = .ok (.iconst 0, 1) := by decide +kernel
theorem dX0_isAnybodyAtHome_1 : decode cX0_isAnybodyAtHome 1 = .ok (.istore_n 2, 1) := by decide +kernel
theorem dX0_isAnybodyAtHome_2 : decode cX0_isAnybodyAtHome 2 = .ok (.iload_n 2, 1) := by decide +kernel
theorem dX0_isAnybodyAtHome_3 : decode cX0_isAnybodyAtHome 3 = .ok (.aload_n 1, 1) := by decide +kernel
theorem dX0_isAnybodyAtHome_4 : decode cX0_isAnybodyAtHome 4 = .ok (.getfield 31, 3) := by decide +kernel
theorem dX0_isAnybodyAtHome_7 : decode cX0_isAnybodyAtHome 7 = .ok (.if_icmp .ge 20, 3) := by decide +kernel
theorem dX0_isAnybodyAtHome_10 : decode cX0_isAnybodyAtHome 10 = .ok (.aload_n 0, 1) := by decide +kernel
theorem dX0_isAnybodyAtHome_11 : decode cX0_isAnybodyAtHome 11 = .ok (.iload_n 2, 1) := by decide +kernel
theorem dX0_isAnybodyAtHome_12 : decode cX0_isAnybodyAtHome 12 = .ok (.aload_n 1, 1) := by decide +kernel
theorem dX0_isAnybodyAtHome_13 : decode cX0_isAnybodyAtHome 13 = .ok (.invokevirtual 83, 3) := by decide +kernel
theorem dX0_isAnybodyAtHome_16 : decode cX0_isAnybodyAtHome 16 = .ok (.ifCond .eq 5, 3) := by decide +kernel
theorem dX0_isAnybodyAtHome_19 : decode cX0_isAnybodyAtHome 19 = .ok (.iconst 1, 1) := by decide +kernel
theorem dX0_isAnybodyAtHome_20 : decode cX0_isAnybodyAtHome 20 = .ok (.ireturn, 1) := by decide +kernel
theorem dX0_isAnybodyAtHome_21 : decode cX0_isAnybodyAtHome 21 = .ok (.iinc 2 1, 3) := by decide +kernel
theorem dX0_isAnybodyAtHome_24 : decode cX0_isAnybodyAtHome 24 = .ok (.goto (-22), 3) := by decide +kernel
theorem dX0_isAnybodyAtHome_27 : decode cX0_isAnybodyAtHome 27 = .ok (.iconst 0, 1) := by decide +kernel
theorem dX0_isAnybodyAtHome_28 : decode cX0_isAnybodyAtHome 28 = .ok (.ireturn, 1) := by decide +kernel
def s_Col_isAnybodyAtHome_L2 (c0 : Nat) (g : z_G) : Nat → Int32 → Option (Int32)
  | 0, _ => none
  | n + 1, x2 => (if (g 43 1) ≤ x2 then (some 0) else (Option.bind (s_Col_isAtHome c0 x2 g) fun r5q => (if r5q = 0 then ((s_Col_isAnybodyAtHome_L2 c0 g n) (x2 + 1)) else (some 1))))
def s_Col_isAnybodyAtHome (c0 : Nat) (g : z_G) : Option (Int32) := (s_Col_isAnybodyAtHome_L2 c0 g z_F 0)
set_option maxHeartbeats 1000000 in
set_option maxRecDepth 20000 in
theorem b_Col_isAnybodyAtHome_L2 {X : z_X} {E : z_ET} {o : z_G} {c0 : Nat} (hc0 : c0 < 13) (hE : z_EV X E cX0_isAnybodyAtHome 3 RX0 2 42 71) {g : z_G} {r : Int32} (hret : ∀ (pc : Nat) (lv : List (Nat × Value)), z_bit r = true → decode cX0_isAnybodyAtHome pc = .ok (.ireturn, 1) → z_V X E 3 g o pc lv [.int r]) : ∀ (n : Nat) (x2 : Int32), s_Col_isAnybodyAtHome_L2 c0 g n x2 = some r → z_V X E 3 g o 2 [(0, .ref (z_ad X (3 * c0))), (1, .ref (z_ad X 43)), (2, .int x2)] [] := by
  intro n
  induction n with
  | zero => intro x2 h; exact z_none h
  | succ n ih =>
    intro x2 h
    rw [s_Col_isAnybodyAtHome_L2] at h
    refine z_iload_n hE 2 dX0_isAnybodyAtHome_2 rfl ?_
    refine z_aload_n hE 1 dX0_isAnybodyAtHome_3 rfl ?_
    refine z_get hE f_RX0_31 (by decide) e_43 rfl dX0_isAnybodyAtHome_4 ?_
    refine z_icmp_ge hE 27 dX0_isAnybodyAtHome_7 rfl (fun c4q => ?_) (fun c4q => ?_)
    · replace h := z_t c4q h
      refine z_iconst (v := 0) hE dX0_isAnybodyAtHome_27 rfl ?_
      obtain rfl := Option.some.inj h
      exact hret _ _ z_b0 dX0_isAnybodyAtHome_28
    · replace h := z_f c4q h
      refine z_aload_n hE 0 dX0_isAnybodyAtHome_10 rfl ?_
      refine z_iload_n hE 2 dX0_isAnybodyAtHome_11 rfl ?_
      refine z_aload_n hE 1 dX0_isAnybodyAtHome_12 rfl ?_
      obtain ⟨r5q, hr5q, h⟩ := z_bind_some h
      refine z_iV (rest := []) (av := [.int x2, .ref (z_ad X 43)]) hE (c_Col_isAtHome c0 x2 g hc0 r5q hr5q) l_RX0_83 (by decide) (by omega) (e_col hc0) rfl ⟨by decide, by decide⟩ dX0_isAnybodyAtHome_13 rfl (Nat.le_of_ble_eq_true rfl) ?_
      refine z_if_eq hE 21 dX0_isAnybodyAtHome_16 rfl (fun c6q => ?_) (fun c6q => ?_)
      · replace h := z_t c6q h
        refine z_iinc (v := x2 + 1) hE 2 [(2, .int (x2 + 1)), (0, .ref (z_ad X (3 * c0))), (1, .ref (z_ad X 43))] dX0_isAnybodyAtHome_21 rfl rfl (by decide) rfl ?_
        refine z_goto hE 2 dX0_isAnybodyAtHome_24 rfl ?_
        refine z_sub [(0, .ref (z_ad X (3 * c0))), (1, .ref (z_ad X 43)), (2, .int (x2 + 1))] [1, 2, 0] rfl ?_
        exact ih (x2 + 1) h
      · replace h := z_f c6q h
        refine z_iconst (v := 1) hE dX0_isAnybodyAtHome_19 rfl ?_
        obtain rfl := Option.some.inj h
        exact hret _ _ z_b1 dX0_isAnybodyAtHome_20
set_option maxHeartbeats 1000000 in
set_option maxRecDepth 20000 in
theorem c_Col_isAnybodyAtHome {X : z_X} {l : Launch} {o : z_G} (c0 : Nat) (g : z_G) (hc0 : c0 < 13) (r : Int32) (h : s_Col_isAnybodyAtHome c0 g = some r) : z_MI X l 71 yX0_isAnybodyAtHome cX0_isAnybodyAtHome 3 (some .boolean) 2 42 [.ref (z_ad X (3 * c0)), .ref (z_ad X 43)] g o g o r := by
  unfold s_Col_isAnybodyAtHome at h
  refine z_metz (by decide) (Nat.le_of_ble_eq_true rfl) (fun E hl hE hret => ?_)
  subst hl
  refine z_iconst (v := 0) hE dX0_isAnybodyAtHome_0 rfl ?_
  refine z_istore_n hE [(2, .int 0), (0, .ref (z_ad X (3 * c0))), (1, .ref (z_ad X 43))] dX0_isAnybodyAtHome_1 rfl (by decide) rfl ?_
  refine z_sub [(0, .ref (z_ad X (3 * c0))), (1, .ref (z_ad X 43)), (2, .int 0)] [1, 2, 0] rfl ?_
  exact b_Col_isAnybodyAtHome_L2 hc0 hE hret z_F 0 h
theorem dX9_march_0 : decode cX9_march 0 = .ok (.iload_n 1, 1) := by decide +kernel
theorem dX9_march_1 : decode cX9_march 1 = .ok (.iconst 0, 1) := by decide +kernel
theorem dX9_march_2 : decode cX9_march 2 = .ok (.sipush 9999, 3) := by decide +kernel
theorem dX9_march_5 : decode cX9_march 5 = .ok (.invokestatic 92, 3) := by decide +kernel
theorem dX9_march_8 : decode cX9_march 8 = .ok (.ifCond .eq 22, 3) := by decide +kernel
theorem dX9_march_11 : decode cX9_march 11 = .ok (.iload_n 2, 1) := by decide +kernel
theorem dX9_march_12 : decode cX9_march 12 = .ok (.iconst 1, 1) := by decide +kernel
theorem dX9_march_13 : decode cX9_march 13 = .ok (.bipush 40, 2) := by decide +kernel
theorem dX9_march_15 : decode cX9_march 15 = .ok (.invokestatic 92, 3) := by decide +kernel
theorem dX9_march_18 : decode cX9_march 18 = .ok (.ifCond .eq 12, 3) := by decide +kernel
theorem dX9_march_21 : decode cX9_march 21 = .ok (.iload_n 3, 1) := by decide +kernel
theorem dX9_march_22 : decode cX9_march 22 = .ok (.iconst 0, 1) := by decide +kernel
theorem dX9_march_23 : decode cX9_march 23 = .ok (.iconst 1, 1) := by decide +kernel
theorem dX9_march_24 : decode cX9_march 24 = .ok (.invokestatic 92, 3) := by decide +kernel
theorem dX9_march_27 : decode cX9_march 27 = .ok (.ifCond .ne 5, 3) := by decide +kernel
theorem dX9_march_30 : decode cX9_march 30 = .ok (.iconst (-1), 1) := by decide +kernel
theorem dX9_march_31 : decode cX9_march 31 = .ok (.ireturn, 1) := by decide +kernel
theorem dX9_march_32 : decode cX9_march 32 = .ok (.aload_n 0, 1) := by decide +kernel
theorem dX9_march_33 : decode cX9_march 33 = .ok (.getfield 34, 3) := by decide +kernel
theorem dX9_march_36 : decode cX9_march 36 = .ok (.aload_n 0, 1) := by decide +kernel
theorem dX9_march_37 : decode cX9_march 37 = .ok (.getfield 30, 3) := by decide +kernel
theorem dX9_march_40 : decode cX9_march 40 = .ok (.invokevirtual 213, 3) := by decide +kernel
theorem dX9_march_43 : decode cX9_march 43 = .ok (.iconst 0, 1) := by decide +kernel
theorem dX9_march_44 : decode cX9_march 44 = .ok (.istore 4, 2) := by decide +kernel
theorem dX9_march_46 : decode cX9_march 46 = .ok (.iconst 0, 1) := by decide +kernel
theorem dX9_march_47 : decode cX9_march 47 = .ok (.istore 5, 2) := by decide +kernel
theorem dX9_march_49 : decode cX9_march 49 = .ok (.iload 5, 2) := by decide +kernel
theorem dX9_march_51 : decode cX9_march 51 = .ok (.iload_n 2, 1) := by decide +kernel
theorem dX9_march_52 : decode cX9_march 52 = .ok (.if_icmp .ge 57, 3) := by decide +kernel
theorem dX9_march_55 : decode cX9_march 55 = .ok (.iload_n 1, 1) := by decide +kernel
theorem dX9_march_56 : decode cX9_march 56 = .ok (.iload 5, 2) := by decide +kernel
theorem dX9_march_58 : decode cX9_march 58 = .ok (.invokestatic 273, 3) := by decide +kernel
theorem dX9_march_61 : decode cX9_march 61 = .ok (.istore 6, 2) := by decide +kernel
theorem dX9_march_63 : decode cX9_march 63 = .ok (.aload_n 0, 1) := by decide +kernel
theorem dX9_march_64 : decode cX9_march 64 = .ok (.getfield 34, 3) := by decide +kernel
theorem dX9_march_67 : decode cX9_march 67 = .ok (.iload 6, 2) := by decide +kernel
theorem dX9_march_69 : decode cX9_march 69 = .ok (.bipush 8, 2) := by decide +kernel
theorem dX9_march_71 : decode cX9_march 71 = .ok (.irem, 1) := by decide +kernel
theorem dX9_march_72 : decode cX9_march 72 = .ok (.iload 6, 2) := by decide +kernel
theorem dX9_march_74 : decode cX9_march 74 = .ok (.bipush 8, 2) := by decide +kernel
theorem dX9_march_76 : decode cX9_march 76 = .ok (.idiv, 1) := by decide +kernel
theorem dX9_march_77 : decode cX9_march 77 = .ok (.iconst 4, 1) := by decide +kernel
theorem dX9_march_78 : decode cX9_march 78 = .ok (.irem, 1) := by decide +kernel
theorem dX9_march_79 : decode cX9_march 79 = .ok (.aload_n 0, 1) := by decide +kernel
theorem dX9_march_80 : decode cX9_march 80 = .ok (.getfield 23, 3) := by decide +kernel
theorem dX9_march_83 : decode cX9_march 83 = .ok (.invokevirtual 178, 3) := by decide +kernel
theorem dX9_march_86 : decode cX9_march 86 = .ok (.aload_n 0, 1) := by decide +kernel
theorem dX9_march_87 : decode cX9_march 87 = .ok (.getfield 34, 3) := by decide +kernel
theorem dX9_march_90 : decode cX9_march 90 = .ok (.aload_n 0, 1) := by decide +kernel
theorem dX9_march_91 : decode cX9_march 91 = .ok (.getfield 23, 3) := by decide +kernel
theorem dX9_march_94 : decode cX9_march 94 = .ok (.invokevirtual 276, 3) := by decide +kernel
theorem dX9_march_97 : decode cX9_march 97 = .ok (.ifCond .eq 6, 3) := by decide +kernel
theorem dX9_march_100 : decode cX9_march 100 = .ok (.iinc 4 1, 3) := by decide +kernel
theorem dX9_march_103 : decode cX9_march 103 = .ok (.iinc 5 1, 3) := by decide +kernel
theorem dX9_march_106 : decode cX9_march 106 = .ok (.goto (-57), 3) := by decide +kernel
theorem dX9_march_109 : decode cX9_march 109 = .ok (.iload_n 3, 1) := by decide +kernel
theorem dX9_march_110 : decode cX9_march 110 = .ok (.ifCond .ne 17, 3) := by decide +kernel
theorem dX9_march_113 : decode cX9_march 113 = .ok (.aload_n 0, 1) := by decide +kernel
theorem dX9_march_114 : decode cX9_march 114 = .ok (.getfield 34, 3) := by decide +kernel
theorem dX9_march_117 : decode cX9_march 117 = .ok (.aload_n 0, 1) := by decide +kernel
theorem dX9_march_118 : decode cX9_march 118 = .ok (.getfield 23, 3) := by decide +kernel
theorem dX9_march_121 : decode cX9_march 121 = .ok (.invokevirtual 182, 3) := by decide +kernel
theorem dX9_march_124 : decode cX9_march 124 = .ok (.goto 5, 3) := by decide +kernel
theorem dX9_march_127 : decode cX9_march 127 = .ok (.iload 4, 2) := by decide +kernel
theorem dX9_march_129 : decode cX9_march 129 = .ok (.ireturn, 1) := by decide +kernel
def s_Top_march_b30  (g : z_G) : Option (Int32 × z_G) := (some ((-1), g))
def s_Top_march_b103 (k49 : Int32 → Int32 → Int32 → Int32 → Int32 → z_G → Option (Int32 × z_G)) (x1 : Int32) (x2 : Int32) (x3 : Int32) (x4 : Int32) (x5 : Int32) (g : z_G) : Option (Int32 × z_G) := (k49 x1 x2 x3 x4 (x5 + 1) g)
def s_Top_march_L49 : Nat → Int32 → Int32 → Int32 → Int32 → Int32 → z_G → Option (Int32 × z_G)
  | 0, _, _, _, _, _, _ => none
  | n + 1, x1, x2, x3, x4, x5, g => (if x2 ≤ x5 then (if x3 = 0 then (Option.bind (s_Col_lostMen 1 g) fun r13q => (some (r13q, g))) else (some (x4, g))) else (z_let (α := Int32) ((s_Top_drawOf x1 x5)) fun v14q => (Option.bind (s_Col_obey 1 (z_rem v14q 8) (z_rem (v14q / 8) 4) g) fun r15q => (Option.bind (s_Col_isAnybodyAtHome 1 r15q) fun r16q => (if r16q = 0 then (s_Top_march_b103 (s_Top_march_L49 n) x1 x2 x3 x4 x5 r15q) else (s_Top_march_b103 (s_Top_march_L49 n) x1 x2 x3 (x4 + 1) x5 r15q))))))
def s_Top_march (x1 : Int32) (x2 : Int32) (x3 : Int32) (g : z_G) : Option (Int32 × z_G) := (if (s_Top_isWithin x1 0 9999) = 0 then (s_Top_march_b30 g) else (if (s_Top_isWithin x2 1 40) = 0 then (s_Top_march_b30 g) else (if (s_Top_isWithin x3 0 1) = 0 then (s_Top_march_b30 g) else (s_Top_march_L49 z_F x1 x2 x3 0 0 (s_Col_copyFrom 1 0 g)))))
set_option maxHeartbeats 1000000 in
set_option maxRecDepth 20000 in
theorem b_Top_march_b30 {X : z_X} {E : z_ET} {o : z_G} (hE : z_EV X E cX9_march 7 RX9 6 148 71) {r : Int32 × z_G} (hret : ∀ (pc : Nat) (lv : List (Nat × Value)), decode cX9_march pc = .ok (.ireturn, 1) → z_V X E 7 r.2 o pc lv [.int r.1])  (g : z_G)  (h : s_Top_march_b30 g = some r) : z_V X E 7 g o 30 [] [] := by
  unfold s_Top_march_b30 at h
  refine z_iconst (v := (-1)) hE dX9_march_30 rfl ?_
  obtain rfl := Option.some.inj h
  exact hret _ _ dX9_march_31
set_option maxHeartbeats 1000000 in
set_option maxRecDepth 20000 in
theorem b_Top_march_b103 {X : z_X} {E : z_ET} {o : z_G} (hE : z_EV X E cX9_march 7 RX9 6 148 71) {r : Int32 × z_G} (hret : ∀ (pc : Nat) (lv : List (Nat × Value)), decode cX9_march pc = .ok (.ireturn, 1) → z_V X E 7 r.2 o pc lv [.int r.1]) (k49 : Int32 → Int32 → Int32 → Int32 → Int32 → z_G → Option (Int32 × z_G)) (hk49 : ∀ (x1 : Int32) (x2 : Int32) (x3 : Int32) (x4 : Int32) (x5 : Int32) (g : z_G), k49 x1 x2 x3 x4 x5 g = some r → z_V X E 7 g o 49 [(0, .ref (z_ad X 39)), (1, .int x1), (2, .int x2), (3, .int x3), (4, .int x4), (5, .int x5)] []) (x1 : Int32) (x2 : Int32) (x3 : Int32) (x4 : Int32) (x5 : Int32) (g : z_G)  (h : s_Top_march_b103 k49 x1 x2 x3 x4 x5 g = some r) : z_V X E 7 g o 103 [(0, .ref (z_ad X 39)), (1, .int x1), (2, .int x2), (3, .int x3), (4, .int x4), (5, .int x5)] [] := by
  unfold s_Top_march_b103 at h
  refine z_iinc (v := x5 + 1) hE 5 [(5, .int (x5 + 1)), (0, .ref (z_ad X 39)), (1, .int x1), (2, .int x2), (3, .int x3), (4, .int x4)] dX9_march_103 rfl rfl (by decide) rfl ?_
  refine z_goto hE 49 dX9_march_106 rfl ?_
  refine z_sub [(0, .ref (z_ad X 39)), (1, .int x1), (2, .int x2), (3, .int x3), (4, .int x4), (5, .int (x5 + 1))] [1, 2, 3, 4, 5, 0] rfl ?_
  exact hk49 x1 x2 x3 x4 (x5 + 1) g h
set_option maxHeartbeats 1000000 in
set_option maxRecDepth 20000 in
theorem b_Top_march_L49 {X : z_X} {E : z_ET} {o : z_G} (hE : z_EV X E cX9_march 7 RX9 6 148 71) {r : Int32 × z_G} (hret : ∀ (pc : Nat) (lv : List (Nat × Value)), decode cX9_march pc = .ok (.ireturn, 1) → z_V X E 7 r.2 o pc lv [.int r.1]) : ∀ (n : Nat) (x1 : Int32) (x2 : Int32) (x3 : Int32) (x4 : Int32) (x5 : Int32) (g : z_G), s_Top_march_L49 n x1 x2 x3 x4 x5 g = some r → z_V X E 7 g o 49 [(0, .ref (z_ad X 39)), (1, .int x1), (2, .int x2), (3, .int x3), (4, .int x4), (5, .int x5)] [] := by
  intro n
  induction n with
  | zero => intro x1 x2 x3 x4 x5 g h; exact z_none h
  | succ n ih =>
    intro x1 x2 x3 x4 x5 g h
    rw [s_Top_march_L49] at h
    refine z_iload hE 5 dX9_march_49 rfl ?_
    refine z_iload_n hE 2 dX9_march_51 rfl ?_
    refine z_icmp_ge hE 109 dX9_march_52 rfl (fun c11q => ?_) (fun c11q => ?_)
    · replace h := z_t c11q h
      refine z_iload_n hE 3 dX9_march_109 rfl ?_
      refine z_if_ne hE 127 dX9_march_110 rfl (fun c12q => ?_) (fun c12q => ?_)
      · replace h := z_f c12q h
        refine z_iload hE 4 dX9_march_127 rfl ?_
        obtain rfl := Option.some.inj h
        exact hret _ _ dX9_march_129
      · replace h := z_t c12q h
        refine z_aload_n hE 0 dX9_march_113 rfl ?_
        refine z_get hE f_RX9_34 (by decide) e_39 rfl dX9_march_114 ?_
        refine z_aload_n hE 0 dX9_march_117 rfl ?_
        refine z_get hE f_RX9_23 (by decide) e_39 rfl dX9_march_118 ?_
        obtain ⟨r13q, hr13q, h⟩ := z_bind_some h
        refine z_iV (rest := []) (av := [.ref (z_ad X 43)]) hE (c_Col_lostMen 1 g (by decide) r13q hr13q) l_RX9_182 (by decide) (by decide) e_3 rfl ⟨by decide, by decide⟩ dX9_march_121 rfl (Nat.le_of_ble_eq_true rfl) ?_
        refine z_goto hE 129 dX9_march_124 rfl ?_
        obtain rfl := Option.some.inj h
        exact hret _ _ dX9_march_129
    · replace h := z_f c11q h
      refine z_iload_n hE 1 dX9_march_55 rfl ?_
      refine z_iload hE 5 dX9_march_56 rfl ?_
      refine z_iS (rest := []) (av := [.int x1, .int x5]) hE (c_Top_drawOf x1 x5 g) l_RX9_273 (by decide) ⟨by decide, by decide⟩ dX9_march_58 rfl (Nat.le_of_ble_eq_true rfl) ?_
      obtain ⟨v14q, ev14q, h⟩ := z_let_eq h
      refine z_topi ev14q ?_
      refine z_istore hE [(6, .int v14q), (0, .ref (z_ad X 39)), (1, .int x1), (2, .int x2), (3, .int x3), (4, .int x4), (5, .int x5)] dX9_march_61 (by decide) rfl ?_
      refine z_aload_n hE 1 dX9_march_63 rfl ?_
      refine z_get hE f_RX9_34 (by decide) e_39 rfl dX9_march_64 ?_
      refine z_iload hE 0 dX9_march_67 rfl ?_
      refine z_bipush (v := 8) hE dX9_march_69 rfl ?_
      refine z_irem hE dX9_march_71 (by decide) ?_
      refine z_iload hE 0 dX9_march_72 rfl ?_
      refine z_bipush (v := 8) hE dX9_march_74 rfl ?_
      refine z_idiv hE dX9_march_76 (by decide) ?_
      refine z_iconst (v := 4) hE dX9_march_77 rfl ?_
      refine z_irem hE dX9_march_78 (by decide) ?_
      refine z_aload_n hE 1 dX9_march_79 rfl ?_
      refine z_get hE f_RX9_23 (by decide) e_39 rfl dX9_march_80 ?_
      obtain ⟨r15q, hr15q, h⟩ := z_bind_some h
      refine z_vV (rest := []) (av := [.int (z_rem v14q 8), .int (z_rem (v14q / 8) 4), .ref (z_ad X 43)]) hE (c_Col_obey 1 (z_rem v14q 8) (z_rem (v14q / 8) 4) g (by decide) r15q hr15q) l_RX9_178 (by decide) (by decide) e_3 rfl ⟨by decide, by decide⟩ dX9_march_83 rfl (Nat.le_of_ble_eq_true rfl) ?_
      refine z_aload_n hE 1 dX9_march_86 rfl ?_
      refine z_get hE f_RX9_34 (by decide) e_39 rfl dX9_march_87 ?_
      refine z_aload_n hE 1 dX9_march_90 rfl ?_
      refine z_get hE f_RX9_23 (by decide) e_39 rfl dX9_march_91 ?_
      obtain ⟨r16q, hr16q, h⟩ := z_bind_some h
      refine z_iV (rest := []) (av := [.ref (z_ad X 43)]) hE (c_Col_isAnybodyAtHome 1 r15q (by decide) r16q hr16q) l_RX9_276 (by decide) (by decide) e_3 rfl ⟨by decide, by decide⟩ dX9_march_94 rfl (Nat.le_of_ble_eq_true rfl) ?_
      refine z_if_eq hE 103 dX9_march_97 rfl (fun c17q => ?_) (fun c17q => ?_)
      · replace h := z_t c17q h
        refine z_sub [(0, .ref (z_ad X 39)), (1, .int x1), (2, .int x2), (3, .int x3), (4, .int x4), (5, .int x5)] [1, 2, 3, 4, 5, 6] rfl ?_
        exact b_Top_march_b103 hE hret (s_Top_march_L49 n) ih x1 x2 x3 x4 x5 r15q h
      · replace h := z_f c17q h
        refine z_iinc (v := x4 + 1) hE 5 [(4, .int (x4 + 1)), (6, .int v14q), (0, .ref (z_ad X 39)), (1, .int x1), (2, .int x2), (3, .int x3), (5, .int x5)] dX9_march_100 rfl rfl (by decide) rfl ?_
        refine z_sub [(0, .ref (z_ad X 39)), (1, .int x1), (2, .int x2), (3, .int x3), (4, .int (x4 + 1)), (5, .int x5)] [2, 3, 4, 5, 0, 6] rfl ?_
        exact b_Top_march_b103 hE hret (s_Top_march_L49 n) ih x1 x2 x3 (x4 + 1) x5 r15q h
set_option maxHeartbeats 1000000 in
set_option maxRecDepth 20000 in
theorem c_Top_march {X : z_X} {l : Launch} {o : z_G} (x1 : Int32) (x2 : Int32) (x3 : Int32) (g : z_G) (r : Int32 × z_G) (h : s_Top_march x1 x2 x3 g = some r) : z_MI X l 71 yX9_march cX9_march 7 (some .int) 6 148 [.ref (z_ad X 39), .int x1, .int x2, .int x3] g o r.2 o r.1 := by
  unfold s_Top_march at h
  refine z_meti (ty := .int) rfl rfl (by decide) (Nat.le_of_ble_eq_true rfl) (fun E hl hE hret => ?_)
  subst hl
  refine z_iload_n hE 1 dX9_march_0 rfl ?_
  refine z_iconst (v := 0) hE dX9_march_1 rfl ?_
  refine z_sipush (v := 9999) hE dX9_march_2 rfl ?_
  refine z_iS (rest := []) (av := [.int x1, .int 0, .int 9999]) hE (c_Top_isWithin x1 0 9999 g) l_RX9_92 (by decide) ⟨by decide, by decide⟩ dX9_march_5 rfl (Nat.le_of_ble_eq_true rfl) ?_
  refine z_if_eq hE 30 dX9_march_8 rfl (fun c18q => ?_) (fun c18q => ?_)
  · replace h := z_t c18q h
    refine z_sub [] [] rfl ?_
    exact b_Top_march_b30 hE hret g h
  · replace h := z_f c18q h
    refine z_iload_n hE 2 dX9_march_11 rfl ?_
    refine z_iconst (v := 1) hE dX9_march_12 rfl ?_
    refine z_bipush (v := 40) hE dX9_march_13 rfl ?_
    refine z_iS (rest := []) (av := [.int x2, .int 1, .int 40]) hE (c_Top_isWithin x2 1 40 g) l_RX9_92 (by decide) ⟨by decide, by decide⟩ dX9_march_15 rfl (Nat.le_of_ble_eq_true rfl) ?_
    refine z_if_eq hE 30 dX9_march_18 rfl (fun c19q => ?_) (fun c19q => ?_)
    · replace h := z_t c19q h
      refine z_sub [] [] rfl ?_
      exact b_Top_march_b30 hE hret g h
    · replace h := z_f c19q h
      refine z_iload_n hE 3 dX9_march_21 rfl ?_
      refine z_iconst (v := 0) hE dX9_march_22 rfl ?_
      refine z_iconst (v := 1) hE dX9_march_23 rfl ?_
      refine z_iS (rest := []) (av := [.int x3, .int 0, .int 1]) hE (c_Top_isWithin x3 0 1 g) l_RX9_92 (by decide) ⟨by decide, by decide⟩ dX9_march_24 rfl (Nat.le_of_ble_eq_true rfl) ?_
      refine z_if_ne hE 32 dX9_march_27 rfl (fun c20q => ?_) (fun c20q => ?_)
      · replace h := z_f c20q h
        refine z_aload_n hE 0 dX9_march_32 rfl ?_
        refine z_get hE f_RX9_34 (by decide) e_39 rfl dX9_march_33 ?_
        refine z_aload_n hE 0 dX9_march_36 rfl ?_
        refine z_get hE f_RX9_30 (by decide) e_39 rfl dX9_march_37 ?_
        refine z_vV (rest := []) (av := [.ref (z_ad X 0)]) hE (c_Col_copyFrom 1 0 g (by decide) (by decide)) l_RX9_213 (by decide) (by decide) e_3 rfl ⟨by decide, by decide⟩ dX9_march_40 rfl (Nat.le_of_ble_eq_true rfl) ?_
        refine z_iconst (v := 0) hE dX9_march_43 rfl ?_
        refine z_istore hE [(4, .int 0), (0, .ref (z_ad X 39)), (1, .int x1), (2, .int x2), (3, .int x3)] dX9_march_44 (by decide) rfl ?_
        refine z_iconst (v := 0) hE dX9_march_46 rfl ?_
        refine z_istore hE [(5, .int 0), (4, .int 0), (0, .ref (z_ad X 39)), (1, .int x1), (2, .int x2), (3, .int x3)] dX9_march_47 (by decide) rfl ?_
        refine z_sub [(0, .ref (z_ad X 39)), (1, .int x1), (2, .int x2), (3, .int x3), (4, .int 0), (5, .int 0)] [2, 3, 4, 5, 1, 0] rfl ?_
        exact b_Top_march_L49 hE hret z_F x1 x2 x3 0 0 (s_Col_copyFrom 1 0 g) h
      · replace h := z_t c20q h
        refine z_sub [] [] rfl ?_
        exact b_Top_march_b30 hE hret g h
def s_Pile_dropLowest_63_L9 : Nat → Nat → Int32 → z_G → Option (z_G)
  | 0, _, _, _ => none
  | n + 1, q_x1, x2, g => (if 2 ≤ x2 then (z_ck (z_inb (2 - 1) 2) (z_let (α := z_G) (z_wr g 64 (2 - 1) (nI q_x1)) fun g15q => (z_let (α := z_G) (z_up g15q 63 1 (2 - 1)) fun g16q => (some g16q)))) else (z_ck (z_inb x2 2) (z_let (α := Nat) (Int32.toNatClampNeg (z_rd g 64 x2)) fun q18q => (z_ck (decide (q18q < 13)) (z_ck (z_inb (x2 - 1) 2) (z_let (α := z_G) (z_wr g 64 (x2 - 1) (nI q18q)) fun g21q => ((s_Pile_dropLowest_63_L9 n) q_x1 (x2 + 1) g21q)))))))
def s_Pile_dropLowest_63 (g : z_G) : Option (z_G) := (z_ck (z_inb 0 2) (z_let (α := Nat) (Int32.toNatClampNeg (z_rd g 64 0)) fun q23q => (z_ck (decide (q23q < 13)) (s_Pile_dropLowest_63_L9 z_F q23q 1 g))))
set_option maxHeartbeats 1000000 in
set_option maxRecDepth 20000 in
theorem b_Pile_dropLowest_63_L9 {X : z_X} {E : z_ET} {o : z_G} (hE : z_EV X E cX4_dropLowest 3 RX4 0 0 71) {r : z_G} (hret : ∀ (pc : Nat) (lv : List (Nat × Value)), decode cX4_dropLowest pc = .ok (.return_, 1) → z_V X E 3 r o pc lv []) : ∀ (n : Nat) (q_x1 : Nat) (x2 : Int32) (g : z_G), q_x1 < 13 → s_Pile_dropLowest_63_L9 n q_x1 x2 g = some r → z_V X E 3 g o 9 [(0, .ref (z_ad X 63)), (1, .ref (z_ad X (3 * q_x1))), (2, .int x2)] [] := by
  intro n
  induction n with
  | zero => intro q_x1 x2 g hq_x1 h; exact z_none h
  | succ n ih =>
    intro q_x1 x2 g hq_x1 h
    rw [s_Pile_dropLowest_63_L9] at h
    refine z_iload_n hE 2 dX4_dropLowest_9 rfl ?_
    refine z_aload_n hE 0 dX4_dropLowest_10 rfl ?_
    refine z_get hE f_RX4_15 (by decide) e_63 rfl dX4_dropLowest_11 ?_
    refine z_alen (v := 2) hE 3 (by decide) e_64 rfl rfl dX4_dropLowest_14 ?_
    refine z_icmp_ge hE 38 dX4_dropLowest_15 rfl (fun c13q => ?_) (fun c13q => ?_)
    · replace h := z_t c13q h
      refine z_aload_n hE 0 dX4_dropLowest_38 rfl ?_
      refine z_get hE f_RX4_15 (by decide) e_63 rfl dX4_dropLowest_39 ?_
      refine z_aload_n hE 0 dX4_dropLowest_42 rfl ?_
      refine z_get hE f_RX4_15 (by decide) e_63 rfl dX4_dropLowest_43 ?_
      refine z_alen (v := 2) hE 3 (by decide) e_64 rfl rfl dX4_dropLowest_46 ?_
      refine z_iconst (v := 1) hE dX4_dropLowest_47 rfl ?_
      refine z_isub hE dX4_dropLowest_48 ?_
      refine z_aload_n hE 1 dX4_dropLowest_49 rfl ?_
      obtain ⟨k14q, h⟩ := z_ck_some h
      obtain ⟨g15q, eg15q, h⟩ := z_let_eq h
      refine z_aast hE (by decide) e_64 k14q (by omega) (e_col hq_x1) (ua_64 hq_x1 eg15q) dX4_dropLowest_50 ?_
      refine z_aload_n hE 0 dX4_dropLowest_51 rfl ?_
      refine z_aload_n hE 0 dX4_dropLowest_52 rfl ?_
      refine z_get hE f_RX4_15 (by decide) e_63 rfl dX4_dropLowest_53 ?_
      refine z_alen (v := 2) hE 3 (by decide) e_64 rfl rfl dX4_dropLowest_56 ?_
      refine z_iconst (v := 1) hE dX4_dropLowest_57 rfl ?_
      refine z_isub hE dX4_dropLowest_58 ?_
      obtain ⟨g16q, eg16q, h⟩ := z_let_eq h
      refine z_put hE f_RX4_22 ft_4 (by decide) e_63 rfl (tyX4_ok 1 (by decide)) rfl rfl (Nat.le_of_ble_eq_true rfl) (u_63_1 eg16q) dX4_dropLowest_59 ?_
      obtain rfl := Option.some.inj h
      exact hret _ _ dX4_dropLowest_62
    · replace h := z_f c13q h
      refine z_aload_n hE 0 dX4_dropLowest_18 rfl ?_
      refine z_get hE f_RX4_15 (by decide) e_63 rfl dX4_dropLowest_19 ?_
      refine z_iload_n hE 2 dX4_dropLowest_22 rfl ?_
      refine z_iconst (v := 1) hE dX4_dropLowest_23 rfl ?_
      refine z_isub hE dX4_dropLowest_24 ?_
      refine z_aload_n hE 0 dX4_dropLowest_25 rfl ?_
      refine z_get hE f_RX4_15 (by decide) e_63 rfl dX4_dropLowest_26 ?_
      refine z_iload_n hE 2 dX4_dropLowest_29 rfl ?_
      obtain ⟨k17q, h⟩ := z_ck_some h
      obtain ⟨q18q, eq18q, h⟩ := z_let_eq h
      obtain ⟨k19q, h⟩ := z_ck_some h
      have hq18q : q18q < 13 := of_decide_eq_true k19q
      refine z_aald (a := z_ad X (3 * q18q)) hE (by decide) e_64 k17q (by show some (z_ad X (3 * (Int32.toNatClampNeg (z_rd g 64 x2) % 13))) = _; rw [← eq18q, Nat.mod_eq_of_lt hq18q]) dX4_dropLowest_30 ?_
      obtain ⟨k20q, h⟩ := z_ck_some h
      obtain ⟨g21q, eg21q, h⟩ := z_let_eq h
      refine z_aast hE (by decide) e_64 k20q (by omega) (e_col hq18q) (ua_64 hq18q eg21q) dX4_dropLowest_31 ?_
      refine z_iinc (v := x2 + 1) hE 2 [(2, .int (x2 + 1)), (0, .ref (z_ad X 63)), (1, .ref (z_ad X (3 * q_x1)))] dX4_dropLowest_32 rfl rfl (by decide) rfl ?_
      refine z_goto hE 9 dX4_dropLowest_35 rfl ?_
      refine z_sub [(0, .ref (z_ad X 63)), (1, .ref (z_ad X (3 * q_x1))), (2, .int (x2 + 1))] [1, 2, 0] rfl ?_
      exact ih q_x1 (x2 + 1) g21q hq_x1 h
set_option maxHeartbeats 1000000 in
set_option maxRecDepth 20000 in
theorem c_Pile_dropLowest_63 {X : z_X} {l : Launch} {o : z_G} (g : z_G) (r : z_G) (h : s_Pile_dropLowest_63 g = some r) : z_MV X l 71 yX4_dropLowest cX4_dropLowest 3 none 0 0 [.ref (z_ad X 63)] g o r o := by
  unfold s_Pile_dropLowest_63 at h
  refine z_metv (by decide) (Nat.le_of_ble_eq_true rfl) (fun E hl hE hret => ?_)
  subst hl
  refine z_aload_n hE 0 dX4_dropLowest_0 rfl ?_
  refine z_get hE f_RX4_15 (by decide) e_63 rfl dX4_dropLowest_1 ?_
  refine z_iconst (v := 0) hE dX4_dropLowest_4 rfl ?_
  obtain ⟨k22q, h⟩ := z_ck_some h
  obtain ⟨q23q, eq23q, h⟩ := z_let_eq h
  obtain ⟨k24q, h⟩ := z_ck_some h
  have hq23q : q23q < 13 := of_decide_eq_true k24q
  refine z_aald (a := z_ad X (3 * q23q)) hE (by decide) e_64 k22q (by show some (z_ad X (3 * (Int32.toNatClampNeg (z_rd g 64 0) % 13))) = _; rw [← eq23q, Nat.mod_eq_of_lt hq23q]) dX4_dropLowest_5 ?_
  refine z_astore_n hE [(1, .ref (z_ad X (3 * q23q))), (0, .ref (z_ad X 63))] dX4_dropLowest_6 rfl (by decide) rfl ?_
  refine z_iconst (v := 1) hE dX4_dropLowest_7 rfl ?_
  refine z_istore_n hE [(2, .int 1), (1, .ref (z_ad X (3 * q23q))), (0, .ref (z_ad X 63))] dX4_dropLowest_8 rfl (by decide) rfl ?_
  refine z_sub [(0, .ref (z_ad X 63)), (1, .ref (z_ad X (3 * q23q))), (2, .int 1)] [2, 1, 0] rfl ?_
  exact b_Pile_dropLowest_63_L9 hE hret z_F q23q 1 g hq23q h
