theorem nw_RX5_9 : Cond.classLink RX5 9 RX3 ∈ lw_good ∧ Cond.instantiable RX3 6 ∈ lw_good ∧ Cond.initialized RX3 ∈ lw_good := ⟨w_23, w_24, w_25⟩
theorem li_RX5_11 : z_LI RX5 11 yX3_init cX3_init 1 0 := ⟨⟨by decide, by decide, by decide +kernel⟩, rfl, w_25, w_26, w_27, Or.inr ⟨RX9, by decide +kernel⟩⟩
theorem nw_RX5_18 : Cond.classLink RX5 18 RX0 ∈ lw_good ∧ Cond.instantiable RX0 4 ∈ lw_good ∧ Cond.initialized RX0 ∈ lw_good := ⟨w_29, w_30, w_31⟩
theorem li_RX5_20 : z_LI RX5 20 yX0_init cX0_init 1 0 := ⟨⟨by decide, by decide, by decide +kernel⟩, rfl, w_31, w_32, w_33, Or.inr ⟨RX9, by decide +kernel⟩⟩
theorem nw_RX5_25 : Cond.classLink RX5 25 RX6 ∈ lw_good ∧ Cond.instantiable RX6 3 ∈ lw_good ∧ Cond.initialized RX6 ∈ lw_good := ⟨w_35, w_36, w_37⟩
theorem li_RX5_27 : z_LI RX5 27 yX6_init cX6_init 1 0 := ⟨⟨by decide, by decide, by decide +kernel⟩, rfl, w_37, w_38, w_39, Or.inr ⟨RX9, by decide +kernel⟩⟩
theorem nq_RX4_13 : Cond.classLink RX4 13 "BootsTurnHome$Column" ∈ lw_good := w_47
theorem nw_RX4_13 : Cond.classLink RX4 13 RX0 ∈ lw_good ∧ Cond.instantiable RX0 4 ∈ lw_good ∧ Cond.initialized RX0 ∈ lw_good := ⟨w_47, w_30, w_31⟩
theorem li_RX4_21 : z_LI RX4 21 yX0_init cX0_init 1 0 := ⟨⟨by decide, by decide, by decide +kernel⟩, rfl, w_31, w_32, w_33, Or.inr ⟨RX9, by decide +kernel⟩⟩
theorem nw_RX9_13 : Cond.classLink RX9 13 RX5 ∈ lw_good ∧ Cond.instantiable RX5 4 ∈ lw_good ∧ Cond.initialized RX5 ∈ lw_good := ⟨w_782, w_783, w_61⟩
theorem li_RX9_15 : z_LI RX9 15 yX5_init cX5_init 1 0 := ⟨⟨by decide, by decide, by decide +kernel⟩, rfl, w_61, w_784, w_785, Or.inr ⟨RX9, by decide +kernel⟩⟩
theorem nw_RX9_20 : Cond.classLink RX9 20 RX3 ∈ lw_good ∧ Cond.instantiable RX3 6 ∈ lw_good ∧ Cond.initialized RX3 ∈ lw_good := ⟨w_786, w_24, w_25⟩
theorem li_RX9_22 : z_LI RX9 22 yX3_init cX3_init 1 0 := ⟨⟨by decide, by decide, by decide +kernel⟩, rfl, w_25, w_26, w_27, Or.inr ⟨RX9, by decide +kernel⟩⟩
theorem nw_RX9_27 : Cond.classLink RX9 27 RX0 ∈ lw_good ∧ Cond.instantiable RX0 4 ∈ lw_good ∧ Cond.initialized RX0 ∈ lw_good := ⟨w_787, w_30, w_31⟩
theorem li_RX9_29 : z_LI RX9 29 yX0_init cX0_init 1 0 := ⟨⟨by decide, by decide, by decide +kernel⟩, rfl, w_31, w_32, w_33, Or.inr ⟨RX9, by decide +kernel⟩⟩
theorem nw_RX9_37 : Cond.classLink RX9 37 RX6 ∈ lw_good ∧ Cond.instantiable RX6 3 ∈ lw_good ∧ Cond.initialized RX6 ∈ lw_good := ⟨w_788, w_36, w_37⟩
theorem li_RX9_39 : z_LI RX9 39 yX6_init cX6_init 1 0 := ⟨⟨by decide, by decide, by decide +kernel⟩, rfl, w_37, w_38, w_39, Or.inr ⟨RX9, by decide +kernel⟩⟩
theorem nw_RX9_44 : Cond.classLink RX9 44 RX7 ∈ lw_good ∧ Cond.instantiable RX7 4 ∈ lw_good ∧ Cond.initialized RX7 ∈ lw_good := ⟨w_789, w_790, w_348⟩
theorem li_RX9_46 : z_LI RX9 46 yX7_init cX7_init 1 0 := ⟨⟨by decide, by decide, by decide +kernel⟩, rfl, w_348, w_791, w_792, Or.inr ⟨RX9, by decide +kernel⟩⟩
theorem nw_RX9_51 : Cond.classLink RX9 51 RX4 ∈ lw_good ∧ Cond.instantiable RX4 2 ∈ lw_good ∧ Cond.initialized RX4 ∈ lw_good := ⟨w_793, w_794, w_224⟩
theorem li_RX9_53 : z_LI RX9 53 yX4_init cX4_init 3 1 := ⟨⟨by decide, by decide, by decide +kernel⟩, rfl, w_224, w_796, w_797, Or.inl w_795⟩
theorem nw_RX9_63 : Cond.classLink RX9 63 RX2 ∈ lw_good ∧ Cond.instantiable RX2 4 ∈ lw_good ∧ Cond.initialized RX2 ∈ lw_good := ⟨w_798, w_799, w_312⟩
theorem li_RX9_65 : z_LI RX9 65 yX2_init cX2_init 1 0 := ⟨⟨by decide, by decide, by decide +kernel⟩, rfl, w_312, w_800, w_801, Or.inr ⟨RX9, by decide +kernel⟩⟩
theorem nw_RX9_70 : Cond.classLink RX9 70 RX1 ∈ lw_good ∧ Cond.instantiable RX1 3 ∈ lw_good ∧ Cond.initialized RX1 ∈ lw_good := ⟨w_802, w_803, w_334⟩
theorem li_RX9_72 : z_LI RX9 72 yX1_init cX1_init 1 0 := ⟨⟨by decide, by decide, by decide +kernel⟩, rfl, w_334, w_804, w_805, Or.inr ⟨RX9, by decide +kernel⟩⟩
theorem nw_RL_7 : Cond.classLink RL 7 RX9 ∈ lw_good ∧ Cond.instantiable RX9 12 ∈ lw_good ∧ Cond.initialized RX9 ∈ lw_good := ⟨w_829, w_827, w_50⟩
theorem nw_RL_10 : Cond.classLink RL 10 RX10 ∈ lw_good ∧ Cond.instantiable RX10 19 ∈ lw_good ∧ Cond.initialized RX10 ∈ lw_good := ⟨w_833, w_828, w_400⟩
theorem dX0_init_0 : decode cX0_init 0 = .ok (.aload_n 0, 1) := by decide +kernel
theorem dX0_init_1 : decode cX0_init 1 = .ok (.invokespecial 3, 3) := by decide +kernel
theorem dX0_init_12 : decode cX0_init 12 = .ok (.aload_n 0, 1) := by decide +kernel
theorem dX0_init_13 : decode cX0_init 13 = .ok (.bipush 6, 2) := by decide +kernel
theorem dX0_init_15 : decode cX0_init 15 = .ok (.newarray .int, 2) := by decide +kernel
theorem dX0_init_17 : decode cX0_init 17 = .ok (.putfield 15, 3) := by decide +kernel
theorem dX0_init_20 : decode cX0_init 20 = .ok (.return_, 1) := by decide +kernel
theorem dX0_init_4 : decode cX0_init 4 = .ok (.aload_n 0, 1) := by decide +kernel
theorem dX0_init_5 : decode cX0_init 5 = .ok (.bipush 6, 2) := by decide +kernel
theorem dX0_init_7 : decode cX0_init 7 = .ok (.newarray .int, 2) := by decide +kernel
theorem dX0_init_9 : decode cX0_init 9 = .ok (.putfield 9, 3) := by decide +kernel
theorem dX3_init_0 : decode cX3_init 0 = .ok (.aload_n 0, 1) := by decide +kernel
theorem dX3_init_1 : decode cX3_init 1 = .ok (.invokespecial 3, 3) := by decide +kernel
theorem dX3_init_11 : decode cX3_init 11 = .ok (.aload_n 0, 1) := by decide +kernel
theorem dX3_init_12 : decode cX3_init 12 = .ok (.bipush 6, 2) := by decide +kernel
theorem dX3_init_14 : decode cX3_init 14 = .ok (.newarray .int, 2) := by decide +kernel
theorem dX3_init_16 : decode cX3_init 16 = .ok (.putfield 15, 3) := by decide +kernel
theorem dX3_init_19 : decode cX3_init 19 = .ok (.aload_n 0, 1) := by decide +kernel
theorem dX3_init_20 : decode cX3_init 20 = .ok (.bipush 6, 2) := by decide +kernel
theorem dX3_init_22 : decode cX3_init 22 = .ok (.newarray .int, 2) := by decide +kernel
theorem dX3_init_24 : decode cX3_init 24 = .ok (.putfield 18, 3) := by decide +kernel
theorem dX3_init_27 : decode cX3_init 27 = .ok (.return_, 1) := by decide +kernel
theorem dX3_init_4 : decode cX3_init 4 = .ok (.aload_n 0, 1) := by decide +kernel
theorem dX3_init_5 : decode cX3_init 5 = .ok (.iconst 4, 1) := by decide +kernel
theorem dX3_init_6 : decode cX3_init 6 = .ok (.newarray .int, 2) := by decide +kernel
theorem dX3_init_8 : decode cX3_init 8 = .ok (.putfield 9, 3) := by decide +kernel
theorem dX6_init_0 : decode cX6_init 0 = .ok (.aload_n 0, 1) := by decide +kernel
theorem dX6_init_1 : decode cX6_init 1 = .ok (.invokespecial 3, 3) := by decide +kernel
theorem dX6_init_12 : decode cX6_init 12 = .ok (.aload_n 0, 1) := by decide +kernel
theorem dX6_init_13 : decode cX6_init 13 = .ok (.bipush 6, 2) := by decide +kernel
theorem dX6_init_15 : decode cX6_init 15 = .ok (.newarray .int, 2) := by decide +kernel
theorem dX6_init_17 : decode cX6_init 17 = .ok (.putfield 15, 3) := by decide +kernel
theorem dX6_init_20 : decode cX6_init 20 = .ok (.return_, 1) := by decide +kernel
theorem dX6_init_4 : decode cX6_init 4 = .ok (.aload_n 0, 1) := by decide +kernel
theorem dX6_init_5 : decode cX6_init 5 = .ok (.bipush 6, 2) := by decide +kernel
theorem dX6_init_7 : decode cX6_init 7 = .ok (.newarray .int, 2) := by decide +kernel
theorem dX6_init_9 : decode cX6_init 9 = .ok (.putfield 9, 3) := by decide +kernel
theorem dX7_init_0 : decode cX7_init 0 = .ok (.aload_n 0, 1) := by decide +kernel
theorem dX7_init_1 : decode cX7_init 1 = .ok (.invokespecial 3, 3) := by decide +kernel
theorem dX7_init_12 : decode cX7_init 12 = .ok (.aload_n 0, 1) := by decide +kernel
theorem dX7_init_13 : decode cX7_init 13 = .ok (.bipush 6, 2) := by decide +kernel
theorem dX7_init_15 : decode cX7_init 15 = .ok (.newarray .int, 2) := by decide +kernel
theorem dX7_init_17 : decode cX7_init 17 = .ok (.putfield 15, 3) := by decide +kernel
theorem dX7_init_20 : decode cX7_init 20 = .ok (.aload_n 0, 1) := by decide +kernel
theorem dX7_init_21 : decode cX7_init 21 = .ok (.bipush 6, 2) := by decide +kernel
theorem dX7_init_23 : decode cX7_init 23 = .ok (.newarray .int, 2) := by decide +kernel
theorem dX7_init_25 : decode cX7_init 25 = .ok (.putfield 18, 3) := by decide +kernel
theorem dX7_init_28 : decode cX7_init 28 = .ok (.return_, 1) := by decide +kernel
theorem dX7_init_4 : decode cX7_init 4 = .ok (.aload_n 0, 1) := by decide +kernel
theorem dX7_init_5 : decode cX7_init 5 = .ok (.bipush 6, 2) := by decide +kernel
theorem dX7_init_7 : decode cX7_init 7 = .ok (.newarray .int, 2) := by decide +kernel
theorem dX7_init_9 : decode cX7_init 9 = .ok (.putfield 9, 3) := by decide +kernel
theorem dX2_init_0 : decode cX2_init 0 = .ok (.aload_n 0, 1) := by decide +kernel
theorem dX2_init_1 : decode cX2_init 1 = .ok (.invokespecial 3, 3) := by decide +kernel
theorem dX2_init_11 : decode cX2_init 11 = .ok (.return_, 1) := by decide +kernel
theorem dX2_init_4 : decode cX2_init 4 = .ok (.aload_n 0, 1) := by decide +kernel
theorem dX2_init_5 : decode cX2_init 5 = .ok (.iconst 3, 1) := by decide +kernel
theorem dX2_init_6 : decode cX2_init 6 = .ok (.newarray .int, 2) := by decide +kernel
theorem dX2_init_8 : decode cX2_init 8 = .ok (.putfield 9, 3) := by decide +kernel
theorem dX1_init_0 : decode cX1_init 0 = .ok (.aload_n 0, 1) := by decide +kernel
theorem dX1_init_1 : decode cX1_init 1 = .ok (.invokespecial 3, 3) := by decide +kernel
theorem dX1_init_12 : decode cX1_init 12 = .ok (.aload_n 0, 1) := by decide +kernel
theorem dX1_init_13 : decode cX1_init 13 = .ok (.bipush 6, 2) := by decide +kernel
theorem dX1_init_15 : decode cX1_init 15 = .ok (.newarray .int, 2) := by decide +kernel
theorem dX1_init_17 : decode cX1_init 17 = .ok (.putfield 15, 3) := by decide +kernel
theorem dX1_init_20 : decode cX1_init 20 = .ok (.return_, 1) := by decide +kernel
theorem dX1_init_4 : decode cX1_init 4 = .ok (.aload_n 0, 1) := by decide +kernel
theorem dX1_init_5 : decode cX1_init 5 = .ok (.bipush 6, 2) := by decide +kernel
theorem dX1_init_7 : decode cX1_init 7 = .ok (.newarray .int, 2) := by decide +kernel
theorem dX1_init_9 : decode cX1_init 9 = .ok (.putfield 9, 3) := by decide +kernel
theorem dX5_init_0 : decode cX5_init 0 = .ok (.aload_n 0, 1) := by decide +kernel
theorem dX5_init_1 : decode cX5_init 1 = .ok (.invokespecial 3, 3) := by decide +kernel
theorem dX5_init_12 : decode cX5_init 12 = .ok (.putfield 12, 3) := by decide +kernel
theorem dX5_init_15 : decode cX5_init 15 = .ok (.aload_n 0, 1) := by decide +kernel
theorem dX5_init_16 : decode cX5_init 16 = .ok (.new 18, 3) := by decide +kernel
theorem dX5_init_19 : decode cX5_init 19 = .ok (.dup, 1) := by decide +kernel
theorem dX5_init_20 : decode cX5_init 20 = .ok (.invokespecial 20, 3) := by decide +kernel
theorem dX5_init_23 : decode cX5_init 23 = .ok (.putfield 21, 3) := by decide +kernel
theorem dX5_init_26 : decode cX5_init 26 = .ok (.aload_n 0, 1) := by decide +kernel
theorem dX5_init_27 : decode cX5_init 27 = .ok (.new 25, 3) := by decide +kernel
theorem dX5_init_30 : decode cX5_init 30 = .ok (.dup, 1) := by decide +kernel
theorem dX5_init_31 : decode cX5_init 31 = .ok (.invokespecial 27, 3) := by decide +kernel
theorem dX5_init_34 : decode cX5_init 34 = .ok (.putfield 28, 3) := by decide +kernel
theorem dX5_init_37 : decode cX5_init 37 = .ok (.aload_n 0, 1) := by decide +kernel
theorem dX5_init_38 : decode cX5_init 38 = .ok (.bipush 6, 2) := by decide +kernel
theorem dX5_init_4 : decode cX5_init 4 = .ok (.aload_n 0, 1) := by decide +kernel
theorem dX5_init_40 : decode cX5_init 40 = .ok (.newarray .int, 2) := by decide +kernel
theorem dX5_init_42 : decode cX5_init 42 = .ok (.putfield 32, 3) := by decide +kernel
theorem dX5_init_45 : decode cX5_init 45 = .ok (.return_, 1) := by decide +kernel
theorem dX5_init_5 : decode cX5_init 5 = .ok (.new 9, 3) := by decide +kernel
theorem dX5_init_8 : decode cX5_init 8 = .ok (.dup, 1) := by decide +kernel
theorem dX5_init_9 : decode cX5_init 9 = .ok (.invokespecial 11, 3) := by decide +kernel
theorem dX4_init_0 : decode cX4_init 0 = .ok (.aload_n 0, 1) := by decide +kernel
theorem dX4_init_1 : decode cX4_init 1 = .ok (.invokespecial 1, 3) := by decide +kernel
theorem dX4_init_10 : decode cX4_init 10 = .ok (.anewarray 13, 3) := by decide +kernel
theorem dX4_init_13 : decode cX4_init 13 = .ok (.putfield 15, 3) := by decide +kernel
theorem dX4_init_16 : decode cX4_init 16 = .ok (.iconst 0, 1) := by decide +kernel
theorem dX4_init_17 : decode cX4_init 17 = .ok (.istore_n 2, 1) := by decide +kernel
theorem dX4_init_18 : decode cX4_init 18 = .ok (.iload_n 2, 1) := by decide +kernel
theorem dX4_init_19 : decode cX4_init 19 = .ok (.aload_n 0, 1) := by decide +kernel
theorem dX4_init_20 : decode cX4_init 20 = .ok (.getfield 15, 3) := by decide +kernel
theorem dX4_init_23 : decode cX4_init 23 = .ok (.arraylength, 1) := by decide +kernel
theorem dX4_init_24 : decode cX4_init 24 = .ok (.if_icmp .ge 22, 3) := by decide +kernel
theorem dX4_init_27 : decode cX4_init 27 = .ok (.aload_n 0, 1) := by decide +kernel
theorem dX4_init_28 : decode cX4_init 28 = .ok (.getfield 15, 3) := by decide +kernel
theorem dX4_init_31 : decode cX4_init 31 = .ok (.iload_n 2, 1) := by decide +kernel
theorem dX4_init_32 : decode cX4_init 32 = .ok (.new 13, 3) := by decide +kernel
theorem dX4_init_35 : decode cX4_init 35 = .ok (.dup, 1) := by decide +kernel
theorem dX4_init_36 : decode cX4_init 36 = .ok (.invokespecial 21, 3) := by decide +kernel
theorem dX4_init_39 : decode cX4_init 39 = .ok (.aastore, 1) := by decide +kernel
theorem dX4_init_4 : decode cX4_init 4 = .ok (.aload_n 0, 1) := by decide +kernel
theorem dX4_init_40 : decode cX4_init 40 = .ok (.iinc 2 1, 3) := by decide +kernel
theorem dX4_init_43 : decode cX4_init 43 = .ok (.goto (-25), 3) := by decide +kernel
theorem dX4_init_46 : decode cX4_init 46 = .ok (.return_, 1) := by decide +kernel
theorem dX4_init_5 : decode cX4_init 5 = .ok (.iconst 1, 1) := by decide +kernel
theorem dX4_init_6 : decode cX4_init 6 = .ok (.iload_n 1, 1) := by decide +kernel
theorem dX4_init_7 : decode cX4_init 7 = .ok (.invokestatic 7, 3) := by decide +kernel
set_option maxHeartbeats 4000000 in
set_option maxRecDepth 100000 in
theorem c_Col_init {X : z_X} {l : Launch} (h0 : Nat) : z_MC X l yX0_init cX0_init 1 1 12 2 12 [.ref h0] [(h0, .inr (0, [.null, .null, .int 0, .int 0]))] (fun u => [(h0, .inr (0, [.ref (u 0), .ref (u 1), .int 0, .int 0])), ((u 0), .inl (z_cA X 0, 6, .inl (fun _ => 0))), ((u 1), .inl (z_cA X 0, 6, .inl (fun _ => 0)))]) := by
  refine z_metc (by decide) rfl (Nat.le_of_ble_eq_true rfl) (fun E A hl hE hret => ?_)
  subst hl
  refine z_Ualoadn hE 0 dX0_init_0 rfl ?_
  refine z_UobjInit hE oi_RX0 (by decide) (by decide) dX0_init_1 ?_
  refine z_Ualoadn hE 0 dX0_init_4 rfl ?_
  refine z_Ubipush (v := 6) hE dX0_init_5 rfl ?_
  refine z_Unewa (atype := .int) (N := 6) hE 0 w_3 rfl rfl (fun _ _ => rfl) rfl (by decide) (by decide) (by decide) (by decide) (by decide) dX0_init_7 (fun q1q => ?_)
  refine z_Uws (ws2 := [(h0, .inr (0, [.null, .null, .int 0, .int 0])), (q1q, .inl (z_cA X 0, 6, .inl (fun _ => 0)))]) rfl ?_
  refine z_UputF (k := 0) hE f_RX0_9 ft_0 rfl rfl (by decide) rfl (tyX0_ok 0 (by decide)) rfl rfl (Nat.le_of_ble_eq_true rfl) dX0_init_9 ?_
  refine z_Uws (ws2 := [(h0, .inr (0, [.ref q1q, .null, .int 0, .int 0])), (q1q, .inl (z_cA X 0, 6, .inl (fun _ => 0)))]) rfl ?_
  refine z_Ualoadn hE 0 dX0_init_12 rfl ?_
  refine z_Ubipush (v := 6) hE dX0_init_13 rfl ?_
  refine z_Unewa (atype := .int) (N := 6) hE 0 w_3 rfl rfl (fun _ _ => rfl) rfl (by decide) (by decide) (by decide) (by decide) (by decide) dX0_init_15 (fun q2q => ?_)
  refine z_Uws (ws2 := [(h0, .inr (0, [.ref q1q, .null, .int 0, .int 0])), (q1q, .inl (z_cA X 0, 6, .inl (fun _ => 0))), (q2q, .inl (z_cA X 0, 6, .inl (fun _ => 0)))]) rfl ?_
  refine z_UputF (k := 0) hE f_RX0_15 ft_0 rfl rfl (by decide) rfl (tyX0_ok 1 (by decide)) rfl rfl (Nat.le_of_ble_eq_true rfl) dX0_init_17 ?_
  refine z_Uws (ws2 := [(h0, .inr (0, [.ref q1q, .ref q2q, .int 0, .int 0])), (q1q, .inl (z_cA X 0, 6, .inl (fun _ => 0))), (q2q, .inl (z_cA X 0, 6, .inl (fun _ => 0)))]) rfl ?_
  exact hret _ _ (fun k => [q1q, q2q].getD k 0) _ rfl dX0_init_20
set_option maxHeartbeats 4000000 in
set_option maxRecDepth 100000 in
theorem c_Land_init {X : z_X} {l : Launch} (h0 : Nat) : z_MC X l yX3_init cX3_init 1 1 12 3 16 [.ref h0] [(h0, .inr (3, [.int 0, .int 0, .int 0, .null, .null, .null]))] (fun u => [(h0, .inr (3, [.int 0, .int 0, .int 0, .ref (u 0), .ref (u 1), .ref (u 2)])), ((u 0), .inl (z_cA X 0, 4, .inl (fun _ => 0))), ((u 1), .inl (z_cA X 0, 6, .inl (fun _ => 0))), ((u 2), .inl (z_cA X 0, 6, .inl (fun _ => 0)))]) := by
  refine z_metc (by decide) rfl (Nat.le_of_ble_eq_true rfl) (fun E A hl hE hret => ?_)
  subst hl
  refine z_Ualoadn hE 0 dX3_init_0 rfl ?_
  refine z_UobjInit hE oi_RX3 (by decide) (by decide) dX3_init_1 ?_
  refine z_Ualoadn hE 0 dX3_init_4 rfl ?_
  refine z_Uiconst (v := 4) hE dX3_init_5 rfl ?_
  refine z_Unewa (atype := .int) (N := 4) hE 0 w_3 rfl rfl (fun _ _ => rfl) rfl (by decide) (by decide) (by decide) (by decide) (by decide) dX3_init_6 (fun q1q => ?_)
  refine z_Uws (ws2 := [(h0, .inr (3, [.int 0, .int 0, .int 0, .null, .null, .null])), (q1q, .inl (z_cA X 0, 4, .inl (fun _ => 0)))]) rfl ?_
  refine z_UputF (k := 0) hE f_RX3_9 ft_3 rfl rfl (by decide) rfl (tyX3_ok 3 (by decide)) rfl rfl (Nat.le_of_ble_eq_true rfl) dX3_init_8 ?_
  refine z_Uws (ws2 := [(h0, .inr (3, [.int 0, .int 0, .int 0, .ref q1q, .null, .null])), (q1q, .inl (z_cA X 0, 4, .inl (fun _ => 0)))]) rfl ?_
  refine z_Ualoadn hE 0 dX3_init_11 rfl ?_
  refine z_Ubipush (v := 6) hE dX3_init_12 rfl ?_
  refine z_Unewa (atype := .int) (N := 6) hE 0 w_3 rfl rfl (fun _ _ => rfl) rfl (by decide) (by decide) (by decide) (by decide) (by decide) dX3_init_14 (fun q2q => ?_)
  refine z_Uws (ws2 := [(h0, .inr (3, [.int 0, .int 0, .int 0, .ref q1q, .null, .null])), (q1q, .inl (z_cA X 0, 4, .inl (fun _ => 0))), (q2q, .inl (z_cA X 0, 6, .inl (fun _ => 0)))]) rfl ?_
  refine z_UputF (k := 0) hE f_RX3_15 ft_3 rfl rfl (by decide) rfl (tyX3_ok 4 (by decide)) rfl rfl (Nat.le_of_ble_eq_true rfl) dX3_init_16 ?_
  refine z_Uws (ws2 := [(h0, .inr (3, [.int 0, .int 0, .int 0, .ref q1q, .ref q2q, .null])), (q1q, .inl (z_cA X 0, 4, .inl (fun _ => 0))), (q2q, .inl (z_cA X 0, 6, .inl (fun _ => 0)))]) rfl ?_
  refine z_Ualoadn hE 0 dX3_init_19 rfl ?_
  refine z_Ubipush (v := 6) hE dX3_init_20 rfl ?_
  refine z_Unewa (atype := .int) (N := 6) hE 0 w_3 rfl rfl (fun _ _ => rfl) rfl (by decide) (by decide) (by decide) (by decide) (by decide) dX3_init_22 (fun q3q => ?_)
  refine z_Uws (ws2 := [(h0, .inr (3, [.int 0, .int 0, .int 0, .ref q1q, .ref q2q, .null])), (q1q, .inl (z_cA X 0, 4, .inl (fun _ => 0))), (q2q, .inl (z_cA X 0, 6, .inl (fun _ => 0))), (q3q, .inl (z_cA X 0, 6, .inl (fun _ => 0)))]) rfl ?_
  refine z_UputF (k := 0) hE f_RX3_18 ft_3 rfl rfl (by decide) rfl (tyX3_ok 5 (by decide)) rfl rfl (Nat.le_of_ble_eq_true rfl) dX3_init_24 ?_
  refine z_Uws (ws2 := [(h0, .inr (3, [.int 0, .int 0, .int 0, .ref q1q, .ref q2q, .ref q3q])), (q1q, .inl (z_cA X 0, 4, .inl (fun _ => 0))), (q2q, .inl (z_cA X 0, 6, .inl (fun _ => 0))), (q3q, .inl (z_cA X 0, 6, .inl (fun _ => 0)))]) rfl ?_
  exact hret _ _ (fun k => [q1q, q2q, q3q].getD k 0) _ rfl dX3_init_27
set_option maxHeartbeats 4000000 in
set_option maxRecDepth 100000 in
theorem c_Row_init {X : z_X} {l : Launch} (h0 : Nat) : z_MC X l yX6_init cX6_init 1 1 12 2 12 [.ref h0] [(h0, .inr (6, [.null, .null, .int 0]))] (fun u => [(h0, .inr (6, [.ref (u 0), .ref (u 1), .int 0])), ((u 0), .inl (z_cA X 0, 6, .inl (fun _ => 0))), ((u 1), .inl (z_cA X 0, 6, .inl (fun _ => 0)))]) := by
  refine z_metc (by decide) rfl (Nat.le_of_ble_eq_true rfl) (fun E A hl hE hret => ?_)
  subst hl
  refine z_Ualoadn hE 0 dX6_init_0 rfl ?_
  refine z_UobjInit hE oi_RX6 (by decide) (by decide) dX6_init_1 ?_
  refine z_Ualoadn hE 0 dX6_init_4 rfl ?_
  refine z_Ubipush (v := 6) hE dX6_init_5 rfl ?_
  refine z_Unewa (atype := .int) (N := 6) hE 0 w_3 rfl rfl (fun _ _ => rfl) rfl (by decide) (by decide) (by decide) (by decide) (by decide) dX6_init_7 (fun q1q => ?_)
  refine z_Uws (ws2 := [(h0, .inr (6, [.null, .null, .int 0])), (q1q, .inl (z_cA X 0, 6, .inl (fun _ => 0)))]) rfl ?_
  refine z_UputF (k := 0) hE f_RX6_9 ft_6 rfl rfl (by decide) rfl (tyX6_ok 0 (by decide)) rfl rfl (Nat.le_of_ble_eq_true rfl) dX6_init_9 ?_
  refine z_Uws (ws2 := [(h0, .inr (6, [.ref q1q, .null, .int 0])), (q1q, .inl (z_cA X 0, 6, .inl (fun _ => 0)))]) rfl ?_
  refine z_Ualoadn hE 0 dX6_init_12 rfl ?_
  refine z_Ubipush (v := 6) hE dX6_init_13 rfl ?_
  refine z_Unewa (atype := .int) (N := 6) hE 0 w_3 rfl rfl (fun _ _ => rfl) rfl (by decide) (by decide) (by decide) (by decide) (by decide) dX6_init_15 (fun q2q => ?_)
  refine z_Uws (ws2 := [(h0, .inr (6, [.ref q1q, .null, .int 0])), (q1q, .inl (z_cA X 0, 6, .inl (fun _ => 0))), (q2q, .inl (z_cA X 0, 6, .inl (fun _ => 0)))]) rfl ?_
  refine z_UputF (k := 0) hE f_RX6_15 ft_6 rfl rfl (by decide) rfl (tyX6_ok 1 (by decide)) rfl rfl (Nat.le_of_ble_eq_true rfl) dX6_init_17 ?_
  refine z_Uws (ws2 := [(h0, .inr (6, [.ref q1q, .ref q2q, .int 0])), (q1q, .inl (z_cA X 0, 6, .inl (fun _ => 0))), (q2q, .inl (z_cA X 0, 6, .inl (fun _ => 0)))]) rfl ?_
  exact hret _ _ (fun k => [q1q, q2q].getD k 0) _ rfl dX6_init_20
set_option maxHeartbeats 4000000 in
set_option maxRecDepth 100000 in
theorem c_Sight_init {X : z_X} {l : Launch} (h0 : Nat) : z_MC X l yX7_init cX7_init 1 1 12 3 18 [.ref h0] [(h0, .inr (7, [.null, .null, .null, .int 0]))] (fun u => [(h0, .inr (7, [.ref (u 0), .ref (u 1), .ref (u 2), .int 0])), ((u 0), .inl (z_cA X 0, 6, .inl (fun _ => 0))), ((u 1), .inl (z_cA X 0, 6, .inl (fun _ => 0))), ((u 2), .inl (z_cA X 0, 6, .inl (fun _ => 0)))]) := by
  refine z_metc (by decide) rfl (Nat.le_of_ble_eq_true rfl) (fun E A hl hE hret => ?_)
  subst hl
  refine z_Ualoadn hE 0 dX7_init_0 rfl ?_
  refine z_UobjInit hE oi_RX7 (by decide) (by decide) dX7_init_1 ?_
  refine z_Ualoadn hE 0 dX7_init_4 rfl ?_
  refine z_Ubipush (v := 6) hE dX7_init_5 rfl ?_
  refine z_Unewa (atype := .int) (N := 6) hE 0 w_3 rfl rfl (fun _ _ => rfl) rfl (by decide) (by decide) (by decide) (by decide) (by decide) dX7_init_7 (fun q1q => ?_)
  refine z_Uws (ws2 := [(h0, .inr (7, [.null, .null, .null, .int 0])), (q1q, .inl (z_cA X 0, 6, .inl (fun _ => 0)))]) rfl ?_
  refine z_UputF (k := 0) hE f_RX7_9 ft_7 rfl rfl (by decide) rfl (tyX7_ok 0 (by decide)) rfl rfl (Nat.le_of_ble_eq_true rfl) dX7_init_9 ?_
  refine z_Uws (ws2 := [(h0, .inr (7, [.ref q1q, .null, .null, .int 0])), (q1q, .inl (z_cA X 0, 6, .inl (fun _ => 0)))]) rfl ?_
  refine z_Ualoadn hE 0 dX7_init_12 rfl ?_
  refine z_Ubipush (v := 6) hE dX7_init_13 rfl ?_
  refine z_Unewa (atype := .int) (N := 6) hE 0 w_3 rfl rfl (fun _ _ => rfl) rfl (by decide) (by decide) (by decide) (by decide) (by decide) dX7_init_15 (fun q2q => ?_)
  refine z_Uws (ws2 := [(h0, .inr (7, [.ref q1q, .null, .null, .int 0])), (q1q, .inl (z_cA X 0, 6, .inl (fun _ => 0))), (q2q, .inl (z_cA X 0, 6, .inl (fun _ => 0)))]) rfl ?_
  refine z_UputF (k := 0) hE f_RX7_15 ft_7 rfl rfl (by decide) rfl (tyX7_ok 1 (by decide)) rfl rfl (Nat.le_of_ble_eq_true rfl) dX7_init_17 ?_
  refine z_Uws (ws2 := [(h0, .inr (7, [.ref q1q, .ref q2q, .null, .int 0])), (q1q, .inl (z_cA X 0, 6, .inl (fun _ => 0))), (q2q, .inl (z_cA X 0, 6, .inl (fun _ => 0)))]) rfl ?_
  refine z_Ualoadn hE 0 dX7_init_20 rfl ?_
  refine z_Ubipush (v := 6) hE dX7_init_21 rfl ?_
  refine z_Unewa (atype := .int) (N := 6) hE 0 w_3 rfl rfl (fun _ _ => rfl) rfl (by decide) (by decide) (by decide) (by decide) (by decide) dX7_init_23 (fun q3q => ?_)
  refine z_Uws (ws2 := [(h0, .inr (7, [.ref q1q, .ref q2q, .null, .int 0])), (q1q, .inl (z_cA X 0, 6, .inl (fun _ => 0))), (q2q, .inl (z_cA X 0, 6, .inl (fun _ => 0))), (q3q, .inl (z_cA X 0, 6, .inl (fun _ => 0)))]) rfl ?_
  refine z_UputF (k := 0) hE f_RX7_18 ft_7 rfl rfl (by decide) rfl (tyX7_ok 2 (by decide)) rfl rfl (Nat.le_of_ble_eq_true rfl) dX7_init_25 ?_
  refine z_Uws (ws2 := [(h0, .inr (7, [.ref q1q, .ref q2q, .ref q3q, .int 0])), (q1q, .inl (z_cA X 0, 6, .inl (fun _ => 0))), (q2q, .inl (z_cA X 0, 6, .inl (fun _ => 0))), (q3q, .inl (z_cA X 0, 6, .inl (fun _ => 0)))]) rfl ?_
  exact hret _ _ (fun k => [q1q, q2q, q3q].getD k 0) _ rfl dX7_init_28
set_option maxHeartbeats 4000000 in
set_option maxRecDepth 100000 in
theorem c_Guide_init {X : z_X} {l : Launch} (h0 : Nat) : z_MC X l yX2_init cX2_init 1 1 12 1 3 [.ref h0] [(h0, .inr (2, [.null, .int 0, .int 0, .int 0]))] (fun u => [(h0, .inr (2, [.ref (u 0), .int 0, .int 0, .int 0])), ((u 0), .inl (z_cA X 0, 3, .inl (fun _ => 0)))]) := by
  refine z_metc (by decide) rfl (Nat.le_of_ble_eq_true rfl) (fun E A hl hE hret => ?_)
  subst hl
  refine z_Ualoadn hE 0 dX2_init_0 rfl ?_
  refine z_UobjInit hE oi_RX2 (by decide) (by decide) dX2_init_1 ?_
  refine z_Ualoadn hE 0 dX2_init_4 rfl ?_
  refine z_Uiconst (v := 3) hE dX2_init_5 rfl ?_
  refine z_Unewa (atype := .int) (N := 3) hE 0 w_3 rfl rfl (fun _ _ => rfl) rfl (by decide) (by decide) (by decide) (by decide) (by decide) dX2_init_6 (fun q1q => ?_)
  refine z_Uws (ws2 := [(h0, .inr (2, [.null, .int 0, .int 0, .int 0])), (q1q, .inl (z_cA X 0, 3, .inl (fun _ => 0)))]) rfl ?_
  refine z_UputF (k := 0) hE f_RX2_9 ft_2 rfl rfl (by decide) rfl (tyX2_ok 0 (by decide)) rfl rfl (Nat.le_of_ble_eq_true rfl) dX2_init_8 ?_
  refine z_Uws (ws2 := [(h0, .inr (2, [.ref q1q, .int 0, .int 0, .int 0])), (q1q, .inl (z_cA X 0, 3, .inl (fun _ => 0)))]) rfl ?_
  exact hret _ _ (fun k => [q1q].getD k 0) _ rfl dX2_init_11
set_option maxHeartbeats 4000000 in
set_option maxRecDepth 100000 in
theorem c_Deal_init {X : z_X} {l : Launch} (h0 : Nat) : z_MC X l yX1_init cX1_init 1 1 12 2 12 [.ref h0] [(h0, .inr (1, [.null, .int 0, .null]))] (fun u => [(h0, .inr (1, [.ref (u 0), .int 0, .ref (u 1)])), ((u 0), .inl (z_cA X 0, 6, .inl (fun _ => 0))), ((u 1), .inl (z_cA X 0, 6, .inl (fun _ => 0)))]) := by
  refine z_metc (by decide) rfl (Nat.le_of_ble_eq_true rfl) (fun E A hl hE hret => ?_)
  subst hl
  refine z_Ualoadn hE 0 dX1_init_0 rfl ?_
  refine z_UobjInit hE oi_RX1 (by decide) (by decide) dX1_init_1 ?_
  refine z_Ualoadn hE 0 dX1_init_4 rfl ?_
  refine z_Ubipush (v := 6) hE dX1_init_5 rfl ?_
  refine z_Unewa (atype := .int) (N := 6) hE 0 w_3 rfl rfl (fun _ _ => rfl) rfl (by decide) (by decide) (by decide) (by decide) (by decide) dX1_init_7 (fun q1q => ?_)
  refine z_Uws (ws2 := [(h0, .inr (1, [.null, .int 0, .null])), (q1q, .inl (z_cA X 0, 6, .inl (fun _ => 0)))]) rfl ?_
  refine z_UputF (k := 0) hE f_RX1_9 ft_1 rfl rfl (by decide) rfl (tyX1_ok 0 (by decide)) rfl rfl (Nat.le_of_ble_eq_true rfl) dX1_init_9 ?_
  refine z_Uws (ws2 := [(h0, .inr (1, [.ref q1q, .int 0, .null])), (q1q, .inl (z_cA X 0, 6, .inl (fun _ => 0)))]) rfl ?_
  refine z_Ualoadn hE 0 dX1_init_12 rfl ?_
  refine z_Ubipush (v := 6) hE dX1_init_13 rfl ?_
  refine z_Unewa (atype := .int) (N := 6) hE 0 w_3 rfl rfl (fun _ _ => rfl) rfl (by decide) (by decide) (by decide) (by decide) (by decide) dX1_init_15 (fun q2q => ?_)
  refine z_Uws (ws2 := [(h0, .inr (1, [.ref q1q, .int 0, .null])), (q1q, .inl (z_cA X 0, 6, .inl (fun _ => 0))), (q2q, .inl (z_cA X 0, 6, .inl (fun _ => 0)))]) rfl ?_
  refine z_UputF (k := 0) hE f_RX1_15 ft_1 rfl rfl (by decide) rfl (tyX1_ok 2 (by decide)) rfl rfl (Nat.le_of_ble_eq_true rfl) dX1_init_17 ?_
  refine z_Uws (ws2 := [(h0, .inr (1, [.ref q1q, .int 0, .ref q2q])), (q1q, .inl (z_cA X 0, 6, .inl (fun _ => 0))), (q2q, .inl (z_cA X 0, 6, .inl (fun _ => 0)))]) rfl ?_
  exact hret _ _ (fun k => [q1q, q2q].getD k 0) _ rfl dX1_init_20
set_option maxHeartbeats 4000000 in
set_option maxRecDepth 100000 in
theorem c_Read_init {X : z_X} {l : Launch} (h0 : Nat) : z_MC X l yX5_init cX5_init 1 2 32 11 59 [.ref h0] [(h0, .inr (5, [.null, .null, .null, .null]))] (fun u => [(h0, .inr (5, [.ref (u 0), .ref (u 4), .ref (u 7), .ref (u 10)])), ((u 0), .inr (3, [.int 0, .int 0, .int 0, .ref (u 1), .ref (u 2), .ref (u 3)])), ((u 1), .inl (z_cA X 0, 4, .inl (fun _ => 0))), ((u 2), .inl (z_cA X 0, 6, .inl (fun _ => 0))), ((u 3), .inl (z_cA X 0, 6, .inl (fun _ => 0))), ((u 4), .inr (0, [.ref (u 5), .ref (u 6), .int 0, .int 0])), ((u 5), .inl (z_cA X 0, 6, .inl (fun _ => 0))), ((u 6), .inl (z_cA X 0, 6, .inl (fun _ => 0))), ((u 7), .inr (6, [.ref (u 8), .ref (u 9), .int 0])), ((u 8), .inl (z_cA X 0, 6, .inl (fun _ => 0))), ((u 9), .inl (z_cA X 0, 6, .inl (fun _ => 0))), ((u 10), .inl (z_cA X 0, 6, .inl (fun _ => 0)))]) := by
  refine z_metc (by decide) rfl (Nat.le_of_ble_eq_true rfl) (fun E A hl hE hret => ?_)
  subst hl
  refine z_Ualoadn hE 0 dX5_init_0 rfl ?_
  refine z_UobjInit hE oi_RX5 (by decide) (by decide) dX5_init_1 ?_
  refine z_Ualoadn hE 0 dX5_init_4 rfl ?_
  refine z_Unew (ci := 3) (fs := [.int 0, .int 0, .int 0, .null, .null, .null]) hE iw_3 ft_3 nw_RX5_9 rfl (fun j hj => by rcases (show j = 0 ∨ j = 1 ∨ j = 2 ∨ j = 3 ∨ j = 4 ∨ j = 5 by omega) with rfl | rfl | rfl | rfl | rfl | rfl <;> rfl) (by decide) (by decide) dX5_init_5 (fun q1q => ?_)
  refine z_Uws (ws2 := [(h0, .inr (5, [.null, .null, .null, .null])), (q1q, .inr (3, [.int 0, .int 0, .int 0, .null, .null, .null]))]) rfl ?_
  refine z_Udup hE dX5_init_8 rfl ?_
  refine z_Ucall (rest := [.ref q1q, .ref h0]) (As := []) (wr := [(h0, .inr (5, [.null, .null, .null, .null]))]) hE (c_Land_init q1q) li_RX5_11 [1] [0] rfl rfl (by decide) (by decide) (by decide) ⟨by decide, by decide⟩ ⟨by decide, by decide⟩ dX5_init_9 rfl (Nat.le_of_ble_eq_true rfl) (fun u2q => ?_)
  refine z_Uws (ws2 := [(h0, .inr (5, [.null, .null, .null, .null])), (q1q, .inr (3, [.int 0, .int 0, .int 0, .ref (u2q 0), .ref (u2q 1), .ref (u2q 2)])), ((u2q 0), .inl (z_cA X 0, 4, .inl (fun _ => 0))), ((u2q 1), .inl (z_cA X 0, 6, .inl (fun _ => 0))), ((u2q 2), .inl (z_cA X 0, 6, .inl (fun _ => 0)))]) rfl ?_
  refine z_UputF (k := 0) hE f_RX5_12 ft_5 rfl rfl (by decide) rfl (tyX5_ok 0 (by decide)) rfl rfl (Nat.le_of_ble_eq_true rfl) dX5_init_12 ?_
  refine z_Uws (ws2 := [(h0, .inr (5, [.ref q1q, .null, .null, .null])), (q1q, .inr (3, [.int 0, .int 0, .int 0, .ref (u2q 0), .ref (u2q 1), .ref (u2q 2)])), ((u2q 0), .inl (z_cA X 0, 4, .inl (fun _ => 0))), ((u2q 1), .inl (z_cA X 0, 6, .inl (fun _ => 0))), ((u2q 2), .inl (z_cA X 0, 6, .inl (fun _ => 0)))]) rfl ?_
  refine z_Ualoadn hE 0 dX5_init_15 rfl ?_
  refine z_Unew (ci := 0) (fs := [.null, .null, .int 0, .int 0]) hE iw_0 ft_0 nw_RX5_18 rfl (fun j hj => by rcases (show j = 0 ∨ j = 1 ∨ j = 2 ∨ j = 3 by omega) with rfl | rfl | rfl | rfl <;> rfl) (by decide) (by decide) dX5_init_16 (fun q3q => ?_)
  refine z_Uws (ws2 := [(h0, .inr (5, [.ref q1q, .null, .null, .null])), (q1q, .inr (3, [.int 0, .int 0, .int 0, .ref (u2q 0), .ref (u2q 1), .ref (u2q 2)])), ((u2q 0), .inl (z_cA X 0, 4, .inl (fun _ => 0))), ((u2q 1), .inl (z_cA X 0, 6, .inl (fun _ => 0))), ((u2q 2), .inl (z_cA X 0, 6, .inl (fun _ => 0))), (q3q, .inr (0, [.null, .null, .int 0, .int 0]))]) rfl ?_
  refine z_Udup hE dX5_init_19 rfl ?_
  refine z_Ucall (rest := [.ref q3q, .ref h0]) (As := []) (wr := [(h0, .inr (5, [.ref q1q, .null, .null, .null])), (q1q, .inr (3, [.int 0, .int 0, .int 0, .ref (u2q 0), .ref (u2q 1), .ref (u2q 2)])), ((u2q 0), .inl (z_cA X 0, 4, .inl (fun _ => 0))), ((u2q 1), .inl (z_cA X 0, 6, .inl (fun _ => 0))), ((u2q 2), .inl (z_cA X 0, 6, .inl (fun _ => 0)))]) hE (c_Col_init q3q) li_RX5_20 [5] [0, 1, 2, 3, 4] rfl rfl (by decide) (by decide) (by decide) ⟨by decide, by decide⟩ ⟨by decide, by decide⟩ dX5_init_20 rfl (Nat.le_of_ble_eq_true rfl) (fun u4q => ?_)
  refine z_Uws (ws2 := [(h0, .inr (5, [.ref q1q, .null, .null, .null])), (q1q, .inr (3, [.int 0, .int 0, .int 0, .ref (u2q 0), .ref (u2q 1), .ref (u2q 2)])), ((u2q 0), .inl (z_cA X 0, 4, .inl (fun _ => 0))), ((u2q 1), .inl (z_cA X 0, 6, .inl (fun _ => 0))), ((u2q 2), .inl (z_cA X 0, 6, .inl (fun _ => 0))), (q3q, .inr (0, [.ref (u4q 0), .ref (u4q 1), .int 0, .int 0])), ((u4q 0), .inl (z_cA X 0, 6, .inl (fun _ => 0))), ((u4q 1), .inl (z_cA X 0, 6, .inl (fun _ => 0)))]) rfl ?_
  refine z_UputF (k := 0) hE f_RX5_21 ft_5 rfl rfl (by decide) rfl (tyX5_ok 1 (by decide)) rfl rfl (Nat.le_of_ble_eq_true rfl) dX5_init_23 ?_
  refine z_Uws (ws2 := [(h0, .inr (5, [.ref q1q, .ref q3q, .null, .null])), (q1q, .inr (3, [.int 0, .int 0, .int 0, .ref (u2q 0), .ref (u2q 1), .ref (u2q 2)])), ((u2q 0), .inl (z_cA X 0, 4, .inl (fun _ => 0))), ((u2q 1), .inl (z_cA X 0, 6, .inl (fun _ => 0))), ((u2q 2), .inl (z_cA X 0, 6, .inl (fun _ => 0))), (q3q, .inr (0, [.ref (u4q 0), .ref (u4q 1), .int 0, .int 0])), ((u4q 0), .inl (z_cA X 0, 6, .inl (fun _ => 0))), ((u4q 1), .inl (z_cA X 0, 6, .inl (fun _ => 0)))]) rfl ?_
  refine z_Ualoadn hE 0 dX5_init_26 rfl ?_
  refine z_Unew (ci := 6) (fs := [.null, .null, .int 0]) hE iw_6 ft_6 nw_RX5_25 rfl (fun j hj => by rcases (show j = 0 ∨ j = 1 ∨ j = 2 by omega) with rfl | rfl | rfl <;> rfl) (by decide) (by decide) dX5_init_27 (fun q5q => ?_)
  refine z_Uws (ws2 := [(h0, .inr (5, [.ref q1q, .ref q3q, .null, .null])), (q1q, .inr (3, [.int 0, .int 0, .int 0, .ref (u2q 0), .ref (u2q 1), .ref (u2q 2)])), ((u2q 0), .inl (z_cA X 0, 4, .inl (fun _ => 0))), ((u2q 1), .inl (z_cA X 0, 6, .inl (fun _ => 0))), ((u2q 2), .inl (z_cA X 0, 6, .inl (fun _ => 0))), (q3q, .inr (0, [.ref (u4q 0), .ref (u4q 1), .int 0, .int 0])), ((u4q 0), .inl (z_cA X 0, 6, .inl (fun _ => 0))), ((u4q 1), .inl (z_cA X 0, 6, .inl (fun _ => 0))), (q5q, .inr (6, [.null, .null, .int 0]))]) rfl ?_
  refine z_Udup hE dX5_init_30 rfl ?_
  refine z_Ucall (rest := [.ref q5q, .ref h0]) (As := []) (wr := [(h0, .inr (5, [.ref q1q, .ref q3q, .null, .null])), (q1q, .inr (3, [.int 0, .int 0, .int 0, .ref (u2q 0), .ref (u2q 1), .ref (u2q 2)])), ((u2q 0), .inl (z_cA X 0, 4, .inl (fun _ => 0))), ((u2q 1), .inl (z_cA X 0, 6, .inl (fun _ => 0))), ((u2q 2), .inl (z_cA X 0, 6, .inl (fun _ => 0))), (q3q, .inr (0, [.ref (u4q 0), .ref (u4q 1), .int 0, .int 0])), ((u4q 0), .inl (z_cA X 0, 6, .inl (fun _ => 0))), ((u4q 1), .inl (z_cA X 0, 6, .inl (fun _ => 0)))]) hE (c_Row_init q5q) li_RX5_27 [8] [0, 1, 2, 3, 4, 5, 6, 7] rfl rfl (by decide) (by decide) (by decide) ⟨by decide, by decide⟩ ⟨by decide, by decide⟩ dX5_init_31 rfl (Nat.le_of_ble_eq_true rfl) (fun u6q => ?_)
  refine z_Uws (ws2 := [(h0, .inr (5, [.ref q1q, .ref q3q, .null, .null])), (q1q, .inr (3, [.int 0, .int 0, .int 0, .ref (u2q 0), .ref (u2q 1), .ref (u2q 2)])), ((u2q 0), .inl (z_cA X 0, 4, .inl (fun _ => 0))), ((u2q 1), .inl (z_cA X 0, 6, .inl (fun _ => 0))), ((u2q 2), .inl (z_cA X 0, 6, .inl (fun _ => 0))), (q3q, .inr (0, [.ref (u4q 0), .ref (u4q 1), .int 0, .int 0])), ((u4q 0), .inl (z_cA X 0, 6, .inl (fun _ => 0))), ((u4q 1), .inl (z_cA X 0, 6, .inl (fun _ => 0))), (q5q, .inr (6, [.ref (u6q 0), .ref (u6q 1), .int 0])), ((u6q 0), .inl (z_cA X 0, 6, .inl (fun _ => 0))), ((u6q 1), .inl (z_cA X 0, 6, .inl (fun _ => 0)))]) rfl ?_
  refine z_UputF (k := 0) hE f_RX5_28 ft_5 rfl rfl (by decide) rfl (tyX5_ok 2 (by decide)) rfl rfl (Nat.le_of_ble_eq_true rfl) dX5_init_34 ?_
  refine z_Uws (ws2 := [(h0, .inr (5, [.ref q1q, .ref q3q, .ref q5q, .null])), (q1q, .inr (3, [.int 0, .int 0, .int 0, .ref (u2q 0), .ref (u2q 1), .ref (u2q 2)])), ((u2q 0), .inl (z_cA X 0, 4, .inl (fun _ => 0))), ((u2q 1), .inl (z_cA X 0, 6, .inl (fun _ => 0))), ((u2q 2), .inl (z_cA X 0, 6, .inl (fun _ => 0))), (q3q, .inr (0, [.ref (u4q 0), .ref (u4q 1), .int 0, .int 0])), ((u4q 0), .inl (z_cA X 0, 6, .inl (fun _ => 0))), ((u4q 1), .inl (z_cA X 0, 6, .inl (fun _ => 0))), (q5q, .inr (6, [.ref (u6q 0), .ref (u6q 1), .int 0])), ((u6q 0), .inl (z_cA X 0, 6, .inl (fun _ => 0))), ((u6q 1), .inl (z_cA X 0, 6, .inl (fun _ => 0)))]) rfl ?_
  refine z_Ualoadn hE 0 dX5_init_37 rfl ?_
  refine z_Ubipush (v := 6) hE dX5_init_38 rfl ?_
  refine z_Unewa (atype := .int) (N := 6) hE 0 w_3 rfl rfl (fun _ _ => rfl) rfl (by decide) (by decide) (by decide) (by decide) (by decide) dX5_init_40 (fun q7q => ?_)
  refine z_Uws (ws2 := [(h0, .inr (5, [.ref q1q, .ref q3q, .ref q5q, .null])), (q1q, .inr (3, [.int 0, .int 0, .int 0, .ref (u2q 0), .ref (u2q 1), .ref (u2q 2)])), ((u2q 0), .inl (z_cA X 0, 4, .inl (fun _ => 0))), ((u2q 1), .inl (z_cA X 0, 6, .inl (fun _ => 0))), ((u2q 2), .inl (z_cA X 0, 6, .inl (fun _ => 0))), (q3q, .inr (0, [.ref (u4q 0), .ref (u4q 1), .int 0, .int 0])), ((u4q 0), .inl (z_cA X 0, 6, .inl (fun _ => 0))), ((u4q 1), .inl (z_cA X 0, 6, .inl (fun _ => 0))), (q5q, .inr (6, [.ref (u6q 0), .ref (u6q 1), .int 0])), ((u6q 0), .inl (z_cA X 0, 6, .inl (fun _ => 0))), ((u6q 1), .inl (z_cA X 0, 6, .inl (fun _ => 0))), (q7q, .inl (z_cA X 0, 6, .inl (fun _ => 0)))]) rfl ?_
  refine z_UputF (k := 0) hE f_RX5_32 ft_5 rfl rfl (by decide) rfl (tyX5_ok 3 (by decide)) rfl rfl (Nat.le_of_ble_eq_true rfl) dX5_init_42 ?_
  refine z_Uws (ws2 := [(h0, .inr (5, [.ref q1q, .ref q3q, .ref q5q, .ref q7q])), (q1q, .inr (3, [.int 0, .int 0, .int 0, .ref (u2q 0), .ref (u2q 1), .ref (u2q 2)])), ((u2q 0), .inl (z_cA X 0, 4, .inl (fun _ => 0))), ((u2q 1), .inl (z_cA X 0, 6, .inl (fun _ => 0))), ((u2q 2), .inl (z_cA X 0, 6, .inl (fun _ => 0))), (q3q, .inr (0, [.ref (u4q 0), .ref (u4q 1), .int 0, .int 0])), ((u4q 0), .inl (z_cA X 0, 6, .inl (fun _ => 0))), ((u4q 1), .inl (z_cA X 0, 6, .inl (fun _ => 0))), (q5q, .inr (6, [.ref (u6q 0), .ref (u6q 1), .int 0])), ((u6q 0), .inl (z_cA X 0, 6, .inl (fun _ => 0))), ((u6q 1), .inl (z_cA X 0, 6, .inl (fun _ => 0))), (q7q, .inl (z_cA X 0, 6, .inl (fun _ => 0)))]) rfl ?_
  exact hret _ _ (fun k => [q1q, (u2q 0), (u2q 1), (u2q 2), q3q, (u4q 0), (u4q 1), q5q, (u6q 0), (u6q 1), q7q].getD k 0) _ rfl dX5_init_45
set_option maxHeartbeats 4000000 in
set_option maxRecDepth 100000 in
theorem c_Pile_init_8 {X : z_X} {l : Launch} (h0 : Nat) : z_MC X l yX4_init cX4_init 3 2 32 25 136 [.ref h0, .int 8] [(h0, .inr (4, [.null, .int 0]))] (fun u => [(h0, .inr (4, [.ref (u 0), .int 0])), ((u 0), .inl (z_cA X 3, 8, .inr (.inr (.inr (.inr (va_up (va_up (va_up (va_up (va_up (va_up (va_up (va_up (fun _ => none) 0 (some (u 1))) 1 (some (u 4))) 2 (some (u 7))) 3 (some (u 10))) 4 (some (u 13))) 5 (some (u 16))) 6 (some (u 19))) 7 (some (u 22)))))))), ((u 1), .inr (0, [.ref (u 2), .ref (u 3), .int 0, .int 0])), ((u 2), .inl (z_cA X 0, 6, .inl (fun _ => 0))), ((u 3), .inl (z_cA X 0, 6, .inl (fun _ => 0))), ((u 4), .inr (0, [.ref (u 5), .ref (u 6), .int 0, .int 0])), ((u 5), .inl (z_cA X 0, 6, .inl (fun _ => 0))), ((u 6), .inl (z_cA X 0, 6, .inl (fun _ => 0))), ((u 7), .inr (0, [.ref (u 8), .ref (u 9), .int 0, .int 0])), ((u 8), .inl (z_cA X 0, 6, .inl (fun _ => 0))), ((u 9), .inl (z_cA X 0, 6, .inl (fun _ => 0))), ((u 10), .inr (0, [.ref (u 11), .ref (u 12), .int 0, .int 0])), ((u 11), .inl (z_cA X 0, 6, .inl (fun _ => 0))), ((u 12), .inl (z_cA X 0, 6, .inl (fun _ => 0))), ((u 13), .inr (0, [.ref (u 14), .ref (u 15), .int 0, .int 0])), ((u 14), .inl (z_cA X 0, 6, .inl (fun _ => 0))), ((u 15), .inl (z_cA X 0, 6, .inl (fun _ => 0))), ((u 16), .inr (0, [.ref (u 17), .ref (u 18), .int 0, .int 0])), ((u 17), .inl (z_cA X 0, 6, .inl (fun _ => 0))), ((u 18), .inl (z_cA X 0, 6, .inl (fun _ => 0))), ((u 19), .inr (0, [.ref (u 20), .ref (u 21), .int 0, .int 0])), ((u 20), .inl (z_cA X 0, 6, .inl (fun _ => 0))), ((u 21), .inl (z_cA X 0, 6, .inl (fun _ => 0))), ((u 22), .inr (0, [.ref (u 23), .ref (u 24), .int 0, .int 0])), ((u 23), .inl (z_cA X 0, 6, .inl (fun _ => 0))), ((u 24), .inl (z_cA X 0, 6, .inl (fun _ => 0)))]) := by
  refine z_metc (by decide) rfl (Nat.le_of_ble_eq_true rfl) (fun E A hl hE hret => ?_)
  subst hl
  refine z_Ualoadn hE 0 dX4_init_0 rfl ?_
  refine z_UobjInit hE oi_RX4 (by decide) (by decide) dX4_init_1 ?_
  refine z_Ualoadn hE 0 dX4_init_4 rfl ?_
  refine z_Uiconst (v := 1) hE dX4_init_5 rfl ?_
  refine z_Uiloadn hE 1 dX4_init_6 rfl ?_
  refine z_Ummax (v := 8) hE l_RX4_7 (by decide) (Nat.le_of_ble_eq_true rfl) (by decide) (by decide) (by decide) dX4_init_7 ?_
  refine z_Unewq (N := 8) hE nq_RX4_13 (by decide) (by decide) (by decide) (by decide) (by decide) dX4_init_10 (fun q1q => ?_)
  refine z_Uws (ws2 := [(h0, .inr (4, [.null, .int 0])), (q1q, .inl (z_cA X 3, 8, .inr (.inr (.inr (.inr (fun _ => none))))))]) rfl ?_
  refine z_UputF (k := 0) hE f_RX4_15 ft_4 rfl rfl (by decide) rfl (tyX4_ok 0 (by decide)) rfl rfl (Nat.le_of_ble_eq_true rfl) dX4_init_13 ?_
  refine z_Uws (ws2 := [(h0, .inr (4, [.ref q1q, .int 0])), (q1q, .inl (z_cA X 3, 8, .inr (.inr (.inr (.inr (fun _ => none))))))]) rfl ?_
  refine z_Uiconst (v := 0) hE dX4_init_16 rfl ?_
  refine z_Uistoren hE [(2, .int 0), (0, .ref h0), (1, .int 8)] dX4_init_17 rfl (by decide) rfl ?_
  refine z_Uiloadn hE 0 dX4_init_18 rfl ?_
  refine z_Ualoadn hE 1 dX4_init_19 rfl ?_
  refine z_Uget (k := 0) hE f_RX4_15 rfl rfl dX4_init_20 ?_
  refine z_Ualen (k := 1) (v := 8) hE 3 rfl rfl rfl dX4_init_23 ?_
  refine z_Uge hE 46 dX4_init_24 rfl (fun hh => absurd hh (by decide)) (fun _ => ?_)
  refine z_Ualoadn hE 1 dX4_init_27 rfl ?_
  refine z_Uget (k := 0) hE f_RX4_15 rfl rfl dX4_init_28 ?_
  refine z_Uiloadn hE 0 dX4_init_31 rfl ?_
  refine z_Unew (ci := 0) (fs := [.null, .null, .int 0, .int 0]) hE iw_0 ft_0 nw_RX4_13 rfl (fun j hj => by rcases (show j = 0 ∨ j = 1 ∨ j = 2 ∨ j = 3 by omega) with rfl | rfl | rfl | rfl <;> rfl) (by decide) (by decide) dX4_init_32 (fun q2q => ?_)
  refine z_Uws (ws2 := [(h0, .inr (4, [.ref q1q, .int 0])), (q1q, .inl (z_cA X 3, 8, .inr (.inr (.inr (.inr (fun _ => none)))))), (q2q, .inr (0, [.null, .null, .int 0, .int 0]))]) rfl ?_
  refine z_Udup hE dX4_init_35 rfl ?_
  refine z_Ucall (rest := [.ref q2q, .int 0, .ref q1q]) (As := []) (wr := [(h0, .inr (4, [.ref q1q, .int 0])), (q1q, .inl (z_cA X 3, 8, .inr (.inr (.inr (.inr (fun _ => none))))))]) hE (c_Col_init q2q) li_RX4_21 [2] [0, 1] rfl rfl (by decide) (by decide) (by decide) ⟨by decide, by decide⟩ ⟨by decide, by decide⟩ dX4_init_36 rfl (Nat.le_of_ble_eq_true rfl) (fun u3q => ?_)
  refine z_Uws (ws2 := [(h0, .inr (4, [.ref q1q, .int 0])), (q1q, .inl (z_cA X 3, 8, .inr (.inr (.inr (.inr (fun _ => none)))))), (q2q, .inr (0, [.ref (u3q 0), .ref (u3q 1), .int 0, .int 0])), ((u3q 0), .inl (z_cA X 0, 6, .inl (fun _ => 0))), ((u3q 1), .inl (z_cA X 0, 6, .inl (fun _ => 0)))]) rfl ?_
  refine z_Uaast (k := 1) (k2 := 2) hE rfl rfl (by decide) dX4_init_39 ?_
  refine z_Uws (ws2 := [(h0, .inr (4, [.ref q1q, .int 0])), (q1q, .inl (z_cA X 3, 8, .inr (.inr (.inr (.inr (va_up (fun _ => none) 0 (some q2q))))))), (q2q, .inr (0, [.ref (u3q 0), .ref (u3q 1), .int 0, .int 0])), ((u3q 0), .inl (z_cA X 0, 6, .inl (fun _ => 0))), ((u3q 1), .inl (z_cA X 0, 6, .inl (fun _ => 0)))]) rfl ?_
  refine z_Uiinc (v := 1) hE 0 [(2, .int 1), (0, .ref h0), (1, .int 8)] dX4_init_40 rfl (by decide) (by decide) rfl ?_
  refine z_Ugoto hE 18 dX4_init_43 rfl ?_
  refine z_Uiloadn hE 0 dX4_init_18 rfl ?_
  refine z_Ualoadn hE 1 dX4_init_19 rfl ?_
  refine z_Uget (k := 0) hE f_RX4_15 rfl rfl dX4_init_20 ?_
  refine z_Ualen (k := 1) (v := 8) hE 3 rfl rfl rfl dX4_init_23 ?_
  refine z_Uge hE 46 dX4_init_24 rfl (fun hh => absurd hh (by decide)) (fun _ => ?_)
  refine z_Ualoadn hE 1 dX4_init_27 rfl ?_
  refine z_Uget (k := 0) hE f_RX4_15 rfl rfl dX4_init_28 ?_
  refine z_Uiloadn hE 0 dX4_init_31 rfl ?_
  refine z_Unew (ci := 0) (fs := [.null, .null, .int 0, .int 0]) hE iw_0 ft_0 nw_RX4_13 rfl (fun j hj => by rcases (show j = 0 ∨ j = 1 ∨ j = 2 ∨ j = 3 by omega) with rfl | rfl | rfl | rfl <;> rfl) (by decide) (by decide) dX4_init_32 (fun q4q => ?_)
  refine z_Uws (ws2 := [(h0, .inr (4, [.ref q1q, .int 0])), (q1q, .inl (z_cA X 3, 8, .inr (.inr (.inr (.inr (va_up (fun _ => none) 0 (some q2q))))))), (q2q, .inr (0, [.ref (u3q 0), .ref (u3q 1), .int 0, .int 0])), ((u3q 0), .inl (z_cA X 0, 6, .inl (fun _ => 0))), ((u3q 1), .inl (z_cA X 0, 6, .inl (fun _ => 0))), (q4q, .inr (0, [.null, .null, .int 0, .int 0]))]) rfl ?_
  refine z_Udup hE dX4_init_35 rfl ?_
  refine z_Ucall (rest := [.ref q4q, .int 1, .ref q1q]) (As := []) (wr := [(h0, .inr (4, [.ref q1q, .int 0])), (q1q, .inl (z_cA X 3, 8, .inr (.inr (.inr (.inr (va_up (fun _ => none) 0 (some q2q))))))), (q2q, .inr (0, [.ref (u3q 0), .ref (u3q 1), .int 0, .int 0])), ((u3q 0), .inl (z_cA X 0, 6, .inl (fun _ => 0))), ((u3q 1), .inl (z_cA X 0, 6, .inl (fun _ => 0)))]) hE (c_Col_init q4q) li_RX4_21 [5] [0, 1, 2, 3, 4] rfl rfl (by decide) (by decide) (by decide) ⟨by decide, by decide⟩ ⟨by decide, by decide⟩ dX4_init_36 rfl (Nat.le_of_ble_eq_true rfl) (fun u5q => ?_)
  refine z_Uws (ws2 := [(h0, .inr (4, [.ref q1q, .int 0])), (q1q, .inl (z_cA X 3, 8, .inr (.inr (.inr (.inr (va_up (fun _ => none) 0 (some q2q))))))), (q2q, .inr (0, [.ref (u3q 0), .ref (u3q 1), .int 0, .int 0])), ((u3q 0), .inl (z_cA X 0, 6, .inl (fun _ => 0))), ((u3q 1), .inl (z_cA X 0, 6, .inl (fun _ => 0))), (q4q, .inr (0, [.ref (u5q 0), .ref (u5q 1), .int 0, .int 0])), ((u5q 0), .inl (z_cA X 0, 6, .inl (fun _ => 0))), ((u5q 1), .inl (z_cA X 0, 6, .inl (fun _ => 0)))]) rfl ?_
  refine z_Uaast (k := 1) (k2 := 5) hE rfl rfl (by decide) dX4_init_39 ?_
  refine z_Uws (ws2 := [(h0, .inr (4, [.ref q1q, .int 0])), (q1q, .inl (z_cA X 3, 8, .inr (.inr (.inr (.inr (va_up (va_up (fun _ => none) 0 (some q2q)) 1 (some q4q))))))), (q2q, .inr (0, [.ref (u3q 0), .ref (u3q 1), .int 0, .int 0])), ((u3q 0), .inl (z_cA X 0, 6, .inl (fun _ => 0))), ((u3q 1), .inl (z_cA X 0, 6, .inl (fun _ => 0))), (q4q, .inr (0, [.ref (u5q 0), .ref (u5q 1), .int 0, .int 0])), ((u5q 0), .inl (z_cA X 0, 6, .inl (fun _ => 0))), ((u5q 1), .inl (z_cA X 0, 6, .inl (fun _ => 0)))]) rfl ?_
  refine z_Uiinc (v := 2) hE 0 [(2, .int 2), (0, .ref h0), (1, .int 8)] dX4_init_40 rfl (by decide) (by decide) rfl ?_
  refine z_Ugoto hE 18 dX4_init_43 rfl ?_
  refine z_Uiloadn hE 0 dX4_init_18 rfl ?_
  refine z_Ualoadn hE 1 dX4_init_19 rfl ?_
  refine z_Uget (k := 0) hE f_RX4_15 rfl rfl dX4_init_20 ?_
  refine z_Ualen (k := 1) (v := 8) hE 3 rfl rfl rfl dX4_init_23 ?_
  refine z_Uge hE 46 dX4_init_24 rfl (fun hh => absurd hh (by decide)) (fun _ => ?_)
  refine z_Ualoadn hE 1 dX4_init_27 rfl ?_
  refine z_Uget (k := 0) hE f_RX4_15 rfl rfl dX4_init_28 ?_
  refine z_Uiloadn hE 0 dX4_init_31 rfl ?_
  refine z_Unew (ci := 0) (fs := [.null, .null, .int 0, .int 0]) hE iw_0 ft_0 nw_RX4_13 rfl (fun j hj => by rcases (show j = 0 ∨ j = 1 ∨ j = 2 ∨ j = 3 by omega) with rfl | rfl | rfl | rfl <;> rfl) (by decide) (by decide) dX4_init_32 (fun q6q => ?_)
  refine z_Uws (ws2 := [(h0, .inr (4, [.ref q1q, .int 0])), (q1q, .inl (z_cA X 3, 8, .inr (.inr (.inr (.inr (va_up (va_up (fun _ => none) 0 (some q2q)) 1 (some q4q))))))), (q2q, .inr (0, [.ref (u3q 0), .ref (u3q 1), .int 0, .int 0])), ((u3q 0), .inl (z_cA X 0, 6, .inl (fun _ => 0))), ((u3q 1), .inl (z_cA X 0, 6, .inl (fun _ => 0))), (q4q, .inr (0, [.ref (u5q 0), .ref (u5q 1), .int 0, .int 0])), ((u5q 0), .inl (z_cA X 0, 6, .inl (fun _ => 0))), ((u5q 1), .inl (z_cA X 0, 6, .inl (fun _ => 0))), (q6q, .inr (0, [.null, .null, .int 0, .int 0]))]) rfl ?_
  refine z_Udup hE dX4_init_35 rfl ?_
  refine z_Ucall (rest := [.ref q6q, .int 2, .ref q1q]) (As := []) (wr := [(h0, .inr (4, [.ref q1q, .int 0])), (q1q, .inl (z_cA X 3, 8, .inr (.inr (.inr (.inr (va_up (va_up (fun _ => none) 0 (some q2q)) 1 (some q4q))))))), (q2q, .inr (0, [.ref (u3q 0), .ref (u3q 1), .int 0, .int 0])), ((u3q 0), .inl (z_cA X 0, 6, .inl (fun _ => 0))), ((u3q 1), .inl (z_cA X 0, 6, .inl (fun _ => 0))), (q4q, .inr (0, [.ref (u5q 0), .ref (u5q 1), .int 0, .int 0])), ((u5q 0), .inl (z_cA X 0, 6, .inl (fun _ => 0))), ((u5q 1), .inl (z_cA X 0, 6, .inl (fun _ => 0)))]) hE (c_Col_init q6q) li_RX4_21 [8] [0, 1, 2, 3, 4, 5, 6, 7] rfl rfl (by decide) (by decide) (by decide) ⟨by decide, by decide⟩ ⟨by decide, by decide⟩ dX4_init_36 rfl (Nat.le_of_ble_eq_true rfl) (fun u7q => ?_)
  refine z_Uws (ws2 := [(h0, .inr (4, [.ref q1q, .int 0])), (q1q, .inl (z_cA X 3, 8, .inr (.inr (.inr (.inr (va_up (va_up (fun _ => none) 0 (some q2q)) 1 (some q4q))))))), (q2q, .inr (0, [.ref (u3q 0), .ref (u3q 1), .int 0, .int 0])), ((u3q 0), .inl (z_cA X 0, 6, .inl (fun _ => 0))), ((u3q 1), .inl (z_cA X 0, 6, .inl (fun _ => 0))), (q4q, .inr (0, [.ref (u5q 0), .ref (u5q 1), .int 0, .int 0])), ((u5q 0), .inl (z_cA X 0, 6, .inl (fun _ => 0))), ((u5q 1), .inl (z_cA X 0, 6, .inl (fun _ => 0))), (q6q, .inr (0, [.ref (u7q 0), .ref (u7q 1), .int 0, .int 0])), ((u7q 0), .inl (z_cA X 0, 6, .inl (fun _ => 0))), ((u7q 1), .inl (z_cA X 0, 6, .inl (fun _ => 0)))]) rfl ?_
  refine z_Uaast (k := 1) (k2 := 8) hE rfl rfl (by decide) dX4_init_39 ?_
  refine z_Uws (ws2 := [(h0, .inr (4, [.ref q1q, .int 0])), (q1q, .inl (z_cA X 3, 8, .inr (.inr (.inr (.inr (va_up (va_up (va_up (fun _ => none) 0 (some q2q)) 1 (some q4q)) 2 (some q6q))))))), (q2q, .inr (0, [.ref (u3q 0), .ref (u3q 1), .int 0, .int 0])), ((u3q 0), .inl (z_cA X 0, 6, .inl (fun _ => 0))), ((u3q 1), .inl (z_cA X 0, 6, .inl (fun _ => 0))), (q4q, .inr (0, [.ref (u5q 0), .ref (u5q 1), .int 0, .int 0])), ((u5q 0), .inl (z_cA X 0, 6, .inl (fun _ => 0))), ((u5q 1), .inl (z_cA X 0, 6, .inl (fun _ => 0))), (q6q, .inr (0, [.ref (u7q 0), .ref (u7q 1), .int 0, .int 0])), ((u7q 0), .inl (z_cA X 0, 6, .inl (fun _ => 0))), ((u7q 1), .inl (z_cA X 0, 6, .inl (fun _ => 0)))]) rfl ?_
  refine z_Uiinc (v := 3) hE 0 [(2, .int 3), (0, .ref h0), (1, .int 8)] dX4_init_40 rfl (by decide) (by decide) rfl ?_
  refine z_Ugoto hE 18 dX4_init_43 rfl ?_
  refine z_Uiloadn hE 0 dX4_init_18 rfl ?_
  refine z_Ualoadn hE 1 dX4_init_19 rfl ?_
  refine z_Uget (k := 0) hE f_RX4_15 rfl rfl dX4_init_20 ?_
  refine z_Ualen (k := 1) (v := 8) hE 3 rfl rfl rfl dX4_init_23 ?_
  refine z_Uge hE 46 dX4_init_24 rfl (fun hh => absurd hh (by decide)) (fun _ => ?_)
  refine z_Ualoadn hE 1 dX4_init_27 rfl ?_
  refine z_Uget (k := 0) hE f_RX4_15 rfl rfl dX4_init_28 ?_
  refine z_Uiloadn hE 0 dX4_init_31 rfl ?_
  refine z_Unew (ci := 0) (fs := [.null, .null, .int 0, .int 0]) hE iw_0 ft_0 nw_RX4_13 rfl (fun j hj => by rcases (show j = 0 ∨ j = 1 ∨ j = 2 ∨ j = 3 by omega) with rfl | rfl | rfl | rfl <;> rfl) (by decide) (by decide) dX4_init_32 (fun q8q => ?_)
  refine z_Uws (ws2 := [(h0, .inr (4, [.ref q1q, .int 0])), (q1q, .inl (z_cA X 3, 8, .inr (.inr (.inr (.inr (va_up (va_up (va_up (fun _ => none) 0 (some q2q)) 1 (some q4q)) 2 (some q6q))))))), (q2q, .inr (0, [.ref (u3q 0), .ref (u3q 1), .int 0, .int 0])), ((u3q 0), .inl (z_cA X 0, 6, .inl (fun _ => 0))), ((u3q 1), .inl (z_cA X 0, 6, .inl (fun _ => 0))), (q4q, .inr (0, [.ref (u5q 0), .ref (u5q 1), .int 0, .int 0])), ((u5q 0), .inl (z_cA X 0, 6, .inl (fun _ => 0))), ((u5q 1), .inl (z_cA X 0, 6, .inl (fun _ => 0))), (q6q, .inr (0, [.ref (u7q 0), .ref (u7q 1), .int 0, .int 0])), ((u7q 0), .inl (z_cA X 0, 6, .inl (fun _ => 0))), ((u7q 1), .inl (z_cA X 0, 6, .inl (fun _ => 0))), (q8q, .inr (0, [.null, .null, .int 0, .int 0]))]) rfl ?_
  refine z_Udup hE dX4_init_35 rfl ?_
  refine z_Ucall (rest := [.ref q8q, .int 3, .ref q1q]) (As := []) (wr := [(h0, .inr (4, [.ref q1q, .int 0])), (q1q, .inl (z_cA X 3, 8, .inr (.inr (.inr (.inr (va_up (va_up (va_up (fun _ => none) 0 (some q2q)) 1 (some q4q)) 2 (some q6q))))))), (q2q, .inr (0, [.ref (u3q 0), .ref (u3q 1), .int 0, .int 0])), ((u3q 0), .inl (z_cA X 0, 6, .inl (fun _ => 0))), ((u3q 1), .inl (z_cA X 0, 6, .inl (fun _ => 0))), (q4q, .inr (0, [.ref (u5q 0), .ref (u5q 1), .int 0, .int 0])), ((u5q 0), .inl (z_cA X 0, 6, .inl (fun _ => 0))), ((u5q 1), .inl (z_cA X 0, 6, .inl (fun _ => 0))), (q6q, .inr (0, [.ref (u7q 0), .ref (u7q 1), .int 0, .int 0])), ((u7q 0), .inl (z_cA X 0, 6, .inl (fun _ => 0))), ((u7q 1), .inl (z_cA X 0, 6, .inl (fun _ => 0)))]) hE (c_Col_init q8q) li_RX4_21 [11] [0, 1, 2, 3, 4, 5, 6, 7, 8, 9, 10] rfl rfl (by decide) (by decide) (by decide) ⟨by decide, by decide⟩ ⟨by decide, by decide⟩ dX4_init_36 rfl (Nat.le_of_ble_eq_true rfl) (fun u9q => ?_)
  refine z_Uws (ws2 := [(h0, .inr (4, [.ref q1q, .int 0])), (q1q, .inl (z_cA X 3, 8, .inr (.inr (.inr (.inr (va_up (va_up (va_up (fun _ => none) 0 (some q2q)) 1 (some q4q)) 2 (some q6q))))))), (q2q, .inr (0, [.ref (u3q 0), .ref (u3q 1), .int 0, .int 0])), ((u3q 0), .inl (z_cA X 0, 6, .inl (fun _ => 0))), ((u3q 1), .inl (z_cA X 0, 6, .inl (fun _ => 0))), (q4q, .inr (0, [.ref (u5q 0), .ref (u5q 1), .int 0, .int 0])), ((u5q 0), .inl (z_cA X 0, 6, .inl (fun _ => 0))), ((u5q 1), .inl (z_cA X 0, 6, .inl (fun _ => 0))), (q6q, .inr (0, [.ref (u7q 0), .ref (u7q 1), .int 0, .int 0])), ((u7q 0), .inl (z_cA X 0, 6, .inl (fun _ => 0))), ((u7q 1), .inl (z_cA X 0, 6, .inl (fun _ => 0))), (q8q, .inr (0, [.ref (u9q 0), .ref (u9q 1), .int 0, .int 0])), ((u9q 0), .inl (z_cA X 0, 6, .inl (fun _ => 0))), ((u9q 1), .inl (z_cA X 0, 6, .inl (fun _ => 0)))]) rfl ?_
  refine z_Uaast (k := 1) (k2 := 11) hE rfl rfl (by decide) dX4_init_39 ?_
  refine z_Uws (ws2 := [(h0, .inr (4, [.ref q1q, .int 0])), (q1q, .inl (z_cA X 3, 8, .inr (.inr (.inr (.inr (va_up (va_up (va_up (va_up (fun _ => none) 0 (some q2q)) 1 (some q4q)) 2 (some q6q)) 3 (some q8q))))))), (q2q, .inr (0, [.ref (u3q 0), .ref (u3q 1), .int 0, .int 0])), ((u3q 0), .inl (z_cA X 0, 6, .inl (fun _ => 0))), ((u3q 1), .inl (z_cA X 0, 6, .inl (fun _ => 0))), (q4q, .inr (0, [.ref (u5q 0), .ref (u5q 1), .int 0, .int 0])), ((u5q 0), .inl (z_cA X 0, 6, .inl (fun _ => 0))), ((u5q 1), .inl (z_cA X 0, 6, .inl (fun _ => 0))), (q6q, .inr (0, [.ref (u7q 0), .ref (u7q 1), .int 0, .int 0])), ((u7q 0), .inl (z_cA X 0, 6, .inl (fun _ => 0))), ((u7q 1), .inl (z_cA X 0, 6, .inl (fun _ => 0))), (q8q, .inr (0, [.ref (u9q 0), .ref (u9q 1), .int 0, .int 0])), ((u9q 0), .inl (z_cA X 0, 6, .inl (fun _ => 0))), ((u9q 1), .inl (z_cA X 0, 6, .inl (fun _ => 0)))]) rfl ?_
  refine z_Uiinc (v := 4) hE 0 [(2, .int 4), (0, .ref h0), (1, .int 8)] dX4_init_40 rfl (by decide) (by decide) rfl ?_
  refine z_Ugoto hE 18 dX4_init_43 rfl ?_
  refine z_Uiloadn hE 0 dX4_init_18 rfl ?_
  refine z_Ualoadn hE 1 dX4_init_19 rfl ?_
  refine z_Uget (k := 0) hE f_RX4_15 rfl rfl dX4_init_20 ?_
  refine z_Ualen (k := 1) (v := 8) hE 3 rfl rfl rfl dX4_init_23 ?_
  refine z_Uge hE 46 dX4_init_24 rfl (fun hh => absurd hh (by decide)) (fun _ => ?_)
  refine z_Ualoadn hE 1 dX4_init_27 rfl ?_
  refine z_Uget (k := 0) hE f_RX4_15 rfl rfl dX4_init_28 ?_
  refine z_Uiloadn hE 0 dX4_init_31 rfl ?_
  refine z_Unew (ci := 0) (fs := [.null, .null, .int 0, .int 0]) hE iw_0 ft_0 nw_RX4_13 rfl (fun j hj => by rcases (show j = 0 ∨ j = 1 ∨ j = 2 ∨ j = 3 by omega) with rfl | rfl | rfl | rfl <;> rfl) (by decide) (by decide) dX4_init_32 (fun q10q => ?_)
  refine z_Uws (ws2 := [(h0, .inr (4, [.ref q1q, .int 0])), (q1q, .inl (z_cA X 3, 8, .inr (.inr (.inr (.inr (va_up (va_up (va_up (va_up (fun _ => none) 0 (some q2q)) 1 (some q4q)) 2 (some q6q)) 3 (some q8q))))))), (q2q, .inr (0, [.ref (u3q 0), .ref (u3q 1), .int 0, .int 0])), ((u3q 0), .inl (z_cA X 0, 6, .inl (fun _ => 0))), ((u3q 1), .inl (z_cA X 0, 6, .inl (fun _ => 0))), (q4q, .inr (0, [.ref (u5q 0), .ref (u5q 1), .int 0, .int 0])), ((u5q 0), .inl (z_cA X 0, 6, .inl (fun _ => 0))), ((u5q 1), .inl (z_cA X 0, 6, .inl (fun _ => 0))), (q6q, .inr (0, [.ref (u7q 0), .ref (u7q 1), .int 0, .int 0])), ((u7q 0), .inl (z_cA X 0, 6, .inl (fun _ => 0))), ((u7q 1), .inl (z_cA X 0, 6, .inl (fun _ => 0))), (q8q, .inr (0, [.ref (u9q 0), .ref (u9q 1), .int 0, .int 0])), ((u9q 0), .inl (z_cA X 0, 6, .inl (fun _ => 0))), ((u9q 1), .inl (z_cA X 0, 6, .inl (fun _ => 0))), (q10q, .inr (0, [.null, .null, .int 0, .int 0]))]) rfl ?_
  refine z_Udup hE dX4_init_35 rfl ?_
  refine z_Ucall (rest := [.ref q10q, .int 4, .ref q1q]) (As := []) (wr := [(h0, .inr (4, [.ref q1q, .int 0])), (q1q, .inl (z_cA X 3, 8, .inr (.inr (.inr (.inr (va_up (va_up (va_up (va_up (fun _ => none) 0 (some q2q)) 1 (some q4q)) 2 (some q6q)) 3 (some q8q))))))), (q2q, .inr (0, [.ref (u3q 0), .ref (u3q 1), .int 0, .int 0])), ((u3q 0), .inl (z_cA X 0, 6, .inl (fun _ => 0))), ((u3q 1), .inl (z_cA X 0, 6, .inl (fun _ => 0))), (q4q, .inr (0, [.ref (u5q 0), .ref (u5q 1), .int 0, .int 0])), ((u5q 0), .inl (z_cA X 0, 6, .inl (fun _ => 0))), ((u5q 1), .inl (z_cA X 0, 6, .inl (fun _ => 0))), (q6q, .inr (0, [.ref (u7q 0), .ref (u7q 1), .int 0, .int 0])), ((u7q 0), .inl (z_cA X 0, 6, .inl (fun _ => 0))), ((u7q 1), .inl (z_cA X 0, 6, .inl (fun _ => 0))), (q8q, .inr (0, [.ref (u9q 0), .ref (u9q 1), .int 0, .int 0])), ((u9q 0), .inl (z_cA X 0, 6, .inl (fun _ => 0))), ((u9q 1), .inl (z_cA X 0, 6, .inl (fun _ => 0)))]) hE (c_Col_init q10q) li_RX4_21 [14] [0, 1, 2, 3, 4, 5, 6, 7, 8, 9, 10, 11, 12, 13] rfl rfl (by decide) (by decide) (by decide) ⟨by decide, by decide⟩ ⟨by decide, by decide⟩ dX4_init_36 rfl (Nat.le_of_ble_eq_true rfl) (fun u11q => ?_)
  refine z_Uws (ws2 := [(h0, .inr (4, [.ref q1q, .int 0])), (q1q, .inl (z_cA X 3, 8, .inr (.inr (.inr (.inr (va_up (va_up (va_up (va_up (fun _ => none) 0 (some q2q)) 1 (some q4q)) 2 (some q6q)) 3 (some q8q))))))), (q2q, .inr (0, [.ref (u3q 0), .ref (u3q 1), .int 0, .int 0])), ((u3q 0), .inl (z_cA X 0, 6, .inl (fun _ => 0))), ((u3q 1), .inl (z_cA X 0, 6, .inl (fun _ => 0))), (q4q, .inr (0, [.ref (u5q 0), .ref (u5q 1), .int 0, .int 0])), ((u5q 0), .inl (z_cA X 0, 6, .inl (fun _ => 0))), ((u5q 1), .inl (z_cA X 0, 6, .inl (fun _ => 0))), (q6q, .inr (0, [.ref (u7q 0), .ref (u7q 1), .int 0, .int 0])), ((u7q 0), .inl (z_cA X 0, 6, .inl (fun _ => 0))), ((u7q 1), .inl (z_cA X 0, 6, .inl (fun _ => 0))), (q8q, .inr (0, [.ref (u9q 0), .ref (u9q 1), .int 0, .int 0])), ((u9q 0), .inl (z_cA X 0, 6, .inl (fun _ => 0))), ((u9q 1), .inl (z_cA X 0, 6, .inl (fun _ => 0))), (q10q, .inr (0, [.ref (u11q 0), .ref (u11q 1), .int 0, .int 0])), ((u11q 0), .inl (z_cA X 0, 6, .inl (fun _ => 0))), ((u11q 1), .inl (z_cA X 0, 6, .inl (fun _ => 0)))]) rfl ?_
  refine z_Uaast (k := 1) (k2 := 14) hE rfl rfl (by decide) dX4_init_39 ?_
  refine z_Uws (ws2 := [(h0, .inr (4, [.ref q1q, .int 0])), (q1q, .inl (z_cA X 3, 8, .inr (.inr (.inr (.inr (va_up (va_up (va_up (va_up (va_up (fun _ => none) 0 (some q2q)) 1 (some q4q)) 2 (some q6q)) 3 (some q8q)) 4 (some q10q))))))), (q2q, .inr (0, [.ref (u3q 0), .ref (u3q 1), .int 0, .int 0])), ((u3q 0), .inl (z_cA X 0, 6, .inl (fun _ => 0))), ((u3q 1), .inl (z_cA X 0, 6, .inl (fun _ => 0))), (q4q, .inr (0, [.ref (u5q 0), .ref (u5q 1), .int 0, .int 0])), ((u5q 0), .inl (z_cA X 0, 6, .inl (fun _ => 0))), ((u5q 1), .inl (z_cA X 0, 6, .inl (fun _ => 0))), (q6q, .inr (0, [.ref (u7q 0), .ref (u7q 1), .int 0, .int 0])), ((u7q 0), .inl (z_cA X 0, 6, .inl (fun _ => 0))), ((u7q 1), .inl (z_cA X 0, 6, .inl (fun _ => 0))), (q8q, .inr (0, [.ref (u9q 0), .ref (u9q 1), .int 0, .int 0])), ((u9q 0), .inl (z_cA X 0, 6, .inl (fun _ => 0))), ((u9q 1), .inl (z_cA X 0, 6, .inl (fun _ => 0))), (q10q, .inr (0, [.ref (u11q 0), .ref (u11q 1), .int 0, .int 0])), ((u11q 0), .inl (z_cA X 0, 6, .inl (fun _ => 0))), ((u11q 1), .inl (z_cA X 0, 6, .inl (fun _ => 0)))]) rfl ?_
  refine z_Uiinc (v := 5) hE 0 [(2, .int 5), (0, .ref h0), (1, .int 8)] dX4_init_40 rfl (by decide) (by decide) rfl ?_
  refine z_Ugoto hE 18 dX4_init_43 rfl ?_
  refine z_Uiloadn hE 0 dX4_init_18 rfl ?_
  refine z_Ualoadn hE 1 dX4_init_19 rfl ?_
  refine z_Uget (k := 0) hE f_RX4_15 rfl rfl dX4_init_20 ?_
  refine z_Ualen (k := 1) (v := 8) hE 3 rfl rfl rfl dX4_init_23 ?_
  refine z_Uge hE 46 dX4_init_24 rfl (fun hh => absurd hh (by decide)) (fun _ => ?_)
  refine z_Ualoadn hE 1 dX4_init_27 rfl ?_
  refine z_Uget (k := 0) hE f_RX4_15 rfl rfl dX4_init_28 ?_
  refine z_Uiloadn hE 0 dX4_init_31 rfl ?_
  refine z_Unew (ci := 0) (fs := [.null, .null, .int 0, .int 0]) hE iw_0 ft_0 nw_RX4_13 rfl (fun j hj => by rcases (show j = 0 ∨ j = 1 ∨ j = 2 ∨ j = 3 by omega) with rfl | rfl | rfl | rfl <;> rfl) (by decide) (by decide) dX4_init_32 (fun q12q => ?_)
  refine z_Uws (ws2 := [(h0, .inr (4, [.ref q1q, .int 0])), (q1q, .inl (z_cA X 3, 8, .inr (.inr (.inr (.inr (va_up (va_up (va_up (va_up (va_up (fun _ => none) 0 (some q2q)) 1 (some q4q)) 2 (some q6q)) 3 (some q8q)) 4 (some q10q))))))), (q2q, .inr (0, [.ref (u3q 0), .ref (u3q 1), .int 0, .int 0])), ((u3q 0), .inl (z_cA X 0, 6, .inl (fun _ => 0))), ((u3q 1), .inl (z_cA X 0, 6, .inl (fun _ => 0))), (q4q, .inr (0, [.ref (u5q 0), .ref (u5q 1), .int 0, .int 0])), ((u5q 0), .inl (z_cA X 0, 6, .inl (fun _ => 0))), ((u5q 1), .inl (z_cA X 0, 6, .inl (fun _ => 0))), (q6q, .inr (0, [.ref (u7q 0), .ref (u7q 1), .int 0, .int 0])), ((u7q 0), .inl (z_cA X 0, 6, .inl (fun _ => 0))), ((u7q 1), .inl (z_cA X 0, 6, .inl (fun _ => 0))), (q8q, .inr (0, [.ref (u9q 0), .ref (u9q 1), .int 0, .int 0])), ((u9q 0), .inl (z_cA X 0, 6, .inl (fun _ => 0))), ((u9q 1), .inl (z_cA X 0, 6, .inl (fun _ => 0))), (q10q, .inr (0, [.ref (u11q 0), .ref (u11q 1), .int 0, .int 0])), ((u11q 0), .inl (z_cA X 0, 6, .inl (fun _ => 0))), ((u11q 1), .inl (z_cA X 0, 6, .inl (fun _ => 0))), (q12q, .inr (0, [.null, .null, .int 0, .int 0]))]) rfl ?_
  refine z_Udup hE dX4_init_35 rfl ?_
  refine z_Ucall (rest := [.ref q12q, .int 5, .ref q1q]) (As := []) (wr := [(h0, .inr (4, [.ref q1q, .int 0])), (q1q, .inl (z_cA X 3, 8, .inr (.inr (.inr (.inr (va_up (va_up (va_up (va_up (va_up (fun _ => none) 0 (some q2q)) 1 (some q4q)) 2 (some q6q)) 3 (some q8q)) 4 (some q10q))))))), (q2q, .inr (0, [.ref (u3q 0), .ref (u3q 1), .int 0, .int 0])), ((u3q 0), .inl (z_cA X 0, 6, .inl (fun _ => 0))), ((u3q 1), .inl (z_cA X 0, 6, .inl (fun _ => 0))), (q4q, .inr (0, [.ref (u5q 0), .ref (u5q 1), .int 0, .int 0])), ((u5q 0), .inl (z_cA X 0, 6, .inl (fun _ => 0))), ((u5q 1), .inl (z_cA X 0, 6, .inl (fun _ => 0))), (q6q, .inr (0, [.ref (u7q 0), .ref (u7q 1), .int 0, .int 0])), ((u7q 0), .inl (z_cA X 0, 6, .inl (fun _ => 0))), ((u7q 1), .inl (z_cA X 0, 6, .inl (fun _ => 0))), (q8q, .inr (0, [.ref (u9q 0), .ref (u9q 1), .int 0, .int 0])), ((u9q 0), .inl (z_cA X 0, 6, .inl (fun _ => 0))), ((u9q 1), .inl (z_cA X 0, 6, .inl (fun _ => 0))), (q10q, .inr (0, [.ref (u11q 0), .ref (u11q 1), .int 0, .int 0])), ((u11q 0), .inl (z_cA X 0, 6, .inl (fun _ => 0))), ((u11q 1), .inl (z_cA X 0, 6, .inl (fun _ => 0)))]) hE (c_Col_init q12q) li_RX4_21 [17] [0, 1, 2, 3, 4, 5, 6, 7, 8, 9, 10, 11, 12, 13, 14, 15, 16] rfl rfl (by decide) (by decide) (by decide) ⟨by decide, by decide⟩ ⟨by decide, by decide⟩ dX4_init_36 rfl (Nat.le_of_ble_eq_true rfl) (fun u13q => ?_)
  refine z_Uws (ws2 := [(h0, .inr (4, [.ref q1q, .int 0])), (q1q, .inl (z_cA X 3, 8, .inr (.inr (.inr (.inr (va_up (va_up (va_up (va_up (va_up (fun _ => none) 0 (some q2q)) 1 (some q4q)) 2 (some q6q)) 3 (some q8q)) 4 (some q10q))))))), (q2q, .inr (0, [.ref (u3q 0), .ref (u3q 1), .int 0, .int 0])), ((u3q 0), .inl (z_cA X 0, 6, .inl (fun _ => 0))), ((u3q 1), .inl (z_cA X 0, 6, .inl (fun _ => 0))), (q4q, .inr (0, [.ref (u5q 0), .ref (u5q 1), .int 0, .int 0])), ((u5q 0), .inl (z_cA X 0, 6, .inl (fun _ => 0))), ((u5q 1), .inl (z_cA X 0, 6, .inl (fun _ => 0))), (q6q, .inr (0, [.ref (u7q 0), .ref (u7q 1), .int 0, .int 0])), ((u7q 0), .inl (z_cA X 0, 6, .inl (fun _ => 0))), ((u7q 1), .inl (z_cA X 0, 6, .inl (fun _ => 0))), (q8q, .inr (0, [.ref (u9q 0), .ref (u9q 1), .int 0, .int 0])), ((u9q 0), .inl (z_cA X 0, 6, .inl (fun _ => 0))), ((u9q 1), .inl (z_cA X 0, 6, .inl (fun _ => 0))), (q10q, .inr (0, [.ref (u11q 0), .ref (u11q 1), .int 0, .int 0])), ((u11q 0), .inl (z_cA X 0, 6, .inl (fun _ => 0))), ((u11q 1), .inl (z_cA X 0, 6, .inl (fun _ => 0))), (q12q, .inr (0, [.ref (u13q 0), .ref (u13q 1), .int 0, .int 0])), ((u13q 0), .inl (z_cA X 0, 6, .inl (fun _ => 0))), ((u13q 1), .inl (z_cA X 0, 6, .inl (fun _ => 0)))]) rfl ?_
  refine z_Uaast (k := 1) (k2 := 17) hE rfl rfl (by decide) dX4_init_39 ?_
  refine z_Uws (ws2 := [(h0, .inr (4, [.ref q1q, .int 0])), (q1q, .inl (z_cA X 3, 8, .inr (.inr (.inr (.inr (va_up (va_up (va_up (va_up (va_up (va_up (fun _ => none) 0 (some q2q)) 1 (some q4q)) 2 (some q6q)) 3 (some q8q)) 4 (some q10q)) 5 (some q12q))))))), (q2q, .inr (0, [.ref (u3q 0), .ref (u3q 1), .int 0, .int 0])), ((u3q 0), .inl (z_cA X 0, 6, .inl (fun _ => 0))), ((u3q 1), .inl (z_cA X 0, 6, .inl (fun _ => 0))), (q4q, .inr (0, [.ref (u5q 0), .ref (u5q 1), .int 0, .int 0])), ((u5q 0), .inl (z_cA X 0, 6, .inl (fun _ => 0))), ((u5q 1), .inl (z_cA X 0, 6, .inl (fun _ => 0))), (q6q, .inr (0, [.ref (u7q 0), .ref (u7q 1), .int 0, .int 0])), ((u7q 0), .inl (z_cA X 0, 6, .inl (fun _ => 0))), ((u7q 1), .inl (z_cA X 0, 6, .inl (fun _ => 0))), (q8q, .inr (0, [.ref (u9q 0), .ref (u9q 1), .int 0, .int 0])), ((u9q 0), .inl (z_cA X 0, 6, .inl (fun _ => 0))), ((u9q 1), .inl (z_cA X 0, 6, .inl (fun _ => 0))), (q10q, .inr (0, [.ref (u11q 0), .ref (u11q 1), .int 0, .int 0])), ((u11q 0), .inl (z_cA X 0, 6, .inl (fun _ => 0))), ((u11q 1), .inl (z_cA X 0, 6, .inl (fun _ => 0))), (q12q, .inr (0, [.ref (u13q 0), .ref (u13q 1), .int 0, .int 0])), ((u13q 0), .inl (z_cA X 0, 6, .inl (fun _ => 0))), ((u13q 1), .inl (z_cA X 0, 6, .inl (fun _ => 0)))]) rfl ?_
  refine z_Uiinc (v := 6) hE 0 [(2, .int 6), (0, .ref h0), (1, .int 8)] dX4_init_40 rfl (by decide) (by decide) rfl ?_
  refine z_Ugoto hE 18 dX4_init_43 rfl ?_
  refine z_Uiloadn hE 0 dX4_init_18 rfl ?_
  refine z_Ualoadn hE 1 dX4_init_19 rfl ?_
  refine z_Uget (k := 0) hE f_RX4_15 rfl rfl dX4_init_20 ?_
  refine z_Ualen (k := 1) (v := 8) hE 3 rfl rfl rfl dX4_init_23 ?_
  refine z_Uge hE 46 dX4_init_24 rfl (fun hh => absurd hh (by decide)) (fun _ => ?_)
  refine z_Ualoadn hE 1 dX4_init_27 rfl ?_
  refine z_Uget (k := 0) hE f_RX4_15 rfl rfl dX4_init_28 ?_
  refine z_Uiloadn hE 0 dX4_init_31 rfl ?_
  refine z_Unew (ci := 0) (fs := [.null, .null, .int 0, .int 0]) hE iw_0 ft_0 nw_RX4_13 rfl (fun j hj => by rcases (show j = 0 ∨ j = 1 ∨ j = 2 ∨ j = 3 by omega) with rfl | rfl | rfl | rfl <;> rfl) (by decide) (by decide) dX4_init_32 (fun q14q => ?_)
  refine z_Uws (ws2 := [(h0, .inr (4, [.ref q1q, .int 0])), (q1q, .inl (z_cA X 3, 8, .inr (.inr (.inr (.inr (va_up (va_up (va_up (va_up (va_up (va_up (fun _ => none) 0 (some q2q)) 1 (some q4q)) 2 (some q6q)) 3 (some q8q)) 4 (some q10q)) 5 (some q12q))))))), (q2q, .inr (0, [.ref (u3q 0), .ref (u3q 1), .int 0, .int 0])), ((u3q 0), .inl (z_cA X 0, 6, .inl (fun _ => 0))), ((u3q 1), .inl (z_cA X 0, 6, .inl (fun _ => 0))), (q4q, .inr (0, [.ref (u5q 0), .ref (u5q 1), .int 0, .int 0])), ((u5q 0), .inl (z_cA X 0, 6, .inl (fun _ => 0))), ((u5q 1), .inl (z_cA X 0, 6, .inl (fun _ => 0))), (q6q, .inr (0, [.ref (u7q 0), .ref (u7q 1), .int 0, .int 0])), ((u7q 0), .inl (z_cA X 0, 6, .inl (fun _ => 0))), ((u7q 1), .inl (z_cA X 0, 6, .inl (fun _ => 0))), (q8q, .inr (0, [.ref (u9q 0), .ref (u9q 1), .int 0, .int 0])), ((u9q 0), .inl (z_cA X 0, 6, .inl (fun _ => 0))), ((u9q 1), .inl (z_cA X 0, 6, .inl (fun _ => 0))), (q10q, .inr (0, [.ref (u11q 0), .ref (u11q 1), .int 0, .int 0])), ((u11q 0), .inl (z_cA X 0, 6, .inl (fun _ => 0))), ((u11q 1), .inl (z_cA X 0, 6, .inl (fun _ => 0))), (q12q, .inr (0, [.ref (u13q 0), .ref (u13q 1), .int 0, .int 0])), ((u13q 0), .inl (z_cA X 0, 6, .inl (fun _ => 0))), ((u13q 1), .inl (z_cA X 0, 6, .inl (fun _ => 0))), (q14q, .inr (0, [.null, .null, .int 0, .int 0]))]) rfl ?_
  refine z_Udup hE dX4_init_35 rfl ?_
  refine z_Ucall (rest := [.ref q14q, .int 6, .ref q1q]) (As := []) (wr := [(h0, .inr (4, [.ref q1q, .int 0])), (q1q, .inl (z_cA X 3, 8, .inr (.inr (.inr (.inr (va_up (va_up (va_up (va_up (va_up (va_up (fun _ => none) 0 (some q2q)) 1 (some q4q)) 2 (some q6q)) 3 (some q8q)) 4 (some q10q)) 5 (some q12q))))))), (q2q, .inr (0, [.ref (u3q 0), .ref (u3q 1), .int 0, .int 0])), ((u3q 0), .inl (z_cA X 0, 6, .inl (fun _ => 0))), ((u3q 1), .inl (z_cA X 0, 6, .inl (fun _ => 0))), (q4q, .inr (0, [.ref (u5q 0), .ref (u5q 1), .int 0, .int 0])), ((u5q 0), .inl (z_cA X 0, 6, .inl (fun _ => 0))), ((u5q 1), .inl (z_cA X 0, 6, .inl (fun _ => 0))), (q6q, .inr (0, [.ref (u7q 0), .ref (u7q 1), .int 0, .int 0])), ((u7q 0), .inl (z_cA X 0, 6, .inl (fun _ => 0))), ((u7q 1), .inl (z_cA X 0, 6, .inl (fun _ => 0))), (q8q, .inr (0, [.ref (u9q 0), .ref (u9q 1), .int 0, .int 0])), ((u9q 0), .inl (z_cA X 0, 6, .inl (fun _ => 0))), ((u9q 1), .inl (z_cA X 0, 6, .inl (fun _ => 0))), (q10q, .inr (0, [.ref (u11q 0), .ref (u11q 1), .int 0, .int 0])), ((u11q 0), .inl (z_cA X 0, 6, .inl (fun _ => 0))), ((u11q 1), .inl (z_cA X 0, 6, .inl (fun _ => 0))), (q12q, .inr (0, [.ref (u13q 0), .ref (u13q 1), .int 0, .int 0])), ((u13q 0), .inl (z_cA X 0, 6, .inl (fun _ => 0))), ((u13q 1), .inl (z_cA X 0, 6, .inl (fun _ => 0)))]) hE (c_Col_init q14q) li_RX4_21 [20] [0, 1, 2, 3, 4, 5, 6, 7, 8, 9, 10, 11, 12, 13, 14, 15, 16, 17, 18, 19] rfl rfl (by decide) (by decide) (by decide) ⟨by decide, by decide⟩ ⟨by decide, by decide⟩ dX4_init_36 rfl (Nat.le_of_ble_eq_true rfl) (fun u15q => ?_)
  refine z_Uws (ws2 := [(h0, .inr (4, [.ref q1q, .int 0])), (q1q, .inl (z_cA X 3, 8, .inr (.inr (.inr (.inr (va_up (va_up (va_up (va_up (va_up (va_up (fun _ => none) 0 (some q2q)) 1 (some q4q)) 2 (some q6q)) 3 (some q8q)) 4 (some q10q)) 5 (some q12q))))))), (q2q, .inr (0, [.ref (u3q 0), .ref (u3q 1), .int 0, .int 0])), ((u3q 0), .inl (z_cA X 0, 6, .inl (fun _ => 0))), ((u3q 1), .inl (z_cA X 0, 6, .inl (fun _ => 0))), (q4q, .inr (0, [.ref (u5q 0), .ref (u5q 1), .int 0, .int 0])), ((u5q 0), .inl (z_cA X 0, 6, .inl (fun _ => 0))), ((u5q 1), .inl (z_cA X 0, 6, .inl (fun _ => 0))), (q6q, .inr (0, [.ref (u7q 0), .ref (u7q 1), .int 0, .int 0])), ((u7q 0), .inl (z_cA X 0, 6, .inl (fun _ => 0))), ((u7q 1), .inl (z_cA X 0, 6, .inl (fun _ => 0))), (q8q, .inr (0, [.ref (u9q 0), .ref (u9q 1), .int 0, .int 0])), ((u9q 0), .inl (z_cA X 0, 6, .inl (fun _ => 0))), ((u9q 1), .inl (z_cA X 0, 6, .inl (fun _ => 0))), (q10q, .inr (0, [.ref (u11q 0), .ref (u11q 1), .int 0, .int 0])), ((u11q 0), .inl (z_cA X 0, 6, .inl (fun _ => 0))), ((u11q 1), .inl (z_cA X 0, 6, .inl (fun _ => 0))), (q12q, .inr (0, [.ref (u13q 0), .ref (u13q 1), .int 0, .int 0])), ((u13q 0), .inl (z_cA X 0, 6, .inl (fun _ => 0))), ((u13q 1), .inl (z_cA X 0, 6, .inl (fun _ => 0))), (q14q, .inr (0, [.ref (u15q 0), .ref (u15q 1), .int 0, .int 0])), ((u15q 0), .inl (z_cA X 0, 6, .inl (fun _ => 0))), ((u15q 1), .inl (z_cA X 0, 6, .inl (fun _ => 0)))]) rfl ?_
  refine z_Uaast (k := 1) (k2 := 20) hE rfl rfl (by decide) dX4_init_39 ?_
  refine z_Uws (ws2 := [(h0, .inr (4, [.ref q1q, .int 0])), (q1q, .inl (z_cA X 3, 8, .inr (.inr (.inr (.inr (va_up (va_up (va_up (va_up (va_up (va_up (va_up (fun _ => none) 0 (some q2q)) 1 (some q4q)) 2 (some q6q)) 3 (some q8q)) 4 (some q10q)) 5 (some q12q)) 6 (some q14q))))))), (q2q, .inr (0, [.ref (u3q 0), .ref (u3q 1), .int 0, .int 0])), ((u3q 0), .inl (z_cA X 0, 6, .inl (fun _ => 0))), ((u3q 1), .inl (z_cA X 0, 6, .inl (fun _ => 0))), (q4q, .inr (0, [.ref (u5q 0), .ref (u5q 1), .int 0, .int 0])), ((u5q 0), .inl (z_cA X 0, 6, .inl (fun _ => 0))), ((u5q 1), .inl (z_cA X 0, 6, .inl (fun _ => 0))), (q6q, .inr (0, [.ref (u7q 0), .ref (u7q 1), .int 0, .int 0])), ((u7q 0), .inl (z_cA X 0, 6, .inl (fun _ => 0))), ((u7q 1), .inl (z_cA X 0, 6, .inl (fun _ => 0))), (q8q, .inr (0, [.ref (u9q 0), .ref (u9q 1), .int 0, .int 0])), ((u9q 0), .inl (z_cA X 0, 6, .inl (fun _ => 0))), ((u9q 1), .inl (z_cA X 0, 6, .inl (fun _ => 0))), (q10q, .inr (0, [.ref (u11q 0), .ref (u11q 1), .int 0, .int 0])), ((u11q 0), .inl (z_cA X 0, 6, .inl (fun _ => 0))), ((u11q 1), .inl (z_cA X 0, 6, .inl (fun _ => 0))), (q12q, .inr (0, [.ref (u13q 0), .ref (u13q 1), .int 0, .int 0])), ((u13q 0), .inl (z_cA X 0, 6, .inl (fun _ => 0))), ((u13q 1), .inl (z_cA X 0, 6, .inl (fun _ => 0))), (q14q, .inr (0, [.ref (u15q 0), .ref (u15q 1), .int 0, .int 0])), ((u15q 0), .inl (z_cA X 0, 6, .inl (fun _ => 0))), ((u15q 1), .inl (z_cA X 0, 6, .inl (fun _ => 0)))]) rfl ?_
  refine z_Uiinc (v := 7) hE 0 [(2, .int 7), (0, .ref h0), (1, .int 8)] dX4_init_40 rfl (by decide) (by decide) rfl ?_
  refine z_Ugoto hE 18 dX4_init_43 rfl ?_
  refine z_Uiloadn hE 0 dX4_init_18 rfl ?_
  refine z_Ualoadn hE 1 dX4_init_19 rfl ?_
  refine z_Uget (k := 0) hE f_RX4_15 rfl rfl dX4_init_20 ?_
  refine z_Ualen (k := 1) (v := 8) hE 3 rfl rfl rfl dX4_init_23 ?_
  refine z_Uge hE 46 dX4_init_24 rfl (fun hh => absurd hh (by decide)) (fun _ => ?_)
  refine z_Ualoadn hE 1 dX4_init_27 rfl ?_
  refine z_Uget (k := 0) hE f_RX4_15 rfl rfl dX4_init_28 ?_
  refine z_Uiloadn hE 0 dX4_init_31 rfl ?_
  refine z_Unew (ci := 0) (fs := [.null, .null, .int 0, .int 0]) hE iw_0 ft_0 nw_RX4_13 rfl (fun j hj => by rcases (show j = 0 ∨ j = 1 ∨ j = 2 ∨ j = 3 by omega) with rfl | rfl | rfl | rfl <;> rfl) (by decide) (by decide) dX4_init_32 (fun q16q => ?_)
  refine z_Uws (ws2 := [(h0, .inr (4, [.ref q1q, .int 0])), (q1q, .inl (z_cA X 3, 8, .inr (.inr (.inr (.inr (va_up (va_up (va_up (va_up (va_up (va_up (va_up (fun _ => none) 0 (some q2q)) 1 (some q4q)) 2 (some q6q)) 3 (some q8q)) 4 (some q10q)) 5 (some q12q)) 6 (some q14q))))))), (q2q, .inr (0, [.ref (u3q 0), .ref (u3q 1), .int 0, .int 0])), ((u3q 0), .inl (z_cA X 0, 6, .inl (fun _ => 0))), ((u3q 1), .inl (z_cA X 0, 6, .inl (fun _ => 0))), (q4q, .inr (0, [.ref (u5q 0), .ref (u5q 1), .int 0, .int 0])), ((u5q 0), .inl (z_cA X 0, 6, .inl (fun _ => 0))), ((u5q 1), .inl (z_cA X 0, 6, .inl (fun _ => 0))), (q6q, .inr (0, [.ref (u7q 0), .ref (u7q 1), .int 0, .int 0])), ((u7q 0), .inl (z_cA X 0, 6, .inl (fun _ => 0))), ((u7q 1), .inl (z_cA X 0, 6, .inl (fun _ => 0))), (q8q, .inr (0, [.ref (u9q 0), .ref (u9q 1), .int 0, .int 0])), ((u9q 0), .inl (z_cA X 0, 6, .inl (fun _ => 0))), ((u9q 1), .inl (z_cA X 0, 6, .inl (fun _ => 0))), (q10q, .inr (0, [.ref (u11q 0), .ref (u11q 1), .int 0, .int 0])), ((u11q 0), .inl (z_cA X 0, 6, .inl (fun _ => 0))), ((u11q 1), .inl (z_cA X 0, 6, .inl (fun _ => 0))), (q12q, .inr (0, [.ref (u13q 0), .ref (u13q 1), .int 0, .int 0])), ((u13q 0), .inl (z_cA X 0, 6, .inl (fun _ => 0))), ((u13q 1), .inl (z_cA X 0, 6, .inl (fun _ => 0))), (q14q, .inr (0, [.ref (u15q 0), .ref (u15q 1), .int 0, .int 0])), ((u15q 0), .inl (z_cA X 0, 6, .inl (fun _ => 0))), ((u15q 1), .inl (z_cA X 0, 6, .inl (fun _ => 0))), (q16q, .inr (0, [.null, .null, .int 0, .int 0]))]) rfl ?_
  refine z_Udup hE dX4_init_35 rfl ?_
  refine z_Ucall (rest := [.ref q16q, .int 7, .ref q1q]) (As := []) (wr := [(h0, .inr (4, [.ref q1q, .int 0])), (q1q, .inl (z_cA X 3, 8, .inr (.inr (.inr (.inr (va_up (va_up (va_up (va_up (va_up (va_up (va_up (fun _ => none) 0 (some q2q)) 1 (some q4q)) 2 (some q6q)) 3 (some q8q)) 4 (some q10q)) 5 (some q12q)) 6 (some q14q))))))), (q2q, .inr (0, [.ref (u3q 0), .ref (u3q 1), .int 0, .int 0])), ((u3q 0), .inl (z_cA X 0, 6, .inl (fun _ => 0))), ((u3q 1), .inl (z_cA X 0, 6, .inl (fun _ => 0))), (q4q, .inr (0, [.ref (u5q 0), .ref (u5q 1), .int 0, .int 0])), ((u5q 0), .inl (z_cA X 0, 6, .inl (fun _ => 0))), ((u5q 1), .inl (z_cA X 0, 6, .inl (fun _ => 0))), (q6q, .inr (0, [.ref (u7q 0), .ref (u7q 1), .int 0, .int 0])), ((u7q 0), .inl (z_cA X 0, 6, .inl (fun _ => 0))), ((u7q 1), .inl (z_cA X 0, 6, .inl (fun _ => 0))), (q8q, .inr (0, [.ref (u9q 0), .ref (u9q 1), .int 0, .int 0])), ((u9q 0), .inl (z_cA X 0, 6, .inl (fun _ => 0))), ((u9q 1), .inl (z_cA X 0, 6, .inl (fun _ => 0))), (q10q, .inr (0, [.ref (u11q 0), .ref (u11q 1), .int 0, .int 0])), ((u11q 0), .inl (z_cA X 0, 6, .inl (fun _ => 0))), ((u11q 1), .inl (z_cA X 0, 6, .inl (fun _ => 0))), (q12q, .inr (0, [.ref (u13q 0), .ref (u13q 1), .int 0, .int 0])), ((u13q 0), .inl (z_cA X 0, 6, .inl (fun _ => 0))), ((u13q 1), .inl (z_cA X 0, 6, .inl (fun _ => 0))), (q14q, .inr (0, [.ref (u15q 0), .ref (u15q 1), .int 0, .int 0])), ((u15q 0), .inl (z_cA X 0, 6, .inl (fun _ => 0))), ((u15q 1), .inl (z_cA X 0, 6, .inl (fun _ => 0)))]) hE (c_Col_init q16q) li_RX4_21 [23] [0, 1, 2, 3, 4, 5, 6, 7, 8, 9, 10, 11, 12, 13, 14, 15, 16, 17, 18, 19, 20, 21, 22] rfl rfl (by decide) (by decide) (by decide) ⟨by decide, by decide⟩ ⟨by decide, by decide⟩ dX4_init_36 rfl (Nat.le_of_ble_eq_true rfl) (fun u17q => ?_)
  refine z_Uws (ws2 := [(h0, .inr (4, [.ref q1q, .int 0])), (q1q, .inl (z_cA X 3, 8, .inr (.inr (.inr (.inr (va_up (va_up (va_up (va_up (va_up (va_up (va_up (fun _ => none) 0 (some q2q)) 1 (some q4q)) 2 (some q6q)) 3 (some q8q)) 4 (some q10q)) 5 (some q12q)) 6 (some q14q))))))), (q2q, .inr (0, [.ref (u3q 0), .ref (u3q 1), .int 0, .int 0])), ((u3q 0), .inl (z_cA X 0, 6, .inl (fun _ => 0))), ((u3q 1), .inl (z_cA X 0, 6, .inl (fun _ => 0))), (q4q, .inr (0, [.ref (u5q 0), .ref (u5q 1), .int 0, .int 0])), ((u5q 0), .inl (z_cA X 0, 6, .inl (fun _ => 0))), ((u5q 1), .inl (z_cA X 0, 6, .inl (fun _ => 0))), (q6q, .inr (0, [.ref (u7q 0), .ref (u7q 1), .int 0, .int 0])), ((u7q 0), .inl (z_cA X 0, 6, .inl (fun _ => 0))), ((u7q 1), .inl (z_cA X 0, 6, .inl (fun _ => 0))), (q8q, .inr (0, [.ref (u9q 0), .ref (u9q 1), .int 0, .int 0])), ((u9q 0), .inl (z_cA X 0, 6, .inl (fun _ => 0))), ((u9q 1), .inl (z_cA X 0, 6, .inl (fun _ => 0))), (q10q, .inr (0, [.ref (u11q 0), .ref (u11q 1), .int 0, .int 0])), ((u11q 0), .inl (z_cA X 0, 6, .inl (fun _ => 0))), ((u11q 1), .inl (z_cA X 0, 6, .inl (fun _ => 0))), (q12q, .inr (0, [.ref (u13q 0), .ref (u13q 1), .int 0, .int 0])), ((u13q 0), .inl (z_cA X 0, 6, .inl (fun _ => 0))), ((u13q 1), .inl (z_cA X 0, 6, .inl (fun _ => 0))), (q14q, .inr (0, [.ref (u15q 0), .ref (u15q 1), .int 0, .int 0])), ((u15q 0), .inl (z_cA X 0, 6, .inl (fun _ => 0))), ((u15q 1), .inl (z_cA X 0, 6, .inl (fun _ => 0))), (q16q, .inr (0, [.ref (u17q 0), .ref (u17q 1), .int 0, .int 0])), ((u17q 0), .inl (z_cA X 0, 6, .inl (fun _ => 0))), ((u17q 1), .inl (z_cA X 0, 6, .inl (fun _ => 0)))]) rfl ?_
  refine z_Uaast (k := 1) (k2 := 23) hE rfl rfl (by decide) dX4_init_39 ?_
  refine z_Uws (ws2 := [(h0, .inr (4, [.ref q1q, .int 0])), (q1q, .inl (z_cA X 3, 8, .inr (.inr (.inr (.inr (va_up (va_up (va_up (va_up (va_up (va_up (va_up (va_up (fun _ => none) 0 (some q2q)) 1 (some q4q)) 2 (some q6q)) 3 (some q8q)) 4 (some q10q)) 5 (some q12q)) 6 (some q14q)) 7 (some q16q))))))), (q2q, .inr (0, [.ref (u3q 0), .ref (u3q 1), .int 0, .int 0])), ((u3q 0), .inl (z_cA X 0, 6, .inl (fun _ => 0))), ((u3q 1), .inl (z_cA X 0, 6, .inl (fun _ => 0))), (q4q, .inr (0, [.ref (u5q 0), .ref (u5q 1), .int 0, .int 0])), ((u5q 0), .inl (z_cA X 0, 6, .inl (fun _ => 0))), ((u5q 1), .inl (z_cA X 0, 6, .inl (fun _ => 0))), (q6q, .inr (0, [.ref (u7q 0), .ref (u7q 1), .int 0, .int 0])), ((u7q 0), .inl (z_cA X 0, 6, .inl (fun _ => 0))), ((u7q 1), .inl (z_cA X 0, 6, .inl (fun _ => 0))), (q8q, .inr (0, [.ref (u9q 0), .ref (u9q 1), .int 0, .int 0])), ((u9q 0), .inl (z_cA X 0, 6, .inl (fun _ => 0))), ((u9q 1), .inl (z_cA X 0, 6, .inl (fun _ => 0))), (q10q, .inr (0, [.ref (u11q 0), .ref (u11q 1), .int 0, .int 0])), ((u11q 0), .inl (z_cA X 0, 6, .inl (fun _ => 0))), ((u11q 1), .inl (z_cA X 0, 6, .inl (fun _ => 0))), (q12q, .inr (0, [.ref (u13q 0), .ref (u13q 1), .int 0, .int 0])), ((u13q 0), .inl (z_cA X 0, 6, .inl (fun _ => 0))), ((u13q 1), .inl (z_cA X 0, 6, .inl (fun _ => 0))), (q14q, .inr (0, [.ref (u15q 0), .ref (u15q 1), .int 0, .int 0])), ((u15q 0), .inl (z_cA X 0, 6, .inl (fun _ => 0))), ((u15q 1), .inl (z_cA X 0, 6, .inl (fun _ => 0))), (q16q, .inr (0, [.ref (u17q 0), .ref (u17q 1), .int 0, .int 0])), ((u17q 0), .inl (z_cA X 0, 6, .inl (fun _ => 0))), ((u17q 1), .inl (z_cA X 0, 6, .inl (fun _ => 0)))]) rfl ?_
  refine z_Uiinc (v := 8) hE 0 [(2, .int 8), (0, .ref h0), (1, .int 8)] dX4_init_40 rfl (by decide) (by decide) rfl ?_
  refine z_Ugoto hE 18 dX4_init_43 rfl ?_
  refine z_Uiloadn hE 0 dX4_init_18 rfl ?_
  refine z_Ualoadn hE 1 dX4_init_19 rfl ?_
  refine z_Uget (k := 0) hE f_RX4_15 rfl rfl dX4_init_20 ?_
  refine z_Ualen (k := 1) (v := 8) hE 3 rfl rfl rfl dX4_init_23 ?_
  refine z_Uge hE 46 dX4_init_24 rfl (fun _ => ?_) (fun hh => absurd (by decide) hh)
  exact hret _ _ (fun k => [q1q, q2q, (u3q 0), (u3q 1), q4q, (u5q 0), (u5q 1), q6q, (u7q 0), (u7q 1), q8q, (u9q 0), (u9q 1), q10q, (u11q 0), (u11q 1), q12q, (u13q 0), (u13q 1), q14q, (u15q 0), (u15q 1), q16q, (u17q 0), (u17q 1)].getD k 0) _ rfl dX4_init_46
set_option maxHeartbeats 4000000 in
set_option maxRecDepth 100000 in
theorem c_Pile_init_2 {X : z_X} {l : Launch} (h0 : Nat) : z_MC X l yX4_init cX4_init 3 2 32 7 34 [.ref h0, .int 2] [(h0, .inr (4, [.null, .int 0]))] (fun u => [(h0, .inr (4, [.ref (u 0), .int 0])), ((u 0), .inl (z_cA X 3, 2, .inr (.inr (.inr (.inr (va_up (va_up (fun _ => none) 0 (some (u 1))) 1 (some (u 4)))))))), ((u 1), .inr (0, [.ref (u 2), .ref (u 3), .int 0, .int 0])), ((u 2), .inl (z_cA X 0, 6, .inl (fun _ => 0))), ((u 3), .inl (z_cA X 0, 6, .inl (fun _ => 0))), ((u 4), .inr (0, [.ref (u 5), .ref (u 6), .int 0, .int 0])), ((u 5), .inl (z_cA X 0, 6, .inl (fun _ => 0))), ((u 6), .inl (z_cA X 0, 6, .inl (fun _ => 0)))]) := by
  refine z_metc (by decide) rfl (Nat.le_of_ble_eq_true rfl) (fun E A hl hE hret => ?_)
  subst hl
  refine z_Ualoadn hE 0 dX4_init_0 rfl ?_
  refine z_UobjInit hE oi_RX4 (by decide) (by decide) dX4_init_1 ?_
  refine z_Ualoadn hE 0 dX4_init_4 rfl ?_
  refine z_Uiconst (v := 1) hE dX4_init_5 rfl ?_
  refine z_Uiloadn hE 1 dX4_init_6 rfl ?_
  refine z_Ummax (v := 2) hE l_RX4_7 (by decide) (Nat.le_of_ble_eq_true rfl) (by decide) (by decide) (by decide) dX4_init_7 ?_
  refine z_Unewq (N := 2) hE nq_RX4_13 (by decide) (by decide) (by decide) (by decide) (by decide) dX4_init_10 (fun q1q => ?_)
  refine z_Uws (ws2 := [(h0, .inr (4, [.null, .int 0])), (q1q, .inl (z_cA X 3, 2, .inr (.inr (.inr (.inr (fun _ => none))))))]) rfl ?_
  refine z_UputF (k := 0) hE f_RX4_15 ft_4 rfl rfl (by decide) rfl (tyX4_ok 0 (by decide)) rfl rfl (Nat.le_of_ble_eq_true rfl) dX4_init_13 ?_
  refine z_Uws (ws2 := [(h0, .inr (4, [.ref q1q, .int 0])), (q1q, .inl (z_cA X 3, 2, .inr (.inr (.inr (.inr (fun _ => none))))))]) rfl ?_
  refine z_Uiconst (v := 0) hE dX4_init_16 rfl ?_
  refine z_Uistoren hE [(2, .int 0), (0, .ref h0), (1, .int 2)] dX4_init_17 rfl (by decide) rfl ?_
  refine z_Uiloadn hE 0 dX4_init_18 rfl ?_
  refine z_Ualoadn hE 1 dX4_init_19 rfl ?_
  refine z_Uget (k := 0) hE f_RX4_15 rfl rfl dX4_init_20 ?_
  refine z_Ualen (k := 1) (v := 2) hE 3 rfl rfl rfl dX4_init_23 ?_
  refine z_Uge hE 46 dX4_init_24 rfl (fun hh => absurd hh (by decide)) (fun _ => ?_)
  refine z_Ualoadn hE 1 dX4_init_27 rfl ?_
  refine z_Uget (k := 0) hE f_RX4_15 rfl rfl dX4_init_28 ?_
  refine z_Uiloadn hE 0 dX4_init_31 rfl ?_
  refine z_Unew (ci := 0) (fs := [.null, .null, .int 0, .int 0]) hE iw_0 ft_0 nw_RX4_13 rfl (fun j hj => by rcases (show j = 0 ∨ j = 1 ∨ j = 2 ∨ j = 3 by omega) with rfl | rfl | rfl | rfl <;> rfl) (by decide) (by decide) dX4_init_32 (fun q2q => ?_)
  refine z_Uws (ws2 := [(h0, .inr (4, [.ref q1q, .int 0])), (q1q, .inl (z_cA X 3, 2, .inr (.inr (.inr (.inr (fun _ => none)))))), (q2q, .inr (0, [.null, .null, .int 0, .int 0]))]) rfl ?_
  refine z_Udup hE dX4_init_35 rfl ?_
  refine z_Ucall (rest := [.ref q2q, .int 0, .ref q1q]) (As := []) (wr := [(h0, .inr (4, [.ref q1q, .int 0])), (q1q, .inl (z_cA X 3, 2, .inr (.inr (.inr (.inr (fun _ => none))))))]) hE (c_Col_init q2q) li_RX4_21 [2] [0, 1] rfl rfl (by decide) (by decide) (by decide) ⟨by decide, by decide⟩ ⟨by decide, by decide⟩ dX4_init_36 rfl (Nat.le_of_ble_eq_true rfl) (fun u3q => ?_)
  refine z_Uws (ws2 := [(h0, .inr (4, [.ref q1q, .int 0])), (q1q, .inl (z_cA X 3, 2, .inr (.inr (.inr (.inr (fun _ => none)))))), (q2q, .inr (0, [.ref (u3q 0), .ref (u3q 1), .int 0, .int 0])), ((u3q 0), .inl (z_cA X 0, 6, .inl (fun _ => 0))), ((u3q 1), .inl (z_cA X 0, 6, .inl (fun _ => 0)))]) rfl ?_
  refine z_Uaast (k := 1) (k2 := 2) hE rfl rfl (by decide) dX4_init_39 ?_
  refine z_Uws (ws2 := [(h0, .inr (4, [.ref q1q, .int 0])), (q1q, .inl (z_cA X 3, 2, .inr (.inr (.inr (.inr (va_up (fun _ => none) 0 (some q2q))))))), (q2q, .inr (0, [.ref (u3q 0), .ref (u3q 1), .int 0, .int 0])), ((u3q 0), .inl (z_cA X 0, 6, .inl (fun _ => 0))), ((u3q 1), .inl (z_cA X 0, 6, .inl (fun _ => 0)))]) rfl ?_
  refine z_Uiinc (v := 1) hE 0 [(2, .int 1), (0, .ref h0), (1, .int 2)] dX4_init_40 rfl (by decide) (by decide) rfl ?_
  refine z_Ugoto hE 18 dX4_init_43 rfl ?_
  refine z_Uiloadn hE 0 dX4_init_18 rfl ?_
  refine z_Ualoadn hE 1 dX4_init_19 rfl ?_
  refine z_Uget (k := 0) hE f_RX4_15 rfl rfl dX4_init_20 ?_
  refine z_Ualen (k := 1) (v := 2) hE 3 rfl rfl rfl dX4_init_23 ?_
  refine z_Uge hE 46 dX4_init_24 rfl (fun hh => absurd hh (by decide)) (fun _ => ?_)
  refine z_Ualoadn hE 1 dX4_init_27 rfl ?_
  refine z_Uget (k := 0) hE f_RX4_15 rfl rfl dX4_init_28 ?_
  refine z_Uiloadn hE 0 dX4_init_31 rfl ?_
  refine z_Unew (ci := 0) (fs := [.null, .null, .int 0, .int 0]) hE iw_0 ft_0 nw_RX4_13 rfl (fun j hj => by rcases (show j = 0 ∨ j = 1 ∨ j = 2 ∨ j = 3 by omega) with rfl | rfl | rfl | rfl <;> rfl) (by decide) (by decide) dX4_init_32 (fun q4q => ?_)
  refine z_Uws (ws2 := [(h0, .inr (4, [.ref q1q, .int 0])), (q1q, .inl (z_cA X 3, 2, .inr (.inr (.inr (.inr (va_up (fun _ => none) 0 (some q2q))))))), (q2q, .inr (0, [.ref (u3q 0), .ref (u3q 1), .int 0, .int 0])), ((u3q 0), .inl (z_cA X 0, 6, .inl (fun _ => 0))), ((u3q 1), .inl (z_cA X 0, 6, .inl (fun _ => 0))), (q4q, .inr (0, [.null, .null, .int 0, .int 0]))]) rfl ?_
  refine z_Udup hE dX4_init_35 rfl ?_
  refine z_Ucall (rest := [.ref q4q, .int 1, .ref q1q]) (As := []) (wr := [(h0, .inr (4, [.ref q1q, .int 0])), (q1q, .inl (z_cA X 3, 2, .inr (.inr (.inr (.inr (va_up (fun _ => none) 0 (some q2q))))))), (q2q, .inr (0, [.ref (u3q 0), .ref (u3q 1), .int 0, .int 0])), ((u3q 0), .inl (z_cA X 0, 6, .inl (fun _ => 0))), ((u3q 1), .inl (z_cA X 0, 6, .inl (fun _ => 0)))]) hE (c_Col_init q4q) li_RX4_21 [5] [0, 1, 2, 3, 4] rfl rfl (by decide) (by decide) (by decide) ⟨by decide, by decide⟩ ⟨by decide, by decide⟩ dX4_init_36 rfl (Nat.le_of_ble_eq_true rfl) (fun u5q => ?_)
  refine z_Uws (ws2 := [(h0, .inr (4, [.ref q1q, .int 0])), (q1q, .inl (z_cA X 3, 2, .inr (.inr (.inr (.inr (va_up (fun _ => none) 0 (some q2q))))))), (q2q, .inr (0, [.ref (u3q 0), .ref (u3q 1), .int 0, .int 0])), ((u3q 0), .inl (z_cA X 0, 6, .inl (fun _ => 0))), ((u3q 1), .inl (z_cA X 0, 6, .inl (fun _ => 0))), (q4q, .inr (0, [.ref (u5q 0), .ref (u5q 1), .int 0, .int 0])), ((u5q 0), .inl (z_cA X 0, 6, .inl (fun _ => 0))), ((u5q 1), .inl (z_cA X 0, 6, .inl (fun _ => 0)))]) rfl ?_
  refine z_Uaast (k := 1) (k2 := 5) hE rfl rfl (by decide) dX4_init_39 ?_
  refine z_Uws (ws2 := [(h0, .inr (4, [.ref q1q, .int 0])), (q1q, .inl (z_cA X 3, 2, .inr (.inr (.inr (.inr (va_up (va_up (fun _ => none) 0 (some q2q)) 1 (some q4q))))))), (q2q, .inr (0, [.ref (u3q 0), .ref (u3q 1), .int 0, .int 0])), ((u3q 0), .inl (z_cA X 0, 6, .inl (fun _ => 0))), ((u3q 1), .inl (z_cA X 0, 6, .inl (fun _ => 0))), (q4q, .inr (0, [.ref (u5q 0), .ref (u5q 1), .int 0, .int 0])), ((u5q 0), .inl (z_cA X 0, 6, .inl (fun _ => 0))), ((u5q 1), .inl (z_cA X 0, 6, .inl (fun _ => 0)))]) rfl ?_
  refine z_Uiinc (v := 2) hE 0 [(2, .int 2), (0, .ref h0), (1, .int 2)] dX4_init_40 rfl (by decide) (by decide) rfl ?_
  refine z_Ugoto hE 18 dX4_init_43 rfl ?_
  refine z_Uiloadn hE 0 dX4_init_18 rfl ?_
  refine z_Ualoadn hE 1 dX4_init_19 rfl ?_
  refine z_Uget (k := 0) hE f_RX4_15 rfl rfl dX4_init_20 ?_
  refine z_Ualen (k := 1) (v := 2) hE 3 rfl rfl rfl dX4_init_23 ?_
  refine z_Uge hE 46 dX4_init_24 rfl (fun _ => ?_) (fun hh => absurd (by decide) hh)
  exact hret _ _ (fun k => [q1q, q2q, (u3q 0), (u3q 1), q4q, (u5q 0), (u5q 1)].getD k 0) _ rfl dX4_init_46
