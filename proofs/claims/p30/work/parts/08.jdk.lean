theorem dJ0_toCharArray_70df3_0 : decode cJ0_toCharArray_70df3 0 = .ok (.aload_n 0, 1) := by decide +kernel
theorem dJ0_toCharArray_70df3_1 : decode cJ0_toCharArray_70df3 1 = .ok (.invokevirtual 492, 3) := by decide +kernel
theorem dJ0_toCharArray_70df3_4 : decode cJ0_toCharArray_70df3 4 = .ok (.ifCond .eq 13, 3) := by decide +kernel
theorem dJ0_toCharArray_70df3_7 : decode cJ0_toCharArray_70df3 7 = .ok (.aload_n 0, 1) := by decide +kernel
theorem dJ0_toCharArray_70df3_8 : decode cJ0_toCharArray_70df3 8 = .ok (.getfield 9, 3) := by decide +kernel
theorem dJ0_toCharArray_70df3_11 : decode cJ0_toCharArray_70df3 11 = .ok (.invokestatic 299, 3) := by decide +kernel
theorem dJ0_toCharArray_70df3_14 : decode cJ0_toCharArray_70df3 14 = .ok (.goto 10, 3) := by decide +kernel
theorem dJ0_toCharArray_70df3_17 : decode cJ0_toCharArray_70df3 17 = .ok (.aload_n 0, 1) := by decide +kernel
theorem dJ0_toCharArray_70df3_18 : decode cJ0_toCharArray_70df3 18 = .ok (.getfield 9, 3) := by decide +kernel
theorem dJ0_toCharArray_70df3_21 : decode cJ0_toCharArray_70df3 21 = .ok (.invokestatic 303, 3) := by decide +kernel
theorem dJ0_toCharArray_70df3_24 : decode cJ0_toCharArray_70df3 24 = .ok (.areturn, 1) := by decide +kernel
theorem dJ0_isLatin1_aae02_0 : decode cJ0_isLatin1_aae02 0 = .ok (.getstatic 38, 3) := by decide +kernel
theorem dJ0_isLatin1_aae02_3 : decode cJ0_isLatin1_aae02 3 = .ok (.ifCond .eq 14, 3) := by decide +kernel
theorem dJ0_isLatin1_aae02_6 : decode cJ0_isLatin1_aae02 6 = .ok (.aload_n 0, 1) := by decide +kernel
theorem dJ0_isLatin1_aae02_7 : decode cJ0_isLatin1_aae02 7 = .ok (.getfield 15, 3) := by decide +kernel
theorem dJ0_isLatin1_aae02_10 : decode cJ0_isLatin1_aae02 10 = .ok (.ifCond .ne 7, 3) := by decide +kernel
theorem dJ0_isLatin1_aae02_13 : decode cJ0_isLatin1_aae02 13 = .ok (.iconst 1, 1) := by decide +kernel
theorem dJ0_isLatin1_aae02_14 : decode cJ0_isLatin1_aae02 14 = .ok (.goto 4, 3) := by decide +kernel
theorem dJ0_isLatin1_aae02_17 : decode cJ0_isLatin1_aae02 17 = .ok (.iconst 0, 1) := by decide +kernel
theorem dJ0_isLatin1_aae02_18 : decode cJ0_isLatin1_aae02 18 = .ok (.ireturn, 1) := by decide +kernel
theorem dJ1_toChars_9d188_0 : decode cJ1_toChars_9d188 0 = .ok (.aload_n 0, 1) := by decide +kernel
theorem dJ1_toChars_9d188_1 : decode cJ1_toChars_9d188 1 = .ok (.arraylength, 1) := by decide +kernel
theorem dJ1_toChars_9d188_2 : decode cJ1_toChars_9d188 2 = .ok (.newarray .char, 2) := by decide +kernel
theorem dJ1_toChars_9d188_4 : decode cJ1_toChars_9d188 4 = .ok (.astore_n 1, 1) := by decide +kernel
theorem dJ1_toChars_9d188_5 : decode cJ1_toChars_9d188 5 = .ok (.aload_n 0, 1) := by decide +kernel
theorem dJ1_toChars_9d188_6 : decode cJ1_toChars_9d188 6 = .ok (.iconst 0, 1) := by decide +kernel
theorem dJ1_toChars_9d188_7 : decode cJ1_toChars_9d188 7 = .ok (.aload_n 1, 1) := by decide +kernel
theorem dJ1_toChars_9d188_8 : decode cJ1_toChars_9d188 8 = .ok (.iconst 0, 1) := by decide +kernel
theorem dJ1_toChars_9d188_9 : decode cJ1_toChars_9d188 9 = .ok (.aload_n 0, 1) := by decide +kernel
theorem dJ1_toChars_9d188_10 : decode cJ1_toChars_9d188 10 = .ok (.arraylength, 1) := by decide +kernel
theorem dJ1_toChars_9d188_11 : decode cJ1_toChars_9d188 11 = .ok (.invokestatic 13, 3) := by decide +kernel
theorem dJ1_toChars_9d188_14 : decode cJ1_toChars_9d188 14 = .ok (.aload_n 1, 1) := by decide +kernel
theorem dJ1_toChars_9d188_15 : decode cJ1_toChars_9d188 15 = .ok (.areturn, 1) := by decide +kernel
theorem dJ1_inflate_03870_0 : decode cJ1_inflate_03870 0 = .ok (.iconst 0, 1) := by decide +kernel
theorem dJ1_inflate_03870_1 : decode cJ1_inflate_03870 1 = .ok (.istore 5, 2) := by decide +kernel
theorem dJ1_inflate_03870_3 : decode cJ1_inflate_03870 3 = .ok (.iload 5, 2) := by decide +kernel
theorem dJ1_inflate_03870_5 : decode cJ1_inflate_03870 5 = .ok (.iload 4, 2) := by decide +kernel
theorem dJ1_inflate_03870_7 : decode cJ1_inflate_03870 7 = .ok (.if_icmp .ge 26, 3) := by decide +kernel
theorem dJ1_inflate_03870_10 : decode cJ1_inflate_03870 10 = .ok (.aload_n 2, 1) := by decide +kernel
theorem dJ1_inflate_03870_11 : decode cJ1_inflate_03870 11 = .ok (.iload_n 3, 1) := by decide +kernel
theorem dJ1_inflate_03870_12 : decode cJ1_inflate_03870 12 = .ok (.iinc 3 1, 3) := by decide +kernel
theorem dJ1_inflate_03870_15 : decode cJ1_inflate_03870 15 = .ok (.aload_n 0, 1) := by decide +kernel
theorem dJ1_inflate_03870_16 : decode cJ1_inflate_03870 16 = .ok (.iload_n 1, 1) := by decide +kernel
theorem dJ1_inflate_03870_17 : decode cJ1_inflate_03870 17 = .ok (.iinc 1 1, 3) := by decide +kernel
theorem dJ1_inflate_03870_20 : decode cJ1_inflate_03870 20 = .ok (.baload, 1) := by decide +kernel
theorem dJ1_inflate_03870_21 : decode cJ1_inflate_03870 21 = .ok (.sipush 255, 3) := by decide +kernel
theorem dJ1_inflate_03870_24 : decode cJ1_inflate_03870 24 = .ok (.iand, 1) := by decide +kernel
theorem dJ1_inflate_03870_25 : decode cJ1_inflate_03870 25 = .ok (.i2c, 1) := by decide +kernel
theorem dJ1_inflate_03870_26 : decode cJ1_inflate_03870 26 = .ok (.castore, 1) := by decide +kernel
theorem dJ1_inflate_03870_27 : decode cJ1_inflate_03870 27 = .ok (.iinc 5 1, 3) := by decide +kernel
theorem dJ1_inflate_03870_30 : decode cJ1_inflate_03870 30 = .ok (.goto (-27), 3) := by decide +kernel
theorem dJ1_inflate_03870_33 : decode cJ1_inflate_03870 33 = .ok (.return_, 1) := by decide +kernel
/-! ===== the JDK's toCharArray of the constant ===== -/
def z_ftl : List Int32 := [104, 50, 44, 49, 51, 59, 104, 49, 50, 44, 51, 59, 109, 56, 44, 56, 44, 48, 44, 48, 44, 48, 44, 48, 59, 109, 56, 44, 57, 44, 48, 44, 48, 44, 49, 44, 48, 59, 109, 55, 44, 56, 44, 48, 44, 49, 44, 49, 44, 49, 59, 109, 57, 44, 56, 44, 48, 44, 48, 44, 48, 44, 50, 59, 109, 56, 44, 55, 44, 48, 44, 49, 44, 49, 44, 52, 59, 111, 48, 44, 51, 59, 111, 50, 44, 50, 59, 111, 49, 44, 52, 59]
def z_ft (j : Nat) : Int32 := z_ftl.getD j 0
def z_ch (j : Nat) : Int32 := vp_nar .char (((z_ft j &&& 255).toUInt32 % 65536).toInt32)
def z_fi (i : Nat) : Nat → Int32 := fun j => if j < i then z_ch j else 0
def z_ST (tK tV : Nat) (A : Nat → Prop) (U : State) (H : Heap) : Prop := va_O "java/lang/String" tK A U H ∧ va_OF "java/lang/String" "coder" "B" (.int 0) tK A U H ∧ va_OF "java/lang/String" "value" "[B" (.ref tV) tK A U H ∧ va_T .byte tV 92 (fun j => .int (z_ft j)) A U H ∧ va_Z "java/lang/String" "COMPACT_STRINGS" "Z" (.int 1) A U H
theorem z_ST.go {tK tV : Nat} {A B : Nat → Prop} {u U : State} {H H1 : Heap} (h : z_ST tK tV A u H) (hvm : u.vm.Alike U.vm) (hq : ∀ a : Nat, a < H.size → ¬ A a → H1[a]? = H[a]?) (hAB : ∀ q, B q → A q) : z_ST tK tV B U H1 :=
  ⟨va_O.moved hvm ((h.1.kept hq).narrow hAB), va_OF.moved hvm ((h.2.1.kept hq).narrow hAB), va_OF.moved hvm ((h.2.2.1.kept hq).narrow hAB), va_T.moved hvm ((h.2.2.2.1.kept hq).narrow hAB), va_Z.moved hvm ((h.2.2.2.2.kept hq).narrow hAB)⟩
theorem z_fi_up (i : Nat) : upd (z_fi i) i (z_ch i) = z_fi (i + 1) := by
  funext j
  by_cases h : j = i
  · subst h; simp [upd, z_fi]
  · have h2 : (j < i + 1) = (j < i) := propext ⟨fun h3 => by omega, fun h3 => by omega⟩
    simp [upd, z_fi, h, h2]
section ZJ
variable {X : z_X} {E : z_ET} {cc : ByteArray} {nL : Nat} {own : String} {fr lo mc ms : Nat} {A : Nat → Prop} {ws : va_W} {ce sl pc : Nat} {lv : List (Nat × Value)} {rest : List Value}
theorem z_Uiload (hE : z_EU X E cc nL own fr lo mc ms A) {i : Nat} {x : Int32} (j : Nat) (d : decode cc pc = .ok (.iload i, 2)) (hj : lv[j]? = some (i, .int x)) (k : z_U X E nL A ws ce sl (pc + 2) lv (.int x :: rest)) : z_U X E nL A ws ce sl pc lv rest := by
  obtain ⟨p, l, e, R, s, m, args, below, meth, c, cells, slots, Q⟩ := E
  exact fun H locs ls hl hP hD hS => lv_iload hE.1 hE.2.1 d (lv_at hl j hj) (k H locs ls hl hP hD hS)
theorem z_Uistore (hE : z_EU X E cc nL own fr lo mc ms A) {i : Nat} {x : Int32} (lv2 : List (Nat × Value)) (d : decode cc pc = .ok (.istore i, 2)) (hn : i < nL) (h2 : (i, Value.int x) :: lv.filter (fun q => !(q.1 == i) && !(q.1 + 1 == i && q.2.category == 2)) = lv2) (k : z_U X E nL A ws ce sl (pc + 2) lv2 rest) : z_U X E nL A ws ce sl pc lv (.int x :: rest) := by
  obtain ⟨p, l, e, R, s, m, args, below, meth, c, cells, slots, Q⟩ := E
  exact fun H locs ls hl hP hD hS => lv_istore (lv' := lv2) hE.1 hE.2.1 d hl hn h2 (fun ls2 hl2 => k H locs ls2 hl2 hP hD hS)
theorem z_Uiand (hE : z_EU X E cc nL own fr lo mc ms A) {x y : Int32} (d : decode cc pc = .ok (.iand, 1)) (k : z_U X E nL A ws ce sl (pc + 1) lv (.int (x &&& y) :: rest)) : z_U X E nL A ws ce sl pc lv (.int y :: .int x :: rest) := by
  obtain ⟨p, l, e, R, s, m, args, below, meth, c, cells, slots, Q⟩ := E
  exact fun H locs ls hl hP hD hS => lv_iand hE.1 hE.2.1 d (k H locs ls hl hP hD hS)
theorem z_Ui2c (hE : z_EU X E cc nL own fr lo mc ms A) {x : Int32} (d : decode cc pc = .ok (.i2c, 1)) (k : z_U X E nL A ws ce sl (pc + 1) lv (.int (x.toUInt32 % 65536).toInt32 :: rest)) : z_U X E nL A ws ce sl pc lv (.int x :: rest) := by
  obtain ⟨p, l, e, R, s, m, args, below, meth, c, cells, slots, Q⟩ := E
  exact fun H locs ls hl hP hD hS => lv_i2c hE.1 hE.2.1 d rfl (k H locs ls hl hP hD hS)
theorem z_Usub (lv2 : List (Nat × Value)) {st : List Value} (ks : List Nat) (h : lv_pick lv ks = lv2) (k : z_U X E nL A ws ce sl pc lv2 st) : z_U X E nL A ws ce sl pc lv st := by
  obtain ⟨p, l, e, R, s, m, args, below, meth, c, cells, slots, Q⟩ := E
  exact fun H locs ls hl hP hD hS => k H locs ls (lv_sub hl ks h) hP hD hS
def z_UT (E : z_ET) (tV : Nat) (A : Nat → Prop) : Prop := match E with
  | (_, _, _, _, s, _, _, _, _, _, _, _, _) => va_T .byte tV 92 (fun j => .int (z_ft j)) A s s.heap
theorem z_Utb (hE : z_EU X E cc nL own fr lo mc ms A) {tV : Nat} {i v : Int32} (hT : z_UT E tV A) (hin : z_inb i 92 = true) (hv : z_ft i.toNatClampNeg = v) (d : decode cc pc = .ok (.baload, 1)) (k : z_U X E nL A ws ce sl (pc + 1) lv (.int v :: rest)) : z_U X E nL A ws ce sl pc lv (.int i :: .ref tV :: rest) := by
  obtain ⟨p, l, e, R, s, m, args, below, meth, c, cells, slots, Q⟩ := E
  subst hv
  exact fun H locs ls hl hP hD hS => va_tb hE.1 hE.2.1 hT hS (z_inb_in hin) rfl d (k H locs ls hl hP hD hS)
theorem z_Ucast (hE : z_EU X E cc nL own fr lo mc ms A) {k n a : Nat} {f : Nat → Int32} {i x : Int32} (he : ws[k]? = some (a, .inl (z_cA X 1, n, .inl f))) (hin : z_inb i n = true) (d : decode cc pc = .ok (.castore, 1)) (kk : z_U X E nL A (ws.set k (a, .inl (z_cA X 1, n, .inl (upd f i.toNatClampNeg (vp_nar .char x))))) ce sl (pc + 1) lv rest) : z_U X E nL A ws ce sl pc lv (.int x :: .int i :: .ref a :: rest) := by
  obtain ⟨p, l, e, R, s, m, args, below, meth, c, cells, slots, Q⟩ := E
  exact fun H locs ls hl hP hD hS => va_cast hE.1 hE.2.1 hE.2.2.2.2.2.1.1 hP hD hS k 1 he rfl (z_inb_in hin) d (fun H1 locs1 hP1 hD1 hS1 => kk H1 locs1 ls hl hP1 hD1 hS1)
end ZJ
set_option maxHeartbeats 4000000 in
theorem b_inflate {X : z_X} {E : z_ET} {A : Nat → Prop} {dst tV : Nat} (hE : z_EU X E cJ1_inflate_03870 6 RJ1 0 0 0 0 A) (hT : z_UT E tV A) (hret : ∀ (pc : Nat) (lv : List (Nat × Value)), decode cJ1_inflate_03870 pc = .ok (.return_, 1) → z_U X E 6 A [(dst, .inl (z_cA X 1, 92, .inl (z_fi 92)))] 0 0 pc lv []) : ∀ (n i : Nat), i + n = 92 → z_U X E 6 A [(dst, .inl (z_cA X 1, 92, .inl (z_fi i)))] 0 0 3 [(0, .ref tV), (1, .int (nI i)), (2, .ref dst), (3, .int (nI i)), (4, .int 92), (5, .int (nI i))] [] := by
  intro n
  induction n with
  | zero =>
    intro i hi
    have hi2 : i = 92 := by omega
    subst hi2
    refine z_Uiload hE 5 dJ1_inflate_03870_3 rfl ?_
    refine z_Uiload hE 4 dJ1_inflate_03870_5 rfl ?_
    refine z_Uge hE 33 dJ1_inflate_03870_7 rfl (fun _ => ?_) (fun h => absurd (by decide) h)
    exact hret _ _ dJ1_inflate_03870_33
  | succ n ih =>
    intro i hi
    have hin : z_inb (nI i) 92 = true := by
      simp only [z_inb, nI_toInt (show i < 2 ^ 31 by omega), Bool.and_eq_true, decide_eq_true_eq]
      omega
    refine z_Uiload hE 5 dJ1_inflate_03870_3 rfl ?_
    refine z_Uiload hE 4 dJ1_inflate_03870_5 rfl ?_
    refine z_Uge hE 33 dJ1_inflate_03870_7 rfl (fun h => ?_) (fun _ => ?_)
    · exact absurd h (nI_ge (a := i) (b := 92) (by omega) (by omega))
    · refine z_Ualoadn hE 2 dJ1_inflate_03870_10 rfl ?_
      refine z_Uiloadn hE 3 dJ1_inflate_03870_11 rfl ?_
      refine z_Uiinc (v := nI (i + 1)) hE 3 [(3, .int (nI (i + 1))), (0, .ref tV), (1, .int (nI i)), (2, .ref dst), (4, .int 92), (5, .int (nI i))] dJ1_inflate_03870_12 rfl (nI_1 i) (by decide) rfl ?_
      refine z_Ualoadn hE 1 dJ1_inflate_03870_15 rfl ?_
      refine z_Uiloadn hE 2 dJ1_inflate_03870_16 rfl ?_
      refine z_Uiinc (v := nI (i + 1)) hE 2 [(1, .int (nI (i + 1))), (3, .int (nI (i + 1))), (0, .ref tV), (2, .ref dst), (4, .int 92), (5, .int (nI i))] dJ1_inflate_03870_17 rfl (nI_1 i) (by decide) rfl ?_
      refine z_Utb (v := z_ft i) hE hT hin (by rw [nI_clamp (show i < 2 ^ 31 by omega)]) dJ1_inflate_03870_20 ?_
      refine z_Usipush (v := 255) hE dJ1_inflate_03870_21 rfl ?_
      refine z_Uiand hE dJ1_inflate_03870_24 ?_
      refine z_Ui2c hE dJ1_inflate_03870_25 ?_
      refine z_Ucast (k := 0) hE rfl hin dJ1_inflate_03870_26 ?_
      refine z_Uws (ws2 := [(dst, .inl (z_cA X 1, 92, .inl (z_fi (i + 1))))]) (by rw [nI_clamp (show i < 2 ^ 31 by omega), ← z_fi_up i]; rfl) ?_
      refine z_Uiinc (v := nI (i + 1)) hE 5 [(5, .int (nI (i + 1))), (1, .int (nI (i + 1))), (3, .int (nI (i + 1))), (0, .ref tV), (2, .ref dst), (4, .int 92)] dJ1_inflate_03870_27 rfl (nI_1 i) (by decide) rfl ?_
      refine z_Ugoto hE 3 dJ1_inflate_03870_30 rfl ?_
      refine z_Usub [(0, .ref tV), (1, .int (nI (i + 1))), (2, .ref dst), (3, .int (nI (i + 1))), (4, .int 92), (5, .int (nI (i + 1)))] [3, 1, 4, 2, 5, 0] rfl ?_
      exact ih (i + 1) (by omega)
abbrev z_w1 (X : z_X) (dst i : Nat) : va_W := [(dst, .inl (z_cA X 1, 92, .inl (z_fi i)))]
def z_Pinf (X : z_X) (tV dst sz : Nat) (U : State) : Prop := U.heap.size = sz ∧ va_P (z_D X) classes (z_w1 X dst 0) U.heap ∧ z_CK X U ∧ va_D (fun _ => True) (z_w1 X dst 0) ∧ va_T .byte tV 92 (fun j => .int (z_ft j)) (va_A (z_w1 X dst 0) sz) U U.heap
set_option maxHeartbeats 4000000 in
theorem c_inflate {X : z_X} {l : Launch} (tV dst sz : Nat) : Met l yJ1_inflate_03870 (Cond.code yJ1_inflate_03870 cJ1_inflate_03870 6 none :: lw_good) ({ frames := 0, cells := 0, slots := 0, locals := 0 }) (va_Pc [.ref tV, .int 0, .ref dst, .int 0, .int 92] (z_Pinf X tV dst sz)) (va_Qv (fun (_ : Unit) => True) (fun _ t => va_P (z_D X) classes (z_w1 X dst 92) t.heap ∧ va_D (va_A (z_w1 X dst 0) sz) (z_w1 X dst 92)) (va_A (z_w1 X dst 0) sz)) 0 0 (va_A (z_w1 X dst 0) sz) := by
  refine Met.ofW (cc := cJ1_inflate_03870) (maxL := 6) (ret := none) (by decide) rfl ?_
  intro p e s m args below meth c s₁ B hml hv
  obtain ⟨rfl, hsz, hP, hC, hD0, hT⟩ := hv
  have hts := atoms_spec (ws := Cond.code yJ1_inflate_03870 cJ1_inflate_03870 6 none :: lw_good) B.pre
  have hown : s.vm.findClass yJ1_inflate_03870.cls = some m.cls := findClass_of_methodNamed B.named
  have hl := lv_entry ([.ref tV, .int 0, .ref dst, .int 0, .int 92] : List Value) (n := 6) (Nat.le_of_ble_eq_true rfl)
  rw [lg_entry_eq]
  subst hsz
  have hE : z_EU X (p, l, e, (headSpec (Cond.code yJ1_inflate_03870 cJ1_inflate_03870 6 none :: lw_good) ({ frames := 0, cells := 0, slots := 0, locals := 0 })).room, s, m, ([.ref tV, .int 0, .ref dst, .int 0, .int 92] : List Value).toArray, below, meth, c, 0, 0, MQ below (va_Qv (fun (_ : Unit) => True) (fun _ t => va_P (z_D X) classes (z_w1 X dst 92) t.heap ∧ va_D (va_A (z_w1 X dst 0) s.heap.size) (z_w1 X dst 92)) (va_A (z_w1 X dst 0) s.heap.size)) ([.ref tV, .int 0, .ref dst, .int 0, .int 92] : List Value).toArray s 0 0 (va_A (z_w1 X dst 0) s.heap.size)) cJ1_inflate_03870 6 RJ1 0 0 0 0 (va_A (z_w1 X dst 0) s.heap.size) := ⟨B.exec, B.bytes, hml, hown, fun w hw => hts w (List.mem_cons_of_mem _ hw), hC, ⟨Nat.le_refl _, Nat.le_refl _⟩, ⟨Nat.le_refl _, Nat.le_refl _⟩, fun q h => Or.inr h, Or.inl (by decide)⟩
  refine (z_Uiconst (v := 0) hE dJ1_inflate_03870_0 rfl (z_Uistore hE [(5, .int 0), (0, .ref tV), (1, .int 0), (2, .ref dst), (3, .int 0), (4, .int 92)] dJ1_inflate_03870_1 (by decide) rfl (z_Usub [(0, .ref tV), (1, .int 0), (2, .ref dst), (3, .int 0), (4, .int 92), (5, .int 0)] [1, 2, 3, 4, 5, 0] rfl (b_inflate (dst := dst) hE hT ?_ 92 0 rfl))) : z_U X _ 6 _ (z_w1 X dst 0) 0 0 0 _ []) s.heap [] _ hl hP hD0.self va_S.rf
  intro pc lv d H locs ls hl hP hD hS
  exact W.vret B.exec B.bytes B.returns (fun t ht hW => ⟨⟨(), rfl, trivial, by rw [ht]; exact hP, hD⟩, hS.F ht⟩) hS.2.2 d B.notSynchronized
theorem z_fi_0 : z_fi 0 = fun _ => 0 := by
  funext j
  simp [z_fi]
theorem z_Utlen {X : z_X} {E : z_ET} {cc : ByteArray} {nL : Nat} {own : String} {fr lo mc ms : Nat} {A : Nat → Prop} {ws : va_W} {ce sl pc : Nat} {lv : List (Nat × Value)} {rest : List Value} (hE : z_EU X E cc nL own fr lo mc ms A) {tV : Nat} (hT : z_UT E tV A) (d : decode cc pc = .ok (.arraylength, 1)) (k : z_U X E nL A ws ce sl (pc + 1) lv (.int 92 :: rest)) : z_U X E nL A ws ce sl pc lv (.ref tV :: rest) := by
  obtain ⟨p, l, e, R, s, m, args, below, meth, c, cells, slots, Q⟩ := E
  exact fun H locs ls hl hP hD hS => va_tlen hE.1 hE.2.1 hT hS rfl d (k H locs ls hl hP hD hS)
theorem z_blindI {X : z_X} {tV dst sz : Nat} {av : List Value} : FrameBlind (va_Pc av (z_Pinf X tV dst sz)) := by
  intro a U g mk h
  obtain ⟨h1, h2, h3, ⟨h4, h5, h7⟩, h6, h8⟩ := h
  exact ⟨h1, h2, h3, ⟨va_K.moved (u := U) (U := U.calling g mk a) (Vm.Alike.refl U.vm) h4, fun w hw => va_Nw.same (u := U) (U := U.calling g mk a) (by
    have key : ∀ w ∈ z_nest, w.onTables = true := by decide +kernel
    exact key w hw) rfl (h5 w hw), va_AO.moved (u := U) (U := U.calling g mk a) (Vm.Alike.refl U.vm) h7⟩, h6, va_T.moved (u := U) (U := U.calling g mk a) (Vm.Alike.refl U.vm) h8⟩
def z_Pto (X : z_X) (tV sz : Nat) (U : State) : Prop := U.heap.size = sz ∧ z_CK X U ∧ va_T .byte tV 92 (fun j => .int (z_ft j)) (va_A [] sz) U U.heap
abbrev z_Qto (X : z_X) (sz : Nat) : Array Value → State → Outcome → State → Prop := va_Qr (fun (_ : Unit) => True) (fun _ a t => va_P (z_D X) classes (z_w1 X a 92) t.heap ∧ va_D (va_A [] sz) (z_w1 X a 92)) (va_A [] sz)
theorem z_CK_call {X : z_X} {U : State} {g : JFrame} {mk : MethodId} {a : Array Value} (h : z_CK X U) : z_CK X (U.calling g mk a) := by
  obtain ⟨h4, h5, h7⟩ := h
  exact ⟨va_K.moved (u := U) (U := U.calling g mk a) (Vm.Alike.refl U.vm) h4, fun w hw => va_Nw.same (u := U) (U := U.calling g mk a) (by
    have key : ∀ w ∈ z_nest, w.onTables = true := by decide +kernel
    exact key w hw) rfl (h5 w hw), va_AO.moved (u := U) (U := U.calling g mk a) (Vm.Alike.refl U.vm) h7⟩
set_option maxHeartbeats 4000000 in
theorem c_toChars {X : z_X} {l : Launch} (tV sz : Nat) : Met l yJ1_toChars_9d188 (Cond.code yJ1_toChars_9d188 cJ1_toChars_9d188 2 (some (.array .char)) :: lw_good) ({ frames := 1, cells := 1, slots := 92, locals := 25 }) (va_Pc [.ref tV] (z_Pto X tV sz)) (z_Qto X sz) 1 92 (va_A [] sz) := by
  refine Met.ofW (cc := cJ1_toChars_9d188) (maxL := 2) (ret := some (.array .char)) (by decide) rfl ?_
  intro p e s m args below meth c s₁ B hml hv
  obtain ⟨rfl, hsz, hC, hT⟩ := hv
  have hts := atoms_spec (ws := Cond.code yJ1_toChars_9d188 cJ1_toChars_9d188 2 (some (.array .char)) :: lw_good) B.pre
  have hts : ∀ w ∈ lw_good, w.before ([.ref tV] : List Value).toArray s = true := fun w hw => hts w (List.mem_cons_of_mem _ hw)
  have hown : s.vm.findClass RJ1 = some m.cls := findClass_of_methodNamed B.named
  have hl := lv_entry ([.ref tV] : List Value) (n := 2) (Nat.le_of_ble_eq_true rfl)
  rw [lg_entry_eq]
  subst hsz
  generalize hR : (headSpec (Cond.code yJ1_toChars_9d188 cJ1_toChars_9d188 2 (some (.array .char)) :: lw_good) ({ frames := 1, cells := 1, slots := 92, locals := 25 })).room = R
  have hR1 : 1 ≤ R.frames ∧ 25 ≤ R.locals ∧ 1 ≤ R.cells ∧ 92 ≤ R.slots := by subst hR; exact ⟨Nat.le_refl _, Nat.le_refl _, Nat.le_refl _, Nat.le_refl _⟩
  generalize hQ : MQ below (z_Qto X s.heap.size) ([.ref tV] : List Value).toArray s 1 92 (va_A [] s.heap.size) = Q
  have hE : z_EU X (p, l, e, R, s, m, ([.ref tV] : List Value).toArray, below, meth, c, 0, 0, Q) cJ1_toChars_9d188 2 RJ1 1 25 1 92 (va_A [] s.heap.size) := ⟨B.exec, B.bytes, hml, hown, hts, hC, ⟨hR1.1, hR1.2.1⟩, ⟨hR1.2.2.1, hR1.2.2.2⟩, fun q h => Or.inr h, Or.inl (by decide)⟩
  have hT2 : z_UT (p, l, e, R, s, m, ([.ref tV] : List Value).toArray, below, meth, c, 0, 0, Q) tV (va_A [] s.heap.size) := hT
  refine (z_Ualoadn hE 0 dJ1_toChars_9d188_0 rfl (z_Utlen hE hT2 dJ1_toChars_9d188_1 (z_Unewa (atype := .char) (N := 92) hE 1 w_781 rfl rfl (fun _ _ => rfl) rfl (by decide) (by decide) (by decide) (by decide) (by decide) dJ1_toChars_9d188_2 (fun q => ?_))) : z_U X _ 2 _ [] 0 0 0 _ []) s.heap [] _ hl (fun k q h => by simp at h) ⟨fun i j p q h => by simp at h, fun k q h => by simp at h⟩ va_S.rf
  refine z_Uws (ws2 := z_w1 X q 0) (by show _ = [(q, _)]; rw [z_fi_0]; rfl) ?_
  refine z_Uastoren hE [(1, .ref q), (0, .ref tV)] dJ1_toChars_9d188_4 rfl (by decide) rfl ?_
  refine z_Ualoadn hE 1 dJ1_toChars_9d188_5 rfl ?_
  refine z_Uiconst (v := 0) hE dJ1_toChars_9d188_6 rfl ?_
  refine z_Ualoadn hE 0 dJ1_toChars_9d188_7 rfl ?_
  refine z_Uiconst (v := 0) hE dJ1_toChars_9d188_8 rfl ?_
  refine z_Ualoadn hE 1 dJ1_toChars_9d188_9 rfl ?_
  refine z_Utlen hE hT2 dJ1_toChars_9d188_10 ?_
  intro H locs ls hl hP hD hS
  have hA : ∀ q, s.heap.size ≤ q → va_A [] s.heap.size q := fun q h => Or.inr h
  have hFc := va_free (wc := z_w1 X q 0) hD hS hA [0] rfl
  have hp : PreS s H (va_Pc [.ref tV, .int 0, .ref q, .int 0, .int 92] (z_Pinf X tV q H.size)) [.ref tV, .int 0, .ref q, .int 0, .int 92] := ⟨z_blindI, fun U hU hW2 => ⟨rfl, by rw [hU], by rw [hU]; exact hP, hC.go hW2, hD.weaken (fun _ _ _ _ => trivial), by rw [hU]; exact va_T.moved hW2.alike ((hT.kept hS.2.1).narrow hFc)⟩⟩
  refine va_callv (va_runS (As := [.ref tV, .int 0, .ref q, .int 0, .int 92]) (rest := []) ⟨B.exec, B.bytes, hml, hown, hts⟩ (c_inflate tV q H.size) ⟨callB_of 5 hts (z_gi w_811) rfl rfl rfl (hts _ w_812) (hts _ w_813) ⟨by decide, by decide, by decide +kernel⟩ ⟨hR1.1, hR1.2.1⟩, hts _ w_814⟩ hp rfl rfl hl.1 rfl (lv_room (Nat.le_of_ble_eq_true rfl)) dJ1_toChars_9d188_11 ⟨hR1.2.2.1, hR1.2.2.2⟩) hS (fun q _ h => hFc q h) hFc (fun u t H1 locs1 ht hvm hr hB hz hk1 hS1 => ?_)
  obtain ⟨hP1, hD1⟩ := hB
  rw [ht] at hP1
  obtain ⟨hP2, hD2⟩ := va_join (wr := []) hP hD [0] [] rfl rfl (by decide) (by decide) hk1 hFc hP1 hD1
  refine lv_aload_n B.exec B.bytes dJ1_toChars_9d188_14 rfl (lv_at hl 0 rfl) ?_
  rw [← hQ]
  exact W.aret (rt := .array .char) B.exec B.bytes B.returns (Or.inr ⟨_, rfl⟩) (Or.inr ⟨_, rfl⟩) (fun t ht hW => ⟨⟨(), q, rfl, trivial, by rw [ht]; exact hP2, hD2⟩, hS1.F ht⟩) hS1.2.2 dJ1_toChars_9d188_15 B.notSynchronized
def z_Ptc (X : z_X) (tK tV sz : Nat) (U : State) : Prop := U.heap.size = sz ∧ z_CK X U ∧ z_ST tK tV (va_A [] sz) U U.heap
theorem z_ST_call {tK tV : Nat} {A : Nat → Prop} {U : State} {g : JFrame} {mk : MethodId} {a : Array Value} (h : z_ST tK tV A U U.heap) : z_ST tK tV A (U.calling g mk a) (U.calling g mk a).heap := z_ST.go (u := U) (U := U.calling g mk a) h (Vm.Alike.refl U.vm) (fun _ _ _ => rfl) (fun _ h => h)
theorem z_blindT {X : z_X} {tK tV sz : Nat} {av : List Value} : FrameBlind (va_Pc av (z_Ptc X tK tV sz)) := fun a U g mk ⟨h1, h2, h3, h4⟩ => ⟨h1, h2, z_CK_call h3, z_ST_call h4⟩
theorem z_blindO {X : z_X} {tV sz : Nat} {av : List Value} : FrameBlind (va_Pc av (z_Pto X tV sz)) := fun a U g mk ⟨h1, h2, h3, h4⟩ => ⟨h1, h2, z_CK_call h3, va_T.moved (u := U) (U := U.calling g mk a) (Vm.Alike.refl U.vm) h4⟩
set_option maxHeartbeats 4000000 in
theorem c_isLatin1 {X : z_X} {l : Launch} (tK tV sz : Nat) : Met l yJ0_isLatin1_aae02 (Cond.code yJ0_isLatin1_aae02 cJ0_isLatin1_aae02 1 (some .boolean) :: lw_good) ({ frames := 0, cells := 0, slots := 0, locals := 0 }) (va_Pc [.ref tK] (z_Ptc X tK tV sz)) (va_Qi (fun (r : Int32) (_ : Unit) => r = 1) (fun _ _ => True) (va_A [] sz)) 0 0 (va_A [] sz) := by
  refine Met.ofW (cc := cJ0_isLatin1_aae02) (maxL := 1) (ret := some .boolean) (by decide) rfl ?_
  intro p e s m args below meth c s₁ B hml hv
  obtain ⟨rfl, hsz, hC, hT⟩ := hv
  have hts := atoms_spec (ws := Cond.code yJ0_isLatin1_aae02 cJ0_isLatin1_aae02 1 (some .boolean) :: lw_good) B.pre
  have hts : ∀ w ∈ lw_good, w.before ([.ref tK] : List Value).toArray s = true := fun w hw => hts w (List.mem_cons_of_mem _ hw)
  have hown : s.vm.findClass RJ0 = some m.cls := findClass_of_methodNamed B.named
  have hl := lv_entry ([.ref tK] : List Value) (n := 1) (Nat.le_of_ble_eq_true rfl)
  rw [lg_entry_eq]
  subst hsz
  generalize (lg_sl ([.ref tK] : List Value) ++ List.replicate (1 - (lg_sl ([.ref tK] : List Value)).length) Slot.unset).toArray = ls at hl ⊢
  have hl : lv_has ls 1 [(0, .ref tK)] := hl
  have hx := B.exec
  have hb := B.bytes
  have hS : va_S (va_A [] s.heap.size) s.heap s.heap [] := va_S.rf
  refine va_gets hx hb hT.2.2.2.2 hS hown (hts _ w_815) (fun _ h => h) dJ0_isLatin1_aae02_0 ?_
  refine lv_if_eq (tgt := 17) hx hb dJ0_isLatin1_aae02_3 rfl (fun h => absurd h (by decide)) (fun _ => ?_)
  refine lv_aload_n hx hb dJ0_isLatin1_aae02_6 rfl (lv_at hl 0 rfl) ?_
  refine vk_getf hx hb hT.2.1 hS hown (hts _ w_816) (fun _ h => h) dJ0_isLatin1_aae02_7 ?_
  refine lv_if_ne (tgt := 17) hx hb dJ0_isLatin1_aae02_10 rfl (fun h => absurd rfl h) (fun _ => ?_)
  refine lv_iconst (v := 1) hx hb dJ0_isLatin1_aae02_13 rfl ?_
  refine lv_goto (tgt := 18) hx hb dJ0_isLatin1_aae02_14 rfl ?_
  exact W.zret (ty := .boolean) hx hb B.returns (by decide +kernel) (fun t ht hW => ⟨⟨1, (), rfl, rfl, trivial⟩, hS.F ht⟩) hS.2.2 dJ0_isLatin1_aae02_18 B.notSynchronized
set_option maxHeartbeats 4000000 in
theorem c_toCharArray {X : z_X} {l : Launch} (tK tV sz : Nat) : Met l yJ0_toCharArray_70df3 (Cond.code yJ0_toCharArray_70df3 cJ0_toCharArray_70df3 1 (some (.array .char)) :: lw_good) ({ frames := 2, cells := 1, slots := 92, locals := 46 }) (va_Pc [.ref tK] (z_Ptc X tK tV sz)) (z_Qto X sz) 1 92 (va_A [] sz) := by
  refine Met.ofW (cc := cJ0_toCharArray_70df3) (maxL := 1) (ret := some (.array .char)) (by decide) rfl ?_
  intro p e s m args below meth c s₁ B hml hv
  obtain ⟨rfl, hsz, hC, hT⟩ := hv
  have hts := atoms_spec (ws := Cond.code yJ0_toCharArray_70df3 cJ0_toCharArray_70df3 1 (some (.array .char)) :: lw_good) B.pre
  have hts : ∀ w ∈ lw_good, w.before ([.ref tK] : List Value).toArray s = true := fun w hw => hts w (List.mem_cons_of_mem _ hw)
  have hown : s.vm.findClass RJ0 = some m.cls := findClass_of_methodNamed B.named
  have hl := lv_entry ([.ref tK] : List Value) (n := 1) (Nat.le_of_ble_eq_true rfl)
  rw [lg_entry_eq]
  subst hsz
  generalize (lg_sl ([.ref tK] : List Value) ++ List.replicate (1 - (lg_sl ([.ref tK] : List Value)).length) Slot.unset).toArray = ls at hl ⊢
  have hl : lv_has ls 1 [(0, .ref tK)] := hl
  have hx := B.exec
  have hb := B.bytes
  have hS : va_S (va_A [] s.heap.size) s.heap s.heap [] := va_S.rf
  generalize hR : (headSpec (Cond.code yJ0_toCharArray_70df3 cJ0_toCharArray_70df3 1 (some (.array .char)) :: lw_good) ({ frames := 2, cells := 1, slots := 92, locals := 46 })).room = R
  have hR1 : 2 ≤ R.frames ∧ 46 ≤ R.locals ∧ 1 ≤ R.cells ∧ 92 ≤ R.slots := by subst hR; exact ⟨Nat.le_refl _, Nat.le_refl _, Nat.le_refl _, Nat.le_refl _⟩
  refine lv_aload_n hx hb dJ0_toCharArray_70df3_0 rfl (lv_at hl 0 rfl) ?_
  have hpV : PreV s s.heap RJ0 tK (va_Pc [.ref tK] (z_Ptc X tK tV s.heap.size)) [] := by
    obtain ⟨cell, q1, q2, q3, q4⟩ := hT.1
    exact ⟨z_blindT, ⟨cell, q1, q2, q3⟩, fun U hU hW2 => ⟨rfl, by rw [hU], hC.go hW2, by rw [hU]; exact hT.go hW2.alike (fun _ _ _ => rfl) (fun _ h => h)⟩⟩
  refine va_calli (va_runV (As := []) (rest := []) ⟨hx, hb, hml, hown, hts⟩ (c_isLatin1 tK tV s.heap.size) ⟨callB_of 0 hts (z_gi w_818) rfl rfl rfl (hts _ w_807) (hts _ w_819) ⟨by decide, by decide, by decide +kernel⟩ ⟨Nat.le_trans (by decide) hR1.1, Nat.le_trans (by decide) hR1.2.1⟩, hts _ w_820, hts _ w_821⟩ hpV rfl rfl hl.1 rfl (lv_room (Nat.le_of_ble_eq_true rfl)) dJ0_toCharArray_70df3_1 ⟨Nat.zero_le _, Nat.zero_le _⟩) hS (fun _ _ h => h) (fun _ h => h) (fun r u t H1 locs1 ht hvm hr hB hz hk1 hS1 => ?_)
  subst hr
  refine lv_if_eq (tgt := 17) hx hb dJ0_toCharArray_70df3_4 rfl (fun h => absurd h (by decide)) (fun _ => ?_)
  refine lv_aload_n hx hb dJ0_toCharArray_70df3_7 rfl (lv_at hl 0 rfl) ?_
  refine vk_getf hx hb hT.2.2.1 hS1 hown (hts _ w_817) (fun _ h => h) dJ0_toCharArray_70df3_8 ?_
  have hFc : ∀ q, va_A [] H1.size q → va_A [] s.heap.size q := fun q h => by
    rcases h with ⟨k, e, h⟩ | h
    · simp at h
    · exact Or.inr (Nat.le_trans hS1.1 h)
  have hp : PreS s H1 (va_Pc [.ref tV] (z_Pto X tV H1.size)) [.ref tV] := ⟨z_blindO, fun U hU hW2 => ⟨rfl, by rw [hU], hC.go hW2, by rw [hU]; exact va_T.moved hW2.alike ((hT.2.2.2.1.kept hS1.2.1).narrow hFc)⟩⟩
  refine va_callr (va_runS (As := [.ref tV]) (rest := []) ⟨hx, hb, hml, hown, hts⟩ (c_toChars tV H1.size) ⟨callB_of 1 hts (z_gi w_822) rfl rfl rfl (hts _ w_812) (hts _ w_823) ⟨by decide, by decide, by decide +kernel⟩ ⟨hR1.1, hR1.2.1⟩, hts _ w_824⟩ hp rfl rfl hl.1 rfl (lv_room (Nat.le_of_ble_eq_true rfl)) dJ0_toCharArray_70df3_11 ⟨hR1.2.2.1, hR1.2.2.2⟩) hS1 (fun q _ h => hFc q h) hFc (fun u a t2 H2 locs2 ht2 hvm2 hr2 hB2 hz2 hk2 hS2 => ?_)
  obtain ⟨hP2, hD2⟩ := hB2
  rw [ht2] at hP2
  refine lv_goto (tgt := 24) hx hb dJ0_toCharArray_70df3_14 rfl ?_
  exact W.aret (rt := .array .char) hx hb B.returns (Or.inr ⟨_, rfl⟩) (Or.inr ⟨_, rfl⟩) (fun t ht hW => ⟨⟨(), a, rfl, trivial, by rw [ht]; exact hP2, hD2.weaken (fun _ _ _ h => hFc _ h)⟩, hS2.F ht⟩) hS2.2.2 dJ0_toCharArray_70df3_24 B.notSynchronized

