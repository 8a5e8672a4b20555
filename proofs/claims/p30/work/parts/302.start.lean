def R_law : String := "BootsTurnHomeLaw"
def lw_P (b : Addr) (xs : List Int32) (args : Array Value) (s : State) : Prop := args = #[.ref b] ∧ s.IntsAt b xs ∧ xs.length ≤ 384 ∧ (Jvm.Cond.and given_1 narrow_1).before args s = true
def lw_Q (_ : Array Value) (s : State) (o : Outcome) (t : State) : Prop := o = .returned (some (.int 1)) ∧ Framed s o t [] 600000 7302250
def lw_Z (below : List Frame) (a : Array Value) (s : State) : State → Prop := fun t => ∃ o, t.status = .running ∧ Ended t below o ∧ lw_Q a s o t
/-- the law's own end, with 1 on the stack, nothing written that was there before, its room as the claim has it -/
theorem lw_ret {p : Program} {l : Launch} {e : Env} {s : State} {m : MethodId} {below : List Frame} {meth : Method} {c : Code} {b : Nat} (hx : p.tables.exec = Jvm.exec) (hb : c.code = code) (hr : meth.sig.returnType = ret) (hlocks : meth.locks = false) {pc : Nat} {H : Heap} {ls : Array Slot} (hdg : decode code pc = .ok (.ireturn, 1)) : W p l e room_1 s m #[Value.ref b] below meth c H [] 600000 7302250 (lw_Z below #[Value.ref b] s) (F0 m pc ls [.int 1]) := by
  intro T hT X
  obtain ⟨fs, hret, hrun, hended, hW, hframe⟩ := X.leave (v := some (.int 1)) (hlocks := hlocks) (fun h => by rw [hr] at h; cases h)
  have hmeth' : T.vm.method? m = some meth := X.method'
  refine ⟨T.setFrames fs, ?_, .returned (some (.int 1)), hrun, hended, rfl, ⟨_, rfl⟩, hW, hframe⟩
  jvm_step X.here [X.here.top, hx, hb, hdg, hmeth', hr, ret, narrow_b1]
  (try refine ⟨rfl, ?_⟩); (try refine ⟨rfl, ?_⟩)
  first | (intro acts; rw [hret _ acts rfl rfl rfl]) | rw [hret _ _ rfl rfl rfl]
  exact Steps.refl _
/-- what holds at the law's entry: the machine, the code, the tables' words (any of lw_tbl by 'hts w (by decide +kernel)'), the script of L ints xs at the cell b, what the Statement gives of the start (any of its parts by flat_of_before) -/
def lw_At (p : Program) (s : State) (m : MethodId) (meth : Method) (c : Code) (b L : Nat) (xs : Nat → Int32) : Prop :=
  p.tables.exec = Jvm.exec ∧ c.code = code ∧ meth.sig.returnType = ret ∧ c.maxLocals = 4 ∧ s.vm.findClass R_law = some m.cls ∧ (∀ w ∈ lw_tbl, w.before #[Value.ref b] s = true) ∧ va_X b L xs s s.heap ∧ b < s.heap.size ∧ meth.locks = false ∧ (Jvm.Cond.and given_1 narrow_1).before #[Value.ref b] s = true

/-- what is left: the pure functions -/
def z_pure : Prop := ∃ gT gM : z_G, s_Top_tail_b132 z_g0 = some gT ∧ s_Mod_tail_b70 z_gz = some gM ∧ ∀ (xs : Nat → Int32) (L : Nat), L ≤ 384 → s_law_L18 xs L z_F 0 gT gM = some 1
theorem z_mem0 : ∀ j, j < 8 → Cond.eq (.elem (Term.static "BootsTurnHome$Ways" "COLUMN_STEP" "[I") (.int (Int32.ofNat j))) (.int (z_cs j)) ∈ flatC (Jvm.Cond.and given_1 narrow_1) := by decide +kernel
theorem z_mem1 : ∀ j, j < 8 → Cond.eq (.elem (Term.static "BootsTurnHome$Ways" "ROW_STEP" "[I") (.int (Int32.ofNat j))) (.int (z_rs j)) ∈ flatC (Jvm.Cond.and given_1 narrow_1) := by decide +kernel
theorem z_memS : ∀ j, j < 92 → Cond.eq (.elem (.field (Term.string "BootsTurnHome" 77) "java/lang/String" "value" "[B") (.int (Int32.ofNat j))) (.int (z_ftl.getD j 0)) ∈ flatC (Jvm.Cond.and given_1 narrow_1) := by decide +kernel
theorem z_nest_tbl : ∀ w ∈ z_nest, w ∈ lw_tbl ∧ w.onTables = true := by decide +kernel

set_option maxHeartbeats 8000000 in
set_option maxRecDepth 100000 in
theorem z_start {p : Program} {e : Env} {s : State} {m : MethodId} {below : List Frame} {meth : Method} {c : Code} (l : Launch) {b L : Nat} {xs : Nat → Int32} (hL : L ≤ 384) (hpure : z_pure) (C0 : lw_At p s m meth c b L xs) : W p l e room_1 s m #[Value.ref b] below meth c s.heap [] 0 0 (lw_Z below #[Value.ref b] s) (entryFrame m ([Value.ref b] : List Value).toArray 4) := by
  obtain ⟨gT, gM, hT, hM, hlaw⟩ := hpure
  obtain ⟨hx, hb, hr, hml, hown, hts0, hX, hbl, hlocks, hgv⟩ := id C0
  have hs := flat_of_before _ hgv
  have hts : ∀ w ∈ lw_good, w.before #[Value.ref b] s = true := fun w hw => hts0 w (List.mem_filter.mp hw).1
  have hAn : ∀ a : Nat, a < s.heap.size → ¬ s.heap.size ≤ a := fun a h => Nat.not_le.mpr h
  obtain ⟨c0, iS0, hKn0⟩ := u_known (C := RX0) (T := TX0) (N := 4) (n := 4) hts iw_0 (hts _ w_30)
  obtain ⟨c1, iS1, hKn1⟩ := u_known (C := RX1) (T := TX1) (N := 3) (n := 3) hts iw_1 (hts _ w_803)
  obtain ⟨c2, iS2, hKn2⟩ := u_known (C := RX2) (T := TX2) (N := 4) (n := 4) hts iw_2 (hts _ w_799)
  obtain ⟨c3, iS3, hKn3⟩ := u_known (C := RX3) (T := TX3) (N := 6) (n := 6) hts iw_3 (hts _ w_24)
  obtain ⟨c4, iS4, hKn4⟩ := u_known (C := RX4) (T := TX4) (N := 2) (n := 2) hts iw_4 (hts _ w_794)
  obtain ⟨c5, iS5, hKn5⟩ := u_known (C := RX5) (T := TX5) (N := 4) (n := 4) hts iw_5 (hts _ w_783)
  obtain ⟨c6, iS6, hKn6⟩ := u_known (C := RX6) (T := TX6) (N := 3) (n := 3) hts iw_6 (hts _ w_36)
  obtain ⟨c7, iS7, hKn7⟩ := u_known (C := RX7) (T := TX7) (N := 4) (n := 4) hts iw_7 (hts _ w_790)
  obtain ⟨c9, iS9, hKn9⟩ := u_known (C := RX9) (T := TX9) (N := 12) (n := 12) hts iw_9 (hts _ w_827)
  obtain ⟨c10, iS10, hKn10⟩ := u_known (C := RX10) (T := TX10) (N := 19) (n := 19) hts iw_10 (hts _ w_828)
  obtain ⟨cI, kI, pI, fI1, fI2, fI3⟩ := Cond.arrayClass_spec (hts _ w_3)
  obtain ⟨cH, kH, pH, fH1, fH2, fH3⟩ := Cond.arrayClass_spec (hts _ w_781)
  obtain ⟨cB, kB, pB, fB1, fB2, fB3⟩ := Cond.arrayClass_spec (hts _ w_826)
  have hAO : va_AO "BootsTurnHome$Column" s := va_AO.of (hts0 (Cond.arrayOver (.object "BootsTurnHome$Column")) (z_tb_1 _ (List.mem_of_getElem? (i := 178) (by decide +kernel))))
  obtain ⟨pQ, cQ, kQ, fQ1, fQ2, fQ3, fQ4, fQ5⟩ := Cond.arrayOver_spec hAO
  obtain ⟨t0, ht0, hT0⟩ := va_Tof (tm := (Term.static "BootsTurnHome$Ways" "COLUMN_STEP" "[I")) (ty := .int) (N := 8) (f := fun j => .int (z_cs j)) (A := fun q => s.heap.size ≤ q) (by decide) (hs _ (by decide +kernel)) (va_eqt (hs (Cond.eq (.length (Term.static "BootsTurnHome$Ways" "COLUMN_STEP" "[I")) (.int 8)) (by decide +kernel))) (fun j hj => va_eqt (hs (Cond.eq (.elem (Term.static "BootsTurnHome$Ways" "COLUMN_STEP" "[I") (.int (Int32.ofNat j))) (.int (z_cs j))) (z_mem0 j hj))) hAn
  have hZ0 : va_Z "BootsTurnHome$Ways" "COLUMN_STEP" "[I" (.ref t0) (fun q => s.heap.size ≤ q) s s.heap := va_Zof (hts0 (Cond.laysStatic "BootsTurnHome$Ways" "COLUMN_STEP" "[I") (z_tb_3 _ (List.mem_of_getElem? (i := 24) (by decide +kernel)))) (hts _ w_72) ht0 hAn
  obtain ⟨t1, ht1, hT1⟩ := va_Tof (tm := (Term.static "BootsTurnHome$Ways" "ROW_STEP" "[I")) (ty := .int) (N := 8) (f := fun j => .int (z_rs j)) (A := fun q => s.heap.size ≤ q) (by decide) (hs _ (by decide +kernel)) (va_eqt (hs (Cond.eq (.length (Term.static "BootsTurnHome$Ways" "ROW_STEP" "[I")) (.int 8)) (by decide +kernel))) (fun j hj => va_eqt (hs (Cond.eq (.elem (Term.static "BootsTurnHome$Ways" "ROW_STEP" "[I") (.int (Int32.ofNat j))) (.int (z_rs j))) (z_mem1 j hj))) hAn
  have hZ1 : va_Z "BootsTurnHome$Ways" "ROW_STEP" "[I" (.ref t1) (fun q => s.heap.size ≤ q) s s.heap := va_Zof (hts0 (Cond.laysStatic "BootsTurnHome$Ways" "ROW_STEP" "[I") (z_tb_3 _ (List.mem_of_getElem? (i := 26) (by decide +kernel)))) (hts _ w_72) ht1 hAn
  have hZC : va_Z "java/lang/String" "COMPACT_STRINGS" "Z" (.int 1) (fun q => s.heap.size ≤ q) s s.heap := va_Zof (hts0 (Cond.laysStatic "java/lang/String" "COMPACT_STRINGS" "Z") (z_tb_1 _ (List.mem_of_getElem? (i := 236) (by decide +kernel)))) (hts _ w_807) (va_eqi (hs _ (by decide +kernel))) hAn
  obtain ⟨adK, adV, hSt, hSe⟩ := vk_Sof (N := 1) (tm := fun _ => (Term.string "BootsTurnHome" 77)) (len := [92]) (byt := [z_ftl]) (A := fun q => s.heap.size ≤ q) (args := #[Value.ref b]) (s := s) (fun i hi => by rcases (show i = 0 by omega) with rfl; decide) (fun i hi => hs _ (by decide +kernel)) (fun i hi => hs _ (by decide +kernel)) (fun i hi => hs _ (by decide +kernel)) (fun i hi => by rcases (show i = 0 by omega) with rfl; exact hs (Cond.eq (.length (.field (Term.string "BootsTurnHome" 77) "java/lang/String" "value" "[B")) (.int 92)) (by decide +kernel)) (fun i hi j hj => by rcases (show i = 0 by omega) with rfl; exact hs _ (z_memS j hj)) (fun i j hi hj hij => absurd (show i = j by omega) hij) hAn
  have hRs : vk_R RX9 77 "h2,13;h12,3;m8,8,0,0,0,0;m8,9,0,0,1,0;m7,8,0,1,1,1;m9,8,0,0,0,2;m8,7,0,1,1,4;o0,3;o2,2;o1,4;" (adK 0) s := vk_R.of (hts0 (Cond.stringRef "BootsTurnHome" 77 "h2,13;h12,3;m8,8,0,0,0,0;m8,9,0,0,1,0;m7,8,0,1,1,1;m9,8,0,0,0,2;m8,7,0,1,1,4;o0,3;o2,2;o1,4;") (z_tb_1 _ (List.mem_of_getElem? (i := 226) (by decide +kernel)))) (hSe 0 (by decide))
  obtain ⟨X, hXe⟩ : ∃ X : z_X, X = ((fun k => if k = 0 then c0 else if k = 1 then c1 else if k = 2 then c2 else if k = 3 then c3 else if k = 4 then c4 else if k = 5 then c5 else if k = 6 then c6 else if k = 7 then c7 else if k = 8 then c0 else if k = 9 then c9 else c10), (fun k => if k = 0 then iS0 else if k = 1 then iS1 else if k = 2 then iS2 else if k = 3 then iS3 else if k = 4 then iS4 else if k = 5 then iS5 else if k = 6 then iS6 else if k = 7 then iS7 else if k = 8 then iS0 else if k = 9 then iS9 else iS10), (fun _ => 0), (fun k => if k = 0 then cI else if k = 1 then cH else if k = 2 then cB else cQ), 0, s.heap.size, t0, t1) := ⟨_, rfl⟩
  have hCK : z_CK X s := by
    subst hXe
    refine ⟨⟨?_, ?_⟩, fun w hw => va_Nw.of (z_nest_tbl w hw).2 (hts0 w (z_nest_tbl w hw).1), hAO⟩
    · intro k q hq
      match k, hq with
      | 0, hq => cases hq; exact hKn0
      | 1, hq => cases hq; exact hKn1
      | 2, hq => cases hq; exact hKn2
      | 3, hq => cases hq; exact hKn3
      | 4, hq => cases hq; exact hKn4
      | 5, hq => cases hq; exact hKn5
      | 6, hq => cases hq; exact hKn6
      | 7, hq => cases hq; exact hKn7
      | 8, hq => cases hq; exact hKn0
      | 9, hq => cases hq; exact hKn9
      | 10, hq => cases hq; exact hKn10
      | k + 11, hq => simp [classes] at hq
    · intro k q hq
      match k, hq with
      | 0, hq => cases hq; exact ⟨fun n z => ⟨fun k h => (by cases h), kI, fI2, pI, fI3⟩, fI1⟩
      | 1, hq => cases hq; exact ⟨fun n z => ⟨fun k h => (by cases h), kH, fH2, pH, fH3⟩, fH1⟩
      | 2, hq => cases hq; exact ⟨fun n z => ⟨fun k h => (by cases h), kB, fB2, pB, fB3⟩, fB1⟩
      | 3, hq => cases hq; exact ⟨fun n z => ⟨fun k h => (by cases h), kQ, fQ3, pQ, fQ4⟩, kQ, pQ, fQ3, fQ4, fQ1, fQ5⟩
      | k + 4, hq => simp [z_tys] at hq
  have hS0 : z_S0 X = s.heap.size := by subst hXe; rfl
  have hAX : z_A X = fun q => s.heap.size ≤ q := by unfold z_A; rw [hS0]
  have hCS : z_CS X s s.heap := by
    unfold z_CS
    rw [hAX]
    subst hXe
    exact ⟨⟨hZ0, hT0⟩, ⟨hZ1, hT1⟩⟩
  have hST : z_ST (adK 0) (adV 0) (z_A X) s s.heap := by
    rw [hAX]
    obtain ⟨q1, q2, q3, q4⟩ := hSt.1 0 (by decide)
    exact ⟨q1, q2, q3, q4, hZC⟩
  clear hXe hSt hSe hZ0 hT0 hZ1 hT1 hZC
  have hA : ∀ q, s.heap.size ≤ q → z_A X q := fun q h => by rw [hAX]; exact h
  have hE : z_EU X (p, l, e, room_1, s, m, #[Value.ref b], below, meth, c, 600000, 7302250, lw_Z below #[Value.ref b] s) cL_law 4 RL 2048 84000 600000 7302250 (z_A X) := ⟨hx, hb, hml, hown, hts, hCK, ⟨Nat.le_refl _, Nat.le_refl _⟩, ⟨Nat.le_refl _, Nat.le_refl _⟩, hA, Or.inl (by decide)⟩
  have hl := lv_entry ([.ref b]) (n := 4) (Nat.le_of_ble_eq_true rfl)
  rw [lg_entry_eq]
  suffices hU : z_U X (p, l, e, room_1, s, m, #[Value.ref b], below, meth, c, 600000, 7302250, lw_Z below #[Value.ref b] s) 4 (z_A X) [] 0 0 0 [(0, .ref b)] [] from hU s.heap [] _ hl (fun k q h => by simp at h) ⟨fun i j p q h => by simp at h, fun k q h => by simp at h⟩ va_S.rf
  refine z_Unew (ci := 9) (fs := [.null, .int 0, .null, .null, .null, .null, .null, .null, .null, .null, .null, .null]) hE iw_9 ft_9 nw_RL_7 rfl (fun j hj => by rcases (show j = 0 ∨ j = 1 ∨ j = 2 ∨ j = 3 ∨ j = 4 ∨ j = 5 ∨ j = 6 ∨ j = 7 ∨ j = 8 ∨ j = 9 ∨ j = 10 ∨ j = 11 by omega) with rfl | rfl | rfl | rfl | rfl | rfl | rfl | rfl | rfl | rfl | rfl | rfl <;> rfl) (by decide) (by decide) dL_law_0 (fun h0 => ?_)
  refine z_Udup hE dL_law_3 rfl ?_
  intro H locs ls hl hP hD hS
  have hp : PreS s H (va_Pc [.ref h0] (z_PT X h0 (adK 0) (adV 0))) [.ref h0] := ⟨fun a U g mk h => by
    obtain ⟨h1, h2, h3, h4, h5, h6, h7, h8⟩ := h
    exact ⟨h1, h2, h3, h4, z_CK_call h5, ⟨⟨va_Z.moved (u := U) (U := U.calling g mk a) (Vm.Alike.refl U.vm) h6.1.1, va_T.moved (u := U) (U := U.calling g mk a) (Vm.Alike.refl U.vm) h6.1.2⟩, ⟨va_Z.moved (u := U) (U := U.calling g mk a) (Vm.Alike.refl U.vm) h6.2.1, va_T.moved (u := U) (U := U.calling g mk a) (Vm.Alike.refl U.vm) h6.2.2⟩⟩, z_ST_call h7, vk_R.same (u := U) (U := U.calling g mk a) rfl h8⟩, fun U hU hW2 => ⟨rfl, by rw [hU, hS0]; exact hS.1, by rw [hU]; exact hP, hD, hCK.go hW2, by
      rw [hU]
      exact ⟨⟨va_Z.moved hW2.alike (hCS.1.1.kept hS.2.1), va_T.moved hW2.alike (hCS.1.2.kept hS.2.1)⟩, ⟨va_Z.moved hW2.alike (hCS.2.1.kept hS.2.1), va_T.moved hW2.alike (hCS.2.2.kept hS.2.1)⟩⟩, by rw [hU]; exact hST.go hW2.alike hS.2.1 (fun _ h => h), vk_R.warm hW2 hRs⟩⟩
  refine va_callv (va_runI (As := []) (rest := [.ref h0]) ⟨hx, hb, hml, hown, hts⟩ (c_Top_init (X := X) h0 (adK 0) (adV 0) hT) ⟨callB_of 0 hts (z_gi w_830) rfl rfl rfl (hts _ w_50) (hts _ w_831) ⟨by decide, by decide, by decide +kernel⟩ ⟨by decide, by decide⟩, rfl, hts _ w_832⟩ hp rfl rfl hl.1 rfl (lv_room (Nat.le_of_ble_eq_true rfl)) dL_law_4 ⟨by decide, by decide⟩) hS (fun _ _ h => h) (fun _ h => h) (fun ad t H1 locs1 ht hvm hr1 hB hz1 hk1 hS1 => ?_)
  obtain ⟨⟨hCX1, hN1, hP1⟩, had⟩ := hB
  rw [ht] at hP1
  refine lv_astore_n (lv' := [(1, .ref h0), (0, .ref b)]) hx hb dL_law_7 rfl hl (by decide) rfl (fun ls hl => ?_)
  refine (z_Unew (ci := 10) (fs := [.null, .null, .int 0, .int 0, .int 0, .null, .int 0, .int 0, .int 0, .int 0, .null, .null, .null, .int 0, .int 0, .int 0, .int 0, .null, .null]) hE iw_10 ft_10 nw_RL_10 rfl (fun j hj => by rcases (show j = 0 ∨ j = 1 ∨ j = 2 ∨ j = 3 ∨ j = 4 ∨ j = 5 ∨ j = 6 ∨ j = 7 ∨ j = 8 ∨ j = 9 ∨ j = 10 ∨ j = 11 ∨ j = 12 ∨ j = 13 ∨ j = 14 ∨ j = 15 ∨ j = 16 ∨ j = 17 ∨ j = 18 by omega) with rfl | rfl | rfl | rfl | rfl | rfl | rfl | rfl | rfl | rfl | rfl | rfl | rfl | rfl | rfl | rfl | rfl | rfl | rfl <;> rfl) (by decide) (by decide) dL_law_8 (fun h1 => ?_) : z_U X (p, l, e, room_1, s, m, #[Value.ref b], below, meth, c, 600000, 7302250, lw_Z below #[Value.ref b] s) 4 (z_A X) (z_w 71 ad (z_wf (z_set X ad 71) gT z_gz)) 71 654 8 [(1, .ref h0), (0, .ref b)] []) H1 locs1 ls hl hP1 (hCX1.2.2.2.2 _) hS1
  refine z_Udup hE dL_law_11 rfl ?_
  intro H locs ls hl hP hD hS
  have hp : PreS s H (va_Pc [.ref h1] (z_PM X ad gT h1)) [.ref h1] := ⟨fun a U g mk h => by
    obtain ⟨h1, h2, h3, h4, h5, h6⟩ := h
    exact ⟨h1, h2, h3, h4, z_CK_call h5, ⟨⟨va_Z.moved (u := U) (U := U.calling g mk a) (Vm.Alike.refl U.vm) h6.1.1, va_T.moved (u := U) (U := U.calling g mk a) (Vm.Alike.refl U.vm) h6.1.2⟩, ⟨va_Z.moved (u := U) (U := U.calling g mk a) (Vm.Alike.refl U.vm) h6.2.1, va_T.moved (u := U) (U := U.calling g mk a) (Vm.Alike.refl U.vm) h6.2.2⟩⟩⟩, fun U hU hW2 => ⟨rfl, by rw [hU, hS0]; exact hS.1, by rw [hU]; exact hP, hD, hCK.go hW2, by
      rw [hU]
      exact ⟨⟨va_Z.moved hW2.alike (hCS.1.1.kept hS.2.1), va_T.moved hW2.alike (hCS.1.2.kept hS.2.1)⟩, ⟨va_Z.moved hW2.alike (hCS.2.1.kept hS.2.1), va_T.moved hW2.alike (hCS.2.2.kept hS.2.1)⟩⟩⟩⟩
  refine va_callv (va_runI (As := []) (rest := [.ref h1]) ⟨hx, hb, hml, hown, hts⟩ (c_Mod_init (X := X) ad gT h1 hM) ⟨callB_of 0 hts (z_gi w_834) rfl rfl rfl (hts _ w_400) (hts _ w_835) ⟨by decide, by decide, by decide +kernel⟩ ⟨by decide, by decide⟩, rfl, hts _ w_836⟩ hp rfl rfl hl.1 rfl (lv_room (Nat.le_of_ble_eq_true rfl)) dL_law_12 ⟨by decide, by decide⟩) hS (fun _ _ h => h) (fun _ h => h) (fun ad2 t2 H2 locs2 ht2 hvm2 hr2 hB2 hz2 hk2 hS2 => ?_)
  obtain ⟨⟨hCX2, hN2, hP2⟩, had3, had4⟩ := hB2
  rw [ht2] at hP2
  refine lv_astore_n (lv' := [(2, .ref h1), (1, .ref h0), (0, .ref b)]) hx hb dL_law_15 rfl hl (by decide) rfl (fun ls hl => ?_)
  refine lv_iconst (v := 0) hx hb dL_law_16 rfl ?_
  refine lv_istore_n (lv' := [(3, .int 0), (2, .ref h1), (1, .ref h0), (0, .ref b)]) hx hb dL_law_17 rfl hl (by decide) rfl (fun ls hl => ?_)
  refine va_forget (fun q hq => by have h3 := hS2.2.2 q hq; rw [hAX] at h3; exact h3) ?_
  refine W.widen (k := 600000) (n := 7302250) (by decide) (by decide) ?_
  have hCX : z_CX (z_set X ad2 80) s s.heap := ⟨hCK.1, hCK.2.1, hCS.1, hCS.2, hCX2.2.2.2.2⟩
  have hE2 : z_EV (z_set X ad2 80) (p, l, e, room_1, s, m, #[Value.ref b], below, meth, c, 600000, 7302250, lw_Z below #[Value.ref b] s) cL_law 4 RL 16 424 80 := ⟨hx, hb, hml, hown, hts, hCX, Nat.le_refl _, ⟨by decide, by decide⟩, Nat.le_refl _, Nat.le_refl _⟩
  have hV := b_law_L18 (xs := xs) (L := L) (b := b) hE2 ⟨hX, hbl, by show ¬ z_A X b; rw [hAX]; exact Nat.not_le.mpr hbl⟩ (r := 1) (fun pc lv g gm d H locs ls hl hP hS => va_forget (fun q hq => by have h3 : z_A X q.base := hS.2.2 q hq; rw [hAX] at h3; exact h3) (lw_ret hx hb hr hlocks d)) z_F 0 gT gM (hlaw xs L hL)
  exact hV H2 [] ls (by show lv_has ls 4 [(0, .ref b), (1, .ref (ad2 39)), (2, .ref (ad2 71)), (3, .int 0)]; rw [had3, had, had4]; exact lv_sub hl [3, 2, 1, 0] rfl) hP2 ⟨hS2.1, hS2.2.1, fun q hq => by cases hq⟩

