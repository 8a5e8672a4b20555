/-! ===== constructors: the judgement over a list of cells that grows ===== -/
def z_CK (X : z_X) (U : State) : Prop := va_K (z_D X) classes (z_tys X) U ∧ (∀ w ∈ z_nest, va_Nw w U) ∧ va_AO "BootsTurnHome$Column" U
theorem z_CK.go {X : z_X} {s U : State} (h : z_CK X s) (hW : s.WarmedH U.vm) : z_CK X U := ⟨va_K.moved hW.alike h.1, fun w hw => z_nest_warm hw hW (h.2.1 w hw), va_AO.moved hW.alike h.2.2⟩
def z_noi : List String := ["java/lang/StringLatin1", "BootsTurnHomeLaw"]
def z_EU (X : z_X) (E : z_ET) (cc : ByteArray) (nL : Nat) (own : String) (fr lo mc ms : Nat) (A : Nat → Prop) : Prop := match E with
  | (p, _, _, R, s, m, args, _, meth, c, _, _, _) => p.tables.exec = Jvm.exec ∧ c.code = cc ∧ c.maxLocals = nL ∧ s.vm.findClass own = some m.cls ∧ (∀ w ∈ lw_good, w.before args s = true) ∧ z_CK X s ∧ (fr ≤ R.frames ∧ lo ≤ R.locals) ∧ (mc ≤ R.cells ∧ ms ≤ R.slots) ∧ (∀ q, s.heap.size ≤ q → A q) ∧ (own ∈ z_noi ∨ meth.name = "<init>")
def z_U (X : z_X) (E : z_ET) (nL : Nat) (A : Nat → Prop) (ws : va_W) (ce sl : Nat) (pc : Nat) (lv : List (Nat × Value)) (st : List Value) : Prop := match E with
  | (p, l, e, R, s, m, args, below, meth, c, _, _, Q) => ∀ (H : Heap) (locs : List Loc) (ls : Array Slot), lv_has ls nL lv → va_P (z_D X) classes ws H → va_D A ws → va_S A s.heap H locs → W p l e R s m args below meth c H locs ce sl Q (F0 m pc ls st)
/-- a constructor's contract: the cells w0 become the cells wf u; mc cells of ms slots are new -/
def z_MC (X : z_X) (l : Launch) (y : MethodName) (cc : ByteArray) (nL : Nat) (fr lo mc ms : Nat) (av : List Value) (w0 : va_W) (wf : (Nat → Nat) → va_W) : Prop :=
  ∀ sz : Nat, Met l y (Cond.code y cc nL none :: lw_good) ({ frames := fr, cells := mc, slots := ms, locals := lo }) (va_Pc av (fun U => U.heap.size = sz ∧ va_P (z_D X) classes w0 U.heap ∧ z_CK X U ∧ va_D (fun _ => True) w0)) (va_Qv (fun (_ : Nat → Nat) => True) (fun u t => va_P (z_D X) classes (wf u) t.heap ∧ va_D (va_A w0 sz) (wf u)) (va_A w0 sz)) mc ms (va_A w0 sz)
section ZU
variable {X : z_X} {E : z_ET} {cc : ByteArray} {nL : Nat} {own : String} {fr lo mc ms : Nat} {A : Nat → Prop} {ws : va_W} {ce sl pc : Nat} {lv : List (Nat × Value)} {rest : List Value}
theorem z_Uiconst (hE : z_EU X E cc nL own fr lo mc ms A) {n : Int} {v : Int32} (d : decode cc pc = .ok (.iconst n, 1)) (hv : Int32.ofInt n = v) (k : z_U X E nL A ws ce sl (pc + 1) lv (.int v :: rest)) : z_U X E nL A ws ce sl pc lv rest := by
  obtain ⟨p, l, e, R, s, m, args, below, meth, c, cells, slots, Q⟩ := E
  exact fun H locs ls hl hP hD hS => lv_iconst hE.1 hE.2.1 d hv (k H locs ls hl hP hD hS)
theorem z_Ubipush (hE : z_EU X E cc nL own fr lo mc ms A) {n : Int} {v : Int32} (d : decode cc pc = .ok (.bipush n, 2)) (hv : (Int8.ofInt n).toInt32 = v) (k : z_U X E nL A ws ce sl (pc + 2) lv (.int v :: rest)) : z_U X E nL A ws ce sl pc lv rest := by
  obtain ⟨p, l, e, R, s, m, args, below, meth, c, cells, slots, Q⟩ := E
  exact fun H locs ls hl hP hD hS => lv_bipush hE.1 hE.2.1 d hv (k H locs ls hl hP hD hS)
theorem z_Usipush (hE : z_EU X E cc nL own fr lo mc ms A) {n : Int} {v : Int32} (d : decode cc pc = .ok (.sipush n, 3)) (hv : (Int16.ofInt n).toInt32 = v) (k : z_U X E nL A ws ce sl (pc + 3) lv (.int v :: rest)) : z_U X E nL A ws ce sl pc lv rest := by
  obtain ⟨p, l, e, R, s, m, args, below, meth, c, cells, slots, Q⟩ := E
  exact fun H locs ls hl hP hD hS => lv_sipush hE.1 hE.2.1 d hv (k H locs ls hl hP hD hS)
theorem z_Ualoadn (hE : z_EU X E cc nL own fr lo mc ms A) {q : Fin 4} {x : Nat} (j : Nat) (d : decode cc pc = .ok (.aload_n q, 1)) (hj : lv[j]? = some ((q : Nat), .ref x)) (k : z_U X E nL A ws ce sl (pc + 1) lv (.ref x :: rest)) : z_U X E nL A ws ce sl pc lv rest := by
  obtain ⟨p, l, e, R, s, m, args, below, meth, c, cells, slots, Q⟩ := E
  exact fun H locs ls hl hP hD hS => lv_aload_n hE.1 hE.2.1 d rfl (lv_at hl j hj) (k H locs ls hl hP hD hS)
theorem z_Uiloadn (hE : z_EU X E cc nL own fr lo mc ms A) {q : Fin 4} {x : Int32} (j : Nat) (d : decode cc pc = .ok (.iload_n q, 1)) (hj : lv[j]? = some ((q : Nat), .int x)) (k : z_U X E nL A ws ce sl (pc + 1) lv (.int x :: rest)) : z_U X E nL A ws ce sl pc lv rest := by
  obtain ⟨p, l, e, R, s, m, args, below, meth, c, cells, slots, Q⟩ := E
  exact fun H locs ls hl hP hD hS => lv_iload_n hE.1 hE.2.1 d rfl (lv_at hl j hj) (k H locs ls hl hP hD hS)
theorem z_Uistoren (hE : z_EU X E cc nL own fr lo mc ms A) {q : Fin 4} {i : Nat} {x : Int32} (lv2 : List (Nat × Value)) (d : decode cc pc = .ok (.istore_n q, 1)) (hi : (q : Nat) = i) (hn : i < nL) (h2 : (i, Value.int x) :: lv.filter (fun q => !(q.1 == i) && !(q.1 + 1 == i && q.2.category == 2)) = lv2) (k : z_U X E nL A ws ce sl (pc + 1) lv2 rest) : z_U X E nL A ws ce sl pc lv (.int x :: rest) := by
  obtain ⟨p, l, e, R, s, m, args, below, meth, c, cells, slots, Q⟩ := E
  exact fun H locs ls hl hP hD hS => lv_istore_n (lv' := lv2) hE.1 hE.2.1 d hi hl hn h2 (fun ls2 hl2 => k H locs ls2 hl2 hP hD hS)
theorem z_Uastoren (hE : z_EU X E cc nL own fr lo mc ms A) {q : Fin 4} {i : Nat} {x : Nat} (lv2 : List (Nat × Value)) (d : decode cc pc = .ok (.astore_n q, 1)) (hi : (q : Nat) = i) (hn : i < nL) (h2 : (i, Value.ref x) :: lv.filter (fun q => !(q.1 == i) && !(q.1 + 1 == i && q.2.category == 2)) = lv2) (k : z_U X E nL A ws ce sl (pc + 1) lv2 rest) : z_U X E nL A ws ce sl pc lv (.ref x :: rest) := by
  obtain ⟨p, l, e, R, s, m, args, below, meth, c, cells, slots, Q⟩ := E
  exact fun H locs ls hl hP hD hS => lv_astore_n (lv' := lv2) hE.1 hE.2.1 d hi hl hn h2 (fun ls2 hl2 => k H locs ls2 hl2 hP hD hS)
theorem z_Uiinc (hE : z_EU X E cc nL own fr lo mc ms A) {i : Nat} {n : Int} {x v : Int32} (j : Nat) (lv2 : List (Nat × Value)) (d : decode cc pc = .ok (.iinc i n, 3)) (hj : lv[j]? = some (i, .int x)) (hv : x + Int32.ofInt n = v) (hn : i < nL) (h2 : (i, Value.int v) :: lv.filter (fun q => !(q.1 == i) && !(q.1 + 1 == i && q.2.category == 2)) = lv2) (k : z_U X E nL A ws ce sl (pc + 3) lv2 rest) : z_U X E nL A ws ce sl pc lv rest := by
  obtain ⟨p, l, e, R, s, m, args, below, meth, c, cells, slots, Q⟩ := E
  exact fun H locs ls hl hP hD hS => lv_iinc (lv' := lv2) (k := j) hE.1 hE.2.1 d hl hj hv hn h2 (fun ls2 hl2 => k H locs ls2 hl2 hP hD hS)
theorem z_Udup (hE : z_EU X E cc nL own fr lo mc ms A) {va : Value} (d : decode cc pc = .ok (.dup, 1)) (hc : va.category = 1) (k : z_U X E nL A ws ce sl (pc + 1) lv (va :: va :: rest)) : z_U X E nL A ws ce sl pc lv (va :: rest) := by
  obtain ⟨p, l, e, R, s, m, args, below, meth, c, cells, slots, Q⟩ := E
  exact fun H locs ls hl hP hD hS => lv_dup hE.1 hE.2.1 d hc (k H locs ls hl hP hD hS)
theorem z_Ugoto (hE : z_EU X E cc nL own fr lo mc ms A) {off : Int} (tgt : Nat) (d : decode cc pc = .ok (.goto off, 3)) (ht : (pc : Int) + off = (tgt : Int)) (k : z_U X E nL A ws ce sl tgt lv rest) : z_U X E nL A ws ce sl pc lv rest := by
  obtain ⟨p, l, e, R, s, m, args, below, meth, c, cells, slots, Q⟩ := E
  exact fun H locs ls hl hP hD hS => lv_goto hE.1 hE.2.1 d ht (k H locs ls hl hP hD hS)
theorem z_Uge (hE : z_EU X E cc nL own fr lo mc ms A) {x y : Int32} {off : Int} (tgt : Nat) (d : decode cc pc = .ok (.if_icmp .ge off, 3)) (ht : (pc : Int) + off = (tgt : Int)) (kt : y ≤ x → z_U X E nL A ws ce sl tgt lv rest) (kf : ¬ y ≤ x → z_U X E nL A ws ce sl (pc + 3) lv rest) : z_U X E nL A ws ce sl pc lv (.int y :: .int x :: rest) := by
  obtain ⟨p, l, e, R, s, m, args, below, meth, c, cells, slots, Q⟩ := E
  exact fun H locs ls hl hP hD hS => lv_icmp_ge hE.1 hE.2.1 d ht (fun h => kt h H locs ls hl hP hD hS) (fun h => kf h H locs ls hl hP hD hS)
theorem z_Uws {ws2 : va_W} {st : List Value} (h : ws = ws2) (k : z_U X E nL A ws2 ce sl pc lv st) : z_U X E nL A ws ce sl pc lv st := h ▸ k
theorem z_UobjInit (hE : z_EU X E cc nL own fr lo mc ms A) {idx x : Nat} (hw : Cond.methodLink own idx objectInit ∈ lw_good ∧ Cond.instanceMethod objectInit ∈ lw_good ∧ Cond.code objectInit ⟨#[0xb1]⟩ 1 none ∈ lw_good) (hfr : 1 ≤ fr) (hlo : 12 ≤ lo) (d : decode cc pc = .ok (.invokespecial idx, 3)) (k : z_U X E nL A ws ce sl (pc + 3) lv []) : z_U X E nL A ws ce sl pc lv [.ref x] := by
  obtain ⟨p, l, e, R, s, m, args, below, meth, c, cells, slots, Q⟩ := E
  exact fun H locs ls hl hP hD hS => W.objInit hE.1 hE.2.1 hE.2.2.2.1 (hE.2.2.2.2.1 _ hw.1) (hE.2.2.2.2.1 _ hw.2.1) (hE.2.2.2.2.1 _ hw.2.2) rfl (by rw [hE.2.2.1]; exact hl.1) rfl d (Nat.le_trans hfr hE.2.2.2.2.2.2.1.1) (Nat.le_trans (Nat.le_trans (Nat.le_of_ble_eq_true rfl) hlo) hE.2.2.2.2.2.2.1.2) (k H locs ls hl hP hD hS)
theorem z_Unew (hE : z_EU X E cc nL own fr lo mc ms A) {idx N ci : Nat} {C : String} {T : u_T} {ty0 : Nat → FieldType} {fs : List Value} (hi : ∀ w ∈ u_ws C T N, w ∈ lw_good) (ft : z_FT T N ty0) (hw : Cond.classLink own idx C ∈ lw_good ∧ Cond.instantiable C N ∈ lw_good ∧ Cond.initialized C ∈ lw_good) (hc : classes[ci]? = some (C, T, N)) (hfs : ∀ j, j < N → defaultValue (ty0 j) = vp_V fs j) (h1 : ce + 1 ≤ mc) (h2 : sl + N ≤ ms) (d : decode cc pc = .ok (.new idx, 3)) (k : ∀ q : Nat, z_U X E nL A (ws ++ [(q, .inr (ci, fs))]) (ce + 1) (sl + N) (pc + 3) lv (.ref q :: rest)) : z_U X E nL A ws ce sl pc lv rest := by
  obtain ⟨p, l, e, R, s, m, args, below, meth, c, cells, slots, Q⟩ := E
  exact fun H locs ls hl hP hD hS => va_new hE.1 hE.2.1 hE.2.2.2.2.1 hi ty0 ft.1 hE.2.2.2.1 (hE.2.2.2.2.1 _ hw.1) (hE.2.2.2.2.1 _ hw.2.1) (hE.2.2.2.2.1 _ hw.2.2) hE.2.2.2.2.2.1.1 hP hD hS hE.2.2.2.2.2.2.2.2.1 hc hfs (Nat.le_trans h1 hE.2.2.2.2.2.2.2.1.1) (Nat.le_trans h2 hE.2.2.2.2.2.2.2.1.2) d (fun q H1 hP1 hD1 hS1 => k q H1 locs ls hl hP1 hD1 hS1)
theorem z_Unewa (hE : z_EU X E cc nL own fr lo mc ms A) {atype : ArrayType} {ty : FieldType} (t0 : Nat) {n : Int32} {N : Nat} {cI : ClassId} (ha : Cond.arrayClass (newarray.typeOf atype) ∈ lw_good) (hty : newarray.typeOf atype = ty) (ht : (z_tys X)[t0]? = some (cI, ty)) (hra : ∀ (U : State) (c : ClassId), va_RA U c ty = (U.vm.findClass ("[" ++ ty.toString) = some c)) (hdv : defaultValue ty = .int 0) (hn : ¬ n < 0) (hN : n.toNatClampNeg = N) (hbytes : N * componentBytes ty ≤ 536870912) (h1 : ce + 1 ≤ mc) (h2 : sl + N ≤ ms) (d : decode cc pc = .ok (.newarray atype, 2)) (k : ∀ q : Nat, z_U X E nL A (ws ++ [(q, .inl (cI, N, .inl (fun _ => 0)))]) (ce + 1) (sl + N) (pc + 2) lv (.ref q :: rest)) : z_U X E nL A ws ce sl pc lv (.int n :: rest) := by
  obtain ⟨p, l, e, R, s, m, args, below, meth, c, cells, slots, Q⟩ := E
  intro H locs ls hl hP hD hS
  refine va_newa (a0 := (N, .inl (fun _ => 0))) hE.1 hE.2.1 (hE.2.2.2.2.1 _ ha) hty hE.2.2.2.2.2.1.1 hP hD hS hE.2.2.2.2.2.2.2.2.1 (fun cA => by rw [vp_cell_i, hdv]) hn hN hbytes (Nat.le_trans h1 hE.2.2.2.2.2.2.2.1.1) (Nat.le_trans h2 hE.2.2.2.2.2.2.2.1.2) d (fun q cA H1 hK1 hP1 hD1 hS1 => ?_)
  have e1 : va_RA s cA ty := (hK1.2 (z_tys X).length (cA, ty) (by rw [List.getElem?_append_right (Nat.le_refl _), Nat.sub_self]; rfl)).2
  have e2 : va_RA s cI ty := (hE.2.2.2.2.2.1.1.2 t0 (cI, ty) ht).2
  rw [hra] at e1 e2
  have e3 : cA = cI := Option.some.inj (e1.symm.trans e2)
  subst e3
  exact k q H1 locs ls hl hP1 hD1 hS1
theorem z_Unewq (hE : z_EU X E cc nL own fr lo mc ms A) {idx : Nat} {n : Int32} {N : Nat} (hw : Cond.classLink own idx "BootsTurnHome$Column" ∈ lw_good) (hn : ¬ n < 0) (hN : n.toNatClampNeg = N) (hbytes : N * 4 ≤ 536870912) (h1 : ce + 1 ≤ mc) (h2 : sl + N ≤ ms) (d : decode cc pc = .ok (.anewarray idx, 3)) (k : ∀ q : Nat, z_U X E nL A (ws ++ [(q, .inl (z_cA X 3, N, .inr (.inr (.inr (.inr (fun _ => none))))))]) (ce + 1) (sl + N) (pc + 3) lv (.ref q :: rest)) : z_U X E nL A ws ce sl pc lv (.int n :: rest) := by
  obtain ⟨p, l, e, R, s, m, args, below, meth, c, cells, slots, Q⟩ := E
  intro H locs ls hl hP hD hS
  refine va_newq hE.1 hE.2.1 hE.2.2.2.1 (hE.2.2.2.2.1 _ hw) hE.2.2.2.2.2.1.2.2 hE.2.2.2.2.2.1.1 hP hD hS hE.2.2.2.2.2.2.2.2.1 hn hN hbytes (Nat.le_trans h1 hE.2.2.2.2.2.2.2.1.1) (Nat.le_trans h2 hE.2.2.2.2.2.2.2.1.2) d (fun q cA H1 hK1 hP1 hD1 hS1 => ?_)
  have e1 : va_RA s cA (.object "BootsTurnHome$Column") := (hK1.2 (z_tys X).length (cA, .object "BootsTurnHome$Column") (by rw [List.getElem?_append_right (Nat.le_refl _), Nat.sub_self]; rfl)).2
  have e2 : va_RA s (z_cA X 3) (.object "BootsTurnHome$Column") := (hE.2.2.2.2.2.1.1.2 3 (z_cA X 3, .object "BootsTurnHome$Column") rfl).2
  obtain ⟨_, _, _, _, _, e3⟩ := e1
  obtain ⟨_, _, _, _, _, e4⟩ := e2
  have e5 : cA = z_cA X 3 := Option.some.inj (e3.symm.trans e4)
  subst e5
  exact k q H1 locs ls hl hP1 hD1 hS1
theorem z_UputF (hE : z_EU X E cc nL own fr lo mc ms A) {idx N ci j k a : Nat} {C : String} {T : u_T} {ty0 : Nat → FieldType} {fs : List Value} {v : Value} {ty : FieldType} (f : z_FL own idx C T N ci j) (ft : z_FT T N ty0) (he : ws[k]? = some (a, .inr (ci, fs))) (hfin : (T j).2.2.2 = true) (hj : own ∉ z_noi) (hdecl : (T j).1 = own) (hd : parseFieldDescriptor (T j).2.2.1 = some ty) (hn : narrow ty v = v) (hfit : fits ty v = true) (hlen : j < fs.length) (d : decode cc pc = .ok (.putfield idx, 3)) (kk : z_U X E nL A (ws.set k (a, .inr (ci, fs.set j v))) ce sl (pc + 3) lv rest) : z_U X E nL A ws ce sl pc lv (v :: .ref a :: rest) := by
  obtain ⟨p, l, e, R, s, m, args, below, meth, c, cells, slots, Q⟩ := E
  exact fun H locs ls hl hP hD hS => va_putF hE.1 hE.2.1 hE.2.2.2.2.1 f.1 ty0 ft.1 ft.2 hE.2.2.2.1 hE.2.2.2.2.2.1.1 hP hD hS k he f.2.1 j f.2.2.1 (hE.2.2.2.2.1 _ f.2.2.2) (fun _ h => h) hfin (hE.2.2.2.2.2.2.2.2.2.resolve_left hj) hdecl hd hn hfit hlen d (fun H1 locs1 hP1 hD1 hS1 => kk H1 locs1 ls hl hP1 hD1 hS1)
theorem z_Uget (hE : z_EU X E cc nL own fr lo mc ms A) {idx N ci j k a : Nat} {C : String} {T : u_T} {fs : List Value} {v : Value} (f : z_FL own idx C T N ci j) (he : ws[k]? = some (a, .inr (ci, fs))) (hv : fs[j]? = some v) (d : decode cc pc = .ok (.getfield idx, 3)) (kk : z_U X E nL A ws ce sl (pc + 3) lv (v :: rest)) : z_U X E nL A ws ce sl pc lv (.ref a :: rest) := by
  obtain ⟨p, l, e, R, s, m, args, below, meth, c, cells, slots, Q⟩ := E
  exact fun H locs ls hl hP hD hS => va_get hE.1 hE.2.1 hE.2.2.2.2.1 f.1 hE.2.2.2.1 hE.2.2.2.2.2.1.1 hP k he f.2.1 j f.2.2.1 (hE.2.2.2.2.1 _ f.2.2.2) (fun _ h => h) hv d (kk H locs ls hl hP hD hS)
theorem z_Ualen (hE : z_EU X E cc nL own fr lo mc ms A) {k a : Nat} {cA : ClassId} {x : vp_A} (t0 : Nat) {ty : FieldType} {v : Int32} (he : ws[k]? = some (a, .inl (cA, x))) (ht : (z_tys X)[t0]? = some (cA, ty)) (hv : Int32.ofNat x.1 = v) (d : decode cc pc = .ok (.arraylength, 1)) (kk : z_U X E nL A ws ce sl (pc + 1) lv (.int v :: rest)) : z_U X E nL A ws ce sl pc lv (.ref a :: rest) := by
  obtain ⟨p, l, e, R, s, m, args, below, meth, c, cells, slots, Q⟩ := E
  exact fun H locs ls hl hP hD hS => va_alen hE.1 hE.2.1 hE.2.2.2.2.2.1.1 hP k t0 he ht hv d (kk H locs ls hl hP hD hS)
theorem z_Uaast (hE : z_EU X E cc nL own fr lo mc ms A) {k k2 n a b : Nat} {f : Nat → Option Nat} {i : Int32} {vs : List Value} (he : ws[k]? = some (a, .inl (z_cA X 3, n, .inr (.inr (.inr (.inr f)))))) (he2 : ws[k2]? = some (b, .inr (0, vs))) (hin : z_inb i n = true) (d : decode cc pc = .ok (.aastore, 1)) (kk : z_U X E nL A (ws.set k (a, .inl (z_cA X 3, n, .inr (.inr (.inr (.inr (va_up f i.toNatClampNeg (some b)))))))) ce sl (pc + 1) lv rest) : z_U X E nL A ws ce sl pc lv (.ref b :: .int i :: .ref a :: rest) := by
  obtain ⟨p, l, e, R, s, m, args, below, meth, c, cells, slots, Q⟩ := E
  exact fun H locs ls hl hP hD hS => va_astq hE.1 hE.2.1 hE.2.2.2.2.2.1.1 hP hD hS k 3 k2 0 (r := (RX0, TX0, 4)) he rfl he2 rfl (z_inb_in hin) d (fun H1 locs1 hP1 hD1 hS1 => kk H1 locs1 ls hl hP1 hD1 hS1)
theorem z_Ummax (hE : z_EU X E cc nL own fr lo mc ms A) {idx : Nat} {x y v : Int32} (hw : Cond.methodLink own idx Lib.Math.max.name ∈ lw_good ∧ Cond.static Lib.Math.max.name ∈ lw_good ∧ Cond.initialized "java/lang/Math" ∈ lw_good ∧ Cond.code Lib.Math.max.name Lib.Math.max.code 2 (some .int) ∈ lw_good) (hfr : 1 ≤ fr) (hlo : (rest.map fun v => v.category).sum + 13 ≤ lo) (hce : ce ≤ mc) (hsl : sl ≤ ms) (hv : (if x < y then y else x) = v) (d : decode cc pc = .ok (.invokestatic idx, 3)) (kk : z_U X E nL A ws ce sl (pc + 3) lv (.int v :: rest)) : z_U X E nL A ws ce sl pc lv (.int y :: .int x :: rest) := by
  obtain ⟨p, l, e, R, s, m, args, below, meth, c, cells, slots, Q⟩ := E
  subst hv
  exact fun H locs ls hl hP hD hS => va_mmax hE.1 hE.2.1 (hE.2.2.1.trans hl.1.symm) hE.2.2.2.1 (hE.2.2.2.2.1 _ hw.1) (hE.2.2.2.2.1 _ hw.2.1) (hE.2.2.2.2.1 _ hw.2.2.1) (hE.2.2.2.2.1 _ hw.2.2.2) (Nat.le_trans hfr hE.2.2.2.2.2.2.1.1) (Nat.le_trans hlo hE.2.2.2.2.2.2.1.2) (Nat.le_trans hce hE.2.2.2.2.2.2.2.1.1) (Nat.le_trans hsl hE.2.2.2.2.2.2.2.1.2) d (kk H locs ls hl hP hD hS)
def z_LI (own : String) (idx : Nat) (y : MethodName) (cy : ByteArray) (ny n : Nat) : Prop := z_nm y n ∧ y.name = "<init>" ∧ Cond.initialized y.cls ∈ lw_good ∧ Cond.code y cy ny none ∈ lw_good ∧ Cond.instanceMethod y ∈ lw_good ∧ (Cond.methodLink own idx y ∈ lw_good ∨ ∃ host, Cond.methodLinkNest own idx y host ∈ z_nest)
theorem z_blindC {X : z_X} {sz : Nat} {w0 : va_W} {av : List Value} : FrameBlind (va_Pc av (fun U => U.heap.size = sz ∧ va_P (z_D X) classes w0 U.heap ∧ z_CK X U ∧ va_D (fun _ => True) w0)) := by
  intro a U g mk h
  obtain ⟨h1, h2, h3, ⟨h4, h5, h7⟩, h6⟩ := h
  exact ⟨h1, h2, h3, ⟨va_K.moved (u := U) (U := U.calling g mk a) (Vm.Alike.refl U.vm) h4, fun w hw => va_Nw.same (u := U) (U := U.calling g mk a) (by
    have key : ∀ w ∈ z_nest, w.onTables = true := by decide +kernel
    exact key w hw) rfl (h5 w hw), va_AO.moved (u := U) (U := U.calling g mk a) (Vm.Alike.refl U.vm) h7⟩, h6⟩
/-- a call of a constructor: its cells w0 stand at the places isC of the world, the rest wr at isR stays -/
theorem z_Ucall (hE : z_EU X E cc nL own fr lo mc ms A) {y : MethodName} {cy : ByteArray} {ny fr2 lo2 mc2 ms2 idx b : Nat} {As : List Value} {w0 wr : va_W} {wf : (Nat → Nat) → va_W} (hM : z_MC X E.2.1 y cy ny fr2 lo2 mc2 ms2 (.ref b :: As) w0 wf) (L : z_LI own idx y cy ny As.length) (isC isR : List Nat) (hC : isC.map (fun i => ws[i]?) = w0.map some) (hR : isR.map (fun i => ws[i]?) = wr.map some) (hnC : va_nd isC = true) (hnR : va_nd isR = true) (hdis : ∀ i ∈ isR, i ∉ isC) (hRm : fr2 + 1 ≤ fr ∧ 8 + (ny + 11) + lo2 ≤ lo) (hc : ce + mc2 ≤ mc ∧ sl + ms2 ≤ ms) (d : decode cc pc = .ok (.invokespecial idx, 3)) {st : List Value} (hst : st = As.reverse ++ .ref b :: rest) (hW : (rest.map fun v => v.category).sum ≤ 8) (k : ∀ u : Nat → Nat, z_U X E nL A (wr ++ wf u) (ce + mc2) (sl + ms2) (pc + 3) lv rest) : z_U X E nL A ws ce sl pc lv st := by
  obtain ⟨p, l, e, R, s, m, args, below, meth, c, cells, slots, Q⟩ := E
  intro H locs ls hl hP hD hS
  obtain ⟨hx, hb, hml, hown, hts, hCK, hRR, hcr, hA, hin⟩ := hE
  obtain ⟨hd, hy1, hini, hcode, hinst, hlink⟩ := L
  subst hst
  have hPc : va_P (z_D X) classes w0 H := by
    intro q x hq
    have h1 : (isC.map (fun i => ws[i]?))[q]? = some (some x) := by rw [hC, List.getElem?_map, hq]; rfl
    rw [List.getElem?_map] at h1
    cases hi : isC[q]? with
    | none => rw [hi] at h1; cases h1
    | some i => rw [hi] at h1; exact hP i x (Option.some.inj h1)
  have hDc : va_D A w0 := hD.sub isC hnC hC
  have hFc := va_free (wc := w0) hD hS hA isC hC
  have hp : PreS s H (va_Pc (.ref b :: As) (fun U => U.heap.size = H.size ∧ va_P (z_D X) classes w0 U.heap ∧ z_CK X U ∧ va_D (fun _ => True) w0)) (.ref b :: As) := ⟨z_blindC, fun U hU hW2 => ⟨rfl, by rw [hU], by rw [hU]; exact hPc, hCK.go hW2, hDc.weaken (fun _ _ _ _ => trivial)⟩⟩
  have hR2 : fr2 + 1 ≤ R.frames ∧ 8 + (ny + 11) + lo2 ≤ R.locals := ⟨Nat.le_trans hRm.1 hRR.1, Nat.le_trans hRm.2 hRR.2⟩
  have hc2 : ce + mc2 ≤ R.cells ∧ sl + ms2 ≤ R.slots := ⟨Nat.le_trans hc.1 hcr.1, Nat.le_trans hc.2 hcr.2⟩
  have hrun := hlink.elim (fun hlink => va_runI (b := b) (As := As) (rest := rest) (g := F0 m pc ls (As.reverse ++ .ref b :: rest)) (below := below) (cells := ce) (slots := sl) (locs := locs) (e := e) (meth := meth) ⟨hx, hb, hml, hown, hts⟩ (hM H.size) ⟨callB_of As.length hts (z_gi hcode) rfl rfl rfl (hts _ hini) (hts _ hlink) hd hR2, hy1, hts _ hinst⟩ hp rfl rfl hl.1 rfl (lv_room hW) d hc2) (fun ⟨host, hlink⟩ => va_runIN (b := b) (As := As) (rest := rest) (g := F0 m pc ls (As.reverse ++ .ref b :: rest)) (below := below) (cells := ce) (slots := sl) (locs := locs) (e := e) (meth := meth) ⟨hx, hb, hml, hown, hts⟩ (hM H.size) ⟨va_cnB As.length hts (z_gi hcode) rfl rfl rfl (hCK.2.1 _ hlink) (hts _ hini) hd hR2, hy1, hts _ hinst⟩ hp rfl rfl hl.1 rfl (lv_room hW) d hc2)
  refine va_callv hrun hS (fun q _ h => hFc q h) hFc (fun u t H1 locs1 ht hvm hr hB hz hk1 hS1 => ?_)
  obtain ⟨hP1, hD1⟩ := hB
  rw [ht] at hP1
  obtain ⟨hP2, hD2⟩ := va_join hP hD isC isR hC hR hnR hdis hk1 hFc hP1 hD1
  exact k u H1 locs1 ls hl hP2 hD2 hS1
theorem z_metc {l : Launch} {y : MethodName} {av : List Value} {w0 : va_W} {wf : (Nat → Nat) → va_W} (hpl : plainName y.cls = true) (hname : y.name = "<init>") (hlen : (lg_sl av).length ≤ nL) (body : ∀ (E : z_ET) (A : Nat → Prop), E.2.1 = l → z_EU X E cc nL y.cls fr lo mc ms A → (∀ (pc : Nat) (lv : List (Nat × Value)) (u : Nat → Nat) (ws : va_W), ws = wf u → decode cc pc = .ok (.return_, 1) → z_U X E nL A ws mc ms pc lv []) → z_U X E nL A w0 0 0 0 (lv_args 0 av) []) : z_MC X l y cc nL fr lo mc ms av w0 wf := by
  intro sz
  refine Met.ofW (cc := cc) (maxL := nL) (ret := none) hpl rfl ?_
  intro p e s m args below meth c s₁ B hml hv
  obtain ⟨rfl, hsz, hP, hC, hD0⟩ := hv
  have hts := atoms_spec (ws := Cond.code y cc nL none :: lw_good) B.pre
  have hown : s.vm.findClass y.cls = some m.cls := findClass_of_methodNamed B.named
  have hin : meth.name = "<init>" := (name_of_methodNamed B.named B.method).1.trans hname
  have hl := lv_entry av (n := nL) hlen
  rw [lg_entry_eq]
  subst hsz
  refine body (p, l, e, (headSpec (Cond.code y cc nL none :: lw_good) ({ frames := fr, cells := mc, slots := ms, locals := lo })).room, s, m, av.toArray, below, meth, c, 0, 0, MQ below (va_Qv (fun (_ : Nat → Nat) => True) (fun u t => va_P (z_D X) classes (wf u) t.heap ∧ va_D (va_A w0 s.heap.size) (wf u)) (va_A w0 s.heap.size)) av.toArray s mc ms (va_A w0 s.heap.size)) (va_A w0 s.heap.size) rfl ⟨B.exec, B.bytes, hml, hown, fun w hw => hts w (List.mem_cons_of_mem _ hw), hC, ⟨Nat.le_refl _, Nat.le_refl _⟩, ⟨Nat.le_refl _, Nat.le_refl _⟩, fun q h => Or.inr h, Or.inr hin⟩ ?_ s.heap [] _ hl hP hD0.self va_S.rf
  intro pc lv u ws hws d H locs ls hl hP hD hS
  subst hws
  exact W.vret B.exec B.bytes B.returns (fun t ht hW => ⟨⟨u, rfl, trivial, by rw [ht]; exact hP, hD⟩, hS.F ht⟩) hS.2.2 d B.notSynchronized
end ZU

